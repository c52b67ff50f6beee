set_option maxHeartbeats 4000000 in
theorem two_0 (u : (Nat → Nat) × (Nat → Nat) × (Nat → Nat)) (um : Nat → Nat) (cI cJ cZ : ClassId) : Two 0 (u.1 0) (um 0) cI cJ cZ (xW u.1 u.2.1 u.2.2 cI cJ cZ (u.2.1 0) (u.2.2 0) (fun _ => 0) 0 4026531840 (fun _ => 0) (fun _ => 0) 0 (fun _ => 0) 0 (fun _ => 0) (fun _ => 0) (fun _ => 0) 0 (fun _ => 0) (fun _ => 0) (fun _ => 0) (fun _ => 0) (fun _ => 0) (fun _ => 0) (fun _ => 0) (fun _ => 0) 0 0 0 0 0 (fun _ => 0) (fun _ => 0) (fun _ => 0) (fun _ => 0) (fun _ => 0) (fun _ => 0) 0 0 0 0 0) (mW um cI cZ 0 0 0 (fun _ => 0) (fun _ => 0) (fun _ => 0) (fun _ => 0) (fun _ => 0) (upd (fun _ => 0) 7 (-9)) (fun _ => 0) (fun _ => 0) (fun _ => 0) 0 0 0 (fun _ => 0) 0 0 0 (fun _ => 0) 0 0 (fun _ => 0) 0 (fun _ => 0) (fun _ => 0) (fun _ => 0) 0 (fun _ => 0) (fun _ => 0)) := by
  intro P kP
  have okS0 : okS oF0 (fun _ => 0, 15, 0) := ⟨fun g hg => absurd hg (Nat.not_lt_zero g), Or.inl rfl, by decide⟩
  have hX : RX oF0 4026531840 (fun _ => 0, 15, 0) := ⟨okS0, 4026531840, rfl, by decide, fun g hg => absurd hg (Nat.not_lt_zero g), by decide, by decide⟩
  have hM : RM oF0 (upd (fun _ => 0) 7 (-9)) 0 (fun _ => 0, 15, 0) := ⟨okS0, fun g hg => absurd hg (Nat.not_lt_zero g), rfl, rfl⟩
  have hA : RA oF0 0 (fun _ => 0) 0 0 0 (fun _ => 0) := ⟨0, 0, fun _ => (fun _ => 0, 0, 0), by decide, by decide, rfl, rfl, rfl, fun i hi => absurd hi (Nat.not_lt_zero i)⟩
  have hR : RK oF0 0 (fun _ => 0) (fun _ => 0) (fun _ => 0) (fun _ => 0) := fun j _ => ⟨rfl, fun q => absurd rfl q⟩
  have hS : RS (fun _ => 0) (fun _ => 0) (fun _ => 0) 0 0 (fun _ => 0) (fun _ => 0) (fun _ => 0) := ⟨0, fun _ => 0, fun _ => 0, fun _ => 0, by decide, rfl, rfl, fun i hi => absurd hi (Nat.not_lt_zero i)⟩
  exact kP oF0 (fun _ => 0, 15, 0) 0 (fun _ => 0) 0 u.1 u.2.1 u.2.2 4026531840 (fun _ => 0) (fun _ => 0) (fun _ => 0) 0 (fun _ => 0) (fun _ => 0) (fun _ => 0) 0 (fun _ => 0) (fun _ => 0) (fun _ => 0) (fun _ => 0) (fun _ => 0) (fun _ => 0) (fun _ => 0) (fun _ => 0) 0 0 0 0 0 (fun _ => 0) (fun _ => 0) (fun _ => 0) (fun _ => 0) (fun _ => 0) (fun _ => 0) 0 0 0 0 0 um 0 0 0 (fun _ => 0) (fun _ => 0) (fun _ => 0) (fun _ => 0) (fun _ => 0) (upd (fun _ => 0) 7 (-9)) (fun _ => 0) (fun _ => 0) (fun _ => 0) 0 0 0 0 0 (fun _ => 0) 0 0 (fun _ => 0) 0 (fun _ => 0) (fun _ => 0) (fun _ => 0) (fun _ => 0) (fun _ => 0) rfl rfl rfl rfl (RF_0 _ _ _ _ _) (RF_0 _ _ _ _ _) hX hM (Nat.le_refl 0) (Nat.zero_le _) hA hR hS
set_option maxHeartbeats 4000000 in
set_option maxRecDepth 100000 in
theorem kK_0 {s : State} {args : Array Value} (hts : ∀ w ∈ lw_tbl, w.before args s = true) : ∃ (D : va_G) (cI cJ cZ : ClassId), kK D cI cJ cZ s := by
  obtain ⟨c0, i0, hn0⟩ := u_known (C := RX0) (T := TX0) (N := 2) (n := 2) hts wi_wsX00 (hts (.instantiable RX0 2) (by decide +kernel))
  obtain ⟨c1, i1, hn1⟩ := u_known (C := RX1) (T := TX1) (N := 2) (n := 2) hts wi_wsX10 (hts (.instantiable RX1 2) (by decide +kernel))
  obtain ⟨c2, i2, hn2⟩ := u_known (C := RX3) (T := TX3) (N := 11) (n := 11) hts wi_wsX30 (hts (.instantiable RX3 11) (by decide +kernel))
  obtain ⟨c3, i3, hn3⟩ := u_known (C := RX8) (T := TX8) (N := 4) (n := 4) hts wi_wsX80 (hts (.instantiable RX8 4) (by decide +kernel))
  obtain ⟨c4, i4, hn4⟩ := u_known (C := RX11) (T := TX11) (N := 11) (n := 11) hts wi_wsX110 (hts (.instantiable RX11 11) (by decide +kernel))
  obtain ⟨c5, i5, hn5⟩ := u_known (C := RX12) (T := TX12) (N := 30) (n := 30) hts wi_wsX120 (hts (.instantiable RX12 30) (by decide +kernel))
  obtain ⟨cI, kI, pI, fI, gI, eI⟩ := Cond.arrayClass_spec (hts (.arrayClass .int) (by decide +kernel))
  obtain ⟨cJ, kJ, pJ, fJ, gJ, eJ⟩ := Cond.arrayClass_spec (hts (.arrayClass .long) (by decide +kernel))
  obtain ⟨cZ, kZ, pZ, fZ, gZ, eZ⟩ := Cond.arrayClass_spec (hts (.arrayClass .boolean) (by decide +kernel))
  refine ⟨(fun k => if k = 0 then c0 else if k = 1 then c1 else if k = 2 then c2 else if k = 3 then c3 else if k = 4 then c4 else c5, fun k => if k = 0 then i0 else if k = 1 then i1 else if k = 2 then i2 else if k = 3 then i3 else if k = 4 then i4 else i5), cI, cJ, cZ, ⟨?_, ?_⟩, ?_⟩
  · intro k q hq
    match k, hq with
    | 0, hq => cases hq; exact hn0
    | 1, hq => cases hq; exact hn1
    | 2, hq => cases hq; exact hn2
    | 3, hq => cases hq; exact hn3
    | 4, hq => cases hq; exact hn4
    | 5, hq => cases hq; exact hn5
    | k + 6, hq => simp [vwCl] at hq
  · intro k q hq
    match k, hq with
    | 0, hq => cases hq; exact ⟨fun n z => ⟨fun k h => (by cases h), kI, gI, pI, eI⟩, fI⟩
    | 1, hq => cases hq; exact ⟨fun n z => ⟨fun k h => (by cases h), kJ, gJ, pJ, eJ⟩, fJ⟩
    | 2, hq => cases hq; exact ⟨fun n z => ⟨fun k h => (by cases h), kZ, gZ, pZ, eZ⟩, fZ⟩
    | k + 3, hq => simp [zT] at hq
  · exact ⟨va_Nw.of rfl (hts _ (List.mem_of_elem_eq_true (by decide +kernel))), va_Nw.of rfl (hts _ (List.mem_of_elem_eq_true (by decide +kernel))), va_Nw.of rfl (hts _ (List.mem_of_elem_eq_true (by decide +kernel))), va_Nw.of rfl (hts _ (List.mem_of_elem_eq_true (by decide +kernel))), va_Nw.of rfl (hts _ (List.mem_of_elem_eq_true (by decide +kernel))), va_Nw.of rfl (hts _ (List.mem_of_elem_eq_true (by decide +kernel))), va_Nw.of rfl (hts _ (List.mem_of_elem_eq_true (by decide +kernel))), va_Nw.of rfl (hts _ (List.mem_of_elem_eq_true (by decide +kernel))), va_Nw.of rfl (hts _ (List.mem_of_elem_eq_true (by decide +kernel))), va_Nw.of rfl (hts _ (List.mem_of_elem_eq_true (by decide +kernel))), va_Nw.of rfl (hts _ (List.mem_of_elem_eq_true (by decide +kernel))), va_Nw.of rfl (hts _ (List.mem_of_elem_eq_true (by decide +kernel))), va_Nw.of rfl (hts _ (List.mem_of_elem_eq_true (by decide +kernel))), va_Nw.of rfl (hts _ (List.mem_of_elem_eq_true (by decide +kernel)))⟩
set_option maxHeartbeats 4000000 in
set_option maxRecDepth 100000 in
theorem whole_start {p : Program} {e : Env} {s : State} {m : MethodId} {below : List Frame} {meth : Method} {c : Code} (l : Launch) {b L : Nat} {xs : Nat → Int32} (hL : L ≤ 320) (C0 : lw_At p s m meth c b L xs) : W p l e room_1 s m #[Value.ref b] below meth c s.heap [] 0 0 (lw_Z below #[Value.ref b] s) (entryFrame m ([Value.ref b] : List Value).toArray 4) := by
  obtain ⟨hx, hb, hr, hml, hown, hts0, hX, hbl, hlocks, hgv⟩ := id C0
  have hown : s.vm.findClass RL = some m.cls := hown
  have hts : ∀ w ∈ wsL_law, w.before #[Value.ref b] s = true := fun w h => hts0 w (wsL_law_in w h)
  have hA : ∀ q : Nat, s.heap.size ≤ q → LA s q := fun _ h => h
  have hbA : ¬ LA s b := Nat.not_le.mpr hbl
  obtain ⟨D, cI, cJ, cZ, hK⟩ := kK_0 hts0
  have hS : va_S (LA s) s.heap s.heap [] := va_S.rf
  have hP : va_P D vwCl [] s.heap := fun k q h => by simp at h
  have hD : va_D (LA s) [] := ⟨fun i j p q h => by simp at h, fun k q h => by simp at h⟩
  have hl := lv_entry ([.ref b]) (n := 4) (Nat.le_of_ble_eq_true rfl)
  rw [lg_entry_eq]
  generalize (lg_sl ([.ref b]) ++ List.replicate (4 - (lg_sl ([.ref b])).length) Slot.unset).toArray = ls at hl ⊢
  have hl : lv_has ls 4 [(0, .ref b)] := hl
  refine va_new (D := D) (ci := 4) (fs := [.null, .int 0, .null, .null, .long 0, .null, .null, .null, .null, .null, .long 0]) (C := RX11) (T := TX11) (N := 11) hx hb hts0 wi_wsX110 tyX11 tyX11_ok hown (hts (.classLink RL 7 RX11) (by decide +kernel)) (hts (.instantiable RX11 11) (by decide +kernel)) (hts (.initialized RX11) (by decide +kernel)) hK.1 hP hD hS hA rfl (fun j hj => by rcases (show j = 0 ∨ j = 1 ∨ j = 2 ∨ j = 3 ∨ j = 4 ∨ j = 5 ∨ j = 6 ∨ j = 7 ∨ j = 8 ∨ j = 9 ∨ j = 10 by omega) with rfl | rfl | rfl | rfl | rfl | rfl | rfl | rfl | rfl | rfl | rfl <;> rfl) (Nat.le_of_ble_eq_true rfl) (Nat.le_of_ble_eq_true rfl) dL_law_0 (fun q0 H hP hD hS => ?_)
  refine W.widen (k := 1) (n := 11) (Nat.le_of_ble_eq_true rfl) (Nat.le_of_ble_eq_true rfl) ?_
  refine lv_dup hx hb dL_law_3 rfl ?_
  refine nwC (wr := []) (va_runI (As := []) (rest := [.ref q0]) ⟨hx, hb, hml, hown, hts⟩ (c_xx_init l D cI cJ cZ q0 H.size) (cwI 0 hts gL_law_X11_init rfl rfl rfl (hts (.initialized RX11) (by decide +kernel)) (hts (.methodLink RL 9 yX11_init) (by decide +kernel)) (hts (.instanceMethod yX11_init) (by decide +kernel)) rfl (by decide +kernel) ⟨Nat.le_of_ble_eq_true rfl, Nat.le_of_ble_eq_true rfl⟩) (wPreS hK (vP_right (w1 := []) hP) (tw_split (wr := []) hP hD).2.2.1) rfl rfl hl.1 rfl (lv_room (Nat.le_of_ble_eq_true rfl)) dL_law_4 ⟨Nat.le_of_ble_eq_true rfl, Nat.le_of_ble_eq_true rfl⟩) hP hD hS hA (fun u H locs hu hP2 hD2 hS => ?_)
  subst hu
  have hP : va_P D vwCl (xW u.1 u.2.1 u.2.2 cI cJ cZ (u.2.1 0) (u.2.2 0) (fun _ => 0) 0 4026531840 (fun _ => 0) (fun _ => 0) 0 (fun _ => 0) 0 (fun _ => 0) (fun _ => 0) (fun _ => 0) 0 (fun _ => 0) (fun _ => 0) (fun _ => 0) (fun _ => 0) (fun _ => 0) (fun _ => 0) (fun _ => 0) (fun _ => 0) 0 0 0 0 0 (fun _ => 0) (fun _ => 0) (fun _ => 0) (fun _ => 0) (fun _ => 0) (fun _ => 0) 0 0 0 0 0) H := hP2
  have hD : va_D (LA s) (xW u.1 u.2.1 u.2.2 cI cJ cZ (u.2.1 0) (u.2.2 0) (fun _ => 0) 0 4026531840 (fun _ => 0) (fun _ => 0) 0 (fun _ => 0) 0 (fun _ => 0) (fun _ => 0) (fun _ => 0) 0 (fun _ => 0) (fun _ => 0) (fun _ => 0) (fun _ => 0) (fun _ => 0) (fun _ => 0) (fun _ => 0) (fun _ => 0) 0 0 0 0 0 (fun _ => 0) (fun _ => 0) (fun _ => 0) (fun _ => 0) (fun _ => 0) (fun _ => 0) 0 0 0 0 0) := hD2
  refine W.widen (k := 27) (n := 217) (Nat.le_of_ble_eq_true rfl) (Nat.le_of_ble_eq_true rfl) ?_
  refine lv_astore_n (lv' := [(1, .ref (u.1 0)), (0, .ref b)]) hx hb dL_law_7 rfl hl (by decide) rfl (fun ls hl => ?_)
  refine va_new (D := D) (ci := 5) (fs := [.int 0, .int 0, .int 0, .null, .null, .null, .null, .null, .null, .null, .null, .null, .int 0, .int 0, .int 0, .null, .int 0, .int 0, .int 0, .null, .int 0, .int 0, .null, .int 0, .null, .null, .null, .long 0, .null, .null]) (C := RX12) (T := TX12) (N := 30) hx hb hts0 wi_wsX120 tyX12 tyX12_ok hown (hts (.classLink RL 10 RX12) (by decide +kernel)) (hts (.instantiable RX12 30) (by decide +kernel)) (hts (.initialized RX12) (by decide +kernel)) hK.1 hP hD hS hA rfl (fun j hj => by rcases (show j = 0 ∨ j = 1 ∨ j = 2 ∨ j = 3 ∨ j = 4 ∨ j = 5 ∨ j = 6 ∨ j = 7 ∨ j = 8 ∨ j = 9 ∨ j = 10 ∨ j = 11 ∨ j = 12 ∨ j = 13 ∨ j = 14 ∨ j = 15 ∨ j = 16 ∨ j = 17 ∨ j = 18 ∨ j = 19 ∨ j = 20 ∨ j = 21 ∨ j = 22 ∨ j = 23 ∨ j = 24 ∨ j = 25 ∨ j = 26 ∨ j = 27 ∨ j = 28 ∨ j = 29 by omega) with rfl | rfl | rfl | rfl | rfl | rfl | rfl | rfl | rfl | rfl | rfl | rfl | rfl | rfl | rfl | rfl | rfl | rfl | rfl | rfl | rfl | rfl | rfl | rfl | rfl | rfl | rfl | rfl | rfl | rfl <;> rfl) (Nat.le_of_ble_eq_true rfl) (Nat.le_of_ble_eq_true rfl) dL_law_8 (fun q1 H hP hD hS => ?_)
  refine W.widen (k := 28) (n := 247) (Nat.le_of_ble_eq_true rfl) (Nat.le_of_ble_eq_true rfl) ?_
  refine lv_dup hx hb dL_law_11 rfl ?_
  refine nwC (wr := (xW u.1 u.2.1 u.2.2 cI cJ cZ (u.2.1 0) (u.2.2 0) (fun _ => 0) 0 4026531840 (fun _ => 0) (fun _ => 0) 0 (fun _ => 0) 0 (fun _ => 0) (fun _ => 0) (fun _ => 0) 0 (fun _ => 0) (fun _ => 0) (fun _ => 0) (fun _ => 0) (fun _ => 0) (fun _ => 0) (fun _ => 0) (fun _ => 0) 0 0 0 0 0 (fun _ => 0) (fun _ => 0) (fun _ => 0) (fun _ => 0) (fun _ => 0) (fun _ => 0) 0 0 0 0 0)) (va_runI (As := []) (rest := [.ref q1]) ⟨hx, hb, hml, hown, hts⟩ (c_mm_init l D cI cJ cZ q1 H.size) (cwI 0 hts gL_law_X12_init rfl rfl rfl (hts (.initialized RX12) (by decide +kernel)) (hts (.methodLink RL 12 yX12_init) (by decide +kernel)) (hts (.instanceMethod yX12_init) (by decide +kernel)) rfl (by decide +kernel) ⟨Nat.le_of_ble_eq_true rfl, Nat.le_of_ble_eq_true rfl⟩) (wPreS hK (vP_right (w1 := (xW u.1 u.2.1 u.2.2 cI cJ cZ (u.2.1 0) (u.2.2 0) (fun _ => 0) 0 4026531840 (fun _ => 0) (fun _ => 0) 0 (fun _ => 0) 0 (fun _ => 0) (fun _ => 0) (fun _ => 0) 0 (fun _ => 0) (fun _ => 0) (fun _ => 0) (fun _ => 0) (fun _ => 0) (fun _ => 0) (fun _ => 0) (fun _ => 0) 0 0 0 0 0 (fun _ => 0) (fun _ => 0) (fun _ => 0) (fun _ => 0) (fun _ => 0) (fun _ => 0) 0 0 0 0 0)) hP) (tw_split (wr := (xW u.1 u.2.1 u.2.2 cI cJ cZ (u.2.1 0) (u.2.2 0) (fun _ => 0) 0 4026531840 (fun _ => 0) (fun _ => 0) 0 (fun _ => 0) 0 (fun _ => 0) (fun _ => 0) (fun _ => 0) 0 (fun _ => 0) (fun _ => 0) (fun _ => 0) (fun _ => 0) (fun _ => 0) (fun _ => 0) (fun _ => 0) (fun _ => 0) 0 0 0 0 0 (fun _ => 0) (fun _ => 0) (fun _ => 0) (fun _ => 0) (fun _ => 0) (fun _ => 0) 0 0 0 0 0)) hP hD).2.2.1) rfl rfl hl.1 rfl (lv_room (Nat.le_of_ble_eq_true rfl)) dL_law_12 ⟨Nat.le_of_ble_eq_true rfl, Nat.le_of_ble_eq_true rfl⟩) hP hD hS hA (fun um H locs hum hP2 hD2 hS => ?_)
  subst hum
  refine W.widen (k := 45) (n := 561) (Nat.le_of_ble_eq_true rfl) (Nat.le_of_ble_eq_true rfl) ?_
  refine lv_astore_n (lv' := [(2, .ref (um 0)), (1, .ref (u.1 0)), (0, .ref b)]) hx hb dL_law_15 rfl hl (by decide) rfl (fun ls hl => ?_)
  refine lv_iconst (v := 0) hx hb dL_law_16 (by decide) ?_
  refine lv_istore_n (lv' := [(3, .int 0), (2, .ref (um 0)), (1, .ref (u.1 0)), (0, .ref b)]) hx hb dL_law_17 rfl hl (by decide) rfl (fun ls hl => ?_)
  exact law_loop hL C0 hK 65 0 (Nat.le_refl _) (Nat.zero_le _) _ _ H locs ls (two_0 u um cI cJ cZ) (tw_symm (tw_split hP2 hD2)) hS (lv_sub hl [3, 2, 1, 0] rfl)
