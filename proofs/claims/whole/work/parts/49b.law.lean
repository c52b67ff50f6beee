section LAW
variable {p : Program} {l : Launch} {e : Env} {s : State} {m : MethodId} {below : List Frame} {meth : Method} {c : Code} {D : va_G} {cI cJ cZ : ClassId} {b L : Nat} {xs : Nat → Int32} {x y k : Nat} {w1 w2 : va_W} {H : Heap} {locs : List Loc} {ls : Array Slot}
set_option maxHeartbeats 4000000 in
set_option maxRecDepth 100000 in
theorem lc_write (hL : L ≤ 320) (C0 : lw_At p s m meth c b L xs) (hK : kK D cI cJ cZ s) (hk : 5 * k + 5 ≤ L) (hT : Two k x y cI cJ cZ w1 w2) (hW : tw D (LA s) w1 w2 H) (hS : va_S (LA s) s.heap H locs) (hl : lv_has ls 4 [(0, .ref b), (1, .ref x), (2, .ref y), (3, .int (nI (5 * k)))]) (kk : ∀ (w1 w2 : va_W) (H : Heap) (locs : List Loc), Two (k + 1) x y cI cJ cZ w1 w2 → tw D (LA s) w1 w2 H → va_S (LA s) s.heap H locs → W p l e room_1 s m #[Value.ref b] below meth c H locs 45 561 (lw_Z below #[Value.ref b] s) (F0 m 933 ls [])) : W p l e room_1 s m #[Value.ref b] below meth c H locs 45 561 (lw_Z below #[Value.ref b] s) (F0 m 160 ls []) := by
  obtain ⟨hx, hb, hr, hml, hown, hts0, hX, hbl, hlocks, hgv⟩ := C0
  have hown : s.vm.findClass RL = some m.cls := hown
  have hts : ∀ w ∈ wsL_law, w.before #[Value.ref b] s = true := fun w h => hts0 w (wsL_law_in w h)
  have hA : ∀ q : Nat, s.heap.size ≤ q → LA s q := fun _ h => h
  have hbA : ¬ LA s b := Nat.not_le.mpr hbl
  obtain ⟨f1, fx⟩ := two_x hT
  obtain ⟨f2, fy⟩ := two_y hT
  refine lv_aload_n hx hb dL_law_160 rfl (lv_at hl 1 rfl) ?_
  refine lv_aload_n hx hb dL_law_161 rfl (lv_at hl 0 rfl) ?_
  refine lv_iload_n hx hb dL_law_162 rfl (lv_at hl 3 rfl) ?_
  refine lv_iconst (v := 1) hx hb dL_law_163 (by decide) ?_
  refine lv_iadd hx hb dL_law_164 ?_
  refine va_sld hx hb hX hbl hbA hS (law_in (j := 1) hk hL (by decide)) dL_law_165 ?_
  obtain ⟨v, w1n, w2n, m1, m2, hT1⟩ := lw_write l (D := D) hT (by omega) (xs (Int32.toNatClampNeg (nI (5 * k) + 1)))
  refine wcI2 (va_runV (As := [.int (xs (Int32.toNatClampNeg (nI (5 * k) + 1)))]) (rest := []) ⟨hx, hb, hml, hown, hts⟩ (m1 H.size) (cwV 1 hts gL_law_X11_write rfl rfl rfl (by decide +kernel) ⟨Nat.le_of_ble_eq_true rfl, Nat.le_of_ble_eq_true rfl⟩) (wPreV hK hW.1 hW.2.2.1 (ci := 4) (q0 := 0) rfl fx) rfl rfl hl.1 rfl (lv_room (Nat.le_of_ble_eq_true rfl)) dL_law_166 ⟨Nat.le_of_ble_eq_true rfl, Nat.le_of_ble_eq_true rfl⟩) hW hS hA (fun H locs hW hS => ?_)
  have hW := tw_symm hW
  refine lv_aload_n hx hb dL_law_169 rfl (lv_at hl 2 rfl) ?_
  refine lv_aload_n hx hb dL_law_170 rfl (lv_at hl 0 rfl) ?_
  refine lv_iload_n hx hb dL_law_171 rfl (lv_at hl 3 rfl) ?_
  refine lv_iconst (v := 1) hx hb dL_law_172 (by decide) ?_
  refine lv_iadd hx hb dL_law_173 ?_
  refine va_sld hx hb hX hbl hbA hS (law_in (j := 1) hk hL (by decide)) dL_law_174 ?_
  refine wcI2 (va_runV (As := [.int (xs (Int32.toNatClampNeg (nI (5 * k) + 1)))]) (rest := [.int v]) ⟨hx, hb, hml, hown, hts⟩ (m2 H.size) (cwV 1 hts gL_law_X12_write rfl rfl rfl (by decide +kernel) ⟨Nat.le_of_ble_eq_true rfl, Nat.le_of_ble_eq_true rfl⟩) (wPreV hK hW.1 hW.2.2.1 (ci := 5) (q0 := 0) rfl fy) rfl rfl hl.1 rfl (lv_room (Nat.le_of_ble_eq_true rfl)) dL_law_175 ⟨Nat.le_of_ble_eq_true rfl, Nat.le_of_ble_eq_true rfl⟩) hW hS hA (fun H locs hW hS => ?_)
  have hW := tw_symm hW
  refine lv_icmp_eq (tgt := 933) hx hb dL_law_178 (by decide) (fun _ => ?_) (fun q => absurd rfl q)
  exact kk _ _ _ _ hT1 hW hS
set_option maxHeartbeats 4000000 in
set_option maxRecDepth 100000 in
theorem lc_wipe (hL : L ≤ 320) (C0 : lw_At p s m meth c b L xs) (hK : kK D cI cJ cZ s) (hk : 5 * k + 5 ≤ L) (hT : Two k x y cI cJ cZ w1 w2) (hW : tw D (LA s) w1 w2 H) (hS : va_S (LA s) s.heap H locs) (hl : lv_has ls 4 [(0, .ref b), (1, .ref x), (2, .ref y), (3, .int (nI (5 * k)))]) (kk : ∀ (w1 w2 : va_W) (H : Heap) (locs : List Loc), Two (k + 1) x y cI cJ cZ w1 w2 → tw D (LA s) w1 w2 H → va_S (LA s) s.heap H locs → W p l e room_1 s m #[Value.ref b] below meth c H locs 45 561 (lw_Z below #[Value.ref b] s) (F0 m 933 ls [])) : W p l e room_1 s m #[Value.ref b] below meth c H locs 45 561 (lw_Z below #[Value.ref b] s) (F0 m 183 ls []) := by
  obtain ⟨hx, hb, hr, hml, hown, hts0, hX, hbl, hlocks, hgv⟩ := C0
  have hown : s.vm.findClass RL = some m.cls := hown
  have hts : ∀ w ∈ wsL_law, w.before #[Value.ref b] s = true := fun w h => hts0 w (wsL_law_in w h)
  have hA : ∀ q : Nat, s.heap.size ≤ q → LA s q := fun _ h => h
  have hbA : ¬ LA s b := Nat.not_le.mpr hbl
  obtain ⟨f1, fx⟩ := two_x hT
  obtain ⟨f2, fy⟩ := two_y hT
  refine lv_aload_n hx hb dL_law_183 rfl (lv_at hl 1 rfl) ?_
  obtain ⟨v, w1n, w2n, m1, m2, hT1⟩ := lw_wipe l (D := D) hT (by omega)
  refine wcI2 (va_runV (As := []) (rest := []) ⟨hx, hb, hml, hown, hts⟩ (m1 H.size) (cwV 0 hts gL_law_X11_wipe rfl rfl rfl (by decide +kernel) ⟨Nat.le_of_ble_eq_true rfl, Nat.le_of_ble_eq_true rfl⟩) (wPreV hK hW.1 hW.2.2.1 (ci := 4) (q0 := 0) rfl fx) rfl rfl hl.1 rfl (lv_room (Nat.le_of_ble_eq_true rfl)) dL_law_184 ⟨Nat.le_of_ble_eq_true rfl, Nat.le_of_ble_eq_true rfl⟩) hW hS hA (fun H locs hW hS => ?_)
  have hW := tw_symm hW
  refine lv_aload_n hx hb dL_law_187 rfl (lv_at hl 2 rfl) ?_
  refine wcI2 (va_runV (As := []) (rest := [.int v]) ⟨hx, hb, hml, hown, hts⟩ (m2 H.size) (cwV 0 hts gL_law_X12_wipe rfl rfl rfl (by decide +kernel) ⟨Nat.le_of_ble_eq_true rfl, Nat.le_of_ble_eq_true rfl⟩) (wPreV hK hW.1 hW.2.2.1 (ci := 5) (q0 := 0) rfl fy) rfl rfl hl.1 rfl (lv_room (Nat.le_of_ble_eq_true rfl)) dL_law_188 ⟨Nat.le_of_ble_eq_true rfl, Nat.le_of_ble_eq_true rfl⟩) hW hS hA (fun H locs hW hS => ?_)
  have hW := tw_symm hW
  refine lv_icmp_eq (tgt := 933) hx hb dL_law_191 (by decide) (fun _ => ?_) (fun q => absurd rfl q)
  exact kk _ _ _ _ hT1 hW hS
set_option maxHeartbeats 4000000 in
set_option maxRecDepth 100000 in
theorem lc_fault (hL : L ≤ 320) (C0 : lw_At p s m meth c b L xs) (hK : kK D cI cJ cZ s) (hk : 5 * k + 5 ≤ L) (hT : Two k x y cI cJ cZ w1 w2) (hW : tw D (LA s) w1 w2 H) (hS : va_S (LA s) s.heap H locs) (hl : lv_has ls 4 [(0, .ref b), (1, .ref x), (2, .ref y), (3, .int (nI (5 * k)))]) (kk : ∀ (w1 w2 : va_W) (H : Heap) (locs : List Loc), Two (k + 1) x y cI cJ cZ w1 w2 → tw D (LA s) w1 w2 H → va_S (LA s) s.heap H locs → W p l e room_1 s m #[Value.ref b] below meth c H locs 45 561 (lw_Z below #[Value.ref b] s) (F0 m 933 ls [])) : W p l e room_1 s m #[Value.ref b] below meth c H locs 45 561 (lw_Z below #[Value.ref b] s) (F0 m 196 ls []) := by
  obtain ⟨hx, hb, hr, hml, hown, hts0, hX, hbl, hlocks, hgv⟩ := C0
  have hown : s.vm.findClass RL = some m.cls := hown
  have hts : ∀ w ∈ wsL_law, w.before #[Value.ref b] s = true := fun w h => hts0 w (wsL_law_in w h)
  have hA : ∀ q : Nat, s.heap.size ≤ q → LA s q := fun _ h => h
  have hbA : ¬ LA s b := Nat.not_le.mpr hbl
  obtain ⟨f1, fx⟩ := two_x hT
  obtain ⟨f2, fy⟩ := two_y hT
  refine lv_aload_n hx hb dL_law_196 rfl (lv_at hl 1 rfl) ?_
  obtain ⟨v, w1n, w2n, m1, m2, hT1⟩ := lw_fault l (D := D) hT (by omega)
  refine wcI2 (va_runV (As := []) (rest := []) ⟨hx, hb, hml, hown, hts⟩ (m1 H.size) (cwV 0 hts gL_law_X11_fault rfl rfl rfl (by decide +kernel) ⟨Nat.le_of_ble_eq_true rfl, Nat.le_of_ble_eq_true rfl⟩) (wPreV hK hW.1 hW.2.2.1 (ci := 4) (q0 := 0) rfl fx) rfl rfl hl.1 rfl (lv_room (Nat.le_of_ble_eq_true rfl)) dL_law_197 ⟨Nat.le_of_ble_eq_true rfl, Nat.le_of_ble_eq_true rfl⟩) hW hS hA (fun H locs hW hS => ?_)
  have hW := tw_symm hW
  refine lv_aload_n hx hb dL_law_200 rfl (lv_at hl 2 rfl) ?_
  refine wcI2 (va_runV (As := []) (rest := [.int v]) ⟨hx, hb, hml, hown, hts⟩ (m2 H.size) (cwV 0 hts gL_law_X12_fault rfl rfl rfl (by decide +kernel) ⟨Nat.le_of_ble_eq_true rfl, Nat.le_of_ble_eq_true rfl⟩) (wPreV hK hW.1 hW.2.2.1 (ci := 5) (q0 := 0) rfl fy) rfl rfl hl.1 rfl (lv_room (Nat.le_of_ble_eq_true rfl)) dL_law_201 ⟨Nat.le_of_ble_eq_true rfl, Nat.le_of_ble_eq_true rfl⟩) hW hS hA (fun H locs hW hS => ?_)
  have hW := tw_symm hW
  refine lv_icmp_eq (tgt := 933) hx hb dL_law_204 (by decide) (fun _ => ?_) (fun q => absurd rfl q)
  exact kk _ _ _ _ hT1 hW hS
set_option maxHeartbeats 4000000 in
set_option maxRecDepth 100000 in
theorem lc_floor (hL : L ≤ 320) (C0 : lw_At p s m meth c b L xs) (hK : kK D cI cJ cZ s) (hk : 5 * k + 5 ≤ L) (hT : Two k x y cI cJ cZ w1 w2) (hW : tw D (LA s) w1 w2 H) (hS : va_S (LA s) s.heap H locs) (hl : lv_has ls 4 [(0, .ref b), (1, .ref x), (2, .ref y), (3, .int (nI (5 * k)))]) (kk : ∀ (w1 w2 : va_W) (H : Heap) (locs : List Loc), Two (k + 1) x y cI cJ cZ w1 w2 → tw D (LA s) w1 w2 H → va_S (LA s) s.heap H locs → W p l e room_1 s m #[Value.ref b] below meth c H locs 45 561 (lw_Z below #[Value.ref b] s) (F0 m 933 ls [])) : W p l e room_1 s m #[Value.ref b] below meth c H locs 45 561 (lw_Z below #[Value.ref b] s) (F0 m 209 ls []) := by
  obtain ⟨hx, hb, hr, hml, hown, hts0, hX, hbl, hlocks, hgv⟩ := C0
  have hown : s.vm.findClass RL = some m.cls := hown
  have hts : ∀ w ∈ wsL_law, w.before #[Value.ref b] s = true := fun w h => hts0 w (wsL_law_in w h)
  have hA : ∀ q : Nat, s.heap.size ≤ q → LA s q := fun _ h => h
  have hbA : ¬ LA s b := Nat.not_le.mpr hbl
  obtain ⟨f1, fx⟩ := two_x hT
  obtain ⟨f2, fy⟩ := two_y hT
  refine lv_aload_n hx hb dL_law_209 rfl (lv_at hl 1 rfl) ?_
  obtain ⟨v, w1n, w2n, m1, m2, hT1⟩ := lw_floor l (D := D) hT (by omega)
  refine wcI2 (va_runV (As := []) (rest := []) ⟨hx, hb, hml, hown, hts⟩ (m1 H.size) (cwV 0 hts gL_law_X11_floor rfl rfl rfl (by decide +kernel) ⟨Nat.le_of_ble_eq_true rfl, Nat.le_of_ble_eq_true rfl⟩) (wPreV hK hW.1 hW.2.2.1 (ci := 4) (q0 := 0) rfl fx) rfl rfl hl.1 rfl (lv_room (Nat.le_of_ble_eq_true rfl)) dL_law_210 ⟨Nat.le_of_ble_eq_true rfl, Nat.le_of_ble_eq_true rfl⟩) hW hS hA (fun H locs hW hS => ?_)
  have hW := tw_symm hW
  refine lv_aload_n hx hb dL_law_213 rfl (lv_at hl 2 rfl) ?_
  refine wcI2 (va_runV (As := []) (rest := [.int v]) ⟨hx, hb, hml, hown, hts⟩ (m2 H.size) (cwV 0 hts gL_law_X12_floor rfl rfl rfl (by decide +kernel) ⟨Nat.le_of_ble_eq_true rfl, Nat.le_of_ble_eq_true rfl⟩) (wPreV hK hW.1 hW.2.2.1 (ci := 5) (q0 := 0) rfl fy) rfl rfl hl.1 rfl (lv_room (Nat.le_of_ble_eq_true rfl)) dL_law_214 ⟨Nat.le_of_ble_eq_true rfl, Nat.le_of_ble_eq_true rfl⟩) hW hS hA (fun H locs hW hS => ?_)
  have hW := tw_symm hW
  refine lv_icmp_eq (tgt := 933) hx hb dL_law_217 (by decide) (fun _ => ?_) (fun q => absurd rfl q)
  exact kk _ _ _ _ hT1 hW hS
set_option maxHeartbeats 4000000 in
set_option maxRecDepth 100000 in
theorem lc_person (hL : L ≤ 320) (C0 : lw_At p s m meth c b L xs) (hK : kK D cI cJ cZ s) (hk : 5 * k + 5 ≤ L) (hT : Two k x y cI cJ cZ w1 w2) (hW : tw D (LA s) w1 w2 H) (hS : va_S (LA s) s.heap H locs) (hl : lv_has ls 4 [(0, .ref b), (1, .ref x), (2, .ref y), (3, .int (nI (5 * k)))]) (kk : ∀ (w1 w2 : va_W) (H : Heap) (locs : List Loc), Two (k + 1) x y cI cJ cZ w1 w2 → tw D (LA s) w1 w2 H → va_S (LA s) s.heap H locs → W p l e room_1 s m #[Value.ref b] below meth c H locs 45 561 (lw_Z below #[Value.ref b] s) (F0 m 933 ls [])) : W p l e room_1 s m #[Value.ref b] below meth c H locs 45 561 (lw_Z below #[Value.ref b] s) (F0 m 222 ls []) := by
  obtain ⟨hx, hb, hr, hml, hown, hts0, hX, hbl, hlocks, hgv⟩ := C0
  have hown : s.vm.findClass RL = some m.cls := hown
  have hts : ∀ w ∈ wsL_law, w.before #[Value.ref b] s = true := fun w h => hts0 w (wsL_law_in w h)
  have hA : ∀ q : Nat, s.heap.size ≤ q → LA s q := fun _ h => h
  have hbA : ¬ LA s b := Nat.not_le.mpr hbl
  obtain ⟨f1, fx⟩ := two_x hT
  obtain ⟨f2, fy⟩ := two_y hT
  refine lv_aload_n hx hb dL_law_222 rfl (lv_at hl 1 rfl) ?_
  refine lv_aload_n hx hb dL_law_223 rfl (lv_at hl 0 rfl) ?_
  refine lv_iload_n hx hb dL_law_224 rfl (lv_at hl 3 rfl) ?_
  refine lv_iconst (v := 1) hx hb dL_law_225 (by decide) ?_
  refine lv_iadd hx hb dL_law_226 ?_
  refine va_sld hx hb hX hbl hbA hS (law_in (j := 1) hk hL (by decide)) dL_law_227 ?_
  refine lv_aload_n hx hb dL_law_228 rfl (lv_at hl 0 rfl) ?_
  refine lv_iload_n hx hb dL_law_229 rfl (lv_at hl 3 rfl) ?_
  refine lv_iconst (v := 2) hx hb dL_law_230 (by decide) ?_
  refine lv_iadd hx hb dL_law_231 ?_
  refine va_sld hx hb hX hbl hbA hS (law_in (j := 2) hk hL (by decide)) dL_law_232 ?_
  obtain ⟨v, m1, m2, hT1⟩ := lw_person l (D := D) hT (by omega) (xs (Int32.toNatClampNeg (nI (5 * k) + 1))) (xs (Int32.toNatClampNeg (nI (5 * k) + 2)))
  refine rcI (va_runV (As := [.int (xs (Int32.toNatClampNeg (nI (5 * k) + 1))), .int (xs (Int32.toNatClampNeg (nI (5 * k) + 2)))]) (rest := []) ⟨hx, hb, hml, hown, hts⟩ (m1 H hW.1) (cwV 2 hts gL_law_X11_person rfl rfl rfl (by decide +kernel) ⟨Nat.le_of_ble_eq_true rfl, Nat.le_of_ble_eq_true rfl⟩) (rPreV hK hW.1 (ci := 4) (q0 := 0) rfl fx) rfl rfl hl.1 rfl (lv_room (Nat.le_of_ble_eq_true rfl)) dL_law_233 ⟨Nat.le_of_ble_eq_true rfl, Nat.le_of_ble_eq_true rfl⟩) ?_
  have hW := tw_symm hW
  refine lv_aload_n hx hb dL_law_236 rfl (lv_at hl 2 rfl) ?_
  refine lv_aload_n hx hb dL_law_237 rfl (lv_at hl 0 rfl) ?_
  refine lv_iload_n hx hb dL_law_238 rfl (lv_at hl 3 rfl) ?_
  refine lv_iconst (v := 1) hx hb dL_law_239 (by decide) ?_
  refine lv_iadd hx hb dL_law_240 ?_
  refine va_sld hx hb hX hbl hbA hS (law_in (j := 1) hk hL (by decide)) dL_law_241 ?_
  refine lv_aload_n hx hb dL_law_242 rfl (lv_at hl 0 rfl) ?_
  refine lv_iload_n hx hb dL_law_243 rfl (lv_at hl 3 rfl) ?_
  refine lv_iconst (v := 2) hx hb dL_law_244 (by decide) ?_
  refine lv_iadd hx hb dL_law_245 ?_
  refine va_sld hx hb hX hbl hbA hS (law_in (j := 2) hk hL (by decide)) dL_law_246 ?_
  refine rcI (va_runV (As := [.int (xs (Int32.toNatClampNeg (nI (5 * k) + 1))), .int (xs (Int32.toNatClampNeg (nI (5 * k) + 2)))]) (rest := [.int v]) ⟨hx, hb, hml, hown, hts⟩ (m2 H hW.1) (cwV 2 hts gL_law_X12_person rfl rfl rfl (by decide +kernel) ⟨Nat.le_of_ble_eq_true rfl, Nat.le_of_ble_eq_true rfl⟩) (rPreV hK hW.1 (ci := 5) (q0 := 0) rfl fy) rfl rfl hl.1 rfl (lv_room (Nat.le_of_ble_eq_true rfl)) dL_law_247 ⟨Nat.le_of_ble_eq_true rfl, Nat.le_of_ble_eq_true rfl⟩) ?_
  have hW := tw_symm hW
  refine lv_icmp_eq (tgt := 933) hx hb dL_law_250 (by decide) (fun _ => ?_) (fun q => absurd rfl q)
  exact kk _ _ _ _ hT1 hW hS
set_option maxHeartbeats 4000000 in
set_option maxRecDepth 100000 in
theorem lc_grain (hL : L ≤ 320) (C0 : lw_At p s m meth c b L xs) (hK : kK D cI cJ cZ s) (hk : 5 * k + 5 ≤ L) (hT : Two k x y cI cJ cZ w1 w2) (hW : tw D (LA s) w1 w2 H) (hS : va_S (LA s) s.heap H locs) (hl : lv_has ls 4 [(0, .ref b), (1, .ref x), (2, .ref y), (3, .int (nI (5 * k)))]) (kk : ∀ (w1 w2 : va_W) (H : Heap) (locs : List Loc), Two (k + 1) x y cI cJ cZ w1 w2 → tw D (LA s) w1 w2 H → va_S (LA s) s.heap H locs → W p l e room_1 s m #[Value.ref b] below meth c H locs 45 561 (lw_Z below #[Value.ref b] s) (F0 m 933 ls [])) : W p l e room_1 s m #[Value.ref b] below meth c H locs 45 561 (lw_Z below #[Value.ref b] s) (F0 m 255 ls []) := by
  obtain ⟨hx, hb, hr, hml, hown, hts0, hX, hbl, hlocks, hgv⟩ := C0
  have hown : s.vm.findClass RL = some m.cls := hown
  have hts : ∀ w ∈ wsL_law, w.before #[Value.ref b] s = true := fun w h => hts0 w (wsL_law_in w h)
  have hA : ∀ q : Nat, s.heap.size ≤ q → LA s q := fun _ h => h
  have hbA : ¬ LA s b := Nat.not_le.mpr hbl
  obtain ⟨f1, fx⟩ := two_x hT
  obtain ⟨f2, fy⟩ := two_y hT
  refine lv_aload_n hx hb dL_law_255 rfl (lv_at hl 1 rfl) ?_
  refine lv_aload_n hx hb dL_law_256 rfl (lv_at hl 0 rfl) ?_
  refine lv_iload_n hx hb dL_law_257 rfl (lv_at hl 3 rfl) ?_
  refine lv_iconst (v := 1) hx hb dL_law_258 (by decide) ?_
  refine lv_iadd hx hb dL_law_259 ?_
  refine va_sld hx hb hX hbl hbA hS (law_in (j := 1) hk hL (by decide)) dL_law_260 ?_
  refine lv_aload_n hx hb dL_law_261 rfl (lv_at hl 0 rfl) ?_
  refine lv_iload_n hx hb dL_law_262 rfl (lv_at hl 3 rfl) ?_
  refine lv_iconst (v := 2) hx hb dL_law_263 (by decide) ?_
  refine lv_iadd hx hb dL_law_264 ?_
  refine va_sld hx hb hX hbl hbA hS (law_in (j := 2) hk hL (by decide)) dL_law_265 ?_
  obtain ⟨v, m1, m2, hT1⟩ := lw_grain l (D := D) hT (by omega) (xs (Int32.toNatClampNeg (nI (5 * k) + 1))) (xs (Int32.toNatClampNeg (nI (5 * k) + 2)))
  refine rcI (va_runV (As := [.int (xs (Int32.toNatClampNeg (nI (5 * k) + 1))), .int (xs (Int32.toNatClampNeg (nI (5 * k) + 2)))]) (rest := []) ⟨hx, hb, hml, hown, hts⟩ (m1 H hW.1) (cwV 2 hts gL_law_X11_grain rfl rfl rfl (by decide +kernel) ⟨Nat.le_of_ble_eq_true rfl, Nat.le_of_ble_eq_true rfl⟩) (rPreV hK hW.1 (ci := 4) (q0 := 0) rfl fx) rfl rfl hl.1 rfl (lv_room (Nat.le_of_ble_eq_true rfl)) dL_law_266 ⟨Nat.le_of_ble_eq_true rfl, Nat.le_of_ble_eq_true rfl⟩) ?_
  have hW := tw_symm hW
  refine lv_aload_n hx hb dL_law_269 rfl (lv_at hl 2 rfl) ?_
  refine lv_aload_n hx hb dL_law_270 rfl (lv_at hl 0 rfl) ?_
  refine lv_iload_n hx hb dL_law_271 rfl (lv_at hl 3 rfl) ?_
  refine lv_iconst (v := 1) hx hb dL_law_272 (by decide) ?_
  refine lv_iadd hx hb dL_law_273 ?_
  refine va_sld hx hb hX hbl hbA hS (law_in (j := 1) hk hL (by decide)) dL_law_274 ?_
  refine lv_aload_n hx hb dL_law_275 rfl (lv_at hl 0 rfl) ?_
  refine lv_iload_n hx hb dL_law_276 rfl (lv_at hl 3 rfl) ?_
  refine lv_iconst (v := 2) hx hb dL_law_277 (by decide) ?_
  refine lv_iadd hx hb dL_law_278 ?_
  refine va_sld hx hb hX hbl hbA hS (law_in (j := 2) hk hL (by decide)) dL_law_279 ?_
  refine rcI (va_runV (As := [.int (xs (Int32.toNatClampNeg (nI (5 * k) + 1))), .int (xs (Int32.toNatClampNeg (nI (5 * k) + 2)))]) (rest := [.int v]) ⟨hx, hb, hml, hown, hts⟩ (m2 H hW.1) (cwV 2 hts gL_law_X12_grain rfl rfl rfl (by decide +kernel) ⟨Nat.le_of_ble_eq_true rfl, Nat.le_of_ble_eq_true rfl⟩) (rPreV hK hW.1 (ci := 5) (q0 := 0) rfl fy) rfl rfl hl.1 rfl (lv_room (Nat.le_of_ble_eq_true rfl)) dL_law_280 ⟨Nat.le_of_ble_eq_true rfl, Nat.le_of_ble_eq_true rfl⟩) ?_
  have hW := tw_symm hW
  refine lv_icmp_eq (tgt := 933) hx hb dL_law_283 (by decide) (fun _ => ?_) (fun q => absurd rfl q)
  exact kk _ _ _ _ hT1 hW hS
set_option maxHeartbeats 4000000 in
set_option maxRecDepth 100000 in
theorem lc_toss (hL : L ≤ 320) (C0 : lw_At p s m meth c b L xs) (hK : kK D cI cJ cZ s) (hk : 5 * k + 5 ≤ L) (hT : Two k x y cI cJ cZ w1 w2) (hW : tw D (LA s) w1 w2 H) (hS : va_S (LA s) s.heap H locs) (hl : lv_has ls 4 [(0, .ref b), (1, .ref x), (2, .ref y), (3, .int (nI (5 * k)))]) (kk : ∀ (w1 w2 : va_W) (H : Heap) (locs : List Loc), Two (k + 1) x y cI cJ cZ w1 w2 → tw D (LA s) w1 w2 H → va_S (LA s) s.heap H locs → W p l e room_1 s m #[Value.ref b] below meth c H locs 45 561 (lw_Z below #[Value.ref b] s) (F0 m 933 ls [])) : W p l e room_1 s m #[Value.ref b] below meth c H locs 45 561 (lw_Z below #[Value.ref b] s) (F0 m 288 ls []) := by
  obtain ⟨hx, hb, hr, hml, hown, hts0, hX, hbl, hlocks, hgv⟩ := C0
  have hown : s.vm.findClass RL = some m.cls := hown
  have hts : ∀ w ∈ wsL_law, w.before #[Value.ref b] s = true := fun w h => hts0 w (wsL_law_in w h)
  have hA : ∀ q : Nat, s.heap.size ≤ q → LA s q := fun _ h => h
  have hbA : ¬ LA s b := Nat.not_le.mpr hbl
  obtain ⟨f1, fx⟩ := two_x hT
  obtain ⟨f2, fy⟩ := two_y hT
  refine lv_aload_n hx hb dL_law_288 rfl (lv_at hl 1 rfl) ?_
  refine lv_aload_n hx hb dL_law_289 rfl (lv_at hl 0 rfl) ?_
  refine lv_iload_n hx hb dL_law_290 rfl (lv_at hl 3 rfl) ?_
  refine lv_iconst (v := 1) hx hb dL_law_291 (by decide) ?_
  refine lv_iadd hx hb dL_law_292 ?_
  refine va_sld hx hb hX hbl hbA hS (law_in (j := 1) hk hL (by decide)) dL_law_293 ?_
  obtain ⟨v, w1n, w2n, m1, m2, hT1⟩ := lw_toss l (D := D) hT (by omega) (xs (Int32.toNatClampNeg (nI (5 * k) + 1)))
  refine wcI2 (va_runV (As := [.int (xs (Int32.toNatClampNeg (nI (5 * k) + 1)))]) (rest := []) ⟨hx, hb, hml, hown, hts⟩ (m1 H.size) (cwV 1 hts gL_law_X11_toss rfl rfl rfl (by decide +kernel) ⟨Nat.le_of_ble_eq_true rfl, Nat.le_of_ble_eq_true rfl⟩) (wPreV hK hW.1 hW.2.2.1 (ci := 4) (q0 := 0) rfl fx) rfl rfl hl.1 rfl (lv_room (Nat.le_of_ble_eq_true rfl)) dL_law_294 ⟨Nat.le_of_ble_eq_true rfl, Nat.le_of_ble_eq_true rfl⟩) hW hS hA (fun H locs hW hS => ?_)
  have hW := tw_symm hW
  refine lv_aload_n hx hb dL_law_297 rfl (lv_at hl 2 rfl) ?_
  refine lv_aload_n hx hb dL_law_298 rfl (lv_at hl 0 rfl) ?_
  refine lv_iload_n hx hb dL_law_299 rfl (lv_at hl 3 rfl) ?_
  refine lv_iconst (v := 1) hx hb dL_law_300 (by decide) ?_
  refine lv_iadd hx hb dL_law_301 ?_
  refine va_sld hx hb hX hbl hbA hS (law_in (j := 1) hk hL (by decide)) dL_law_302 ?_
  refine wcI2 (va_runV (As := [.int (xs (Int32.toNatClampNeg (nI (5 * k) + 1)))]) (rest := [.int v]) ⟨hx, hb, hml, hown, hts⟩ (m2 H.size) (cwV 1 hts gL_law_X12_toss rfl rfl rfl (by decide +kernel) ⟨Nat.le_of_ble_eq_true rfl, Nat.le_of_ble_eq_true rfl⟩) (wPreV hK hW.1 hW.2.2.1 (ci := 5) (q0 := 0) rfl fy) rfl rfl hl.1 rfl (lv_room (Nat.le_of_ble_eq_true rfl)) dL_law_303 ⟨Nat.le_of_ble_eq_true rfl, Nat.le_of_ble_eq_true rfl⟩) hW hS hA (fun H locs hW hS => ?_)
  have hW := tw_symm hW
  refine lv_icmp_eq (tgt := 933) hx hb dL_law_306 (by decide) (fun _ => ?_) (fun q => absurd rfl q)
  exact kk _ _ _ _ hT1 hW hS
set_option maxHeartbeats 4000000 in
set_option maxRecDepth 100000 in
theorem lc_calm (hL : L ≤ 320) (C0 : lw_At p s m meth c b L xs) (hK : kK D cI cJ cZ s) (hk : 5 * k + 5 ≤ L) (hT : Two k x y cI cJ cZ w1 w2) (hW : tw D (LA s) w1 w2 H) (hS : va_S (LA s) s.heap H locs) (hl : lv_has ls 4 [(0, .ref b), (1, .ref x), (2, .ref y), (3, .int (nI (5 * k)))]) (kk : ∀ (w1 w2 : va_W) (H : Heap) (locs : List Loc), Two (k + 1) x y cI cJ cZ w1 w2 → tw D (LA s) w1 w2 H → va_S (LA s) s.heap H locs → W p l e room_1 s m #[Value.ref b] below meth c H locs 45 561 (lw_Z below #[Value.ref b] s) (F0 m 933 ls [])) : W p l e room_1 s m #[Value.ref b] below meth c H locs 45 561 (lw_Z below #[Value.ref b] s) (F0 m 311 ls []) := by
  obtain ⟨hx, hb, hr, hml, hown, hts0, hX, hbl, hlocks, hgv⟩ := C0
  have hown : s.vm.findClass RL = some m.cls := hown
  have hts : ∀ w ∈ wsL_law, w.before #[Value.ref b] s = true := fun w h => hts0 w (wsL_law_in w h)
  have hA : ∀ q : Nat, s.heap.size ≤ q → LA s q := fun _ h => h
  have hbA : ¬ LA s b := Nat.not_le.mpr hbl
  obtain ⟨f1, fx⟩ := two_x hT
  obtain ⟨f2, fy⟩ := two_y hT
  refine lv_aload_n hx hb dL_law_311 rfl (lv_at hl 1 rfl) ?_
  obtain ⟨v, w1n, w2n, m1, m2, hT1⟩ := lw_calm l (D := D) hT (by omega)
  refine wcI2 (va_runV (As := []) (rest := []) ⟨hx, hb, hml, hown, hts⟩ (m1 H.size) (cwV 0 hts gL_law_X11_calm rfl rfl rfl (by decide +kernel) ⟨Nat.le_of_ble_eq_true rfl, Nat.le_of_ble_eq_true rfl⟩) (wPreV hK hW.1 hW.2.2.1 (ci := 4) (q0 := 0) rfl fx) rfl rfl hl.1 rfl (lv_room (Nat.le_of_ble_eq_true rfl)) dL_law_312 ⟨Nat.le_of_ble_eq_true rfl, Nat.le_of_ble_eq_true rfl⟩) hW hS hA (fun H locs hW hS => ?_)
  have hW := tw_symm hW
  refine lv_aload_n hx hb dL_law_315 rfl (lv_at hl 2 rfl) ?_
  refine wcI2 (va_runV (As := []) (rest := [.int v]) ⟨hx, hb, hml, hown, hts⟩ (m2 H.size) (cwV 0 hts gL_law_X12_calm rfl rfl rfl (by decide +kernel) ⟨Nat.le_of_ble_eq_true rfl, Nat.le_of_ble_eq_true rfl⟩) (wPreV hK hW.1 hW.2.2.1 (ci := 5) (q0 := 0) rfl fy) rfl rfl hl.1 rfl (lv_room (Nat.le_of_ble_eq_true rfl)) dL_law_316 ⟨Nat.le_of_ble_eq_true rfl, Nat.le_of_ble_eq_true rfl⟩) hW hS hA (fun H locs hW hS => ?_)
  have hW := tw_symm hW
  refine lv_icmp_eq (tgt := 933) hx hb dL_law_319 (by decide) (fun _ => ?_) (fun q => absurd rfl q)
  exact kk _ _ _ _ hT1 hW hS
set_option maxHeartbeats 4000000 in
set_option maxRecDepth 100000 in
theorem lc_pick (hL : L ≤ 320) (C0 : lw_At p s m meth c b L xs) (hK : kK D cI cJ cZ s) (hk : 5 * k + 5 ≤ L) (hT : Two k x y cI cJ cZ w1 w2) (hW : tw D (LA s) w1 w2 H) (hS : va_S (LA s) s.heap H locs) (hl : lv_has ls 4 [(0, .ref b), (1, .ref x), (2, .ref y), (3, .int (nI (5 * k)))]) (kk : ∀ (w1 w2 : va_W) (H : Heap) (locs : List Loc), Two (k + 1) x y cI cJ cZ w1 w2 → tw D (LA s) w1 w2 H → va_S (LA s) s.heap H locs → W p l e room_1 s m #[Value.ref b] below meth c H locs 45 561 (lw_Z below #[Value.ref b] s) (F0 m 933 ls [])) : W p l e room_1 s m #[Value.ref b] below meth c H locs 45 561 (lw_Z below #[Value.ref b] s) (F0 m 324 ls []) := by
  obtain ⟨hx, hb, hr, hml, hown, hts0, hX, hbl, hlocks, hgv⟩ := C0
  have hown : s.vm.findClass RL = some m.cls := hown
  have hts : ∀ w ∈ wsL_law, w.before #[Value.ref b] s = true := fun w h => hts0 w (wsL_law_in w h)
  have hA : ∀ q : Nat, s.heap.size ≤ q → LA s q := fun _ h => h
  have hbA : ¬ LA s b := Nat.not_le.mpr hbl
  obtain ⟨f1, fx⟩ := two_x hT
  obtain ⟨f2, fy⟩ := two_y hT
  refine lv_aload_n hx hb dL_law_324 rfl (lv_at hl 1 rfl) ?_
  refine lv_aload_n hx hb dL_law_325 rfl (lv_at hl 0 rfl) ?_
  refine lv_iload_n hx hb dL_law_326 rfl (lv_at hl 3 rfl) ?_
  refine lv_iconst (v := 1) hx hb dL_law_327 (by decide) ?_
  refine lv_iadd hx hb dL_law_328 ?_
  refine va_sld hx hb hX hbl hbA hS (law_in (j := 1) hk hL (by decide)) dL_law_329 ?_
  obtain ⟨v, w1n, w2n, m1, m2, hT1⟩ := lw_pick l (D := D) hT (by omega) (xs (Int32.toNatClampNeg (nI (5 * k) + 1)))
  refine wcI2 (va_runV (As := [.int (xs (Int32.toNatClampNeg (nI (5 * k) + 1)))]) (rest := []) ⟨hx, hb, hml, hown, hts⟩ (m1 H.size) (cwV 1 hts gL_law_X11_pick rfl rfl rfl (by decide +kernel) ⟨Nat.le_of_ble_eq_true rfl, Nat.le_of_ble_eq_true rfl⟩) (wPreV hK hW.1 hW.2.2.1 (ci := 4) (q0 := 0) rfl fx) rfl rfl hl.1 rfl (lv_room (Nat.le_of_ble_eq_true rfl)) dL_law_330 ⟨Nat.le_of_ble_eq_true rfl, Nat.le_of_ble_eq_true rfl⟩) hW hS hA (fun H locs hW hS => ?_)
  have hW := tw_symm hW
  refine lv_aload_n hx hb dL_law_333 rfl (lv_at hl 2 rfl) ?_
  refine lv_aload_n hx hb dL_law_334 rfl (lv_at hl 0 rfl) ?_
  refine lv_iload_n hx hb dL_law_335 rfl (lv_at hl 3 rfl) ?_
  refine lv_iconst (v := 1) hx hb dL_law_336 (by decide) ?_
  refine lv_iadd hx hb dL_law_337 ?_
  refine va_sld hx hb hX hbl hbA hS (law_in (j := 1) hk hL (by decide)) dL_law_338 ?_
  refine wcI2 (va_runV (As := [.int (xs (Int32.toNatClampNeg (nI (5 * k) + 1)))]) (rest := [.int v]) ⟨hx, hb, hml, hown, hts⟩ (m2 H.size) (cwV 1 hts gL_law_X12_pick rfl rfl rfl (by decide +kernel) ⟨Nat.le_of_ble_eq_true rfl, Nat.le_of_ble_eq_true rfl⟩) (wPreV hK hW.1 hW.2.2.1 (ci := 5) (q0 := 0) rfl fy) rfl rfl hl.1 rfl (lv_room (Nat.le_of_ble_eq_true rfl)) dL_law_339 ⟨Nat.le_of_ble_eq_true rfl, Nat.le_of_ble_eq_true rfl⟩) hW hS hA (fun H locs hW hS => ?_)
  have hW := tw_symm hW
  refine lv_icmp_eq (tgt := 933) hx hb dL_law_342 (by decide) (fun _ => ?_) (fun q => absurd rfl q)
  exact kk _ _ _ _ hT1 hW hS
set_option maxHeartbeats 4000000 in
set_option maxRecDepth 100000 in
theorem lc_fan (hL : L ≤ 320) (C0 : lw_At p s m meth c b L xs) (hK : kK D cI cJ cZ s) (hk : 5 * k + 5 ≤ L) (hT : Two k x y cI cJ cZ w1 w2) (hW : tw D (LA s) w1 w2 H) (hS : va_S (LA s) s.heap H locs) (hl : lv_has ls 4 [(0, .ref b), (1, .ref x), (2, .ref y), (3, .int (nI (5 * k)))]) (kk : ∀ (w1 w2 : va_W) (H : Heap) (locs : List Loc), Two (k + 1) x y cI cJ cZ w1 w2 → tw D (LA s) w1 w2 H → va_S (LA s) s.heap H locs → W p l e room_1 s m #[Value.ref b] below meth c H locs 45 561 (lw_Z below #[Value.ref b] s) (F0 m 933 ls [])) : W p l e room_1 s m #[Value.ref b] below meth c H locs 45 561 (lw_Z below #[Value.ref b] s) (F0 m 347 ls []) := by
  obtain ⟨hx, hb, hr, hml, hown, hts0, hX, hbl, hlocks, hgv⟩ := C0
  have hown : s.vm.findClass RL = some m.cls := hown
  have hts : ∀ w ∈ wsL_law, w.before #[Value.ref b] s = true := fun w h => hts0 w (wsL_law_in w h)
  have hA : ∀ q : Nat, s.heap.size ≤ q → LA s q := fun _ h => h
  have hbA : ¬ LA s b := Nat.not_le.mpr hbl
  obtain ⟨f1, fx⟩ := two_x hT
  obtain ⟨f2, fy⟩ := two_y hT
  refine lv_aload_n hx hb dL_law_347 rfl (lv_at hl 1 rfl) ?_
  refine lv_aload_n hx hb dL_law_348 rfl (lv_at hl 0 rfl) ?_
  refine lv_iload_n hx hb dL_law_349 rfl (lv_at hl 3 rfl) ?_
  refine lv_iconst (v := 1) hx hb dL_law_350 (by decide) ?_
  refine lv_iadd hx hb dL_law_351 ?_
  refine va_sld hx hb hX hbl hbA hS (law_in (j := 1) hk hL (by decide)) dL_law_352 ?_
  obtain ⟨v, w1n, w2n, m1, m2, hT1⟩ := lw_fan l (D := D) hT (by omega) (xs (Int32.toNatClampNeg (nI (5 * k) + 1)))
  refine wcI2 (va_runV (As := [.int (xs (Int32.toNatClampNeg (nI (5 * k) + 1)))]) (rest := []) ⟨hx, hb, hml, hown, hts⟩ (m1 H.size) (cwV 1 hts gL_law_X11_fan rfl rfl rfl (by decide +kernel) ⟨Nat.le_of_ble_eq_true rfl, Nat.le_of_ble_eq_true rfl⟩) (wPreV hK hW.1 hW.2.2.1 (ci := 4) (q0 := 0) rfl fx) rfl rfl hl.1 rfl (lv_room (Nat.le_of_ble_eq_true rfl)) dL_law_353 ⟨Nat.le_of_ble_eq_true rfl, Nat.le_of_ble_eq_true rfl⟩) hW hS hA (fun H locs hW hS => ?_)
  have hW := tw_symm hW
  refine lv_aload_n hx hb dL_law_356 rfl (lv_at hl 2 rfl) ?_
  refine lv_aload_n hx hb dL_law_357 rfl (lv_at hl 0 rfl) ?_
  refine lv_iload_n hx hb dL_law_358 rfl (lv_at hl 3 rfl) ?_
  refine lv_iconst (v := 1) hx hb dL_law_359 (by decide) ?_
  refine lv_iadd hx hb dL_law_360 ?_
  refine va_sld hx hb hX hbl hbA hS (law_in (j := 1) hk hL (by decide)) dL_law_361 ?_
  refine wcI2 (va_runV (As := [.int (xs (Int32.toNatClampNeg (nI (5 * k) + 1)))]) (rest := [.int v]) ⟨hx, hb, hml, hown, hts⟩ (m2 H.size) (cwV 1 hts gL_law_X12_fan rfl rfl rfl (by decide +kernel) ⟨Nat.le_of_ble_eq_true rfl, Nat.le_of_ble_eq_true rfl⟩) (wPreV hK hW.1 hW.2.2.1 (ci := 5) (q0 := 0) rfl fy) rfl rfl hl.1 rfl (lv_room (Nat.le_of_ble_eq_true rfl)) dL_law_362 ⟨Nat.le_of_ble_eq_true rfl, Nat.le_of_ble_eq_true rfl⟩) hW hS hA (fun H locs hW hS => ?_)
  have hW := tw_symm hW
  refine lv_icmp_eq (tgt := 933) hx hb dL_law_365 (by decide) (fun _ => ?_) (fun q => absurd rfl q)
  exact kk _ _ _ _ hT1 hW hS
set_option maxHeartbeats 4000000 in
set_option maxRecDepth 100000 in
theorem lc_undo (hL : L ≤ 320) (C0 : lw_At p s m meth c b L xs) (hK : kK D cI cJ cZ s) (hk : 5 * k + 5 ≤ L) (hT : Two k x y cI cJ cZ w1 w2) (hW : tw D (LA s) w1 w2 H) (hS : va_S (LA s) s.heap H locs) (hl : lv_has ls 4 [(0, .ref b), (1, .ref x), (2, .ref y), (3, .int (nI (5 * k)))]) (kk : ∀ (w1 w2 : va_W) (H : Heap) (locs : List Loc), Two (k + 1) x y cI cJ cZ w1 w2 → tw D (LA s) w1 w2 H → va_S (LA s) s.heap H locs → W p l e room_1 s m #[Value.ref b] below meth c H locs 45 561 (lw_Z below #[Value.ref b] s) (F0 m 933 ls [])) : W p l e room_1 s m #[Value.ref b] below meth c H locs 45 561 (lw_Z below #[Value.ref b] s) (F0 m 370 ls []) := by
  obtain ⟨hx, hb, hr, hml, hown, hts0, hX, hbl, hlocks, hgv⟩ := C0
  have hown : s.vm.findClass RL = some m.cls := hown
  have hts : ∀ w ∈ wsL_law, w.before #[Value.ref b] s = true := fun w h => hts0 w (wsL_law_in w h)
  have hA : ∀ q : Nat, s.heap.size ≤ q → LA s q := fun _ h => h
  have hbA : ¬ LA s b := Nat.not_le.mpr hbl
  obtain ⟨f1, fx⟩ := two_x hT
  obtain ⟨f2, fy⟩ := two_y hT
  refine lv_aload_n hx hb dL_law_370 rfl (lv_at hl 1 rfl) ?_
  obtain ⟨v, w1n, w2n, m1, m2, hT1⟩ := lw_undo l (D := D) hT (by omega)
  refine wcI2 (va_runV (As := []) (rest := []) ⟨hx, hb, hml, hown, hts⟩ (m1 H.size) (cwV 0 hts gL_law_X11_undo rfl rfl rfl (by decide +kernel) ⟨Nat.le_of_ble_eq_true rfl, Nat.le_of_ble_eq_true rfl⟩) (wPreV hK hW.1 hW.2.2.1 (ci := 4) (q0 := 0) rfl fx) rfl rfl hl.1 rfl (lv_room (Nat.le_of_ble_eq_true rfl)) dL_law_371 ⟨Nat.le_of_ble_eq_true rfl, Nat.le_of_ble_eq_true rfl⟩) hW hS hA (fun H locs hW hS => ?_)
  have hW := tw_symm hW
  refine lv_aload_n hx hb dL_law_374 rfl (lv_at hl 2 rfl) ?_
  refine wcI2 (va_runV (As := []) (rest := [.int v]) ⟨hx, hb, hml, hown, hts⟩ (m2 H.size) (cwV 0 hts gL_law_X12_undo rfl rfl rfl (by decide +kernel) ⟨Nat.le_of_ble_eq_true rfl, Nat.le_of_ble_eq_true rfl⟩) (wPreV hK hW.1 hW.2.2.1 (ci := 5) (q0 := 0) rfl fy) rfl rfl hl.1 rfl (lv_room (Nat.le_of_ble_eq_true rfl)) dL_law_375 ⟨Nat.le_of_ble_eq_true rfl, Nat.le_of_ble_eq_true rfl⟩) hW hS hA (fun H locs hW hS => ?_)
  have hW := tw_symm hW
  refine lv_icmp_eq (tgt := 933) hx hb dL_law_378 (by decide) (fun _ => ?_) (fun q => absurd rfl q)
  exact kk _ _ _ _ hT1 hW hS
set_option maxHeartbeats 4000000 in
set_option maxRecDepth 100000 in
theorem lc_best (hL : L ≤ 320) (C0 : lw_At p s m meth c b L xs) (hK : kK D cI cJ cZ s) (hk : 5 * k + 5 ≤ L) (hT : Two k x y cI cJ cZ w1 w2) (hW : tw D (LA s) w1 w2 H) (hS : va_S (LA s) s.heap H locs) (hl : lv_has ls 4 [(0, .ref b), (1, .ref x), (2, .ref y), (3, .int (nI (5 * k)))]) (kk : ∀ (w1 w2 : va_W) (H : Heap) (locs : List Loc), Two (k + 1) x y cI cJ cZ w1 w2 → tw D (LA s) w1 w2 H → va_S (LA s) s.heap H locs → W p l e room_1 s m #[Value.ref b] below meth c H locs 45 561 (lw_Z below #[Value.ref b] s) (F0 m 933 ls [])) : W p l e room_1 s m #[Value.ref b] below meth c H locs 45 561 (lw_Z below #[Value.ref b] s) (F0 m 383 ls []) := by
  obtain ⟨hx, hb, hr, hml, hown, hts0, hX, hbl, hlocks, hgv⟩ := C0
  have hown : s.vm.findClass RL = some m.cls := hown
  have hts : ∀ w ∈ wsL_law, w.before #[Value.ref b] s = true := fun w h => hts0 w (wsL_law_in w h)
  have hA : ∀ q : Nat, s.heap.size ≤ q → LA s q := fun _ h => h
  have hbA : ¬ LA s b := Nat.not_le.mpr hbl
  obtain ⟨f1, fx⟩ := two_x hT
  obtain ⟨f2, fy⟩ := two_y hT
  by_cases cz : (xs (Int32.toNatClampNeg (nI (5 * k) + 2))) = 0
  · refine lv_aload_n hx hb dL_law_383 rfl (lv_at hl 1 rfl) ?_
    refine lv_aload_n hx hb dL_law_384 rfl (lv_at hl 0 rfl) ?_
    refine lv_iload_n hx hb dL_law_385 rfl (lv_at hl 3 rfl) ?_
    refine lv_iconst (v := 1) hx hb dL_law_386 (by decide) ?_
    refine lv_iadd hx hb dL_law_387 ?_
    refine va_sld hx hb hX hbl hbA hS (law_in (j := 1) hk hL (by decide)) dL_law_388 ?_
    refine lv_aload_n hx hb dL_law_389 rfl (lv_at hl 0 rfl) ?_
    refine lv_iload_n hx hb dL_law_390 rfl (lv_at hl 3 rfl) ?_
    refine lv_iconst (v := 2) hx hb dL_law_391 (by decide) ?_
    refine lv_iadd hx hb dL_law_392 ?_
    refine va_sld hx hb hX hbl hbA hS (law_in (j := 2) hk hL (by decide)) dL_law_393 ?_
    refine lv_if_eq (tgt := 401) hx hb dL_law_394 (by decide) (fun _ => ?_) (fun q => absurd cz q)
    refine lv_iconst (v := 0) hx hb dL_law_401 (by decide) ?_
    obtain ⟨v, w2n, m1, m2, hT1⟩ := lw_best l (D := D) hT (by omega) (xs (Int32.toNatClampNeg (nI (5 * k) + 1))) 0
    refine rcI (va_runV (As := [.int (xs (Int32.toNatClampNeg (nI (5 * k) + 1))), .int 0]) (rest := []) ⟨hx, hb, hml, hown, hts⟩ (m1 H hW.1) (cwV 2 hts gL_law_X11_best rfl rfl rfl (by decide +kernel) ⟨Nat.le_of_ble_eq_true rfl, Nat.le_of_ble_eq_true rfl⟩) (rPreV hK hW.1 (ci := 4) (q0 := 0) rfl fx) rfl rfl hl.1 rfl (lv_room (Nat.le_of_ble_eq_true rfl)) dL_law_402 ⟨Nat.le_of_ble_eq_true rfl, Nat.le_of_ble_eq_true rfl⟩) ?_
    have hW := tw_symm hW
    refine lv_aload_n hx hb dL_law_405 rfl (lv_at hl 2 rfl) ?_
    refine lv_aload_n hx hb dL_law_406 rfl (lv_at hl 0 rfl) ?_
    refine lv_iload_n hx hb dL_law_407 rfl (lv_at hl 3 rfl) ?_
    refine lv_iconst (v := 1) hx hb dL_law_408 (by decide) ?_
    refine lv_iadd hx hb dL_law_409 ?_
    refine va_sld hx hb hX hbl hbA hS (law_in (j := 1) hk hL (by decide)) dL_law_410 ?_
    refine lv_aload_n hx hb dL_law_411 rfl (lv_at hl 0 rfl) ?_
    refine lv_iload_n hx hb dL_law_412 rfl (lv_at hl 3 rfl) ?_
    refine lv_iconst (v := 2) hx hb dL_law_413 (by decide) ?_
    refine lv_iadd hx hb dL_law_414 ?_
    refine va_sld hx hb hX hbl hbA hS (law_in (j := 2) hk hL (by decide)) dL_law_415 ?_
    refine lv_if_eq (tgt := 423) hx hb dL_law_416 (by decide) (fun _ => ?_) (fun q => absurd cz q)
    refine lv_iconst (v := 0) hx hb dL_law_423 (by decide) ?_
    refine wcI2 (va_runV (As := [.int (xs (Int32.toNatClampNeg (nI (5 * k) + 1))), .int 0]) (rest := [.int v]) ⟨hx, hb, hml, hown, hts⟩ (m2 H.size) (cwV 2 hts gL_law_X12_best rfl rfl rfl (by decide +kernel) ⟨Nat.le_of_ble_eq_true rfl, Nat.le_of_ble_eq_true rfl⟩) (wPreV hK hW.1 hW.2.2.1 (ci := 5) (q0 := 0) rfl fy) rfl rfl hl.1 rfl (lv_room (Nat.le_of_ble_eq_true rfl)) dL_law_424 ⟨Nat.le_of_ble_eq_true rfl, Nat.le_of_ble_eq_true rfl⟩) hW hS hA (fun H locs hW hS => ?_)
    have hW := tw_symm hW
    refine lv_icmp_eq (tgt := 933) hx hb dL_law_427 (by decide) (fun _ => ?_) (fun q => absurd rfl q)
    exact kk _ _ _ _ hT1 hW hS
  · refine lv_aload_n hx hb dL_law_383 rfl (lv_at hl 1 rfl) ?_
    refine lv_aload_n hx hb dL_law_384 rfl (lv_at hl 0 rfl) ?_
    refine lv_iload_n hx hb dL_law_385 rfl (lv_at hl 3 rfl) ?_
    refine lv_iconst (v := 1) hx hb dL_law_386 (by decide) ?_
    refine lv_iadd hx hb dL_law_387 ?_
    refine va_sld hx hb hX hbl hbA hS (law_in (j := 1) hk hL (by decide)) dL_law_388 ?_
    refine lv_aload_n hx hb dL_law_389 rfl (lv_at hl 0 rfl) ?_
    refine lv_iload_n hx hb dL_law_390 rfl (lv_at hl 3 rfl) ?_
    refine lv_iconst (v := 2) hx hb dL_law_391 (by decide) ?_
    refine lv_iadd hx hb dL_law_392 ?_
    refine va_sld hx hb hX hbl hbA hS (law_in (j := 2) hk hL (by decide)) dL_law_393 ?_
    refine lv_if_eq (tgt := 401) hx hb dL_law_394 (by decide) (fun q => absurd q cz) (fun _ => ?_)
    refine lv_iconst (v := 1) hx hb dL_law_397 (by decide) ?_
    refine lv_goto (tgt := 402) hx hb dL_law_398 (by decide) ?_
    obtain ⟨v, w2n, m1, m2, hT1⟩ := lw_best l (D := D) hT (by omega) (xs (Int32.toNatClampNeg (nI (5 * k) + 1))) 1
    refine rcI (va_runV (As := [.int (xs (Int32.toNatClampNeg (nI (5 * k) + 1))), .int 1]) (rest := []) ⟨hx, hb, hml, hown, hts⟩ (m1 H hW.1) (cwV 2 hts gL_law_X11_best rfl rfl rfl (by decide +kernel) ⟨Nat.le_of_ble_eq_true rfl, Nat.le_of_ble_eq_true rfl⟩) (rPreV hK hW.1 (ci := 4) (q0 := 0) rfl fx) rfl rfl hl.1 rfl (lv_room (Nat.le_of_ble_eq_true rfl)) dL_law_402 ⟨Nat.le_of_ble_eq_true rfl, Nat.le_of_ble_eq_true rfl⟩) ?_
    have hW := tw_symm hW
    refine lv_aload_n hx hb dL_law_405 rfl (lv_at hl 2 rfl) ?_
    refine lv_aload_n hx hb dL_law_406 rfl (lv_at hl 0 rfl) ?_
    refine lv_iload_n hx hb dL_law_407 rfl (lv_at hl 3 rfl) ?_
    refine lv_iconst (v := 1) hx hb dL_law_408 (by decide) ?_
    refine lv_iadd hx hb dL_law_409 ?_
    refine va_sld hx hb hX hbl hbA hS (law_in (j := 1) hk hL (by decide)) dL_law_410 ?_
    refine lv_aload_n hx hb dL_law_411 rfl (lv_at hl 0 rfl) ?_
    refine lv_iload_n hx hb dL_law_412 rfl (lv_at hl 3 rfl) ?_
    refine lv_iconst (v := 2) hx hb dL_law_413 (by decide) ?_
    refine lv_iadd hx hb dL_law_414 ?_
    refine va_sld hx hb hX hbl hbA hS (law_in (j := 2) hk hL (by decide)) dL_law_415 ?_
    refine lv_if_eq (tgt := 423) hx hb dL_law_416 (by decide) (fun q => absurd q cz) (fun _ => ?_)
    refine lv_iconst (v := 1) hx hb dL_law_419 (by decide) ?_
    refine lv_goto (tgt := 424) hx hb dL_law_420 (by decide) ?_
    refine wcI2 (va_runV (As := [.int (xs (Int32.toNatClampNeg (nI (5 * k) + 1))), .int 1]) (rest := [.int v]) ⟨hx, hb, hml, hown, hts⟩ (m2 H.size) (cwV 2 hts gL_law_X12_best rfl rfl rfl (by decide +kernel) ⟨Nat.le_of_ble_eq_true rfl, Nat.le_of_ble_eq_true rfl⟩) (wPreV hK hW.1 hW.2.2.1 (ci := 5) (q0 := 0) rfl fy) rfl rfl hl.1 rfl (lv_room (Nat.le_of_ble_eq_true rfl)) dL_law_424 ⟨Nat.le_of_ble_eq_true rfl, Nat.le_of_ble_eq_true rfl⟩) hW hS hA (fun H locs hW hS => ?_)
    have hW := tw_symm hW
    refine lv_icmp_eq (tgt := 933) hx hb dL_law_427 (by decide) (fun _ => ?_) (fun q => absurd rfl q)
    exact kk _ _ _ _ hT1 hW hS
set_option maxHeartbeats 4000000 in
set_option maxRecDepth 100000 in
theorem lc_fewest (hL : L ≤ 320) (C0 : lw_At p s m meth c b L xs) (hK : kK D cI cJ cZ s) (hk : 5 * k + 5 ≤ L) (hT : Two k x y cI cJ cZ w1 w2) (hW : tw D (LA s) w1 w2 H) (hS : va_S (LA s) s.heap H locs) (hl : lv_has ls 4 [(0, .ref b), (1, .ref x), (2, .ref y), (3, .int (nI (5 * k)))]) (kk : ∀ (w1 w2 : va_W) (H : Heap) (locs : List Loc), Two (k + 1) x y cI cJ cZ w1 w2 → tw D (LA s) w1 w2 H → va_S (LA s) s.heap H locs → W p l e room_1 s m #[Value.ref b] below meth c H locs 45 561 (lw_Z below #[Value.ref b] s) (F0 m 933 ls [])) : W p l e room_1 s m #[Value.ref b] below meth c H locs 45 561 (lw_Z below #[Value.ref b] s) (F0 m 432 ls []) := by
  obtain ⟨hx, hb, hr, hml, hown, hts0, hX, hbl, hlocks, hgv⟩ := C0
  have hown : s.vm.findClass RL = some m.cls := hown
  have hts : ∀ w ∈ wsL_law, w.before #[Value.ref b] s = true := fun w h => hts0 w (wsL_law_in w h)
  have hA : ∀ q : Nat, s.heap.size ≤ q → LA s q := fun _ h => h
  have hbA : ¬ LA s b := Nat.not_le.mpr hbl
  obtain ⟨f1, fx⟩ := two_x hT
  obtain ⟨f2, fy⟩ := two_y hT
  refine lv_aload_n hx hb dL_law_432 rfl (lv_at hl 1 rfl) ?_
  refine lv_aload_n hx hb dL_law_433 rfl (lv_at hl 0 rfl) ?_
  refine lv_iload_n hx hb dL_law_434 rfl (lv_at hl 3 rfl) ?_
  refine lv_iconst (v := 1) hx hb dL_law_435 (by decide) ?_
  refine lv_iadd hx hb dL_law_436 ?_
  refine va_sld hx hb hX hbl hbA hS (law_in (j := 1) hk hL (by decide)) dL_law_437 ?_
  obtain ⟨v, w2n, m1, m2, hT1⟩ := lw_fewest l (D := D) hT (by omega) (xs (Int32.toNatClampNeg (nI (5 * k) + 1)))
  refine rcI (va_runV (As := [.int (xs (Int32.toNatClampNeg (nI (5 * k) + 1)))]) (rest := []) ⟨hx, hb, hml, hown, hts⟩ (m1 H hW.1) (cwV 1 hts gL_law_X11_fewest rfl rfl rfl (by decide +kernel) ⟨Nat.le_of_ble_eq_true rfl, Nat.le_of_ble_eq_true rfl⟩) (rPreV hK hW.1 (ci := 4) (q0 := 0) rfl fx) rfl rfl hl.1 rfl (lv_room (Nat.le_of_ble_eq_true rfl)) dL_law_438 ⟨Nat.le_of_ble_eq_true rfl, Nat.le_of_ble_eq_true rfl⟩) ?_
  have hW := tw_symm hW
  refine lv_aload_n hx hb dL_law_441 rfl (lv_at hl 2 rfl) ?_
  refine lv_aload_n hx hb dL_law_442 rfl (lv_at hl 0 rfl) ?_
  refine lv_iload_n hx hb dL_law_443 rfl (lv_at hl 3 rfl) ?_
  refine lv_iconst (v := 1) hx hb dL_law_444 (by decide) ?_
  refine lv_iadd hx hb dL_law_445 ?_
  refine va_sld hx hb hX hbl hbA hS (law_in (j := 1) hk hL (by decide)) dL_law_446 ?_
  refine wcI2 (va_runV (As := [.int (xs (Int32.toNatClampNeg (nI (5 * k) + 1)))]) (rest := [.int v]) ⟨hx, hb, hml, hown, hts⟩ (m2 H.size) (cwV 1 hts gL_law_X12_fewest rfl rfl rfl (by decide +kernel) ⟨Nat.le_of_ble_eq_true rfl, Nat.le_of_ble_eq_true rfl⟩) (wPreV hK hW.1 hW.2.2.1 (ci := 5) (q0 := 0) rfl fy) rfl rfl hl.1 rfl (lv_room (Nat.le_of_ble_eq_true rfl)) dL_law_447 ⟨Nat.le_of_ble_eq_true rfl, Nat.le_of_ble_eq_true rfl⟩) hW hS hA (fun H locs hW hS => ?_)
  have hW := tw_symm hW
  refine lv_icmp_eq (tgt := 933) hx hb dL_law_450 (by decide) (fun _ => ?_) (fun q => absurd rfl q)
  exact kk _ _ _ _ hT1 hW hS
set_option maxHeartbeats 4000000 in
set_option maxRecDepth 100000 in
theorem lc_when (hL : L ≤ 320) (C0 : lw_At p s m meth c b L xs) (hK : kK D cI cJ cZ s) (hk : 5 * k + 5 ≤ L) (hT : Two k x y cI cJ cZ w1 w2) (hW : tw D (LA s) w1 w2 H) (hS : va_S (LA s) s.heap H locs) (hl : lv_has ls 4 [(0, .ref b), (1, .ref x), (2, .ref y), (3, .int (nI (5 * k)))]) (kk : ∀ (w1 w2 : va_W) (H : Heap) (locs : List Loc), Two (k + 1) x y cI cJ cZ w1 w2 → tw D (LA s) w1 w2 H → va_S (LA s) s.heap H locs → W p l e room_1 s m #[Value.ref b] below meth c H locs 45 561 (lw_Z below #[Value.ref b] s) (F0 m 933 ls [])) : W p l e room_1 s m #[Value.ref b] below meth c H locs 45 561 (lw_Z below #[Value.ref b] s) (F0 m 455 ls []) := by
  obtain ⟨hx, hb, hr, hml, hown, hts0, hX, hbl, hlocks, hgv⟩ := C0
  have hown : s.vm.findClass RL = some m.cls := hown
  have hts : ∀ w ∈ wsL_law, w.before #[Value.ref b] s = true := fun w h => hts0 w (wsL_law_in w h)
  have hA : ∀ q : Nat, s.heap.size ≤ q → LA s q := fun _ h => h
  have hbA : ¬ LA s b := Nat.not_le.mpr hbl
  obtain ⟨f1, fx⟩ := two_x hT
  obtain ⟨f2, fy⟩ := two_y hT
  refine lv_aload_n hx hb dL_law_455 rfl (lv_at hl 1 rfl) ?_
  refine lv_aload_n hx hb dL_law_456 rfl (lv_at hl 0 rfl) ?_
  refine lv_iload_n hx hb dL_law_457 rfl (lv_at hl 3 rfl) ?_
  refine lv_iconst (v := 1) hx hb dL_law_458 (by decide) ?_
  refine lv_iadd hx hb dL_law_459 ?_
  refine va_sld hx hb hX hbl hbA hS (law_in (j := 1) hk hL (by decide)) dL_law_460 ?_
  obtain ⟨v, w2n, m1, m2, hT1⟩ := lw_when l (D := D) hT (by omega) (xs (Int32.toNatClampNeg (nI (5 * k) + 1)))
  refine rcI (va_runV (As := [.int (xs (Int32.toNatClampNeg (nI (5 * k) + 1)))]) (rest := []) ⟨hx, hb, hml, hown, hts⟩ (m1 H hW.1) (cwV 1 hts gL_law_X11_when rfl rfl rfl (by decide +kernel) ⟨Nat.le_of_ble_eq_true rfl, Nat.le_of_ble_eq_true rfl⟩) (rPreV hK hW.1 (ci := 4) (q0 := 0) rfl fx) rfl rfl hl.1 rfl (lv_room (Nat.le_of_ble_eq_true rfl)) dL_law_461 ⟨Nat.le_of_ble_eq_true rfl, Nat.le_of_ble_eq_true rfl⟩) ?_
  have hW := tw_symm hW
  refine lv_aload_n hx hb dL_law_464 rfl (lv_at hl 2 rfl) ?_
  refine lv_aload_n hx hb dL_law_465 rfl (lv_at hl 0 rfl) ?_
  refine lv_iload_n hx hb dL_law_466 rfl (lv_at hl 3 rfl) ?_
  refine lv_iconst (v := 1) hx hb dL_law_467 (by decide) ?_
  refine lv_iadd hx hb dL_law_468 ?_
  refine va_sld hx hb hX hbl hbA hS (law_in (j := 1) hk hL (by decide)) dL_law_469 ?_
  refine wcI2 (va_runV (As := [.int (xs (Int32.toNatClampNeg (nI (5 * k) + 1)))]) (rest := [.int v]) ⟨hx, hb, hml, hown, hts⟩ (m2 H.size) (cwV 1 hts gL_law_X12_when rfl rfl rfl (by decide +kernel) ⟨Nat.le_of_ble_eq_true rfl, Nat.le_of_ble_eq_true rfl⟩) (wPreV hK hW.1 hW.2.2.1 (ci := 5) (q0 := 0) rfl fy) rfl rfl hl.1 rfl (lv_room (Nat.le_of_ble_eq_true rfl)) dL_law_470 ⟨Nat.le_of_ble_eq_true rfl, Nat.le_of_ble_eq_true rfl⟩) hW hS hA (fun H locs hW hS => ?_)
  have hW := tw_symm hW
  refine lv_icmp_eq (tgt := 933) hx hb dL_law_473 (by decide) (fun _ => ?_) (fun q => absurd rfl q)
  exact kk _ _ _ _ hT1 hW hS
end LAW
