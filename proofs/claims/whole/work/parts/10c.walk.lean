set_option maxHeartbeats 4000000 in
set_option maxRecDepth 100000 in
theorem c_fl_weightOf (l : Launch) (D : va_G) (cI cJ cZ : ClassId) (g : Nat → Nat) (fPk : Nat → Int32) (fWn : Nat → Int32) (fGw : Nat → Int32) (fGk : Nat → Int32) (fOw : Nat → Int32) (fSt : Nat → Int32) (fPe : Int32) (fHo : Int32) (fGr : Int32) (fPa : Int32) (fFt : Int32)  (H0 : Heap) (hP : va_P D vwCl (fW g cI fPk fWn fGw fGk fOw fSt fPe fHo fGr fPa fFt) H0) (p1 : Int32) (rv : Int32) (h : fl_weightOf fGw p1 = some rv) : Met l yX3_weightOf wsX3_weightOf ({ frames := 0, cells := 0, slots := 0, locals := 0 } : Room) (rPc D cI cJ cZ H0 [.ref (g 0), .int p1]) (vp_Si (fun r => r = rv)) 0 0 (fun _ => False) := by
  unfold fl_weightOf at h
  refine Met.ofW (cc := cX3_weightOf) (maxL := 2) (ret := (some .int)) (by decide) rfl ?_
  intro p e s m args below meth c s₁ B hml hv
  obtain ⟨rfl, hH, hK⟩ := hv
  have hx := B.exec
  have hb := B.bytes
  have hr := B.returns
  have hts := atoms_spec (ws := wsX3_weightOf) B.pre
  have hown : s.vm.findClass RX3 = some m.cls := findClass_of_methodNamed B.named
  have hlocks := B.notSynchronized
  subst hH
  have hl := lv_entry ([.ref (g 0), .int p1]) (n := 2) (Nat.le_of_ble_eq_true rfl)
  rw [lg_entry_eq]
  generalize (lg_sl ([.ref (g 0), .int p1]) ++ List.replicate (2 - (lg_sl ([.ref (g 0), .int p1])).length) Slot.unset).toArray = ls at hl ⊢
  have hl : lv_has ls 2 [(0, .ref (g 0)), (1, .int p1)] := hl
  have hiX3 : ∀ w ∈ u_ws RX3 TX3 11, w ∈ wsX3_weightOf := fun w hw => List.mem_cons_of_mem _ (List.mem_append_right _ hw)
  refine lv_iload_n hx hb dX3_weightOf_0 rfl (lv_at hl 1 rfl) ?_
  refine lv_if_lt (tgt := 22) hx hb dX3_weightOf_1 (by decide) (fun c1 => ?_) (fun c1 => ?_)
  · have h := iT c1 h
    refine lv_iconst (v := 0) hx hb dX3_weightOf_22 (by decide) ?_
    exact W.iret hx hb hr (fun t ht _ => ⟨_, rfl, Option.some.inj h, ht⟩) (fun _ q => absurd q List.not_mem_nil) dX3_weightOf_23
  · have h := iF c1 h
    refine lv_iload_n hx hb dX3_weightOf_4 rfl (lv_at hl 1 rfl) ?_
    refine lv_aload_n hx hb dX3_weightOf_5 rfl (lv_at hl 0 rfl) ?_
    refine va_get (D := D) (ci := 2) (v := .ref (g 3)) (C := RX3) (T := TX3) (N := 11) hx hb hts hiX3 hown hK.1 hP 0 rfl rfl 2 (by decide) (hts (.fieldLink RX3 18 "WinnowedGuilt$Floor" "grainWeights" "[I") (by decide +kernel)) (fun _ h9 => h9) rfl dX3_weightOf_6 ?_
    refine va_alen (v := 7) hx hb hK.1 hP 3 0 rfl rfl rfl dX3_weightOf_9 ?_
    refine lv_icmp_ge (tgt := 22) hx hb dX3_weightOf_10 (by decide) (fun c2 => ?_) (fun c2 => ?_)
    · have h := iT c2 h
      refine lv_iconst (v := 0) hx hb dX3_weightOf_22 (by decide) ?_
      exact W.iret hx hb hr (fun t ht _ => ⟨_, rfl, Option.some.inj h, ht⟩) (fun _ q => absurd q List.not_mem_nil) dX3_weightOf_23
    · have h := iF c2 h
      refine lv_aload_n hx hb dX3_weightOf_13 rfl (lv_at hl 0 rfl) ?_
      refine va_get (D := D) (ci := 2) (v := .ref (g 3)) (C := RX3) (T := TX3) (N := 11) hx hb hts hiX3 hown hK.1 hP 0 rfl rfl 2 (by decide) (hts (.fieldLink RX3 18 "WinnowedGuilt$Floor" "grainWeights" "[I") (by decide +kernel)) (fun _ h9 => h9) rfl dX3_weightOf_14 ?_
      refine lv_iload_n hx hb dX3_weightOf_17 rfl (lv_at hl 1 rfl) ?_
      obtain ⟨hi3, h⟩ := gI_some h
      refine ldI (v := (fGw (Int32.toNatClampNeg p1))) hx hb hK.1 hP 3 rfl rfl hi3 rfl dX3_weightOf_18 ?_
      refine lv_goto (tgt := 23) hx hb dX3_weightOf_19 (by decide) ?_
      exact W.iret hx hb hr (fun t ht _ => ⟨_, rfl, Option.some.inj h, ht⟩) (fun _ q => absurd q List.not_mem_nil) dX3_weightOf_23

set_option maxHeartbeats 4000000 in
set_option maxRecDepth 100000 in
theorem c_fl_weightOfBits (l : Launch) (D : va_G) (cI cJ cZ : ClassId) (g : Nat → Nat) (fPk : Nat → Int32) (fWn : Nat → Int32) (fGw : Nat → Int32) (fGk : Nat → Int32) (fOw : Nat → Int32) (fSt : Nat → Int32) (fPe : Int32) (fHo : Int32) (fGr : Int32) (fPa : Int32) (fFt : Int32)  (H0 : Heap) (hP : va_P D vwCl (fW g cI fPk fWn fGw fGk fOw fSt fPe fHo fGr fPa fFt) H0) (p1 : Int32) (rv : Int32) (h : fl_weightOfBits fGw fGr p1 = some rv) : Met l yX3_weightOfBits wsX3_weightOfBits ({ frames := 1, cells := 0, slots := 0, locals := 21 } : Room) (rPc D cI cJ cZ H0 [.ref (g 0), .int p1]) (vp_Si (fun r => r = rv)) 0 0 (fun _ => False) := by
  unfold fl_weightOfBits at h
  refine Met.ofW (cc := cX3_weightOfBits) (maxL := 4) (ret := (some .int)) (by decide) rfl ?_
  intro p e s m args below meth c s₁ B hml hv
  obtain ⟨rfl, hH, hK⟩ := hv
  have hx := B.exec
  have hb := B.bytes
  have hr := B.returns
  have hts := atoms_spec (ws := wsX3_weightOfBits) B.pre
  have hown : s.vm.findClass RX3 = some m.cls := findClass_of_methodNamed B.named
  have hlocks := B.notSynchronized
  subst hH
  have hl := lv_entry ([.ref (g 0), .int p1]) (n := 4) (Nat.le_of_ble_eq_true rfl)
  rw [lg_entry_eq]
  generalize (lg_sl ([.ref (g 0), .int p1]) ++ List.replicate (4 - (lg_sl ([.ref (g 0), .int p1])).length) Slot.unset).toArray = ls at hl ⊢
  have hl : lv_has ls 4 [(0, .ref (g 0)), (1, .int p1)] := hl
  have hiX3 : ∀ w ∈ u_ws RX3 TX3 11, w ∈ wsX3_weightOfBits := fun w hw => List.mem_cons_of_mem _ (List.mem_append_right _ hw)
  refine lv_iconst (v := 0) hx hb dX3_weightOfBits_0 (by decide) ?_
  refine lv_istore_n (lv' := [(2, .int 0), (0, .ref (g 0)), (1, .int p1)]) hx hb dX3_weightOfBits_1 rfl hl (by decide) rfl (fun ls hl => ?_)
  refine lv_iconst (v := 0) hx hb dX3_weightOfBits_2 (by decide) ?_
  refine lv_istore_n (lv' := [(3, .int 0), (2, .int 0), (0, .ref (g 0)), (1, .int p1)]) hx hb dX3_weightOfBits_3 rfl hl (by decide) rfl (fun ls hl => ?_)
  have L4 : ∀ (n : Nat) (x3_4 : Int32) (x2_4 : Int32) (ls : Array Slot) (kx : Int32 → Int32 → Option (Int32)), fl_weightOfBits_L4 fGw fGr p1 kx n x3_4 x2_4 = some rv → lv_has ls 4 [(3, .int x3_4), (2, .int x2_4), (0, .ref (g 0)), (1, .int p1)] → (∀ (y3_4 : Int32) (y2_4 : Int32) (ls : Array Slot), kx y3_4 y2_4 = some rv → lv_has ls 4 [(3, .int y3_4), (2, .int y2_4), (0, .ref (g 0)), (1, .int p1)] → W p l e (headSpec wsX3_weightOfBits ({ frames := 1, cells := 0, slots := 0, locals := 21 } : Room)).room s m ([.ref (g 0), .int p1] : List Value).toArray below meth c s.heap [] 0 0 (MQ below (vp_Si (fun r => r = rv)) ([.ref (g 0), .int p1] : List Value).toArray s 0 0 (fun _ => False)) (F0 m 35 ls [])) → W p l e (headSpec wsX3_weightOfBits ({ frames := 1, cells := 0, slots := 0, locals := 21 } : Room)).room s m ([.ref (g 0), .int p1] : List Value).toArray below meth c s.heap [] 0 0 (MQ below (vp_Si (fun r => r = rv)) ([.ref (g 0), .int p1] : List Value).toArray s 0 0 (fun _ => False)) (F0 m 4 ls []) := by
    intro n
    induction n with
    | zero => intro _ _ _ _ h; rw [fl_weightOfBits_L4.eq_1] at h; cases h
    | succ n ih =>
      intro x3_4 x2_4 ls kx h hl hk
      rw [fl_weightOfBits_L4.eq_2] at h
      refine lv_iload_n hx hb dX3_weightOfBits_4 rfl (lv_at hl 0 rfl) ?_
      refine lv_aload_n hx hb dX3_weightOfBits_5 rfl (lv_at hl 2 rfl) ?_
      refine va_get (D := D) (ci := 2) (v := .int fGr) (C := RX3) (T := TX3) (N := 11) hx hb hts hiX3 hown hK.1 hP 0 rfl rfl 8 (by decide) (hts (.fieldLink RX3 37 "WinnowedGuilt$Floor" "grains" "I") (by decide +kernel)) (fun _ h9 => h9) rfl dX3_weightOfBits_6 ?_
      refine lv_icmp_ge (tgt := 35) hx hb dX3_weightOfBits_9 (by decide) (fun c1 => ?_) (fun c1 => ?_)
      · have h := iT c1 h
        exact hk _ _ _ h (lv_sub hl [0, 1, 2, 3] rfl)
      · have h := iF c1 h
        refine lv_iload_n hx hb dX3_weightOfBits_12 rfl (lv_at hl 3 rfl) ?_
        refine lv_iload_n hx hb dX3_weightOfBits_13 rfl (lv_at hl 0 rfl) ?_
        refine lv_ishr hx hb dX3_weightOfBits_14 ?_
        refine lv_iconst (v := 1) hx hb dX3_weightOfBits_15 (by decide) ?_
        refine lv_iand hx hb dX3_weightOfBits_16 ?_
        refine lv_iconst (v := 1) hx hb dX3_weightOfBits_17 (by decide) ?_
        refine lv_icmp_ne (tgt := 29) hx hb dX3_weightOfBits_18 (by decide) (fun c2 => ?_) (fun c2 => ?_)
        · have h := iF c2 h
          refine lv_iinc (v := (x3_4 + 1)) (lv' := [(3, .int (x3_4 + 1)), (2, .int x2_4), (0, .ref (g 0)), (1, .int p1)]) hx hb dX3_weightOfBits_29 hl (k := 0) rfl rfl (by decide) rfl (fun ls hl => ?_)
          refine lv_goto (tgt := 4) hx hb dX3_weightOfBits_32 (by decide) ?_
          exact ih _ _ _ _ h (lv_sub hl [0, 1, 2, 3] rfl) hk
        · have h := iT c2 h
          refine lv_iload_n hx hb dX3_weightOfBits_21 rfl (lv_at hl 1 rfl) ?_
          refine lv_aload_n hx hb dX3_weightOfBits_22 rfl (lv_at hl 2 rfl) ?_
          refine lv_iload_n hx hb dX3_weightOfBits_23 rfl (lv_at hl 0 rfl) ?_
          obtain ⟨q3, hq3, h⟩ := bS h
          refine rcI (va_runV (As := [.int x3_4]) (rest := [.int x2_4]) ⟨hx, hb, hml, hown, hts⟩ (c_fl_weightOf l D cI cJ cZ g fPk fWn fGw fGk fOw fSt fPe fHo fGr fPa fFt s.heap hP x3_4 q3 hq3) (cwV 1 hts gX3_weightOfBits_X3_weightOf rfl rfl rfl (by decide +kernel) ⟨Nat.le_of_ble_eq_true rfl, Nat.le_of_ble_eq_true rfl⟩) (rPreV hK hP (ci := 2) (q0 := 0) rfl rfl) rfl rfl hl.1 rfl (lv_room (Nat.le_of_ble_eq_true rfl)) dX3_weightOfBits_24 ⟨Nat.zero_le _, Nat.zero_le _⟩) ?_
          refine lv_iadd hx hb dX3_weightOfBits_27 ?_
          refine lv_istore_n (lv' := [(2, .int (x2_4 + q3)), (3, .int x3_4), (0, .ref (g 0)), (1, .int p1)]) hx hb dX3_weightOfBits_28 rfl hl (by decide) rfl (fun ls hl => ?_)
          refine lv_iinc (v := (x3_4 + 1)) (lv' := [(3, .int (x3_4 + 1)), (2, .int (x2_4 + q3)), (0, .ref (g 0)), (1, .int p1)]) hx hb dX3_weightOfBits_29 hl (k := 1) rfl rfl (by decide) rfl (fun ls hl => ?_)
          refine lv_goto (tgt := 4) hx hb dX3_weightOfBits_32 (by decide) ?_
          exact ih _ _ _ _ h (lv_sub hl [0, 1, 2, 3] rfl) hk
  refine L4 _ _ _ _ _ h hl (fun y3_4 y2_4 ls h hl => ?_)
  refine lv_iload_n hx hb dX3_weightOfBits_35 rfl (lv_at hl 1 rfl) ?_
  exact W.iret hx hb hr (fun t ht _ => ⟨_, rfl, Option.some.inj h, ht⟩) (fun _ q => absurd q List.not_mem_nil) dX3_weightOfBits_36

set_option maxHeartbeats 4000000 in
set_option maxRecDepth 100000 in
theorem c_fl_grainKind (l : Launch) (D : va_G) (cI cJ cZ : ClassId) (g : Nat → Nat) (fPk : Nat → Int32) (fWn : Nat → Int32) (fGw : Nat → Int32) (fGk : Nat → Int32) (fOw : Nat → Int32) (fSt : Nat → Int32) (fPe : Int32) (fHo : Int32) (fGr : Int32) (fPa : Int32) (fFt : Int32)  (H0 : Heap) (hP : va_P D vwCl (fW g cI fPk fWn fGw fGk fOw fSt fPe fHo fGr fPa fFt) H0) (p1 : Int32) (rv : Int32) (h : fl_grainKind fGk p1 = some rv) : Met l yX3_grainKind wsX3_grainKind ({ frames := 0, cells := 0, slots := 0, locals := 0 } : Room) (rPc D cI cJ cZ H0 [.ref (g 0), .int p1]) (vp_Si (fun r => r = rv)) 0 0 (fun _ => False) := by
  unfold fl_grainKind at h
  refine Met.ofW (cc := cX3_grainKind) (maxL := 2) (ret := (some .int)) (by decide) rfl ?_
  intro p e s m args below meth c s₁ B hml hv
  obtain ⟨rfl, hH, hK⟩ := hv
  have hx := B.exec
  have hb := B.bytes
  have hr := B.returns
  have hts := atoms_spec (ws := wsX3_grainKind) B.pre
  have hown : s.vm.findClass RX3 = some m.cls := findClass_of_methodNamed B.named
  have hlocks := B.notSynchronized
  subst hH
  have hl := lv_entry ([.ref (g 0), .int p1]) (n := 2) (Nat.le_of_ble_eq_true rfl)
  rw [lg_entry_eq]
  generalize (lg_sl ([.ref (g 0), .int p1]) ++ List.replicate (2 - (lg_sl ([.ref (g 0), .int p1])).length) Slot.unset).toArray = ls at hl ⊢
  have hl : lv_has ls 2 [(0, .ref (g 0)), (1, .int p1)] := hl
  have hiX3 : ∀ w ∈ u_ws RX3 TX3 11, w ∈ wsX3_grainKind := fun w hw => List.mem_cons_of_mem _ (List.mem_append_right _ hw)
  refine lv_iload_n hx hb dX3_grainKind_0 rfl (lv_at hl 1 rfl) ?_
  refine lv_if_lt (tgt := 22) hx hb dX3_grainKind_1 (by decide) (fun c1 => ?_) (fun c1 => ?_)
  · have h := iT c1 h
    refine lv_bipush (v := (-9)) hx hb dX3_grainKind_22 (by decide) ?_
    exact W.iret hx hb hr (fun t ht _ => ⟨_, rfl, Option.some.inj h, ht⟩) (fun _ q => absurd q List.not_mem_nil) dX3_grainKind_24
  · have h := iF c1 h
    refine lv_iload_n hx hb dX3_grainKind_4 rfl (lv_at hl 1 rfl) ?_
    refine lv_aload_n hx hb dX3_grainKind_5 rfl (lv_at hl 0 rfl) ?_
    refine va_get (D := D) (ci := 2) (v := .ref (g 4)) (C := RX3) (T := TX3) (N := 11) hx hb hts hiX3 hown hK.1 hP 0 rfl rfl 3 (by decide) (hts (.fieldLink RX3 21 "WinnowedGuilt$Floor" "grainKinds" "[I") (by decide +kernel)) (fun _ h9 => h9) rfl dX3_grainKind_6 ?_
    refine va_alen (v := 7) hx hb hK.1 hP 4 0 rfl rfl rfl dX3_grainKind_9 ?_
    refine lv_icmp_ge (tgt := 22) hx hb dX3_grainKind_10 (by decide) (fun c2 => ?_) (fun c2 => ?_)
    · have h := iT c2 h
      refine lv_bipush (v := (-9)) hx hb dX3_grainKind_22 (by decide) ?_
      exact W.iret hx hb hr (fun t ht _ => ⟨_, rfl, Option.some.inj h, ht⟩) (fun _ q => absurd q List.not_mem_nil) dX3_grainKind_24
    · have h := iF c2 h
      refine lv_aload_n hx hb dX3_grainKind_13 rfl (lv_at hl 0 rfl) ?_
      refine va_get (D := D) (ci := 2) (v := .ref (g 4)) (C := RX3) (T := TX3) (N := 11) hx hb hts hiX3 hown hK.1 hP 0 rfl rfl 3 (by decide) (hts (.fieldLink RX3 21 "WinnowedGuilt$Floor" "grainKinds" "[I") (by decide +kernel)) (fun _ h9 => h9) rfl dX3_grainKind_14 ?_
      refine lv_iload_n hx hb dX3_grainKind_17 rfl (lv_at hl 1 rfl) ?_
      obtain ⟨hi3, h⟩ := gI_some h
      refine ldI (v := (fGk (Int32.toNatClampNeg p1))) hx hb hK.1 hP 4 rfl rfl hi3 rfl dX3_grainKind_18 ?_
      refine lv_goto (tgt := 24) hx hb dX3_grainKind_19 (by decide) ?_
      exact W.iret hx hb hr (fun t ht _ => ⟨_, rfl, Option.some.inj h, ht⟩) (fun _ q => absurd q List.not_mem_nil) dX3_grainKind_24

set_option maxHeartbeats 4000000 in
set_option maxRecDepth 100000 in
theorem c_fl_guiltOfBits (l : Launch) (D : va_G) (cI cJ cZ : ClassId) (g : Nat → Nat) (fPk : Nat → Int32) (fWn : Nat → Int32) (fGw : Nat → Int32) (fGk : Nat → Int32) (fOw : Nat → Int32) (fSt : Nat → Int32) (fPe : Int32) (fHo : Int32) (fGr : Int32) (fPa : Int32) (fFt : Int32)  (H0 : Heap) (hP : va_P D vwCl (fW g cI fPk fWn fGw fGk fOw fSt fPe fHo fGr fPa fFt) H0) (p1 : Int32) (rv : Int32) (h : fl_guiltOfBits fGw fGk fGr p1 = some rv) : Met l yX3_guiltOfBits wsX3_guiltOfBits ({ frames := 2, cells := 0, slots := 0, locals := 44 } : Room) (rPc D cI cJ cZ H0 [.ref (g 0), .int p1]) (vp_Si (fun r => r = rv)) 0 0 (fun _ => False) := by
  unfold fl_guiltOfBits at h
  refine Met.ofW (cc := cX3_guiltOfBits) (maxL := 4) (ret := (some .int)) (by decide) rfl ?_
  intro p e s m args below meth c s₁ B hml hv
  obtain ⟨rfl, hH, hK⟩ := hv
  have hx := B.exec
  have hb := B.bytes
  have hr := B.returns
  have hts := atoms_spec (ws := wsX3_guiltOfBits) B.pre
  have hown : s.vm.findClass RX3 = some m.cls := findClass_of_methodNamed B.named
  have hlocks := B.notSynchronized
  subst hH
  have hl := lv_entry ([.ref (g 0), .int p1]) (n := 4) (Nat.le_of_ble_eq_true rfl)
  rw [lg_entry_eq]
  generalize (lg_sl ([.ref (g 0), .int p1]) ++ List.replicate (4 - (lg_sl ([.ref (g 0), .int p1])).length) Slot.unset).toArray = ls at hl ⊢
  have hl : lv_has ls 4 [(0, .ref (g 0)), (1, .int p1)] := hl
  have hiX3 : ∀ w ∈ u_ws RX3 TX3 11, w ∈ wsX3_guiltOfBits := fun w hw => List.mem_cons_of_mem _ (List.mem_append_right _ hw)
  refine lv_iload_n hx hb dX3_guiltOfBits_0 rfl (lv_at hl 1 rfl) ?_
  refine lv_istore_n (lv' := [(2, .int p1), (0, .ref (g 0)), (1, .int p1)]) hx hb dX3_guiltOfBits_1 rfl hl (by decide) rfl (fun ls hl => ?_)
  refine lv_iconst (v := 0) hx hb dX3_guiltOfBits_2 (by decide) ?_
  refine lv_istore_n (lv' := [(3, .int 0), (2, .int p1), (0, .ref (g 0)), (1, .int p1)]) hx hb dX3_guiltOfBits_3 rfl hl (by decide) rfl (fun ls hl => ?_)
  have L4 : ∀ (n : Nat) (x3_4 : Int32) (x2_4 : Int32) (ls : Array Slot) (kx : Int32 → Int32 → Option (Int32)), fl_guiltOfBits_L4 fGk fGr kx n x3_4 x2_4 = some rv → lv_has ls 4 [(3, .int x3_4), (2, .int x2_4), (0, .ref (g 0)), (1, .int p1)] → (∀ (y3_4 : Int32) (y2_4 : Int32) (ls : Array Slot), kx y3_4 y2_4 = some rv → lv_has ls 4 [(3, .int y3_4), (2, .int y2_4), (0, .ref (g 0)), (1, .int p1)] → W p l e (headSpec wsX3_guiltOfBits ({ frames := 2, cells := 0, slots := 0, locals := 44 } : Room)).room s m ([.ref (g 0), .int p1] : List Value).toArray below meth c s.heap [] 0 0 (MQ below (vp_Si (fun r => r = rv)) ([.ref (g 0), .int p1] : List Value).toArray s 0 0 (fun _ => False)) (F0 m 35 ls [])) → W p l e (headSpec wsX3_guiltOfBits ({ frames := 2, cells := 0, slots := 0, locals := 44 } : Room)).room s m ([.ref (g 0), .int p1] : List Value).toArray below meth c s.heap [] 0 0 (MQ below (vp_Si (fun r => r = rv)) ([.ref (g 0), .int p1] : List Value).toArray s 0 0 (fun _ => False)) (F0 m 4 ls []) := by
    intro n
    induction n with
    | zero => intro _ _ _ _ h; rw [fl_guiltOfBits_L4.eq_1] at h; cases h
    | succ n ih =>
      intro x3_4 x2_4 ls kx h hl hk
      rw [fl_guiltOfBits_L4.eq_2] at h
      refine lv_iload_n hx hb dX3_guiltOfBits_4 rfl (lv_at hl 0 rfl) ?_
      refine lv_aload_n hx hb dX3_guiltOfBits_5 rfl (lv_at hl 2 rfl) ?_
      refine va_get (D := D) (ci := 2) (v := .int fGr) (C := RX3) (T := TX3) (N := 11) hx hb hts hiX3 hown hK.1 hP 0 rfl rfl 8 (by decide) (hts (.fieldLink RX3 37 "WinnowedGuilt$Floor" "grains" "I") (by decide +kernel)) (fun _ h9 => h9) rfl dX3_guiltOfBits_6 ?_
      refine lv_icmp_ge (tgt := 35) hx hb dX3_guiltOfBits_9 (by decide) (fun c1 => ?_) (fun c1 => ?_)
      · have h := iT c1 h
        exact hk _ _ _ h (lv_sub hl [0, 1, 2, 3] rfl)
      · have h := iF c1 h
        refine lv_aload_n hx hb dX3_guiltOfBits_12 rfl (lv_at hl 2 rfl) ?_
        refine lv_iload_n hx hb dX3_guiltOfBits_13 rfl (lv_at hl 0 rfl) ?_
        obtain ⟨q2, hq2, h⟩ := bS h
        refine rcI (va_runV (As := [.int x3_4]) (rest := []) ⟨hx, hb, hml, hown, hts⟩ (c_fl_grainKind l D cI cJ cZ g fPk fWn fGw fGk fOw fSt fPe fHo fGr fPa fFt s.heap hP x3_4 q2 hq2) (cwV 1 hts gX3_guiltOfBits_X3_grainKind rfl rfl rfl (by decide +kernel) ⟨Nat.le_of_ble_eq_true rfl, Nat.le_of_ble_eq_true rfl⟩) (rPreV hK hP (ci := 2) (q0 := 0) rfl rfl) rfl rfl hl.1 rfl (lv_room (Nat.le_of_ble_eq_true rfl)) dX3_guiltOfBits_14 ⟨Nat.zero_le _, Nat.zero_le _⟩) ?_
        refine lv_iconst (v := 1) hx hb dX3_guiltOfBits_17 (by decide) ?_
        refine lv_icmp_ne (tgt := 29) hx hb dX3_guiltOfBits_18 (by decide) (fun c3 => ?_) (fun c3 => ?_)
        · have h := iF c3 h
          refine lv_iinc (v := (x3_4 + 1)) (lv' := [(3, .int (x3_4 + 1)), (2, .int x2_4), (0, .ref (g 0)), (1, .int p1)]) hx hb dX3_guiltOfBits_29 hl (k := 0) rfl rfl (by decide) rfl (fun ls hl => ?_)
          refine lv_goto (tgt := 4) hx hb dX3_guiltOfBits_32 (by decide) ?_
          exact ih _ _ _ _ h (lv_sub hl [0, 1, 2, 3] rfl) hk
        · have h := iT c3 h
          refine lv_iload_n hx hb dX3_guiltOfBits_21 rfl (lv_at hl 1 rfl) ?_
          refine lv_iconst (v := 1) hx hb dX3_guiltOfBits_22 (by decide) ?_
          refine lv_iload_n hx hb dX3_guiltOfBits_23 rfl (lv_at hl 0 rfl) ?_
          refine lv_ishl hx hb dX3_guiltOfBits_24 ?_
          refine lv_iconst (v := (-1)) hx hb dX3_guiltOfBits_25 (by decide) ?_
          refine lv_ixor hx hb dX3_guiltOfBits_26 ?_
          refine lv_iand hx hb dX3_guiltOfBits_27 ?_
          refine lv_istore_n (lv' := [(2, .int (x2_4 &&& ((1 <<< (x3_4 &&& 31)) ^^^ (-1)))), (3, .int x3_4), (0, .ref (g 0)), (1, .int p1)]) hx hb dX3_guiltOfBits_28 rfl hl (by decide) rfl (fun ls hl => ?_)
          refine lv_iinc (v := (x3_4 + 1)) (lv' := [(3, .int (x3_4 + 1)), (2, .int (x2_4 &&& ((1 <<< (x3_4 &&& 31)) ^^^ (-1)))), (0, .ref (g 0)), (1, .int p1)]) hx hb dX3_guiltOfBits_29 hl (k := 1) rfl rfl (by decide) rfl (fun ls hl => ?_)
          refine lv_goto (tgt := 4) hx hb dX3_guiltOfBits_32 (by decide) ?_
          exact ih _ _ _ _ h (lv_sub hl [0, 1, 2, 3] rfl) hk
  refine L4 _ _ _ _ _ h hl (fun y3_4 y2_4 ls h hl => ?_)
  refine lv_aload_n hx hb dX3_guiltOfBits_35 rfl (lv_at hl 2 rfl) ?_
  refine lv_iload_n hx hb dX3_guiltOfBits_36 rfl (lv_at hl 1 rfl) ?_
  obtain ⟨q1, hq1, h⟩ := bS h
  refine rcI (va_runV (As := [.int y2_4]) (rest := []) ⟨hx, hb, hml, hown, hts⟩ (c_fl_weightOfBits l D cI cJ cZ g fPk fWn fGw fGk fOw fSt fPe fHo fGr fPa fFt s.heap hP y2_4 q1 hq1) (cwV 1 hts gX3_guiltOfBits_X3_weightOfBits rfl rfl rfl (by decide +kernel) ⟨Nat.le_of_ble_eq_true rfl, Nat.le_of_ble_eq_true rfl⟩) (rPreV hK hP (ci := 2) (q0 := 0) rfl rfl) rfl rfl hl.1 rfl (lv_room (Nat.le_of_ble_eq_true rfl)) dX3_guiltOfBits_37 ⟨Nat.zero_le _, Nat.zero_le _⟩) ?_
  exact W.iret hx hb hr (fun t ht _ => ⟨_, rfl, Option.some.inj h, ht⟩) (fun _ q => absurd q List.not_mem_nil) dX3_guiltOfBits_40

set_option maxHeartbeats 4000000 in
set_option maxRecDepth 100000 in
theorem c_fl_guiltOf (l : Launch) (D : va_G) (cI cJ cZ : ClassId) (g : Nat → Nat) (fPk : Nat → Int32) (fWn : Nat → Int32) (fGw : Nat → Int32) (fGk : Nat → Int32) (fOw : Nat → Int32) (fSt : Nat → Int32) (fPe : Int32) (fHo : Int32) (fGr : Int32) (fPa : Int32) (fFt : Int32)  (H0 : Heap) (hP : va_P D vwCl (fW g cI fPk fWn fGw fGk fOw fSt fPe fHo fGr fPa fFt) H0) (p1 : Int64) (p3 : Int32) (rv : Int32) (h : fl_guiltOf fGw fGk fGr p1 p3 = some rv) : Met l yX3_guiltOf wsX3_guiltOf ({ frames := 3, cells := 0, slots := 0, locals := 67 } : Room) (rPc D cI cJ cZ H0 [.ref (g 0), .long p1, .int p3]) (vp_Si (fun r => r = rv)) 0 0 (fun _ => False) := by
  unfold fl_guiltOf at h
  refine Met.ofW (cc := cX3_guiltOf) (maxL := 4) (ret := (some .int)) (by decide) rfl ?_
  intro p e s m args below meth c s₁ B hml hv
  obtain ⟨rfl, hH, hK⟩ := hv
  have hx := B.exec
  have hb := B.bytes
  have hr := B.returns
  have hts := atoms_spec (ws := wsX3_guiltOf) B.pre
  have hown : s.vm.findClass RX3 = some m.cls := findClass_of_methodNamed B.named
  have hlocks := B.notSynchronized
  subst hH
  have hl := lv_entry ([.ref (g 0), .long p1, .int p3]) (n := 4) (Nat.le_of_ble_eq_true rfl)
  rw [lg_entry_eq]
  generalize (lg_sl ([.ref (g 0), .long p1, .int p3]) ++ List.replicate (4 - (lg_sl ([.ref (g 0), .long p1, .int p3])).length) Slot.unset).toArray = ls at hl ⊢
  have hl : lv_has ls 4 [(0, .ref (g 0)), (1, .long p1), (3, .int p3)] := hl
  refine lv_aload_n hx hb dX3_guiltOf_0 rfl (lv_at hl 0 rfl) ?_
  refine lv_aload_n hx hb dX3_guiltOf_1 rfl (lv_at hl 0 rfl) ?_
  refine lv_lload_n hx hb dX3_guiltOf_2 rfl (lv_at hl 1 rfl) ?_
  refine lv_iload_n hx hb dX3_guiltOf_3 rfl (lv_at hl 2 rfl) ?_
  obtain ⟨q1, hq1, h⟩ := bS h
  refine rcI (va_runV (As := [.long p1, .int p3]) (rest := [.ref (g 0)]) ⟨hx, hb, hml, hown, hts⟩ (c_fl_lyingBits l D cI cJ cZ g fPk fWn fGw fGk fOw fSt fPe fHo fGr fPa fFt s.heap hP p1 p3 q1 hq1) (cwV 2 hts gX3_guiltOf_X3_lyingBits rfl rfl rfl (by decide +kernel) ⟨Nat.le_of_ble_eq_true rfl, Nat.le_of_ble_eq_true rfl⟩) (rPreV hK hP (ci := 2) (q0 := 0) rfl rfl) rfl rfl hl.1 rfl (lv_room (Nat.le_of_ble_eq_true rfl)) dX3_guiltOf_4 ⟨Nat.zero_le _, Nat.zero_le _⟩) ?_
  obtain ⟨q2, hq2, h⟩ := bS h
  refine rcI (va_runV (As := [.int q1]) (rest := []) ⟨hx, hb, hml, hown, hts⟩ (c_fl_guiltOfBits l D cI cJ cZ g fPk fWn fGw fGk fOw fSt fPe fHo fGr fPa fFt s.heap hP q1 q2 hq2) (cwV 1 hts gX3_guiltOf_X3_guiltOfBits rfl rfl rfl (by decide +kernel) ⟨Nat.le_of_ble_eq_true rfl, Nat.le_of_ble_eq_true rfl⟩) (rPreV hK hP (ci := 2) (q0 := 0) rfl rfl) rfl rfl hl.1 rfl (lv_room (Nat.le_of_ble_eq_true rfl)) dX3_guiltOf_7 ⟨Nat.zero_le _, Nat.zero_le _⟩) ?_
  exact W.iret hx hb hr (fun t ht _ => ⟨_, rfl, Option.some.inj h, ht⟩) (fun _ q => absurd q List.not_mem_nil) dX3_guiltOf_10

set_option maxHeartbeats 4000000 in
set_option maxRecDepth 100000 in
theorem c_fl_ownerOf (l : Launch) (D : va_G) (cI cJ cZ : ClassId) (g : Nat → Nat) (fPk : Nat → Int32) (fWn : Nat → Int32) (fGw : Nat → Int32) (fGk : Nat → Int32) (fOw : Nat → Int32) (fSt : Nat → Int32) (fPe : Int32) (fHo : Int32) (fGr : Int32) (fPa : Int32) (fFt : Int32)  (H0 : Heap) (hP : va_P D vwCl (fW g cI fPk fWn fGw fGk fOw fSt fPe fHo fGr fPa fFt) H0) (p1 : Int32) (rv : Int32) (h : fl_ownerOf fOw p1 = some rv) : Met l yX3_ownerOf wsX3_ownerOf ({ frames := 0, cells := 0, slots := 0, locals := 0 } : Room) (rPc D cI cJ cZ H0 [.ref (g 0), .int p1]) (vp_Si (fun r => r = rv)) 0 0 (fun _ => False) := by
  unfold fl_ownerOf at h
  refine Met.ofW (cc := cX3_ownerOf) (maxL := 2) (ret := (some .int)) (by decide) rfl ?_
  intro p e s m args below meth c s₁ B hml hv
  obtain ⟨rfl, hH, hK⟩ := hv
  have hx := B.exec
  have hb := B.bytes
  have hr := B.returns
  have hts := atoms_spec (ws := wsX3_ownerOf) B.pre
  have hown : s.vm.findClass RX3 = some m.cls := findClass_of_methodNamed B.named
  have hlocks := B.notSynchronized
  subst hH
  have hl := lv_entry ([.ref (g 0), .int p1]) (n := 2) (Nat.le_of_ble_eq_true rfl)
  rw [lg_entry_eq]
  generalize (lg_sl ([.ref (g 0), .int p1]) ++ List.replicate (2 - (lg_sl ([.ref (g 0), .int p1])).length) Slot.unset).toArray = ls at hl ⊢
  have hl : lv_has ls 2 [(0, .ref (g 0)), (1, .int p1)] := hl
  have hiX3 : ∀ w ∈ u_ws RX3 TX3 11, w ∈ wsX3_ownerOf := fun w hw => List.mem_cons_of_mem _ (List.mem_append_right _ hw)
  refine lv_iload_n hx hb dX3_ownerOf_0 rfl (lv_at hl 1 rfl) ?_
  refine lv_if_lt (tgt := 22) hx hb dX3_ownerOf_1 (by decide) (fun c1 => ?_) (fun c1 => ?_)
  · have h := iT c1 h
    refine lv_bipush (v := (-9)) hx hb dX3_ownerOf_22 (by decide) ?_
    exact W.iret hx hb hr (fun t ht _ => ⟨_, rfl, Option.some.inj h, ht⟩) (fun _ q => absurd q List.not_mem_nil) dX3_ownerOf_24
  · have h := iF c1 h
    refine lv_iload_n hx hb dX3_ownerOf_4 rfl (lv_at hl 1 rfl) ?_
    refine lv_aload_n hx hb dX3_ownerOf_5 rfl (lv_at hl 0 rfl) ?_
    refine va_get (D := D) (ci := 2) (v := .ref (g 5)) (C := RX3) (T := TX3) (N := 11) hx hb hts hiX3 hown hK.1 hP 0 rfl rfl 4 (by decide) (hts (.fieldLink RX3 24 "WinnowedGuilt$Floor" "owners" "[I") (by decide +kernel)) (fun _ h9 => h9) rfl dX3_ownerOf_6 ?_
    refine va_alen (v := 7) hx hb hK.1 hP 5 0 rfl rfl rfl dX3_ownerOf_9 ?_
    refine lv_icmp_ge (tgt := 22) hx hb dX3_ownerOf_10 (by decide) (fun c2 => ?_) (fun c2 => ?_)
    · have h := iT c2 h
      refine lv_bipush (v := (-9)) hx hb dX3_ownerOf_22 (by decide) ?_
      exact W.iret hx hb hr (fun t ht _ => ⟨_, rfl, Option.some.inj h, ht⟩) (fun _ q => absurd q List.not_mem_nil) dX3_ownerOf_24
    · have h := iF c2 h
      refine lv_aload_n hx hb dX3_ownerOf_13 rfl (lv_at hl 0 rfl) ?_
      refine va_get (D := D) (ci := 2) (v := .ref (g 5)) (C := RX3) (T := TX3) (N := 11) hx hb hts hiX3 hown hK.1 hP 0 rfl rfl 4 (by decide) (hts (.fieldLink RX3 24 "WinnowedGuilt$Floor" "owners" "[I") (by decide +kernel)) (fun _ h9 => h9) rfl dX3_ownerOf_14 ?_
      refine lv_iload_n hx hb dX3_ownerOf_17 rfl (lv_at hl 1 rfl) ?_
      obtain ⟨hi3, h⟩ := gI_some h
      refine ldI (v := (fOw (Int32.toNatClampNeg p1))) hx hb hK.1 hP 5 rfl rfl hi3 rfl dX3_ownerOf_18 ?_
      refine lv_goto (tgt := 24) hx hb dX3_ownerOf_19 (by decide) ?_
      exact W.iret hx hb hr (fun t ht _ => ⟨_, rfl, Option.some.inj h, ht⟩) (fun _ q => absurd q List.not_mem_nil) dX3_ownerOf_24

set_option maxHeartbeats 4000000 in
set_option maxRecDepth 100000 in
theorem c_fl_isRight (l : Launch) (D : va_G) (cI cJ cZ : ClassId) (g : Nat → Nat) (fPk : Nat → Int32) (fWn : Nat → Int32) (fGw : Nat → Int32) (fGk : Nat → Int32) (fOw : Nat → Int32) (fSt : Nat → Int32) (fPe : Int32) (fHo : Int32) (fGr : Int32) (fPa : Int32) (fFt : Int32)  (H0 : Heap) (hP : va_P D vwCl (fW g cI fPk fWn fGw fGk fOw fSt fPe fHo fGr fPa fFt) H0) (p1 : Int64) (p3 : Int32) (rv : Int32) (h : fl_isRight fOw p1 p3 = some rv) : Met l yX3_isRight wsX3_isRight ({ frames := 1, cells := 0, slots := 0, locals := 22 } : Room) (rPc D cI cJ cZ H0 [.ref (g 0), .long p1, .int p3]) (vp_Si (fun r => r = rv)) 0 0 (fun _ => False) := by
  unfold fl_isRight at h
  refine Met.ofW (cc := cX3_isRight) (maxL := 4) (ret := (some .boolean)) (by decide) rfl ?_
  intro p e s m args below meth c s₁ B hml hv
  obtain ⟨rfl, hH, hK⟩ := hv
  have hx := B.exec
  have hb := B.bytes
  have hr := B.returns
  have hts := atoms_spec (ws := wsX3_isRight) B.pre
  have hown : s.vm.findClass RX3 = some m.cls := findClass_of_methodNamed B.named
  have hlocks := B.notSynchronized
  subst hH
  have hl := lv_entry ([.ref (g 0), .long p1, .int p3]) (n := 4) (Nat.le_of_ble_eq_true rfl)
  rw [lg_entry_eq]
  generalize (lg_sl ([.ref (g 0), .long p1, .int p3]) ++ List.replicate (4 - (lg_sl ([.ref (g 0), .long p1, .int p3])).length) Slot.unset).toArray = ls at hl ⊢
  have hl : lv_has ls 4 [(0, .ref (g 0)), (1, .long p1), (3, .int p3)] := hl
  refine lv_lload_n hx hb dX3_isRight_0 rfl (lv_at hl 1 rfl) ?_
  refine lv_iload_n hx hb dX3_isRight_1 rfl (lv_at hl 2 rfl) ?_
  obtain ⟨q1, hq1, h⟩ := bS h
  refine rcI (va_runS (As := [.long p1, .int p3]) (rest := []) ⟨hx, hb, hml, hown, hts⟩ (c_sc_placeOf l D cI cJ cZ   s.heap p1 p3 q1 hq1) (va_cwS 2 hts gX3_isRight_X7_placeOf rfl rfl rfl (by decide +kernel) ⟨Nat.le_of_ble_eq_true rfl, Nat.le_of_ble_eq_true rfl⟩) (rPreS hK) rfl rfl hl.1 rfl (lv_room (Nat.le_of_ble_eq_true rfl)) dX3_isRight_2 ⟨Nat.zero_le _, Nat.zero_le _⟩) ?_
  refine lv_aload_n hx hb dX3_isRight_5 rfl (lv_at hl 0 rfl) ?_
  refine lv_iload_n hx hb dX3_isRight_6 rfl (lv_at hl 2 rfl) ?_
  obtain ⟨q2, hq2, h⟩ := bS h
  refine rcI (va_runV (As := [.int p3]) (rest := [.int q1]) ⟨hx, hb, hml, hown, hts⟩ (c_fl_ownerOf l D cI cJ cZ g fPk fWn fGw fGk fOw fSt fPe fHo fGr fPa fFt s.heap hP p3 q2 hq2) (cwV 1 hts gX3_isRight_X3_ownerOf rfl rfl rfl (by decide +kernel) ⟨Nat.le_of_ble_eq_true rfl, Nat.le_of_ble_eq_true rfl⟩) (rPreV hK hP (ci := 2) (q0 := 0) rfl rfl) rfl rfl hl.1 rfl (lv_room (Nat.le_of_ble_eq_true rfl)) dX3_isRight_7 ⟨Nat.zero_le _, Nat.zero_le _⟩) ?_
  refine lv_icmp_ne (tgt := 17) hx hb dX3_isRight_10 (by decide) (fun c3 => ?_) (fun c3 => ?_)
  · have h := iF c3 h
    refine lv_iconst (v := 0) hx hb dX3_isRight_17 (by decide) ?_
    exact W.zret hx hb hr (by decide) (fun t ht _ => ⟨_, rfl, Option.some.inj h, ht⟩) (fun _ q => absurd q List.not_mem_nil) dX3_isRight_18
  · have h := iT c3 h
    refine lv_iconst (v := 1) hx hb dX3_isRight_13 (by decide) ?_
    refine lv_goto (tgt := 18) hx hb dX3_isRight_14 (by decide) ?_
    exact W.zret hx hb hr (by decide) (fun t ht _ => ⟨_, rfl, Option.some.inj h, ht⟩) (fun _ q => absurd q List.not_mem_nil) dX3_isRight_18

set_option maxHeartbeats 4000000 in
set_option maxRecDepth 100000 in
theorem c_fl_rightBits (l : Launch) (D : va_G) (cI cJ cZ : ClassId) (g : Nat → Nat) (fPk : Nat → Int32) (fWn : Nat → Int32) (fGw : Nat → Int32) (fGk : Nat → Int32) (fOw : Nat → Int32) (fSt : Nat → Int32) (fPe : Int32) (fHo : Int32) (fGr : Int32) (fPa : Int32) (fFt : Int32)  (H0 : Heap) (hP : va_P D vwCl (fW g cI fPk fWn fGw fGk fOw fSt fPe fHo fGr fPa fFt) H0) (p1 : Int64) (rv : Int32) (h : fl_rightBits fOw fGr p1 = some rv) : Met l yX3_rightBits wsX3_rightBits ({ frames := 2, cells := 0, slots := 0, locals := 45 } : Room) (rPc D cI cJ cZ H0 [.ref (g 0), .long p1]) (vp_Si (fun r => r = rv)) 0 0 (fun _ => False) := by
  unfold fl_rightBits at h
  refine Met.ofW (cc := cX3_rightBits) (maxL := 5) (ret := (some .int)) (by decide) rfl ?_
  intro p e s m args below meth c s₁ B hml hv
  obtain ⟨rfl, hH, hK⟩ := hv
  have hx := B.exec
  have hb := B.bytes
  have hr := B.returns
  have hts := atoms_spec (ws := wsX3_rightBits) B.pre
  have hown : s.vm.findClass RX3 = some m.cls := findClass_of_methodNamed B.named
  have hlocks := B.notSynchronized
  subst hH
  have hl := lv_entry ([.ref (g 0), .long p1]) (n := 5) (Nat.le_of_ble_eq_true rfl)
  rw [lg_entry_eq]
  generalize (lg_sl ([.ref (g 0), .long p1]) ++ List.replicate (5 - (lg_sl ([.ref (g 0), .long p1])).length) Slot.unset).toArray = ls at hl ⊢
  have hl : lv_has ls 5 [(0, .ref (g 0)), (1, .long p1)] := hl
  have hiX3 : ∀ w ∈ u_ws RX3 TX3 11, w ∈ wsX3_rightBits := fun w hw => List.mem_cons_of_mem _ (List.mem_append_right _ hw)
  refine lv_iconst (v := 0) hx hb dX3_rightBits_0 (by decide) ?_
  refine lv_istore_n (lv' := [(3, .int 0), (0, .ref (g 0)), (1, .long p1)]) hx hb dX3_rightBits_1 rfl hl (by decide) rfl (fun ls hl => ?_)
  refine lv_iconst (v := 0) hx hb dX3_rightBits_2 (by decide) ?_
  refine lv_istore (lv' := [(4, .int 0), (3, .int 0), (0, .ref (g 0)), (1, .long p1)]) hx hb dX3_rightBits_3 hl (by decide) rfl (fun ls hl => ?_)
  have L5 : ∀ (n : Nat) (x4_5 : Int32) (x3_5 : Int32) (ls : Array Slot) (kx : Int32 → Int32 → Option (Int32)), fl_rightBits_L5 fOw fGr p1 kx n x4_5 x3_5 = some rv → lv_has ls 5 [(4, .int x4_5), (3, .int x3_5), (0, .ref (g 0)), (1, .long p1)] → (∀ (y4_5 : Int32) (y3_5 : Int32) (ls : Array Slot), kx y4_5 y3_5 = some rv → lv_has ls 5 [(4, .int y4_5), (3, .int y3_5), (0, .ref (g 0)), (1, .long p1)] → W p l e (headSpec wsX3_rightBits ({ frames := 2, cells := 0, slots := 0, locals := 45 } : Room)).room s m ([.ref (g 0), .long p1] : List Value).toArray below meth c s.heap [] 0 0 (MQ below (vp_Si (fun r => r = rv)) ([.ref (g 0), .long p1] : List Value).toArray s 0 0 (fun _ => False)) (F0 m 37 ls [])) → W p l e (headSpec wsX3_rightBits ({ frames := 2, cells := 0, slots := 0, locals := 45 } : Room)).room s m ([.ref (g 0), .long p1] : List Value).toArray below meth c s.heap [] 0 0 (MQ below (vp_Si (fun r => r = rv)) ([.ref (g 0), .long p1] : List Value).toArray s 0 0 (fun _ => False)) (F0 m 5 ls []) := by
    intro n
    induction n with
    | zero => intro _ _ _ _ h; rw [fl_rightBits_L5.eq_1] at h; cases h
    | succ n ih =>
      intro x4_5 x3_5 ls kx h hl hk
      rw [fl_rightBits_L5.eq_2] at h
      refine lv_iload hx hb dX3_rightBits_5 (lv_at hl 0 rfl) ?_
      refine lv_aload_n hx hb dX3_rightBits_7 rfl (lv_at hl 2 rfl) ?_
      refine va_get (D := D) (ci := 2) (v := .int fGr) (C := RX3) (T := TX3) (N := 11) hx hb hts hiX3 hown hK.1 hP 0 rfl rfl 8 (by decide) (hts (.fieldLink RX3 37 "WinnowedGuilt$Floor" "grains" "I") (by decide +kernel)) (fun _ h9 => h9) rfl dX3_rightBits_8 ?_
      refine lv_icmp_ge (tgt := 37) hx hb dX3_rightBits_11 (by decide) (fun c1 => ?_) (fun c1 => ?_)
      · have h := iT c1 h
        exact hk _ _ _ h (lv_sub hl [0, 1, 2, 3] rfl)
      · have h := iF c1 h
        refine lv_aload_n hx hb dX3_rightBits_14 rfl (lv_at hl 2 rfl) ?_
        refine lv_lload_n hx hb dX3_rightBits_15 rfl (lv_at hl 3 rfl) ?_
        refine lv_iload hx hb dX3_rightBits_16 (lv_at hl 0 rfl) ?_
        obtain ⟨q2, hq2, h⟩ := bS h
        refine rcI (va_runV (As := [.long p1, .int x4_5]) (rest := []) ⟨hx, hb, hml, hown, hts⟩ (c_fl_isRight l D cI cJ cZ g fPk fWn fGw fGk fOw fSt fPe fHo fGr fPa fFt s.heap hP p1 x4_5 q2 hq2) (cwV 2 hts gX3_rightBits_X3_isRight rfl rfl rfl (by decide +kernel) ⟨Nat.le_of_ble_eq_true rfl, Nat.le_of_ble_eq_true rfl⟩) (rPreV hK hP (ci := 2) (q0 := 0) rfl rfl) rfl rfl hl.1 rfl (lv_room (Nat.le_of_ble_eq_true rfl)) dX3_rightBits_18 ⟨Nat.zero_le _, Nat.zero_le _⟩) ?_
        refine lv_if_eq (tgt := 31) hx hb dX3_rightBits_21 (by decide) (fun c3 => ?_) (fun c3 => ?_)
        · have h := iT c3 h
          refine lv_iinc (v := (x4_5 + 1)) (lv' := [(4, .int (x4_5 + 1)), (3, .int x3_5), (0, .ref (g 0)), (1, .long p1)]) hx hb dX3_rightBits_31 hl (k := 0) rfl rfl (by decide) rfl (fun ls hl => ?_)
          refine lv_goto (tgt := 5) hx hb dX3_rightBits_34 (by decide) ?_
          exact ih _ _ _ _ h (lv_sub hl [0, 1, 2, 3] rfl) hk
        · have h := iF c3 h
          refine lv_iload_n hx hb dX3_rightBits_24 rfl (lv_at hl 1 rfl) ?_
          refine lv_iconst (v := 1) hx hb dX3_rightBits_25 (by decide) ?_
          refine lv_iload hx hb dX3_rightBits_26 (lv_at hl 0 rfl) ?_
          refine lv_ishl hx hb dX3_rightBits_28 ?_
          refine lv_ior hx hb dX3_rightBits_29 ?_
          refine lv_istore_n (lv' := [(3, .int (x3_5 ||| (1 <<< (x4_5 &&& 31)))), (4, .int x4_5), (0, .ref (g 0)), (1, .long p1)]) hx hb dX3_rightBits_30 rfl hl (by decide) rfl (fun ls hl => ?_)
          refine lv_iinc (v := (x4_5 + 1)) (lv' := [(4, .int (x4_5 + 1)), (3, .int (x3_5 ||| (1 <<< (x4_5 &&& 31)))), (0, .ref (g 0)), (1, .long p1)]) hx hb dX3_rightBits_31 hl (k := 1) rfl rfl (by decide) rfl (fun ls hl => ?_)
          refine lv_goto (tgt := 5) hx hb dX3_rightBits_34 (by decide) ?_
          exact ih _ _ _ _ h (lv_sub hl [0, 1, 2, 3] rfl) hk
  refine L5 _ _ _ _ _ h hl (fun y4_5 y3_5 ls h hl => ?_)
  refine lv_iload_n hx hb dX3_rightBits_37 rfl (lv_at hl 1 rfl) ?_
  exact W.iret hx hb hr (fun t ht _ => ⟨_, rfl, Option.some.inj h, ht⟩) (fun _ q => absurd q List.not_mem_nil) dX3_rightBits_38

set_option maxHeartbeats 4000000 in
set_option maxRecDepth 100000 in
theorem c_fl_isClean (l : Launch) (D : va_G) (cI cJ cZ : ClassId) (g : Nat → Nat) (fPk : Nat → Int32) (fWn : Nat → Int32) (fGw : Nat → Int32) (fGk : Nat → Int32) (fOw : Nat → Int32) (fSt : Nat → Int32) (fPe : Int32) (fHo : Int32) (fGr : Int32) (fPa : Int32) (fFt : Int32)  (H0 : Heap) (hP : va_P D vwCl (fW g cI fPk fWn fGw fGk fOw fSt fPe fHo fGr fPa fFt) H0) (p1 : Int64) (p3 : Int32) (rv : Int32) (h : fl_isClean fOw fGr p1 p3 = some rv) : Met l yX3_isClean wsX3_isClean ({ frames := 3, cells := 0, slots := 0, locals := 69 } : Room) (rPc D cI cJ cZ H0 [.ref (g 0), .long p1, .int p3]) (vp_Si (fun r => r = rv)) 0 0 (fun _ => False) := by
  unfold fl_isClean at h
  refine Met.ofW (cc := cX3_isClean) (maxL := 4) (ret := (some .boolean)) (by decide) rfl ?_
  intro p e s m args below meth c s₁ B hml hv
  obtain ⟨rfl, hH, hK⟩ := hv
  have hx := B.exec
  have hb := B.bytes
  have hr := B.returns
  have hts := atoms_spec (ws := wsX3_isClean) B.pre
  have hown : s.vm.findClass RX3 = some m.cls := findClass_of_methodNamed B.named
  have hlocks := B.notSynchronized
  subst hH
  have hl := lv_entry ([.ref (g 0), .long p1, .int p3]) (n := 4) (Nat.le_of_ble_eq_true rfl)
  rw [lg_entry_eq]
  generalize (lg_sl ([.ref (g 0), .long p1, .int p3]) ++ List.replicate (4 - (lg_sl ([.ref (g 0), .long p1, .int p3])).length) Slot.unset).toArray = ls at hl ⊢
  have hl : lv_has ls 4 [(0, .ref (g 0)), (1, .long p1), (3, .int p3)] := hl
  refine lv_aload_n hx hb dX3_isClean_0 rfl (lv_at hl 0 rfl) ?_
  refine lv_lload_n hx hb dX3_isClean_1 rfl (lv_at hl 1 rfl) ?_
  refine lv_iload_n hx hb dX3_isClean_2 rfl (lv_at hl 2 rfl) ?_
  obtain ⟨q1, hq1, h⟩ := bS h
  refine rcI (va_runV (As := [.long p1, .int p3]) (rest := []) ⟨hx, hb, hml, hown, hts⟩ (c_fl_lyingBits l D cI cJ cZ g fPk fWn fGw fGk fOw fSt fPe fHo fGr fPa fFt s.heap hP p1 p3 q1 hq1) (cwV 2 hts gX3_isClean_X3_lyingBits rfl rfl rfl (by decide +kernel) ⟨Nat.le_of_ble_eq_true rfl, Nat.le_of_ble_eq_true rfl⟩) (rPreV hK hP (ci := 2) (q0 := 0) rfl rfl) rfl rfl hl.1 rfl (lv_room (Nat.le_of_ble_eq_true rfl)) dX3_isClean_3 ⟨Nat.zero_le _, Nat.zero_le _⟩) ?_
  refine lv_aload_n hx hb dX3_isClean_6 rfl (lv_at hl 0 rfl) ?_
  refine lv_lload_n hx hb dX3_isClean_7 rfl (lv_at hl 1 rfl) ?_
  obtain ⟨q2, hq2, h⟩ := bS h
  refine rcI (va_runV (As := [.long p1]) (rest := [.int q1]) ⟨hx, hb, hml, hown, hts⟩ (c_fl_rightBits l D cI cJ cZ g fPk fWn fGw fGk fOw fSt fPe fHo fGr fPa fFt s.heap hP p1 q2 hq2) (cwV 1 hts gX3_isClean_X3_rightBits rfl rfl rfl (by decide +kernel) ⟨Nat.le_of_ble_eq_true rfl, Nat.le_of_ble_eq_true rfl⟩) (rPreV hK hP (ci := 2) (q0 := 0) rfl rfl) rfl rfl hl.1 rfl (lv_room (Nat.le_of_ble_eq_true rfl)) dX3_isClean_8 ⟨Nat.zero_le _, Nat.zero_le _⟩) ?_
  refine lv_iconst (v := (-1)) hx hb dX3_isClean_11 (by decide) ?_
  refine lv_ixor hx hb dX3_isClean_12 ?_
  refine lv_iand hx hb dX3_isClean_13 ?_
  refine lv_if_ne (tgt := 21) hx hb dX3_isClean_14 (by decide) (fun c3 => ?_) (fun c3 => ?_)
  · have h := iF c3 h
    refine lv_iconst (v := 0) hx hb dX3_isClean_21 (by decide) ?_
    exact W.zret hx hb hr (by decide) (fun t ht _ => ⟨_, rfl, Option.some.inj h, ht⟩) (fun _ q => absurd q List.not_mem_nil) dX3_isClean_22
  · have h := iT c3 h
    refine lv_iconst (v := 1) hx hb dX3_isClean_17 (by decide) ?_
    refine lv_goto (tgt := 22) hx hb dX3_isClean_18 (by decide) ?_
    exact W.zret hx hb hr (by decide) (fun t ht _ => ⟨_, rfl, Option.some.inj h, ht⟩) (fun _ q => absurd q List.not_mem_nil) dX3_isClean_22

set_option maxHeartbeats 4000000 in
set_option maxRecDepth 100000 in
theorem c_fl_ownWeight (l : Launch) (D : va_G) (cI cJ cZ : ClassId) (g : Nat → Nat) (fPk : Nat → Int32) (fWn : Nat → Int32) (fGw : Nat → Int32) (fGk : Nat → Int32) (fOw : Nat → Int32) (fSt : Nat → Int32) (fPe : Int32) (fHo : Int32) (fGr : Int32) (fPa : Int32) (fFt : Int32)  (H0 : Heap) (hP : va_P D vwCl (fW g cI fPk fWn fGw fGk fOw fSt fPe fHo fGr fPa fFt) H0) (p1 : Int64) (p3 : Int32) (rv : Int32) (h : fl_ownWeight fGw fOw fGr p1 p3 = some rv) : Met l yX3_ownWeight wsX3_ownWeight ({ frames := 3, cells := 0, slots := 0, locals := 69 } : Room) (rPc D cI cJ cZ H0 [.ref (g 0), .long p1, .int p3]) (vp_Si (fun r => r = rv)) 0 0 (fun _ => False) := by
  unfold fl_ownWeight at h
  refine Met.ofW (cc := cX3_ownWeight) (maxL := 4) (ret := (some .int)) (by decide) rfl ?_
  intro p e s m args below meth c s₁ B hml hv
  obtain ⟨rfl, hH, hK⟩ := hv
  have hx := B.exec
  have hb := B.bytes
  have hr := B.returns
  have hts := atoms_spec (ws := wsX3_ownWeight) B.pre
  have hown : s.vm.findClass RX3 = some m.cls := findClass_of_methodNamed B.named
  have hlocks := B.notSynchronized
  subst hH
  have hl := lv_entry ([.ref (g 0), .long p1, .int p3]) (n := 4) (Nat.le_of_ble_eq_true rfl)
  rw [lg_entry_eq]
  generalize (lg_sl ([.ref (g 0), .long p1, .int p3]) ++ List.replicate (4 - (lg_sl ([.ref (g 0), .long p1, .int p3])).length) Slot.unset).toArray = ls at hl ⊢
  have hl : lv_has ls 4 [(0, .ref (g 0)), (1, .long p1), (3, .int p3)] := hl
  refine lv_aload_n hx hb dX3_ownWeight_0 rfl (lv_at hl 0 rfl) ?_
  refine lv_aload_n hx hb dX3_ownWeight_1 rfl (lv_at hl 0 rfl) ?_
  refine lv_lload_n hx hb dX3_ownWeight_2 rfl (lv_at hl 1 rfl) ?_
  refine lv_iload_n hx hb dX3_ownWeight_3 rfl (lv_at hl 2 rfl) ?_
  obtain ⟨q1, hq1, h⟩ := bS h
  refine rcI (va_runV (As := [.long p1, .int p3]) (rest := [.ref (g 0)]) ⟨hx, hb, hml, hown, hts⟩ (c_fl_lyingBits l D cI cJ cZ g fPk fWn fGw fGk fOw fSt fPe fHo fGr fPa fFt s.heap hP p1 p3 q1 hq1) (cwV 2 hts gX3_ownWeight_X3_lyingBits rfl rfl rfl (by decide +kernel) ⟨Nat.le_of_ble_eq_true rfl, Nat.le_of_ble_eq_true rfl⟩) (rPreV hK hP (ci := 2) (q0 := 0) rfl rfl) rfl rfl hl.1 rfl (lv_room (Nat.le_of_ble_eq_true rfl)) dX3_ownWeight_4 ⟨Nat.zero_le _, Nat.zero_le _⟩) ?_
  refine lv_aload_n hx hb dX3_ownWeight_7 rfl (lv_at hl 0 rfl) ?_
  refine lv_lload_n hx hb dX3_ownWeight_8 rfl (lv_at hl 1 rfl) ?_
  obtain ⟨q2, hq2, h⟩ := bS h
  refine rcI (va_runV (As := [.long p1]) (rest := [.int q1, .ref (g 0)]) ⟨hx, hb, hml, hown, hts⟩ (c_fl_rightBits l D cI cJ cZ g fPk fWn fGw fGk fOw fSt fPe fHo fGr fPa fFt s.heap hP p1 q2 hq2) (cwV 1 hts gX3_ownWeight_X3_rightBits rfl rfl rfl (by decide +kernel) ⟨Nat.le_of_ble_eq_true rfl, Nat.le_of_ble_eq_true rfl⟩) (rPreV hK hP (ci := 2) (q0 := 0) rfl rfl) rfl rfl hl.1 rfl (lv_room (Nat.le_of_ble_eq_true rfl)) dX3_ownWeight_9 ⟨Nat.zero_le _, Nat.zero_le _⟩) ?_
  refine lv_iand hx hb dX3_ownWeight_12 ?_
  obtain ⟨q3, hq3, h⟩ := bS h
  refine rcI (va_runV (As := [.int (q1 &&& q2)]) (rest := []) ⟨hx, hb, hml, hown, hts⟩ (c_fl_weightOfBits l D cI cJ cZ g fPk fWn fGw fGk fOw fSt fPe fHo fGr fPa fFt s.heap hP (q1 &&& q2) q3 hq3) (cwV 1 hts gX3_ownWeight_X3_weightOfBits rfl rfl rfl (by decide +kernel) ⟨Nat.le_of_ble_eq_true rfl, Nat.le_of_ble_eq_true rfl⟩) (rPreV hK hP (ci := 2) (q0 := 0) rfl rfl) rfl rfl hl.1 rfl (lv_room (Nat.le_of_ble_eq_true rfl)) dX3_ownWeight_13 ⟨Nat.zero_le _, Nat.zero_le _⟩) ?_
  exact W.iret hx hb hr (fun t ht _ => ⟨_, rfl, Option.some.inj h, ht⟩) (fun _ q => absurd q List.not_mem_nil) dX3_ownWeight_16

set_option maxHeartbeats 4000000 in
set_option maxRecDepth 100000 in
theorem c_xx_person (l : Launch) (D : va_G) (cI cJ cZ : ClassId) (a : Nat → Nat) (g : Nat → Nat) (d : Nat → Nat) (xText : Nat → Int32) (xLetters : Int32) (xNow : Int64) (xKept : Nat → Int64) (xIsKept : Nat → Int32) (xChance : Int64) (xScenes : Nat → Int64) (xASize : Int32) (xSKinds : Nat → Int32) (xSLifts : Nat → Int32) (xSFlights : Nat → Int32) (xSSize : Int32) (xTally : Nat → Int32) (xOut : Nat → Int64) (fPk : Nat → Int32) (fWn : Nat → Int32) (fGw : Nat → Int32) (fGk : Nat → Int32) (fOw : Nat → Int32) (fSt : Nat → Int32) (fPe : Int32) (fHo : Int32) (fGr : Int32) (fPa : Int32) (fFt : Int32) (dPk : Nat → Int32) (dWn : Nat → Int32) (dGw : Nat → Int32) (dGk : Nat → Int32) (dOw : Nat → Int32) (dSt : Nat → Int32) (dPe : Int32) (dHo : Int32) (dGr : Int32) (dPa : Int32) (dFt : Int32)  (H0 : Heap) (hP : va_P D vwCl (xW a g d cI cJ cZ (g 0) (d 0) xText xLetters xNow xKept xIsKept xChance xScenes xASize xSKinds xSLifts xSFlights xSSize xTally xOut fPk fWn fGw fGk fOw fSt fPe fHo fGr fPa fFt dPk dWn dGw dGk dOw dSt dPe dHo dGr dPa dFt) H0) (p1 : Int32) (p2 : Int32) (rv : Int32) (h : xx_person xNow fPk fWn fGw fGk fOw fPe fHo fGr p1 p2 = some rv) : Met l yX11_person wsX11_person ({ frames := 4, cells := 0, slots := 0, locals := 92 } : Room) (rPc D cI cJ cZ H0 [.ref (a 0), .int p1, .int p2]) (vp_Si (fun r => r = rv)) 0 0 (fun _ => False) := by
  unfold xx_person at h
  refine Met.ofW (cc := cX11_person) (maxL := 3) (ret := (some .int)) (by decide) rfl ?_
  intro p e s m args below meth c s₁ B hml hv
  obtain ⟨rfl, hH, hK⟩ := hv
  have hx := B.exec
  have hb := B.bytes
  have hr := B.returns
  have hts := atoms_spec (ws := wsX11_person) B.pre
  have hown : s.vm.findClass RX11 = some m.cls := findClass_of_methodNamed B.named
  have hlocks := B.notSynchronized
  subst hH
  have hl := lv_entry ([.ref (a 0), .int p1, .int p2]) (n := 3) (Nat.le_of_ble_eq_true rfl)
  rw [lg_entry_eq]
  generalize (lg_sl ([.ref (a 0), .int p1, .int p2]) ++ List.replicate (3 - (lg_sl ([.ref (a 0), .int p1, .int p2])).length) Slot.unset).toArray = ls at hl ⊢
  have hl : lv_has ls 3 [(0, .ref (a 0)), (1, .int p1), (2, .int p2)] := hl
  have hiX11 : ∀ w ∈ u_ws RX11 TX11 11, w ∈ wsX11_person := fun w hw => List.mem_cons_of_mem _ (List.mem_append_left _ (List.mem_append_right _ hw))
  refine lv_aload_n hx hb dX11_person_0 rfl (lv_at hl 0 rfl) ?_
  refine va_get (D := D) (ci := 4) (v := .ref (g 0)) (C := RX11) (T := TX11) (N := 11) hx hb hts hiX11 hown hK.1 hP 0 rfl rfl 2 (by decide) (hts (.fieldLink RX11 16 "WinnowedGuilt" "ground" "LWinnowedGuilt$Floor;") (by decide +kernel)) (fun _ h9 => h9) rfl dX11_person_1 ?_
  refine lv_iload_n hx hb dX11_person_4 rfl (lv_at hl 1 rfl) ?_
  have hG := hP.sub (ws' := (fW g cI fPk fWn fGw fGk fOw fSt fPe fHo fGr fPa fFt)) [13, 14, 15, 16, 17, 18, 19] rfl
  obtain ⟨q1, hq1, h⟩ := bS h
  refine rcI (va_runV (As := [.int p1]) (rest := []) ⟨hx, hb, hml, hown, hts⟩ (c_fl_isPerson l D cI cJ cZ g fPk fWn fGw fGk fOw fSt fPe fHo fGr fPa fFt s.heap hG p1 q1 hq1) (cwV 1 hts gX11_person_X3_isPerson rfl rfl rfl (by decide +kernel) ⟨Nat.le_of_ble_eq_true rfl, Nat.le_of_ble_eq_true rfl⟩) (rPreV hK hG (ci := 2) (q0 := 0) rfl rfl) rfl rfl hl.1 rfl (lv_room (Nat.le_of_ble_eq_true rfl)) dX11_person_5 ⟨Nat.zero_le _, Nat.zero_le _⟩) ?_
  refine lv_if_ne (tgt := 13) hx hb dX11_person_8 (by decide) (fun c2 => ?_) (fun c2 => ?_)
  · have h := iF c2 h
    refine lv_iload_n hx hb dX11_person_13 rfl (lv_at hl 2 rfl) ?_
    by_cases w2_0 : p2 = 0
    · have h := iT w2_0 h
      refine lv_tableIn (tgt := 52) hx hb dX11_person_14 (by rw [w2_0]; decide) (by rw [w2_0]; decide) (by rw [w2_0]; rfl) (by decide) ?_
      refine lv_aload_n hx hb dX11_person_52 rfl (lv_at hl 0 rfl) ?_
      refine va_get (D := D) (ci := 4) (v := .ref (g 0)) (C := RX11) (T := TX11) (N := 11) hx hb hts hiX11 hown hK.1 hP 0 rfl rfl 2 (by decide) (hts (.fieldLink RX11 16 "WinnowedGuilt" "ground" "LWinnowedGuilt$Floor;") (by decide +kernel)) (fun _ h9 => h9) rfl dX11_person_53 ?_
      refine lv_iload_n hx hb dX11_person_56 rfl (lv_at hl 1 rfl) ?_
      have hG := hP.sub (ws' := (fW g cI fPk fWn fGw fGk fOw fSt fPe fHo fGr fPa fFt)) [13, 14, 15, 16, 17, 18, 19] rfl
      obtain ⟨q4, hq4, h⟩ := bS h
      refine rcI (va_runV (As := [.int p1]) (rest := []) ⟨hx, hb, hml, hown, hts⟩ (c_fl_personKind l D cI cJ cZ g fPk fWn fGw fGk fOw fSt fPe fHo fGr fPa fFt s.heap hG p1 q4 hq4) (cwV 1 hts gX11_person_X3_personKind rfl rfl rfl (by decide +kernel) ⟨Nat.le_of_ble_eq_true rfl, Nat.le_of_ble_eq_true rfl⟩) (rPreV hK hG (ci := 2) (q0 := 0) rfl rfl) rfl rfl hl.1 rfl (lv_room (Nat.le_of_ble_eq_true rfl)) dX11_person_57 ⟨Nat.zero_le _, Nat.zero_le _⟩) ?_
      exact W.iret hx hb hr (fun t ht _ => ⟨_, rfl, Option.some.inj h, ht⟩) (fun _ q => absurd q List.not_mem_nil) dX11_person_60
    have h := iF w2_0 h
    by_cases w2_1 : p2 = 1
    · have h := iT w2_1 h
      refine lv_tableIn (tgt := 61) hx hb dX11_person_14 (by rw [w2_1]; decide) (by rw [w2_1]; decide) (by rw [w2_1]; rfl) (by decide) ?_
      refine lv_aload_n hx hb dX11_person_61 rfl (lv_at hl 0 rfl) ?_
      refine va_get (D := D) (ci := 4) (v := .ref (g 0)) (C := RX11) (T := TX11) (N := 11) hx hb hts hiX11 hown hK.1 hP 0 rfl rfl 2 (by decide) (hts (.fieldLink RX11 16 "WinnowedGuilt" "ground" "LWinnowedGuilt$Floor;") (by decide +kernel)) (fun _ h9 => h9) rfl dX11_person_62 ?_
      refine lv_aload_n hx hb dX11_person_65 rfl (lv_at hl 0 rfl) ?_
      refine va_get (D := D) (ci := 4) (v := .long xNow) (C := RX11) (T := TX11) (N := 11) hx hb hts hiX11 hown hK.1 hP 0 rfl rfl 4 (by decide) (hts (.fieldLink RX11 27 "WinnowedGuilt" "now" "J") (by decide +kernel)) (fun _ h9 => h9) rfl dX11_person_66 ?_
      refine lv_iload_n hx hb dX11_person_69 rfl (lv_at hl 1 rfl) ?_
      have hG := hP.sub (ws' := (fW g cI fPk fWn fGw fGk fOw fSt fPe fHo fGr fPa fFt)) [13, 14, 15, 16, 17, 18, 19] rfl
      obtain ⟨q4, hq4, h⟩ := bS h
      refine rcI (va_runV (As := [.long xNow, .int p1]) (rest := []) ⟨hx, hb, hml, hown, hts⟩ (c_fl_liftAt l D cI cJ cZ g fPk fWn fGw fGk fOw fSt fPe fHo fGr fPa fFt s.heap hG xNow p1 q4 hq4) (cwV 2 hts gX11_person_X3_liftAt rfl rfl rfl (by decide +kernel) ⟨Nat.le_of_ble_eq_true rfl, Nat.le_of_ble_eq_true rfl⟩) (rPreV hK hG (ci := 2) (q0 := 0) rfl rfl) rfl rfl hl.1 rfl (lv_room (Nat.le_of_ble_eq_true rfl)) dX11_person_70 ⟨Nat.zero_le _, Nat.zero_le _⟩) ?_
      exact W.iret hx hb hr (fun t ht _ => ⟨_, rfl, Option.some.inj h, ht⟩) (fun _ q => absurd q List.not_mem_nil) dX11_person_73
    have h := iF w2_1 h
    by_cases w2_2 : p2 = 2
    · have h := iT w2_2 h
      refine lv_tableIn (tgt := 74) hx hb dX11_person_14 (by rw [w2_2]; decide) (by rw [w2_2]; decide) (by rw [w2_2]; rfl) (by decide) ?_
      refine lv_aload_n hx hb dX11_person_74 rfl (lv_at hl 0 rfl) ?_
      refine va_get (D := D) (ci := 4) (v := .ref (g 0)) (C := RX11) (T := TX11) (N := 11) hx hb hts hiX11 hown hK.1 hP 0 rfl rfl 2 (by decide) (hts (.fieldLink RX11 16 "WinnowedGuilt" "ground" "LWinnowedGuilt$Floor;") (by decide +kernel)) (fun _ h9 => h9) rfl dX11_person_75 ?_
      refine lv_aload_n hx hb dX11_person_78 rfl (lv_at hl 0 rfl) ?_
      refine va_get (D := D) (ci := 4) (v := .long xNow) (C := RX11) (T := TX11) (N := 11) hx hb hts hiX11 hown hK.1 hP 0 rfl rfl 4 (by decide) (hts (.fieldLink RX11 27 "WinnowedGuilt" "now" "J") (by decide +kernel)) (fun _ h9 => h9) rfl dX11_person_79 ?_
      refine lv_iload_n hx hb dX11_person_82 rfl (lv_at hl 1 rfl) ?_
      have hG := hP.sub (ws' := (fW g cI fPk fWn fGw fGk fOw fSt fPe fHo fGr fPa fFt)) [13, 14, 15, 16, 17, 18, 19] rfl
      obtain ⟨q4, hq4, h⟩ := bS h
      refine rcI (va_runV (As := [.long xNow, .int p1]) (rest := []) ⟨hx, hb, hml, hown, hts⟩ (c_fl_guiltOf l D cI cJ cZ g fPk fWn fGw fGk fOw fSt fPe fHo fGr fPa fFt s.heap hG xNow p1 q4 hq4) (cwV 2 hts gX11_person_X3_guiltOf rfl rfl rfl (by decide +kernel) ⟨Nat.le_of_ble_eq_true rfl, Nat.le_of_ble_eq_true rfl⟩) (rPreV hK hG (ci := 2) (q0 := 0) rfl rfl) rfl rfl hl.1 rfl (lv_room (Nat.le_of_ble_eq_true rfl)) dX11_person_83 ⟨Nat.zero_le _, Nat.zero_le _⟩) ?_
      exact W.iret hx hb hr (fun t ht _ => ⟨_, rfl, Option.some.inj h, ht⟩) (fun _ q => absurd q List.not_mem_nil) dX11_person_86
    have h := iF w2_2 h
    by_cases w2_3 : p2 = 3
    · have h := iT w2_3 h
      refine lv_tableIn (tgt := 87) hx hb dX11_person_14 (by rw [w2_3]; decide) (by rw [w2_3]; decide) (by rw [w2_3]; rfl) (by decide) ?_
      refine lv_aload_n hx hb dX11_person_87 rfl (lv_at hl 0 rfl) ?_
      refine va_get (D := D) (ci := 4) (v := .ref (g 0)) (C := RX11) (T := TX11) (N := 11) hx hb hts hiX11 hown hK.1 hP 0 rfl rfl 2 (by decide) (hts (.fieldLink RX11 16 "WinnowedGuilt" "ground" "LWinnowedGuilt$Floor;") (by decide +kernel)) (fun _ h9 => h9) rfl dX11_person_88 ?_
      refine lv_aload_n hx hb dX11_person_91 rfl (lv_at hl 0 rfl) ?_
      refine va_get (D := D) (ci := 4) (v := .long xNow) (C := RX11) (T := TX11) (N := 11) hx hb hts hiX11 hown hK.1 hP 0 rfl rfl 4 (by decide) (hts (.fieldLink RX11 27 "WinnowedGuilt" "now" "J") (by decide +kernel)) (fun _ h9 => h9) rfl dX11_person_92 ?_
      refine lv_iload_n hx hb dX11_person_95 rfl (lv_at hl 1 rfl) ?_
      have hG := hP.sub (ws' := (fW g cI fPk fWn fGw fGk fOw fSt fPe fHo fGr fPa fFt)) [13, 14, 15, 16, 17, 18, 19] rfl
      obtain ⟨q4, hq4, h⟩ := bS h
      refine rcI (va_runV (As := [.long xNow, .int p1]) (rest := []) ⟨hx, hb, hml, hown, hts⟩ (c_fl_lyingBits l D cI cJ cZ g fPk fWn fGw fGk fOw fSt fPe fHo fGr fPa fFt s.heap hG xNow p1 q4 hq4) (cwV 2 hts gX11_person_X3_lyingBits rfl rfl rfl (by decide +kernel) ⟨Nat.le_of_ble_eq_true rfl, Nat.le_of_ble_eq_true rfl⟩) (rPreV hK hG (ci := 2) (q0 := 0) rfl rfl) rfl rfl hl.1 rfl (lv_room (Nat.le_of_ble_eq_true rfl)) dX11_person_96 ⟨Nat.zero_le _, Nat.zero_le _⟩) ?_
      exact W.iret hx hb hr (fun t ht _ => ⟨_, rfl, Option.some.inj h, ht⟩) (fun _ q => absurd q List.not_mem_nil) dX11_person_99
    have h := iF w2_3 h
    by_cases w2_4 : p2 = 4
    · have h := iT w2_4 h
      refine lv_tableIn (tgt := 100) hx hb dX11_person_14 (by rw [w2_4]; decide) (by rw [w2_4]; decide) (by rw [w2_4]; rfl) (by decide) ?_
      refine lv_aload_n hx hb dX11_person_100 rfl (lv_at hl 0 rfl) ?_
      refine va_get (D := D) (ci := 4) (v := .ref (g 0)) (C := RX11) (T := TX11) (N := 11) hx hb hts hiX11 hown hK.1 hP 0 rfl rfl 2 (by decide) (hts (.fieldLink RX11 16 "WinnowedGuilt" "ground" "LWinnowedGuilt$Floor;") (by decide +kernel)) (fun _ h9 => h9) rfl dX11_person_101 ?_
      refine lv_aload_n hx hb dX11_person_104 rfl (lv_at hl 0 rfl) ?_
      refine va_get (D := D) (ci := 4) (v := .long xNow) (C := RX11) (T := TX11) (N := 11) hx hb hts hiX11 hown hK.1 hP 0 rfl rfl 4 (by decide) (hts (.fieldLink RX11 27 "WinnowedGuilt" "now" "J") (by decide +kernel)) (fun _ h9 => h9) rfl dX11_person_105 ?_
      refine lv_iload_n hx hb dX11_person_108 rfl (lv_at hl 1 rfl) ?_
      have hG := hP.sub (ws' := (fW g cI fPk fWn fGw fGk fOw fSt fPe fHo fGr fPa fFt)) [13, 14, 15, 16, 17, 18, 19] rfl
      obtain ⟨q4, hq4, h⟩ := bS h
      refine rcI (va_runV (As := [.long xNow, .int p1]) (rest := []) ⟨hx, hb, hml, hown, hts⟩ (c_fl_isClean l D cI cJ cZ g fPk fWn fGw fGk fOw fSt fPe fHo fGr fPa fFt s.heap hG xNow p1 q4 hq4) (cwV 2 hts gX11_person_X3_isClean rfl rfl rfl (by decide +kernel) ⟨Nat.le_of_ble_eq_true rfl, Nat.le_of_ble_eq_true rfl⟩) (rPreV hK hG (ci := 2) (q0 := 0) rfl rfl) rfl rfl hl.1 rfl (lv_room (Nat.le_of_ble_eq_true rfl)) dX11_person_109 ⟨Nat.zero_le _, Nat.zero_le _⟩) ?_
      refine lv_if_eq (tgt := 119) hx hb dX11_person_112 (by decide) (fun c5 => ?_) (fun c5 => ?_)
      · have h := iT c5 h
        refine lv_iconst (v := 0) hx hb dX11_person_119 (by decide) ?_
        exact W.iret hx hb hr (fun t ht _ => ⟨_, rfl, Option.some.inj h, ht⟩) (fun _ q => absurd q List.not_mem_nil) dX11_person_120
      · have h := iF c5 h
        refine lv_iconst (v := 1) hx hb dX11_person_115 (by decide) ?_
        refine lv_goto (tgt := 120) hx hb dX11_person_116 (by decide) ?_
        exact W.iret hx hb hr (fun t ht _ => ⟨_, rfl, Option.some.inj h, ht⟩) (fun _ q => absurd q List.not_mem_nil) dX11_person_120
    have h := iF w2_4 h
    by_cases w2_5 : p2 = 5
    · have h := iT w2_5 h
      refine lv_tableIn (tgt := 121) hx hb dX11_person_14 (by rw [w2_5]; decide) (by rw [w2_5]; decide) (by rw [w2_5]; rfl) (by decide) ?_
      refine lv_aload_n hx hb dX11_person_121 rfl (lv_at hl 0 rfl) ?_
      refine va_get (D := D) (ci := 4) (v := .ref (g 0)) (C := RX11) (T := TX11) (N := 11) hx hb hts hiX11 hown hK.1 hP 0 rfl rfl 2 (by decide) (hts (.fieldLink RX11 16 "WinnowedGuilt" "ground" "LWinnowedGuilt$Floor;") (by decide +kernel)) (fun _ h9 => h9) rfl dX11_person_122 ?_
      refine lv_aload_n hx hb dX11_person_125 rfl (lv_at hl 0 rfl) ?_
      refine va_get (D := D) (ci := 4) (v := .long xNow) (C := RX11) (T := TX11) (N := 11) hx hb hts hiX11 hown hK.1 hP 0 rfl rfl 4 (by decide) (hts (.fieldLink RX11 27 "WinnowedGuilt" "now" "J") (by decide +kernel)) (fun _ h9 => h9) rfl dX11_person_126 ?_
      refine lv_iload_n hx hb dX11_person_129 rfl (lv_at hl 1 rfl) ?_
      have hG := hP.sub (ws' := (fW g cI fPk fWn fGw fGk fOw fSt fPe fHo fGr fPa fFt)) [13, 14, 15, 16, 17, 18, 19] rfl
      obtain ⟨q4, hq4, h⟩ := bS h
      refine rcI (va_runV (As := [.long xNow, .int p1]) (rest := []) ⟨hx, hb, hml, hown, hts⟩ (c_fl_ownWeight l D cI cJ cZ g fPk fWn fGw fGk fOw fSt fPe fHo fGr fPa fFt s.heap hG xNow p1 q4 hq4) (cwV 2 hts gX11_person_X3_ownWeight rfl rfl rfl (by decide +kernel) ⟨Nat.le_of_ble_eq_true rfl, Nat.le_of_ble_eq_true rfl⟩) (rPreV hK hG (ci := 2) (q0 := 0) rfl rfl) rfl rfl hl.1 rfl (lv_room (Nat.le_of_ble_eq_true rfl)) dX11_person_130 ⟨Nat.zero_le _, Nat.zero_le _⟩) ?_
      exact W.iret hx hb hr (fun t ht _ => ⟨_, rfl, Option.some.inj h, ht⟩) (fun _ q => absurd q List.not_mem_nil) dX11_person_133
    have h := iF w2_5 h
    refine lv_tableOut (tgt := 134) hx hb dX11_person_14 (by have := lv_neT (a := 0) w2_0 (by decide); have := lv_neT (a := 1) w2_1 (by decide); have := lv_neT (a := 2) w2_2 (by decide); have := lv_neT (a := 3) w2_3 (by decide); have := lv_neT (a := 4) w2_4 (by decide); have := lv_neT (a := 5) w2_5 (by decide); omega) (by decide) ?_
    refine lv_bipush (v := (-2)) hx hb dX11_person_134 (by decide) ?_
    exact W.iret hx hb hr (fun t ht _ => ⟨_, rfl, Option.some.inj h, ht⟩) (fun _ q => absurd q List.not_mem_nil) dX11_person_136
  · have h := iT c2 h
    refine lv_iconst (v := (-1)) hx hb dX11_person_11 (by decide) ?_
    exact W.iret hx hb hr (fun t ht _ => ⟨_, rfl, Option.some.inj h, ht⟩) (fun _ q => absurd q List.not_mem_nil) dX11_person_12

set_option maxHeartbeats 4000000 in
set_option maxRecDepth 100000 in
theorem c_fl_isGrain (l : Launch) (D : va_G) (cI cJ cZ : ClassId) (g : Nat → Nat) (fPk : Nat → Int32) (fWn : Nat → Int32) (fGw : Nat → Int32) (fGk : Nat → Int32) (fOw : Nat → Int32) (fSt : Nat → Int32) (fPe : Int32) (fHo : Int32) (fGr : Int32) (fPa : Int32) (fFt : Int32)  (H0 : Heap) (hP : va_P D vwCl (fW g cI fPk fWn fGw fGk fOw fSt fPe fHo fGr fPa fFt) H0) (p1 : Int32) (rv : Int32) (h : fl_isGrain fGr p1 = some rv) : Met l yX3_isGrain wsX3_isGrain ({ frames := 0, cells := 0, slots := 0, locals := 0 } : Room) (rPc D cI cJ cZ H0 [.ref (g 0), .int p1]) (vp_Si (fun r => r = rv)) 0 0 (fun _ => False) := by
  unfold fl_isGrain at h
  refine Met.ofW (cc := cX3_isGrain) (maxL := 2) (ret := (some .boolean)) (by decide) rfl ?_
  intro p e s m args below meth c s₁ B hml hv
  obtain ⟨rfl, hH, hK⟩ := hv
  have hx := B.exec
  have hb := B.bytes
  have hr := B.returns
  have hts := atoms_spec (ws := wsX3_isGrain) B.pre
  have hown : s.vm.findClass RX3 = some m.cls := findClass_of_methodNamed B.named
  have hlocks := B.notSynchronized
  subst hH
  have hl := lv_entry ([.ref (g 0), .int p1]) (n := 2) (Nat.le_of_ble_eq_true rfl)
  rw [lg_entry_eq]
  generalize (lg_sl ([.ref (g 0), .int p1]) ++ List.replicate (2 - (lg_sl ([.ref (g 0), .int p1])).length) Slot.unset).toArray = ls at hl ⊢
  have hl : lv_has ls 2 [(0, .ref (g 0)), (1, .int p1)] := hl
  have hiX3 : ∀ w ∈ u_ws RX3 TX3 11, w ∈ wsX3_isGrain := fun w hw => List.mem_cons_of_mem _ (List.mem_append_right _ hw)
  refine lv_iload_n hx hb dX3_isGrain_0 rfl (lv_at hl 1 rfl) ?_
  refine lv_if_lt (tgt := 16) hx hb dX3_isGrain_1 (by decide) (fun c1 => ?_) (fun c1 => ?_)
  · have h := iT c1 h
    refine lv_iconst (v := 0) hx hb dX3_isGrain_16 (by decide) ?_
    exact W.zret hx hb hr (by decide) (fun t ht _ => ⟨_, rfl, Option.some.inj h, ht⟩) (fun _ q => absurd q List.not_mem_nil) dX3_isGrain_17
  · have h := iF c1 h
    refine lv_iload_n hx hb dX3_isGrain_4 rfl (lv_at hl 1 rfl) ?_
    refine lv_aload_n hx hb dX3_isGrain_5 rfl (lv_at hl 0 rfl) ?_
    refine va_get (D := D) (ci := 2) (v := .int fGr) (C := RX3) (T := TX3) (N := 11) hx hb hts hiX3 hown hK.1 hP 0 rfl rfl 8 (by decide) (hts (.fieldLink RX3 37 "WinnowedGuilt$Floor" "grains" "I") (by decide +kernel)) (fun _ h9 => h9) rfl dX3_isGrain_6 ?_
    refine lv_icmp_ge (tgt := 16) hx hb dX3_isGrain_9 (by decide) (fun c2 => ?_) (fun c2 => ?_)
    · have h := iT c2 h
      refine lv_iconst (v := 0) hx hb dX3_isGrain_16 (by decide) ?_
      exact W.zret hx hb hr (by decide) (fun t ht _ => ⟨_, rfl, Option.some.inj h, ht⟩) (fun _ q => absurd q List.not_mem_nil) dX3_isGrain_17
    · have h := iF c2 h
      refine lv_iconst (v := 1) hx hb dX3_isGrain_12 (by decide) ?_
      refine lv_goto (tgt := 17) hx hb dX3_isGrain_13 (by decide) ?_
      exact W.zret hx hb hr (by decide) (fun t ht _ => ⟨_, rfl, Option.some.inj h, ht⟩) (fun _ q => absurd q List.not_mem_nil) dX3_isGrain_17

set_option maxHeartbeats 4000000 in
set_option maxRecDepth 100000 in
theorem c_fl_ownLift (l : Launch) (D : va_G) (cI cJ cZ : ClassId)  (H0 : Heap) (p0 : Int32) (p1 : Int32) (rv : Int32) (h : fl_ownLift p0 p1 = some rv) : Met l yX3_ownLift wsX3_ownLift ({ frames := 0, cells := 0, slots := 0, locals := 0 } : Room) (rPc D cI cJ cZ H0 [.int p0, .int p1]) (vp_Si (fun r => r = rv)) 0 0 (fun _ => False) := by
  unfold fl_ownLift at h
  refine Met.ofW (cc := cX3_ownLift) (maxL := 2) (ret := (some .int)) (by decide) rfl ?_
  intro p e s m args below meth c s₁ B hml hv
  obtain ⟨rfl, hH, hK⟩ := hv
  have hx := B.exec
  have hb := B.bytes
  have hr := B.returns
  have hts := atoms_spec (ws := wsX3_ownLift) B.pre
  have hown : s.vm.findClass RX3 = some m.cls := findClass_of_methodNamed B.named
  have hlocks := B.notSynchronized
  subst hH
  have hl := lv_entry ([.int p0, .int p1]) (n := 2) (Nat.le_of_ble_eq_true rfl)
  rw [lg_entry_eq]
  generalize (lg_sl ([.int p0, .int p1]) ++ List.replicate (2 - (lg_sl ([.int p0, .int p1])).length) Slot.unset).toArray = ls at hl ⊢
  have hl : lv_has ls 2 [(0, .int p0), (1, .int p1)] := hl
  refine lv_iload_n hx hb dX3_ownLift_0 rfl (lv_at hl 0 rfl) ?_
  refine lv_iconst (v := 1) hx hb dX3_ownLift_1 (by decide) ?_
  refine lv_icmp_ne (tgt := 9) hx hb dX3_ownLift_2 (by decide) (fun c1 => ?_) (fun c1 => ?_)
  · have h := iF c1 h
    refine lv_iload_n hx hb dX3_ownLift_9 rfl (lv_at hl 0 rfl) ?_
    refine lv_iconst (v := 3) hx hb dX3_ownLift_10 (by decide) ?_
    refine lv_icmp_ne (tgt := 20) hx hb dX3_ownLift_11 (by decide) (fun c2 => ?_) (fun c2 => ?_)
    · have h := iF c2 h
      refine lv_iload_n hx hb dX3_ownLift_20 rfl (lv_at hl 1 rfl) ?_
      exact W.iret hx hb hr (fun t ht _ => ⟨_, rfl, Option.some.inj h, ht⟩) (fun _ q => absurd q List.not_mem_nil) dX3_ownLift_21
    · have h := iT c2 h
      refine lv_iload_n hx hb dX3_ownLift_14 rfl (lv_at hl 1 rfl) ?_
      refine lv_iconst (v := 2) hx hb dX3_ownLift_15 (by decide) ?_
      refine lv_idiv hx hb dX3_ownLift_16 (by decide) ?_
      refine lv_goto (tgt := 21) hx hb dX3_ownLift_17 (by decide) ?_
      exact W.iret hx hb hr (fun t ht _ => ⟨_, rfl, Option.some.inj h, ht⟩) (fun _ q => absurd q List.not_mem_nil) dX3_ownLift_21
  · have h := iT c1 h
    refine lv_iload_n hx hb dX3_ownLift_5 rfl (lv_at hl 1 rfl) ?_
    refine lv_iconst (v := 2) hx hb dX3_ownLift_6 (by decide) ?_
    refine lv_iadd hx hb dX3_ownLift_7 ?_
    exact W.iret hx hb hr (fun t ht _ => ⟨_, rfl, Option.some.inj h, ht⟩) (fun _ q => absurd q List.not_mem_nil) dX3_ownLift_8

set_option maxHeartbeats 4000000 in
set_option maxRecDepth 100000 in
theorem c_fl_flown (l : Launch) (D : va_G) (cI cJ cZ : ClassId)  (H0 : Heap) (p0 : Int32) (p1 : Int32) (p2 : Int32) (rv : Int32) (h : fl_flown p0 p1 p2 = some rv) : Met l yX3_flown wsX3_flown ({ frames := 0, cells := 0, slots := 0, locals := 0 } : Room) (rPc D cI cJ cZ H0 [.int p0, .int p1, .int p2]) (vp_Si (fun r => r = rv)) 0 0 (fun _ => False) := by
  unfold fl_flown at h
  refine Met.ofW (cc := cX3_flown) (maxL := 3) (ret := (some .int)) (by decide) rfl ?_
  intro p e s m args below meth c s₁ B hml hv
  obtain ⟨rfl, hH, hK⟩ := hv
  have hx := B.exec
  have hb := B.bytes
  have hr := B.returns
  have hts := atoms_spec (ws := wsX3_flown) B.pre
  have hown : s.vm.findClass RX3 = some m.cls := findClass_of_methodNamed B.named
  have hlocks := B.notSynchronized
  subst hH
  have hl := lv_entry ([.int p0, .int p1, .int p2]) (n := 3) (Nat.le_of_ble_eq_true rfl)
  rw [lg_entry_eq]
  generalize (lg_sl ([.int p0, .int p1, .int p2]) ++ List.replicate (3 - (lg_sl ([.int p0, .int p1, .int p2])).length) Slot.unset).toArray = ls at hl ⊢
  have hl : lv_has ls 3 [(0, .int p0), (1, .int p1), (2, .int p2)] := hl
  refine lv_iload_n hx hb dX3_flown_0 rfl (lv_at hl 0 rfl) ?_
  refine lv_iconst (v := 2) hx hb dX3_flown_1 (by decide) ?_
  refine lv_icmp_eq (tgt := 10) hx hb dX3_flown_2 (by decide) (fun c1 => ?_) (fun c1 => ?_)
  · have h := iT c1 h
    refine lv_iconst (v := 0) hx hb dX3_flown_10 (by decide) ?_
    exact W.iret hx hb hr (fun t ht _ => ⟨_, rfl, Option.some.inj h, ht⟩) (fun _ q => absurd q List.not_mem_nil) dX3_flown_11
  · have h := iF c1 h
    refine lv_iload_n hx hb dX3_flown_5 rfl (lv_at hl 2 rfl) ?_
    refine lv_iload_n hx hb dX3_flown_6 rfl (lv_at hl 1 rfl) ?_
    refine lv_icmp_ge (tgt := 12) hx hb dX3_flown_7 (by decide) (fun c2 => ?_) (fun c2 => ?_)
    · have h := iT c2 h
      refine lv_iload_n hx hb dX3_flown_12 rfl (lv_at hl 2 rfl) ?_
      refine lv_iload_n hx hb dX3_flown_13 rfl (lv_at hl 1 rfl) ?_
      refine lv_isub hx hb dX3_flown_14 ?_
      refine lv_iconst (v := 3) hx hb dX3_flown_15 (by decide) ?_
      refine lv_idiv hx hb dX3_flown_16 (by decide) ?_
      refine lv_iconst (v := 1) hx hb dX3_flown_17 (by decide) ?_
      refine lv_iadd hx hb dX3_flown_18 ?_
      refine lv_iload_n hx hb dX3_flown_19 rfl (lv_at hl 0 rfl) ?_
      refine lv_iconst (v := 1) hx hb dX3_flown_20 (by decide) ?_
      refine lv_icmp_ne (tgt := 28) hx hb dX3_flown_21 (by decide) (fun c3 => ?_) (fun c3 => ?_)
      · have h := iF c3 h
        refine lv_iconst (v := 0) hx hb dX3_flown_28 (by decide) ?_
        refine lv_iadd hx hb dX3_flown_29 ?_
        exact W.iret hx hb hr (fun t ht _ => ⟨_, rfl, Option.some.inj h, ht⟩) (fun _ q => absurd q List.not_mem_nil) dX3_flown_30
      · have h := iT c3 h
        refine lv_iconst (v := 1) hx hb dX3_flown_24 (by decide) ?_
        refine lv_goto (tgt := 29) hx hb dX3_flown_25 (by decide) ?_
        refine lv_iadd hx hb dX3_flown_29 ?_
        exact W.iret hx hb hr (fun t ht _ => ⟨_, rfl, Option.some.inj h, ht⟩) (fun _ q => absurd q List.not_mem_nil) dX3_flown_30
    · have h := iF c2 h
      refine lv_iconst (v := 0) hx hb dX3_flown_10 (by decide) ?_
      exact W.iret hx hb hr (fun t ht _ => ⟨_, rfl, Option.some.inj h, ht⟩) (fun _ q => absurd q List.not_mem_nil) dX3_flown_11

set_option maxHeartbeats 4000000 in
set_option maxRecDepth 100000 in
theorem c_fl_flight (l : Launch) (D : va_G) (cI cJ cZ : ClassId) (g : Nat → Nat) (fPk : Nat → Int32) (fWn : Nat → Int32) (fGw : Nat → Int32) (fGk : Nat → Int32) (fOw : Nat → Int32) (fSt : Nat → Int32) (fPe : Int32) (fHo : Int32) (fGr : Int32) (fPa : Int32) (fFt : Int32)  (H0 : Heap) (hP : va_P D vwCl (fW g cI fPk fWn fGw fGk fOw fSt fPe fHo fGr fPa fFt) H0) (p1 : Int32) (p2 : Int32) (p3 : Int32) (rv : Int32) (h : fl_flight fPk fGw fGk fOw fPe p1 p2 p3 = some rv) : Met l yX3_flight wsX3_flight ({ frames := 1, cells := 0, slots := 0, locals := 22 } : Room) (rPc D cI cJ cZ H0 [.ref (g 0), .int p1, .int p2, .int p3]) (vp_Si (fun r => r = rv)) 0 0 (fun _ => False) := by
  unfold fl_flight at h
  refine Met.ofW (cc := cX3_flight) (maxL := 6) (ret := (some .int)) (by decide) rfl ?_
  intro p e s m args below meth c s₁ B hml hv
  obtain ⟨rfl, hH, hK⟩ := hv
  have hx := B.exec
  have hb := B.bytes
  have hr := B.returns
  have hts := atoms_spec (ws := wsX3_flight) B.pre
  have hown : s.vm.findClass RX3 = some m.cls := findClass_of_methodNamed B.named
  have hlocks := B.notSynchronized
  subst hH
  have hl := lv_entry ([.ref (g 0), .int p1, .int p2, .int p3]) (n := 6) (Nat.le_of_ble_eq_true rfl)
  rw [lg_entry_eq]
  generalize (lg_sl ([.ref (g 0), .int p1, .int p2, .int p3]) ++ List.replicate (6 - (lg_sl ([.ref (g 0), .int p1, .int p2, .int p3])).length) Slot.unset).toArray = ls at hl ⊢
  have hl : lv_has ls 6 [(0, .ref (g 0)), (1, .int p1), (2, .int p2), (3, .int p3)] := hl
  refine lv_aload_n hx hb dX3_flight_0 rfl (lv_at hl 0 rfl) ?_
  refine lv_iload_n hx hb dX3_flight_1 rfl (lv_at hl 1 rfl) ?_
  obtain ⟨q1, hq1, h⟩ := bS h
  refine rcI (va_runV (As := [.int p1]) (rest := []) ⟨hx, hb, hml, hown, hts⟩ (c_fl_ownerOf l D cI cJ cZ g fPk fWn fGw fGk fOw fSt fPe fHo fGr fPa fFt s.heap hP p1 q1 hq1) (cwV 1 hts gX3_flight_X3_ownerOf rfl rfl rfl (by decide +kernel) ⟨Nat.le_of_ble_eq_true rfl, Nat.le_of_ble_eq_true rfl⟩) (rPreV hK hP (ci := 2) (q0 := 0) rfl rfl) rfl rfl hl.1 rfl (lv_room (Nat.le_of_ble_eq_true rfl)) dX3_flight_2 ⟨Nat.zero_le _, Nat.zero_le _⟩) ?_
  refine lv_iload_n hx hb dX3_flight_5 rfl (lv_at hl 2 rfl) ?_
  refine lv_icmp_ne (tgt := 22) hx hb dX3_flight_6 (by decide) (fun c2 => ?_) (fun c2 => ?_)
  · have h := iF c2 h
    refine lv_iconst (v := 0) hx hb dX3_flight_22 (by decide) ?_
    refine lv_istore (lv' := [(4, .int 0), (0, .ref (g 0)), (1, .int p1), (2, .int p2), (3, .int p3)]) hx hb dX3_flight_23 hl (by decide) rfl (fun ls hl => ?_)
    refine lv_aload_n hx hb dX3_flight_25 rfl (lv_at hl 1 rfl) ?_
    refine lv_iload_n hx hb dX3_flight_26 rfl (lv_at hl 3 rfl) ?_
    obtain ⟨q3, hq3, h⟩ := bS h
    refine rcI (va_runV (As := [.int p2]) (rest := []) ⟨hx, hb, hml, hown, hts⟩ (c_fl_isPerson l D cI cJ cZ g fPk fWn fGw fGk fOw fSt fPe fHo fGr fPa fFt s.heap hP p2 q3 hq3) (cwV 1 hts gX3_flight_X3_isPerson rfl rfl rfl (by decide +kernel) ⟨Nat.le_of_ble_eq_true rfl, Nat.le_of_ble_eq_true rfl⟩) (rPreV hK hP (ci := 2) (q0 := 0) rfl rfl) rfl rfl hl.1 rfl (lv_room (Nat.le_of_ble_eq_true rfl)) dX3_flight_27 ⟨Nat.zero_le _, Nat.zero_le _⟩) ?_
    refine lv_if_eq (tgt := 38) hx hb dX3_flight_30 (by decide) (fun c4 => ?_) (fun c4 => ?_)
    · have h := iT c4 h
      refine lv_iconst (v := 0) hx hb dX3_flight_38 (by decide) ?_
      exact W.iret hx hb hr (fun t ht _ => ⟨_, rfl, Option.some.inj h, ht⟩) (fun _ q => absurd q List.not_mem_nil) dX3_flight_39
    · have h := iF c4 h
      refine lv_iload hx hb dX3_flight_33 (lv_at hl 0 rfl) ?_
      refine lv_if_eq (tgt := 40) hx hb dX3_flight_35 (by decide) (fun _ => ?_) (fun c => absurd c (by decide))
      refine lv_aload_n hx hb dX3_flight_40 rfl (lv_at hl 1 rfl) ?_
      refine lv_iload_n hx hb dX3_flight_41 rfl (lv_at hl 2 rfl) ?_
      obtain ⟨q5, hq5, h⟩ := bS h
      refine rcI (va_runV (As := [.int p1]) (rest := []) ⟨hx, hb, hml, hown, hts⟩ (c_fl_grainKind l D cI cJ cZ g fPk fWn fGw fGk fOw fSt fPe fHo fGr fPa fFt s.heap hP p1 q5 hq5) (cwV 1 hts gX3_flight_X3_grainKind rfl rfl rfl (by decide +kernel) ⟨Nat.le_of_ble_eq_true rfl, Nat.le_of_ble_eq_true rfl⟩) (rPreV hK hP (ci := 2) (q0 := 0) rfl rfl) rfl rfl hl.1 rfl (lv_room (Nat.le_of_ble_eq_true rfl)) dX3_flight_42 ⟨Nat.zero_le _, Nat.zero_le _⟩) ?_
      refine lv_istore (lv' := [(5, .int q5), (4, .int 0), (0, .ref (g 0)), (1, .int p1), (2, .int p2), (3, .int p3)]) hx hb dX3_flight_45 hl (by decide) rfl (fun ls hl => ?_)
      refine lv_iload hx hb dX3_flight_47 (lv_at hl 0 rfl) ?_
      refine lv_aload_n hx hb dX3_flight_49 rfl (lv_at hl 2 rfl) ?_
      refine lv_iload_n hx hb dX3_flight_50 rfl (lv_at hl 3 rfl) ?_
      obtain ⟨q6, hq6, h⟩ := bS h
      refine rcI (va_runV (As := [.int p1]) (rest := [.int q5]) ⟨hx, hb, hml, hown, hts⟩ (c_fl_weightOf l D cI cJ cZ g fPk fWn fGw fGk fOw fSt fPe fHo fGr fPa fFt s.heap hP p1 q6 hq6) (cwV 1 hts gX3_flight_X3_weightOf rfl rfl rfl (by decide +kernel) ⟨Nat.le_of_ble_eq_true rfl, Nat.le_of_ble_eq_true rfl⟩) (rPreV hK hP (ci := 2) (q0 := 0) rfl rfl) rfl rfl hl.1 rfl (lv_room (Nat.le_of_ble_eq_true rfl)) dX3_flight_51 ⟨Nat.zero_le _, Nat.zero_le _⟩) ?_
      refine lv_iload hx hb dX3_flight_54 (lv_at hl 0 rfl) ?_
      refine lv_iload_n hx hb dX3_flight_56 rfl (lv_at hl 5 rfl) ?_
      obtain ⟨q7, hq7, h⟩ := bS h
      refine rcI (va_runS (As := [.int q5, .int p3]) (rest := [.int q6, .int q5]) ⟨hx, hb, hml, hown, hts⟩ (c_fl_ownLift l D cI cJ cZ   s.heap q5 p3 q7 hq7) (va_cwS 2 hts gX3_flight_X3_ownLift rfl rfl rfl (by decide +kernel) ⟨Nat.le_of_ble_eq_true rfl, Nat.le_of_ble_eq_true rfl⟩) (rPreS hK) rfl rfl hl.1 rfl (lv_room (Nat.le_of_ble_eq_true rfl)) dX3_flight_57 ⟨Nat.zero_le _, Nat.zero_le _⟩) ?_
      obtain ⟨q8, hq8, h⟩ := bS h
      refine rcI (va_runS (As := [.int q5, .int q6, .int q7]) (rest := []) ⟨hx, hb, hml, hown, hts⟩ (c_fl_flown l D cI cJ cZ   s.heap q5 q6 q7 q8 hq8) (va_cwS 3 hts gX3_flight_X3_flown rfl rfl rfl (by decide +kernel) ⟨Nat.le_of_ble_eq_true rfl, Nat.le_of_ble_eq_true rfl⟩) (rPreS hK) rfl rfl hl.1 rfl (lv_room (Nat.le_of_ble_eq_true rfl)) dX3_flight_60 ⟨Nat.zero_le _, Nat.zero_le _⟩) ?_
      exact W.iret hx hb hr (fun t ht _ => ⟨_, rfl, Option.some.inj h, ht⟩) (fun _ q => absurd q List.not_mem_nil) dX3_flight_63
  · have h := iT c2 h
    refine lv_aload_n hx hb dX3_flight_9 rfl (lv_at hl 0 rfl) ?_
    refine lv_iload_n hx hb dX3_flight_10 rfl (lv_at hl 2 rfl) ?_
    obtain ⟨q3, hq3, h⟩ := bS h
    refine rcI (va_runV (As := [.int p2]) (rest := []) ⟨hx, hb, hml, hown, hts⟩ (c_fl_personKind l D cI cJ cZ g fPk fWn fGw fGk fOw fSt fPe fHo fGr fPa fFt s.heap hP p2 q3 hq3) (cwV 1 hts gX3_flight_X3_personKind rfl rfl rfl (by decide +kernel) ⟨Nat.le_of_ble_eq_true rfl, Nat.le_of_ble_eq_true rfl⟩) (rPreV hK hP (ci := 2) (q0 := 0) rfl rfl) rfl rfl hl.1 rfl (lv_room (Nat.le_of_ble_eq_true rfl)) dX3_flight_11 ⟨Nat.zero_le _, Nat.zero_le _⟩) ?_
    refine lv_iconst (v := 3) hx hb dX3_flight_14 (by decide) ?_
    refine lv_icmp_ne (tgt := 22) hx hb dX3_flight_15 (by decide) (fun c4 => ?_) (fun c4 => ?_)
    · have h := iF c4 h
      refine lv_iconst (v := 0) hx hb dX3_flight_22 (by decide) ?_
      refine lv_istore (lv' := [(4, .int 0), (0, .ref (g 0)), (1, .int p1), (2, .int p2), (3, .int p3)]) hx hb dX3_flight_23 hl (by decide) rfl (fun ls hl => ?_)
      refine lv_aload_n hx hb dX3_flight_25 rfl (lv_at hl 1 rfl) ?_
      refine lv_iload_n hx hb dX3_flight_26 rfl (lv_at hl 3 rfl) ?_
      obtain ⟨q5, hq5, h⟩ := bS h
      refine rcI (va_runV (As := [.int p2]) (rest := []) ⟨hx, hb, hml, hown, hts⟩ (c_fl_isPerson l D cI cJ cZ g fPk fWn fGw fGk fOw fSt fPe fHo fGr fPa fFt s.heap hP p2 q5 hq5) (cwV 1 hts gX3_flight_X3_isPerson rfl rfl rfl (by decide +kernel) ⟨Nat.le_of_ble_eq_true rfl, Nat.le_of_ble_eq_true rfl⟩) (rPreV hK hP (ci := 2) (q0 := 0) rfl rfl) rfl rfl hl.1 rfl (lv_room (Nat.le_of_ble_eq_true rfl)) dX3_flight_27 ⟨Nat.zero_le _, Nat.zero_le _⟩) ?_
      refine lv_if_eq (tgt := 38) hx hb dX3_flight_30 (by decide) (fun c6 => ?_) (fun c6 => ?_)
      · have h := iT c6 h
        refine lv_iconst (v := 0) hx hb dX3_flight_38 (by decide) ?_
        exact W.iret hx hb hr (fun t ht _ => ⟨_, rfl, Option.some.inj h, ht⟩) (fun _ q => absurd q List.not_mem_nil) dX3_flight_39
      · have h := iF c6 h
        refine lv_iload hx hb dX3_flight_33 (lv_at hl 0 rfl) ?_
        refine lv_if_eq (tgt := 40) hx hb dX3_flight_35 (by decide) (fun _ => ?_) (fun c => absurd c (by decide))
        refine lv_aload_n hx hb dX3_flight_40 rfl (lv_at hl 1 rfl) ?_
        refine lv_iload_n hx hb dX3_flight_41 rfl (lv_at hl 2 rfl) ?_
        obtain ⟨q7, hq7, h⟩ := bS h
        refine rcI (va_runV (As := [.int p1]) (rest := []) ⟨hx, hb, hml, hown, hts⟩ (c_fl_grainKind l D cI cJ cZ g fPk fWn fGw fGk fOw fSt fPe fHo fGr fPa fFt s.heap hP p1 q7 hq7) (cwV 1 hts gX3_flight_X3_grainKind rfl rfl rfl (by decide +kernel) ⟨Nat.le_of_ble_eq_true rfl, Nat.le_of_ble_eq_true rfl⟩) (rPreV hK hP (ci := 2) (q0 := 0) rfl rfl) rfl rfl hl.1 rfl (lv_room (Nat.le_of_ble_eq_true rfl)) dX3_flight_42 ⟨Nat.zero_le _, Nat.zero_le _⟩) ?_
        refine lv_istore (lv' := [(5, .int q7), (4, .int 0), (0, .ref (g 0)), (1, .int p1), (2, .int p2), (3, .int p3)]) hx hb dX3_flight_45 hl (by decide) rfl (fun ls hl => ?_)
        refine lv_iload hx hb dX3_flight_47 (lv_at hl 0 rfl) ?_
        refine lv_aload_n hx hb dX3_flight_49 rfl (lv_at hl 2 rfl) ?_
        refine lv_iload_n hx hb dX3_flight_50 rfl (lv_at hl 3 rfl) ?_
        obtain ⟨q8, hq8, h⟩ := bS h
        refine rcI (va_runV (As := [.int p1]) (rest := [.int q7]) ⟨hx, hb, hml, hown, hts⟩ (c_fl_weightOf l D cI cJ cZ g fPk fWn fGw fGk fOw fSt fPe fHo fGr fPa fFt s.heap hP p1 q8 hq8) (cwV 1 hts gX3_flight_X3_weightOf rfl rfl rfl (by decide +kernel) ⟨Nat.le_of_ble_eq_true rfl, Nat.le_of_ble_eq_true rfl⟩) (rPreV hK hP (ci := 2) (q0 := 0) rfl rfl) rfl rfl hl.1 rfl (lv_room (Nat.le_of_ble_eq_true rfl)) dX3_flight_51 ⟨Nat.zero_le _, Nat.zero_le _⟩) ?_
        refine lv_iload hx hb dX3_flight_54 (lv_at hl 0 rfl) ?_
        refine lv_iload_n hx hb dX3_flight_56 rfl (lv_at hl 5 rfl) ?_
        obtain ⟨q9, hq9, h⟩ := bS h
        refine rcI (va_runS (As := [.int q7, .int p3]) (rest := [.int q8, .int q7]) ⟨hx, hb, hml, hown, hts⟩ (c_fl_ownLift l D cI cJ cZ   s.heap q7 p3 q9 hq9) (va_cwS 2 hts gX3_flight_X3_ownLift rfl rfl rfl (by decide +kernel) ⟨Nat.le_of_ble_eq_true rfl, Nat.le_of_ble_eq_true rfl⟩) (rPreS hK) rfl rfl hl.1 rfl (lv_room (Nat.le_of_ble_eq_true rfl)) dX3_flight_57 ⟨Nat.zero_le _, Nat.zero_le _⟩) ?_
        obtain ⟨q10, hq10, h⟩ := bS h
        refine rcI (va_runS (As := [.int q7, .int q8, .int q9]) (rest := []) ⟨hx, hb, hml, hown, hts⟩ (c_fl_flown l D cI cJ cZ   s.heap q7 q8 q9 q10 hq10) (va_cwS 3 hts gX3_flight_X3_flown rfl rfl rfl (by decide +kernel) ⟨Nat.le_of_ble_eq_true rfl, Nat.le_of_ble_eq_true rfl⟩) (rPreS hK) rfl rfl hl.1 rfl (lv_room (Nat.le_of_ble_eq_true rfl)) dX3_flight_60 ⟨Nat.zero_le _, Nat.zero_le _⟩) ?_
        exact W.iret hx hb hr (fun t ht _ => ⟨_, rfl, Option.some.inj h, ht⟩) (fun _ q => absurd q List.not_mem_nil) dX3_flight_63
    · have h := iT c4 h
      refine lv_iconst (v := 1) hx hb dX3_flight_18 (by decide) ?_
      refine lv_goto (tgt := 23) hx hb dX3_flight_19 (by decide) ?_
      refine lv_istore (lv' := [(4, .int 1), (0, .ref (g 0)), (1, .int p1), (2, .int p2), (3, .int p3)]) hx hb dX3_flight_23 hl (by decide) rfl (fun ls hl => ?_)
      refine lv_aload_n hx hb dX3_flight_25 rfl (lv_at hl 1 rfl) ?_
      refine lv_iload_n hx hb dX3_flight_26 rfl (lv_at hl 3 rfl) ?_
      obtain ⟨q5, hq5, h⟩ := bS h
      refine rcI (va_runV (As := [.int p2]) (rest := []) ⟨hx, hb, hml, hown, hts⟩ (c_fl_isPerson l D cI cJ cZ g fPk fWn fGw fGk fOw fSt fPe fHo fGr fPa fFt s.heap hP p2 q5 hq5) (cwV 1 hts gX3_flight_X3_isPerson rfl rfl rfl (by decide +kernel) ⟨Nat.le_of_ble_eq_true rfl, Nat.le_of_ble_eq_true rfl⟩) (rPreV hK hP (ci := 2) (q0 := 0) rfl rfl) rfl rfl hl.1 rfl (lv_room (Nat.le_of_ble_eq_true rfl)) dX3_flight_27 ⟨Nat.zero_le _, Nat.zero_le _⟩) ?_
      refine lv_if_eq (tgt := 38) hx hb dX3_flight_30 (by decide) (fun c6 => ?_) (fun c6 => ?_)
      · have h := iT c6 h
        refine lv_iconst (v := 0) hx hb dX3_flight_38 (by decide) ?_
        exact W.iret hx hb hr (fun t ht _ => ⟨_, rfl, Option.some.inj h, ht⟩) (fun _ q => absurd q List.not_mem_nil) dX3_flight_39
      · have h := iF c6 h
        refine lv_iload hx hb dX3_flight_33 (lv_at hl 0 rfl) ?_
        refine lv_if_eq (tgt := 40) hx hb dX3_flight_35 (by decide) (fun c => absurd c (by decide)) (fun _ => ?_)
        refine lv_iconst (v := 0) hx hb dX3_flight_38 (by decide) ?_
        exact W.iret hx hb hr (fun t ht _ => ⟨_, rfl, Option.some.inj h, ht⟩) (fun _ q => absurd q List.not_mem_nil) dX3_flight_39

set_option maxHeartbeats 4000000 in
set_option maxRecDepth 100000 in
theorem c_fl_landing (l : Launch) (D : va_G) (cI cJ cZ : ClassId) (g : Nat → Nat) (fPk : Nat → Int32) (fWn : Nat → Int32) (fGw : Nat → Int32) (fGk : Nat → Int32) (fOw : Nat → Int32) (fSt : Nat → Int32) (fPe : Int32) (fHo : Int32) (fGr : Int32) (fPa : Int32) (fFt : Int32)  (H0 : Heap) (hP : va_P D vwCl (fW g cI fPk fWn fGw fGk fOw fSt fPe fHo fGr fPa fFt) H0) (p1 : Int32) (p2 : Int32) (p3 : Int32) (rv : Int32) (h : fl_landing fPk fGw fGk fOw fPe p1 p2 p3 = some rv) : Met l yX3_landing wsX3_landing ({ frames := 2, cells := 0, slots := 0, locals := 47 } : Room) (rPc D cI cJ cZ H0 [.ref (g 0), .int p1, .int p2, .int p3]) (vp_Si (fun r => r = rv)) 0 0 (fun _ => False) := by
  unfold fl_landing at h
  refine Met.ofW (cc := cX3_landing) (maxL := 6) (ret := (some .int)) (by decide) rfl ?_
  intro p e s m args below meth c s₁ B hml hv
  obtain ⟨rfl, hH, hK⟩ := hv
  have hx := B.exec
  have hb := B.bytes
  have hr := B.returns
  have hts := atoms_spec (ws := wsX3_landing) B.pre
  have hown : s.vm.findClass RX3 = some m.cls := findClass_of_methodNamed B.named
  have hlocks := B.notSynchronized
  subst hH
  have hl := lv_entry ([.ref (g 0), .int p1, .int p2, .int p3]) (n := 6) (Nat.le_of_ble_eq_true rfl)
  rw [lg_entry_eq]
  generalize (lg_sl ([.ref (g 0), .int p1, .int p2, .int p3]) ++ List.replicate (6 - (lg_sl ([.ref (g 0), .int p1, .int p2, .int p3])).length) Slot.unset).toArray = ls at hl ⊢
  have hl : lv_has ls 6 [(0, .ref (g 0)), (1, .int p1), (2, .int p2), (3, .int p3)] := hl
  refine lv_aload_n hx hb dX3_landing_0 rfl (lv_at hl 0 rfl) ?_
  refine lv_iload_n hx hb dX3_landing_1 rfl (lv_at hl 1 rfl) ?_
  refine lv_iload_n hx hb dX3_landing_2 rfl (lv_at hl 2 rfl) ?_
  refine lv_iload_n hx hb dX3_landing_3 rfl (lv_at hl 3 rfl) ?_
  obtain ⟨q1, hq1, h⟩ := bS h
  refine rcI (va_runV (As := [.int p1, .int p2, .int p3]) (rest := []) ⟨hx, hb, hml, hown, hts⟩ (c_fl_flight l D cI cJ cZ g fPk fWn fGw fGk fOw fSt fPe fHo fGr fPa fFt s.heap hP p1 p2 p3 q1 hq1) (cwV 3 hts gX3_landing_X3_flight rfl rfl rfl (by decide +kernel) ⟨Nat.le_of_ble_eq_true rfl, Nat.le_of_ble_eq_true rfl⟩) (rPreV hK hP (ci := 2) (q0 := 0) rfl rfl) rfl rfl hl.1 rfl (lv_room (Nat.le_of_ble_eq_true rfl)) dX3_landing_4 ⟨Nat.zero_le _, Nat.zero_le _⟩) ?_
  refine lv_istore (lv' := [(4, .int q1), (0, .ref (g 0)), (1, .int p1), (2, .int p2), (3, .int p3)]) hx hb dX3_landing_7 hl (by decide) rfl (fun ls hl => ?_)
  refine lv_iload hx hb dX3_landing_9 (lv_at hl 0 rfl) ?_
  refine lv_if_le (tgt := 35) hx hb dX3_landing_11 (by decide) (fun c2 => ?_) (fun c2 => ?_)
  · have h := iT c2 h
    refine lv_aload_n hx hb dX3_landing_35 rfl (lv_at hl 1 rfl) ?_
    refine lv_iload_n hx hb dX3_landing_36 rfl (lv_at hl 3 rfl) ?_
    obtain ⟨q3, hq3, h⟩ := bS h
    refine rcI (va_runV (As := [.int p2]) (rest := []) ⟨hx, hb, hml, hown, hts⟩ (c_fl_isPerson l D cI cJ cZ g fPk fWn fGw fGk fOw fSt fPe fHo fGr fPa fFt s.heap hP p2 q3 hq3) (cwV 1 hts gX3_landing_X3_isPerson rfl rfl rfl (by decide +kernel) ⟨Nat.le_of_ble_eq_true rfl, Nat.le_of_ble_eq_true rfl⟩) (rPreV hK hP (ci := 2) (q0 := 0) rfl rfl) rfl rfl hl.1 rfl (lv_room (Nat.le_of_ble_eq_true rfl)) dX3_landing_37 ⟨Nat.zero_le _, Nat.zero_le _⟩) ?_
    refine lv_if_eq (tgt := 65) hx hb dX3_landing_40 (by decide) (fun c4 => ?_) (fun c4 => ?_)
    · have h := iT c4 h
      refine lv_iconst (v := 0) hx hb dX3_landing_65 (by decide) ?_
      refine lv_istore (lv' := [(5, .int 0), (4, .int q1), (0, .ref (g 0)), (1, .int p1), (2, .int p2), (3, .int p3)]) hx hb dX3_landing_66 hl (by decide) rfl (fun ls hl => ?_)
      refine lv_iload hx hb dX3_landing_68 (lv_at hl 0 rfl) ?_
      refine lv_if_eq (tgt := 78) hx hb dX3_landing_70 (by decide) (fun _ => ?_) (fun c => absurd c (by decide))
      refine lv_iload_n hx hb dX3_landing_78 rfl (lv_at hl 4 rfl) ?_
      exact W.iret hx hb hr (fun t ht _ => ⟨_, rfl, Option.some.inj h, ht⟩) (fun _ q => absurd q List.not_mem_nil) dX3_landing_79
    · have h := iF c4 h
      refine lv_aload_n hx hb dX3_landing_43 rfl (lv_at hl 1 rfl) ?_
      refine lv_iload_n hx hb dX3_landing_44 rfl (lv_at hl 3 rfl) ?_
      obtain ⟨q5, hq5, h⟩ := bS h
      refine rcI (va_runV (As := [.int p2]) (rest := []) ⟨hx, hb, hml, hown, hts⟩ (c_fl_personKind l D cI cJ cZ g fPk fWn fGw fGk fOw fSt fPe fHo fGr fPa fFt s.heap hP p2 q5 hq5) (cwV 1 hts gX3_landing_X3_personKind rfl rfl rfl (by decide +kernel) ⟨Nat.le_of_ble_eq_true rfl, Nat.le_of_ble_eq_true rfl⟩) (rPreV hK hP (ci := 2) (q0 := 0) rfl rfl) rfl rfl hl.1 rfl (lv_room (Nat.le_of_ble_eq_true rfl)) dX3_landing_45 ⟨Nat.zero_le _, Nat.zero_le _⟩) ?_
      refine lv_iconst (v := 2) hx hb dX3_landing_48 (by decide) ?_
      refine lv_icmp_ne (tgt := 65) hx hb dX3_landing_49 (by decide) (fun c6 => ?_) (fun c6 => ?_)
      · have h := iF c6 h
        refine lv_iconst (v := 0) hx hb dX3_landing_65 (by decide) ?_
        refine lv_istore (lv' := [(5, .int 0), (4, .int q1), (0, .ref (g 0)), (1, .int p1), (2, .int p2), (3, .int p3)]) hx hb dX3_landing_66 hl (by decide) rfl (fun ls hl => ?_)
        refine lv_iload hx hb dX3_landing_68 (lv_at hl 0 rfl) ?_
        refine lv_if_eq (tgt := 78) hx hb dX3_landing_70 (by decide) (fun _ => ?_) (fun c => absurd c (by decide))
        refine lv_iload_n hx hb dX3_landing_78 rfl (lv_at hl 4 rfl) ?_
        exact W.iret hx hb hr (fun t ht _ => ⟨_, rfl, Option.some.inj h, ht⟩) (fun _ q => absurd q List.not_mem_nil) dX3_landing_79
      · have h := iT c6 h
        refine lv_aload_n hx hb dX3_landing_52 rfl (lv_at hl 1 rfl) ?_
        refine lv_iload_n hx hb dX3_landing_53 rfl (lv_at hl 2 rfl) ?_
        obtain ⟨q7, hq7, h⟩ := bS h
        refine rcI (va_runV (As := [.int p1]) (rest := []) ⟨hx, hb, hml, hown, hts⟩ (c_fl_grainKind l D cI cJ cZ g fPk fWn fGw fGk fOw fSt fPe fHo fGr fPa fFt s.heap hP p1 q7 hq7) (cwV 1 hts gX3_landing_X3_grainKind rfl rfl rfl (by decide +kernel) ⟨Nat.le_of_ble_eq_true rfl, Nat.le_of_ble_eq_true rfl⟩) (rPreV hK hP (ci := 2) (q0 := 0) rfl rfl) rfl rfl hl.1 rfl (lv_room (Nat.le_of_ble_eq_true rfl)) dX3_landing_54 ⟨Nat.zero_le _, Nat.zero_le _⟩) ?_
        refine lv_iconst (v := 1) hx hb dX3_landing_57 (by decide) ?_
        refine lv_icmp_ne (tgt := 65) hx hb dX3_landing_58 (by decide) (fun c8 => ?_) (fun c8 => ?_)
        · have h := iF c8 h
          refine lv_iconst (v := 0) hx hb dX3_landing_65 (by decide) ?_
          refine lv_istore (lv' := [(5, .int 0), (4, .int q1), (0, .ref (g 0)), (1, .int p1), (2, .int p2), (3, .int p3)]) hx hb dX3_landing_66 hl (by decide) rfl (fun ls hl => ?_)
          refine lv_iload hx hb dX3_landing_68 (lv_at hl 0 rfl) ?_
          refine lv_if_eq (tgt := 78) hx hb dX3_landing_70 (by decide) (fun _ => ?_) (fun c => absurd c (by decide))
          refine lv_iload_n hx hb dX3_landing_78 rfl (lv_at hl 4 rfl) ?_
          exact W.iret hx hb hr (fun t ht _ => ⟨_, rfl, Option.some.inj h, ht⟩) (fun _ q => absurd q List.not_mem_nil) dX3_landing_79
        · have h := iT c8 h
          refine lv_iconst (v := 1) hx hb dX3_landing_61 (by decide) ?_
          refine lv_goto (tgt := 66) hx hb dX3_landing_62 (by decide) ?_
          refine lv_istore (lv' := [(5, .int 1), (4, .int q1), (0, .ref (g 0)), (1, .int p1), (2, .int p2), (3, .int p3)]) hx hb dX3_landing_66 hl (by decide) rfl (fun ls hl => ?_)
          refine lv_iload hx hb dX3_landing_68 (lv_at hl 0 rfl) ?_
          refine lv_if_eq (tgt := 78) hx hb dX3_landing_70 (by decide) (fun c => absurd c (by decide)) (fun _ => ?_)
          refine lv_bipush (v := 9) hx hb dX3_landing_73 (by decide) ?_
          refine lv_goto (tgt := 79) hx hb dX3_landing_75 (by decide) ?_
          exact W.iret hx hb hr (fun t ht _ => ⟨_, rfl, Option.some.inj h, ht⟩) (fun _ q => absurd q List.not_mem_nil) dX3_landing_79
  · have h := iF c2 h
    refine lv_aload_n hx hb dX3_landing_14 rfl (lv_at hl 1 rfl) ?_
    refine lv_iload_n hx hb dX3_landing_15 rfl (lv_at hl 3 rfl) ?_
    refine lv_iload hx hb dX3_landing_16 (lv_at hl 0 rfl) ?_
    refine lv_iadd hx hb dX3_landing_18 ?_
    obtain ⟨q3, hq3, h⟩ := bS h
    refine rcI (va_runV (As := [.int (p2 + q1)]) (rest := []) ⟨hx, hb, hml, hown, hts⟩ (c_fl_isPerson l D cI cJ cZ g fPk fWn fGw fGk fOw fSt fPe fHo fGr fPa fFt s.heap hP (p2 + q1) q3 hq3) (cwV 1 hts gX3_landing_X3_isPerson rfl rfl rfl (by decide +kernel) ⟨Nat.le_of_ble_eq_true rfl, Nat.le_of_ble_eq_true rfl⟩) (rPreV hK hP (ci := 2) (q0 := 0) rfl rfl) rfl rfl hl.1 rfl (lv_room (Nat.le_of_ble_eq_true rfl)) dX3_landing_19 ⟨Nat.zero_le _, Nat.zero_le _⟩) ?_
    refine lv_if_eq (tgt := 32) hx hb dX3_landing_22 (by decide) (fun c4 => ?_) (fun c4 => ?_)
    · have h := iT c4 h
      refine lv_bipush (v := 8) hx hb dX3_landing_32 (by decide) ?_
      exact W.iret hx hb hr (fun t ht _ => ⟨_, rfl, Option.some.inj h, ht⟩) (fun _ q => absurd q List.not_mem_nil) dX3_landing_34
    · have h := iF c4 h
      refine lv_iload_n hx hb dX3_landing_25 rfl (lv_at hl 3 rfl) ?_
      refine lv_iload hx hb dX3_landing_26 (lv_at hl 0 rfl) ?_
      refine lv_iadd hx hb dX3_landing_28 ?_
      refine lv_goto (tgt := 34) hx hb dX3_landing_29 (by decide) ?_
      exact W.iret hx hb hr (fun t ht _ => ⟨_, rfl, Option.some.inj h, ht⟩) (fun _ q => absurd q List.not_mem_nil) dX3_landing_34

set_option maxHeartbeats 4000000 in
set_option maxRecDepth 100000 in
theorem c_xx_grain (l : Launch) (D : va_G) (cI cJ cZ : ClassId) (a : Nat → Nat) (g : Nat → Nat) (d : Nat → Nat) (xText : Nat → Int32) (xLetters : Int32) (xNow : Int64) (xKept : Nat → Int64) (xIsKept : Nat → Int32) (xChance : Int64) (xScenes : Nat → Int64) (xASize : Int32) (xSKinds : Nat → Int32) (xSLifts : Nat → Int32) (xSFlights : Nat → Int32) (xSSize : Int32) (xTally : Nat → Int32) (xOut : Nat → Int64) (fPk : Nat → Int32) (fWn : Nat → Int32) (fGw : Nat → Int32) (fGk : Nat → Int32) (fOw : Nat → Int32) (fSt : Nat → Int32) (fPe : Int32) (fHo : Int32) (fGr : Int32) (fPa : Int32) (fFt : Int32) (dPk : Nat → Int32) (dWn : Nat → Int32) (dGw : Nat → Int32) (dGk : Nat → Int32) (dOw : Nat → Int32) (dSt : Nat → Int32) (dPe : Int32) (dHo : Int32) (dGr : Int32) (dPa : Int32) (dFt : Int32)  (H0 : Heap) (hP : va_P D vwCl (xW a g d cI cJ cZ (g 0) (d 0) xText xLetters xNow xKept xIsKept xChance xScenes xASize xSKinds xSLifts xSFlights xSSize xTally xOut fPk fWn fGw fGk fOw fSt fPe fHo fGr fPa fFt dPk dWn dGw dGk dOw dSt dPe dHo dGr dPa dFt) H0) (p1 : Int32) (p2 : Int32) (rv : Int32) (h : xx_grain xNow fPk fWn fGw fGk fOw fPe fHo fGr p1 p2 = some rv) : Met l yX11_grain wsX11_grain ({ frames := 3, cells := 0, slots := 0, locals := 72 } : Room) (rPc D cI cJ cZ H0 [.ref (a 0), .int p1, .int p2]) (vp_Si (fun r => r = rv)) 0 0 (fun _ => False) := by
  unfold xx_grain at h
  refine Met.ofW (cc := cX11_grain) (maxL := 5) (ret := (some .int)) (by decide) rfl ?_
  intro p e s m args below meth c s₁ B hml hv
  obtain ⟨rfl, hH, hK⟩ := hv
  have hx := B.exec
  have hb := B.bytes
  have hr := B.returns
  have hts := atoms_spec (ws := wsX11_grain) B.pre
  have hown : s.vm.findClass RX11 = some m.cls := findClass_of_methodNamed B.named
  have hlocks := B.notSynchronized
  subst hH
  have hl := lv_entry ([.ref (a 0), .int p1, .int p2]) (n := 5) (Nat.le_of_ble_eq_true rfl)
  rw [lg_entry_eq]
  generalize (lg_sl ([.ref (a 0), .int p1, .int p2]) ++ List.replicate (5 - (lg_sl ([.ref (a 0), .int p1, .int p2])).length) Slot.unset).toArray = ls at hl ⊢
  have hl : lv_has ls 5 [(0, .ref (a 0)), (1, .int p1), (2, .int p2)] := hl
  have hiX11 : ∀ w ∈ u_ws RX11 TX11 11, w ∈ wsX11_grain := fun w hw => List.mem_cons_of_mem _ (List.mem_append_left _ (List.mem_append_right _ hw))
  refine lv_aload_n hx hb dX11_grain_0 rfl (lv_at hl 0 rfl) ?_
  refine va_get (D := D) (ci := 4) (v := .ref (g 0)) (C := RX11) (T := TX11) (N := 11) hx hb hts hiX11 hown hK.1 hP 0 rfl rfl 2 (by decide) (hts (.fieldLink RX11 16 "WinnowedGuilt" "ground" "LWinnowedGuilt$Floor;") (by decide +kernel)) (fun _ h9 => h9) rfl dX11_grain_1 ?_
  refine lv_iload_n hx hb dX11_grain_4 rfl (lv_at hl 1 rfl) ?_
  have hG := hP.sub (ws' := (fW g cI fPk fWn fGw fGk fOw fSt fPe fHo fGr fPa fFt)) [13, 14, 15, 16, 17, 18, 19] rfl
  obtain ⟨q1, hq1, h⟩ := bS h
  refine rcI (va_runV (As := [.int p1]) (rest := []) ⟨hx, hb, hml, hown, hts⟩ (c_fl_isGrain l D cI cJ cZ g fPk fWn fGw fGk fOw fSt fPe fHo fGr fPa fFt s.heap hG p1 q1 hq1) (cwV 1 hts gX11_grain_X3_isGrain rfl rfl rfl (by decide +kernel) ⟨Nat.le_of_ble_eq_true rfl, Nat.le_of_ble_eq_true rfl⟩) (rPreV hK hG (ci := 2) (q0 := 0) rfl rfl) rfl rfl hl.1 rfl (lv_room (Nat.le_of_ble_eq_true rfl)) dX11_grain_5 ⟨Nat.zero_le _, Nat.zero_le _⟩) ?_
  refine lv_if_ne (tgt := 13) hx hb dX11_grain_8 (by decide) (fun c2 => ?_) (fun c2 => ?_)
  · have h := iF c2 h
    refine lv_aload_n hx hb dX11_grain_13 rfl (lv_at hl 0 rfl) ?_
    refine va_get (D := D) (ci := 4) (v := .long xNow) (C := RX11) (T := TX11) (N := 11) hx hb hts hiX11 hown hK.1 hP 0 rfl rfl 4 (by decide) (hts (.fieldLink RX11 27 "WinnowedGuilt" "now" "J") (by decide +kernel)) (fun _ h9 => h9) rfl dX11_grain_14 ?_
    refine lv_iload_n hx hb dX11_grain_17 rfl (lv_at hl 1 rfl) ?_
    obtain ⟨q3, hq3, h⟩ := bS h
    refine rcI (va_runS (As := [.long xNow, .int p1]) (rest := []) ⟨hx, hb, hml, hown, hts⟩ (c_sc_placeOf l D cI cJ cZ   s.heap xNow p1 q3 hq3) (va_cwS 2 hts gX11_grain_X7_placeOf rfl rfl rfl (by decide +kernel) ⟨Nat.le_of_ble_eq_true rfl, Nat.le_of_ble_eq_true rfl⟩) (rPreS hK) rfl rfl hl.1 rfl (lv_room (Nat.le_of_ble_eq_true rfl)) dX11_grain_18 ⟨Nat.zero_le _, Nat.zero_le _⟩) ?_
    refine lv_istore_n (lv' := [(3, .int q3), (0, .ref (a 0)), (1, .int p1), (2, .int p2)]) hx hb dX11_grain_21 rfl hl (by decide) rfl (fun ls hl => ?_)
    refine lv_aload_n hx hb dX11_grain_22 rfl (lv_at hl 1 rfl) ?_
    refine va_get (D := D) (ci := 4) (v := .ref (g 0)) (C := RX11) (T := TX11) (N := 11) hx hb hts hiX11 hown hK.1 hP 0 rfl rfl 2 (by decide) (hts (.fieldLink RX11 16 "WinnowedGuilt" "ground" "LWinnowedGuilt$Floor;") (by decide +kernel)) (fun _ h9 => h9) rfl dX11_grain_23 ?_
    refine lv_aload_n hx hb dX11_grain_26 rfl (lv_at hl 1 rfl) ?_
    refine va_get (D := D) (ci := 4) (v := .long xNow) (C := RX11) (T := TX11) (N := 11) hx hb hts hiX11 hown hK.1 hP 0 rfl rfl 4 (by decide) (hts (.fieldLink RX11 27 "WinnowedGuilt" "now" "J") (by decide +kernel)) (fun _ h9 => h9) rfl dX11_grain_27 ?_
    refine lv_iload_n hx hb dX11_grain_30 rfl (lv_at hl 0 rfl) ?_
    have hG := hP.sub (ws' := (fW g cI fPk fWn fGw fGk fOw fSt fPe fHo fGr fPa fFt)) [13, 14, 15, 16, 17, 18, 19] rfl
    obtain ⟨q4, hq4, h⟩ := bS h
    refine rcI (va_runV (As := [.long xNow, .int q3]) (rest := []) ⟨hx, hb, hml, hown, hts⟩ (c_fl_liftAt l D cI cJ cZ g fPk fWn fGw fGk fOw fSt fPe fHo fGr fPa fFt s.heap hG xNow q3 q4 hq4) (cwV 2 hts gX11_grain_X3_liftAt rfl rfl rfl (by decide +kernel) ⟨Nat.le_of_ble_eq_true rfl, Nat.le_of_ble_eq_true rfl⟩) (rPreV hK hG (ci := 2) (q0 := 0) rfl rfl) rfl rfl hl.1 rfl (lv_room (Nat.le_of_ble_eq_true rfl)) dX11_grain_31 ⟨Nat.zero_le _, Nat.zero_le _⟩) ?_
    refine lv_istore (lv' := [(4, .int q4), (3, .int q3), (0, .ref (a 0)), (1, .int p1), (2, .int p2)]) hx hb dX11_grain_34 hl (by decide) rfl (fun ls hl => ?_)
    refine lv_iload_n hx hb dX11_grain_36 rfl (lv_at hl 4 rfl) ?_
    by_cases w4_0 : p2 = 0
    · have h := iT w4_0 h
      refine lv_tableIn (tgt := 80) hx hb dX11_grain_37 (by rw [w4_0]; decide) (by rw [w4_0]; decide) (by rw [w4_0]; rfl) (by decide) ?_
      refine lv_aload_n hx hb dX11_grain_80 rfl (lv_at hl 2 rfl) ?_
      refine va_get (D := D) (ci := 4) (v := .ref (g 0)) (C := RX11) (T := TX11) (N := 11) hx hb hts hiX11 hown hK.1 hP 0 rfl rfl 2 (by decide) (hts (.fieldLink RX11 16 "WinnowedGuilt" "ground" "LWinnowedGuilt$Floor;") (by decide +kernel)) (fun _ h9 => h9) rfl dX11_grain_81 ?_
      refine lv_iload_n hx hb dX11_grain_84 rfl (lv_at hl 3 rfl) ?_
      have hG := hP.sub (ws' := (fW g cI fPk fWn fGw fGk fOw fSt fPe fHo fGr fPa fFt)) [13, 14, 15, 16, 17, 18, 19] rfl
      obtain ⟨q6, hq6, h⟩ := bS h
      refine rcI (va_runV (As := [.int p1]) (rest := []) ⟨hx, hb, hml, hown, hts⟩ (c_fl_weightOf l D cI cJ cZ g fPk fWn fGw fGk fOw fSt fPe fHo fGr fPa fFt s.heap hG p1 q6 hq6) (cwV 1 hts gX11_grain_X3_weightOf rfl rfl rfl (by decide +kernel) ⟨Nat.le_of_ble_eq_true rfl, Nat.le_of_ble_eq_true rfl⟩) (rPreV hK hG (ci := 2) (q0 := 0) rfl rfl) rfl rfl hl.1 rfl (lv_room (Nat.le_of_ble_eq_true rfl)) dX11_grain_85 ⟨Nat.zero_le _, Nat.zero_le _⟩) ?_
      exact W.iret hx hb hr (fun t ht _ => ⟨_, rfl, Option.some.inj h, ht⟩) (fun _ q => absurd q List.not_mem_nil) dX11_grain_88
    have h := iF w4_0 h
    by_cases w4_1 : p2 = 1
    · have h := iT w4_1 h
      refine lv_tableIn (tgt := 89) hx hb dX11_grain_37 (by rw [w4_1]; decide) (by rw [w4_1]; decide) (by rw [w4_1]; rfl) (by decide) ?_
      refine lv_aload_n hx hb dX11_grain_89 rfl (lv_at hl 2 rfl) ?_
      refine va_get (D := D) (ci := 4) (v := .ref (g 0)) (C := RX11) (T := TX11) (N := 11) hx hb hts hiX11 hown hK.1 hP 0 rfl rfl 2 (by decide) (hts (.fieldLink RX11 16 "WinnowedGuilt" "ground" "LWinnowedGuilt$Floor;") (by decide +kernel)) (fun _ h9 => h9) rfl dX11_grain_90 ?_
      refine lv_iload_n hx hb dX11_grain_93 rfl (lv_at hl 3 rfl) ?_
      have hG := hP.sub (ws' := (fW g cI fPk fWn fGw fGk fOw fSt fPe fHo fGr fPa fFt)) [13, 14, 15, 16, 17, 18, 19] rfl
      obtain ⟨q6, hq6, h⟩ := bS h
      refine rcI (va_runV (As := [.int p1]) (rest := []) ⟨hx, hb, hml, hown, hts⟩ (c_fl_grainKind l D cI cJ cZ g fPk fWn fGw fGk fOw fSt fPe fHo fGr fPa fFt s.heap hG p1 q6 hq6) (cwV 1 hts gX11_grain_X3_grainKind rfl rfl rfl (by decide +kernel) ⟨Nat.le_of_ble_eq_true rfl, Nat.le_of_ble_eq_true rfl⟩) (rPreV hK hG (ci := 2) (q0 := 0) rfl rfl) rfl rfl hl.1 rfl (lv_room (Nat.le_of_ble_eq_true rfl)) dX11_grain_94 ⟨Nat.zero_le _, Nat.zero_le _⟩) ?_
      exact W.iret hx hb hr (fun t ht _ => ⟨_, rfl, Option.some.inj h, ht⟩) (fun _ q => absurd q List.not_mem_nil) dX11_grain_97
    have h := iF w4_1 h
    by_cases w4_2 : p2 = 2
    · have h := iT w4_2 h
      refine lv_tableIn (tgt := 98) hx hb dX11_grain_37 (by rw [w4_2]; decide) (by rw [w4_2]; decide) (by rw [w4_2]; rfl) (by decide) ?_
      refine lv_aload_n hx hb dX11_grain_98 rfl (lv_at hl 2 rfl) ?_
      refine va_get (D := D) (ci := 4) (v := .ref (g 0)) (C := RX11) (T := TX11) (N := 11) hx hb hts hiX11 hown hK.1 hP 0 rfl rfl 2 (by decide) (hts (.fieldLink RX11 16 "WinnowedGuilt" "ground" "LWinnowedGuilt$Floor;") (by decide +kernel)) (fun _ h9 => h9) rfl dX11_grain_99 ?_
      refine lv_iload_n hx hb dX11_grain_102 rfl (lv_at hl 3 rfl) ?_
      have hG := hP.sub (ws' := (fW g cI fPk fWn fGw fGk fOw fSt fPe fHo fGr fPa fFt)) [13, 14, 15, 16, 17, 18, 19] rfl
      obtain ⟨q6, hq6, h⟩ := bS h
      refine rcI (va_runV (As := [.int p1]) (rest := []) ⟨hx, hb, hml, hown, hts⟩ (c_fl_ownerOf l D cI cJ cZ g fPk fWn fGw fGk fOw fSt fPe fHo fGr fPa fFt s.heap hG p1 q6 hq6) (cwV 1 hts gX11_grain_X3_ownerOf rfl rfl rfl (by decide +kernel) ⟨Nat.le_of_ble_eq_true rfl, Nat.le_of_ble_eq_true rfl⟩) (rPreV hK hG (ci := 2) (q0 := 0) rfl rfl) rfl rfl hl.1 rfl (lv_room (Nat.le_of_ble_eq_true rfl)) dX11_grain_103 ⟨Nat.zero_le _, Nat.zero_le _⟩) ?_
      exact W.iret hx hb hr (fun t ht _ => ⟨_, rfl, Option.some.inj h, ht⟩) (fun _ q => absurd q List.not_mem_nil) dX11_grain_106
    have h := iF w4_2 h
    by_cases w4_3 : p2 = 3
    · have h := iT w4_3 h
      refine lv_tableIn (tgt := 107) hx hb dX11_grain_37 (by rw [w4_3]; decide) (by rw [w4_3]; decide) (by rw [w4_3]; rfl) (by decide) ?_
      refine lv_iload_n hx hb dX11_grain_107 rfl (lv_at hl 1 rfl) ?_
      exact W.iret hx hb hr (fun t ht _ => ⟨_, rfl, Option.some.inj h, ht⟩) (fun _ q => absurd q List.not_mem_nil) dX11_grain_108
    have h := iF w4_3 h
    by_cases w4_4 : p2 = 4
    · have h := iT w4_4 h
      refine lv_tableIn (tgt := 109) hx hb dX11_grain_37 (by rw [w4_4]; decide) (by rw [w4_4]; decide) (by rw [w4_4]; rfl) (by decide) ?_
      refine lv_aload_n hx hb dX11_grain_109 rfl (lv_at hl 2 rfl) ?_
      refine va_get (D := D) (ci := 4) (v := .ref (g 0)) (C := RX11) (T := TX11) (N := 11) hx hb hts hiX11 hown hK.1 hP 0 rfl rfl 2 (by decide) (hts (.fieldLink RX11 16 "WinnowedGuilt" "ground" "LWinnowedGuilt$Floor;") (by decide +kernel)) (fun _ h9 => h9) rfl dX11_grain_110 ?_
      refine lv_iload_n hx hb dX11_grain_113 rfl (lv_at hl 1 rfl) ?_
      have hG := hP.sub (ws' := (fW g cI fPk fWn fGw fGk fOw fSt fPe fHo fGr fPa fFt)) [13, 14, 15, 16, 17, 18, 19] rfl
      obtain ⟨q6, hq6, h⟩ := bS h
      refine rcI (va_runV (As := [.int q3]) (rest := []) ⟨hx, hb, hml, hown, hts⟩ (c_fl_isPerson l D cI cJ cZ g fPk fWn fGw fGk fOw fSt fPe fHo fGr fPa fFt s.heap hG q3 q6 hq6) (cwV 1 hts gX11_grain_X3_isPerson rfl rfl rfl (by decide +kernel) ⟨Nat.le_of_ble_eq_true rfl, Nat.le_of_ble_eq_true rfl⟩) (rPreV hK hG (ci := 2) (q0 := 0) rfl rfl) rfl rfl hl.1 rfl (lv_room (Nat.le_of_ble_eq_true rfl)) dX11_grain_114 ⟨Nat.zero_le _, Nat.zero_le _⟩) ?_
      refine lv_if_eq (tgt := 136) hx hb dX11_grain_117 (by decide) (fun c7 => ?_) (fun c7 => ?_)
      · have h := iT c7 h
        refine lv_iconst (v := 0) hx hb dX11_grain_136 (by decide) ?_
        exact W.iret hx hb hr (fun t ht _ => ⟨_, rfl, Option.some.inj h, ht⟩) (fun _ q => absurd q List.not_mem_nil) dX11_grain_137
      · have h := iF c7 h
        refine lv_aload_n hx hb dX11_grain_120 rfl (lv_at hl 2 rfl) ?_
        refine va_get (D := D) (ci := 4) (v := .ref (g 0)) (C := RX11) (T := TX11) (N := 11) hx hb hts hiX11 hown hK.1 hP 0 rfl rfl 2 (by decide) (hts (.fieldLink RX11 16 "WinnowedGuilt" "ground" "LWinnowedGuilt$Floor;") (by decide +kernel)) (fun _ h9 => h9) rfl dX11_grain_121 ?_
        refine lv_iload_n hx hb dX11_grain_124 rfl (lv_at hl 3 rfl) ?_
        have hG := hP.sub (ws' := (fW g cI fPk fWn fGw fGk fOw fSt fPe fHo fGr fPa fFt)) [13, 14, 15, 16, 17, 18, 19] rfl
        obtain ⟨q8, hq8, h⟩ := bS h
        refine rcI (va_runV (As := [.int p1]) (rest := []) ⟨hx, hb, hml, hown, hts⟩ (c_fl_grainKind l D cI cJ cZ g fPk fWn fGw fGk fOw fSt fPe fHo fGr fPa fFt s.heap hG p1 q8 hq8) (cwV 1 hts gX11_grain_X3_grainKind rfl rfl rfl (by decide +kernel) ⟨Nat.le_of_ble_eq_true rfl, Nat.le_of_ble_eq_true rfl⟩) (rPreV hK hG (ci := 2) (q0 := 0) rfl rfl) rfl rfl hl.1 rfl (lv_room (Nat.le_of_ble_eq_true rfl)) dX11_grain_125 ⟨Nat.zero_le _, Nat.zero_le _⟩) ?_
        refine lv_iload hx hb dX11_grain_128 (lv_at hl 0 rfl) ?_
        obtain ⟨q9, hq9, h⟩ := bS h
        refine rcI (va_runS (As := [.int q8, .int q4]) (rest := []) ⟨hx, hb, hml, hown, hts⟩ (c_fl_ownLift l D cI cJ cZ   s.heap q8 q4 q9 hq9) (va_cwS 2 hts gX11_grain_X3_ownLift rfl rfl rfl (by decide +kernel) ⟨Nat.le_of_ble_eq_true rfl, Nat.le_of_ble_eq_true rfl⟩) (rPreS hK) rfl rfl hl.1 rfl (lv_room (Nat.le_of_ble_eq_true rfl)) dX11_grain_130 ⟨Nat.zero_le _, Nat.zero_le _⟩) ?_
        refine lv_goto (tgt := 137) hx hb dX11_grain_133 (by decide) ?_
        exact W.iret hx hb hr (fun t ht _ => ⟨_, rfl, Option.some.inj h, ht⟩) (fun _ q => absurd q List.not_mem_nil) dX11_grain_137
    have h := iF w4_4 h
    by_cases w4_5 : p2 = 5
    · have h := iT w4_5 h
      refine lv_tableIn (tgt := 138) hx hb dX11_grain_37 (by rw [w4_5]; decide) (by rw [w4_5]; decide) (by rw [w4_5]; rfl) (by decide) ?_
      refine lv_aload_n hx hb dX11_grain_138 rfl (lv_at hl 2 rfl) ?_
      refine va_get (D := D) (ci := 4) (v := .ref (g 0)) (C := RX11) (T := TX11) (N := 11) hx hb hts hiX11 hown hK.1 hP 0 rfl rfl 2 (by decide) (hts (.fieldLink RX11 16 "WinnowedGuilt" "ground" "LWinnowedGuilt$Floor;") (by decide +kernel)) (fun _ h9 => h9) rfl dX11_grain_139 ?_
      refine lv_iload_n hx hb dX11_grain_142 rfl (lv_at hl 3 rfl) ?_
      refine lv_iload_n hx hb dX11_grain_143 rfl (lv_at hl 1 rfl) ?_
      refine lv_iload hx hb dX11_grain_144 (lv_at hl 0 rfl) ?_
      have hG := hP.sub (ws' := (fW g cI fPk fWn fGw fGk fOw fSt fPe fHo fGr fPa fFt)) [13, 14, 15, 16, 17, 18, 19] rfl
      obtain ⟨q6, hq6, h⟩ := bS h
      refine rcI (va_runV (As := [.int p1, .int q3, .int q4]) (rest := []) ⟨hx, hb, hml, hown, hts⟩ (c_fl_landing l D cI cJ cZ g fPk fWn fGw fGk fOw fSt fPe fHo fGr fPa fFt s.heap hG p1 q3 q4 q6 hq6) (cwV 3 hts gX11_grain_X3_landing rfl rfl rfl (by decide +kernel) ⟨Nat.le_of_ble_eq_true rfl, Nat.le_of_ble_eq_true rfl⟩) (rPreV hK hG (ci := 2) (q0 := 0) rfl rfl) rfl rfl hl.1 rfl (lv_room (Nat.le_of_ble_eq_true rfl)) dX11_grain_146 ⟨Nat.zero_le _, Nat.zero_le _⟩) ?_
      exact W.iret hx hb hr (fun t ht _ => ⟨_, rfl, Option.some.inj h, ht⟩) (fun _ q => absurd q List.not_mem_nil) dX11_grain_149
    have h := iF w4_5 h
    by_cases w4_6 : p2 = 6
    · have h := iT w4_6 h
      refine lv_tableIn (tgt := 150) hx hb dX11_grain_37 (by rw [w4_6]; decide) (by rw [w4_6]; decide) (by rw [w4_6]; rfl) (by decide) ?_
      refine lv_aload_n hx hb dX11_grain_150 rfl (lv_at hl 2 rfl) ?_
      refine va_get (D := D) (ci := 4) (v := .ref (g 0)) (C := RX11) (T := TX11) (N := 11) hx hb hts hiX11 hown hK.1 hP 0 rfl rfl 2 (by decide) (hts (.fieldLink RX11 16 "WinnowedGuilt" "ground" "LWinnowedGuilt$Floor;") (by decide +kernel)) (fun _ h9 => h9) rfl dX11_grain_151 ?_
      refine lv_aload_n hx hb dX11_grain_154 rfl (lv_at hl 2 rfl) ?_
      refine va_get (D := D) (ci := 4) (v := .long xNow) (C := RX11) (T := TX11) (N := 11) hx hb hts hiX11 hown hK.1 hP 0 rfl rfl 4 (by decide) (hts (.fieldLink RX11 27 "WinnowedGuilt" "now" "J") (by decide +kernel)) (fun _ h9 => h9) rfl dX11_grain_155 ?_
      refine lv_iload_n hx hb dX11_grain_158 rfl (lv_at hl 3 rfl) ?_
      have hG := hP.sub (ws' := (fW g cI fPk fWn fGw fGk fOw fSt fPe fHo fGr fPa fFt)) [13, 14, 15, 16, 17, 18, 19] rfl
      obtain ⟨q6, hq6, h⟩ := bS h
      refine rcI (va_runV (As := [.long xNow, .int p1]) (rest := []) ⟨hx, hb, hml, hown, hts⟩ (c_fl_isRight l D cI cJ cZ g fPk fWn fGw fGk fOw fSt fPe fHo fGr fPa fFt s.heap hG xNow p1 q6 hq6) (cwV 2 hts gX11_grain_X3_isRight rfl rfl rfl (by decide +kernel) ⟨Nat.le_of_ble_eq_true rfl, Nat.le_of_ble_eq_true rfl⟩) (rPreV hK hG (ci := 2) (q0 := 0) rfl rfl) rfl rfl hl.1 rfl (lv_room (Nat.le_of_ble_eq_true rfl)) dX11_grain_159 ⟨Nat.zero_le _, Nat.zero_le _⟩) ?_
      refine lv_if_eq (tgt := 169) hx hb dX11_grain_162 (by decide) (fun c7 => ?_) (fun c7 => ?_)
      · have h := iT c7 h
        refine lv_iconst (v := 0) hx hb dX11_grain_169 (by decide) ?_
        exact W.iret hx hb hr (fun t ht _ => ⟨_, rfl, Option.some.inj h, ht⟩) (fun _ q => absurd q List.not_mem_nil) dX11_grain_170
      · have h := iF c7 h
        refine lv_iconst (v := 1) hx hb dX11_grain_165 (by decide) ?_
        refine lv_goto (tgt := 170) hx hb dX11_grain_166 (by decide) ?_
        exact W.iret hx hb hr (fun t ht _ => ⟨_, rfl, Option.some.inj h, ht⟩) (fun _ q => absurd q List.not_mem_nil) dX11_grain_170
    have h := iF w4_6 h
    refine lv_tableOut (tgt := 171) hx hb dX11_grain_37 (by have := lv_neT (a := 0) w4_0 (by decide); have := lv_neT (a := 1) w4_1 (by decide); have := lv_neT (a := 2) w4_2 (by decide); have := lv_neT (a := 3) w4_3 (by decide); have := lv_neT (a := 4) w4_4 (by decide); have := lv_neT (a := 5) w4_5 (by decide); have := lv_neT (a := 6) w4_6 (by decide); omega) (by decide) ?_
    refine lv_bipush (v := (-2)) hx hb dX11_grain_171 (by decide) ?_
    exact W.iret hx hb hr (fun t ht _ => ⟨_, rfl, Option.some.inj h, ht⟩) (fun _ q => absurd q List.not_mem_nil) dX11_grain_173
  · have h := iT c2 h
    refine lv_iconst (v := (-1)) hx hb dX11_grain_11 (by decide) ?_
    exact W.iret hx hb hr (fun t ht _ => ⟨_, rfl, Option.some.inj h, ht⟩) (fun _ q => absurd q List.not_mem_nil) dX11_grain_12
