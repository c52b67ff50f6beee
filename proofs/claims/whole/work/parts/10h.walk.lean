set_option maxHeartbeats 4000000 in
set_option maxRecDepth 100000 in
theorem c_gu_moved (l : Launch) (D : va_G) (cI cJ cZ : ClassId) (g : Nat → Nat) (fPk : Nat → Int32) (fWn : Nat → Int32) (fGw : Nat → Int32) (fGk : Nat → Int32) (fOw : Nat → Int32) (fSt : Nat → Int32) (fPe : Int32) (fHo : Int32) (fGr : Int32) (fPa : Int32) (fFt : Int32)  (H0 : Heap) (hP : va_P D vwCl (fW g cI fPk fWn fGw fGk fOw fSt fPe fHo fGr fPa fFt) H0) (p1 : Int64) (p3 : Int32) (p4 : Int32) (rv : Int64) (h : gu_moved fPk fWn fGw fGk fOw fPe fHo p1 p3 p4 = some rv) : Met l yX5_moved wsX5_moved ({ frames := 3, cells := 0, slots := 0, locals := 72 } : Room) (rPc D cI cJ cZ H0 [.ref (g 0), .long p1, .int p3, .int p4]) (vp_Sl (fun r => r = rv)) 0 0 (fun _ => False) := by
  unfold gu_moved at h
  refine Met.ofW (cc := cX5_moved) (maxL := 7) (ret := (some .long)) (by decide) rfl ?_
  intro p e s m args below meth c s₁ B hml hv
  obtain ⟨rfl, hH, hK⟩ := hv
  have hx := B.exec
  have hb := B.bytes
  have hr := B.returns
  have hts := atoms_spec (ws := wsX5_moved) B.pre
  have hown : s.vm.findClass RX5 = some m.cls := findClass_of_methodNamed B.named
  have hlocks := B.notSynchronized
  subst hH
  have hl := lv_entry ([.ref (g 0), .long p1, .int p3, .int p4]) (n := 7) (Nat.le_of_ble_eq_true rfl)
  rw [lg_entry_eq]
  generalize (lg_sl ([.ref (g 0), .long p1, .int p3, .int p4]) ++ List.replicate (7 - (lg_sl ([.ref (g 0), .long p1, .int p3, .int p4])).length) Slot.unset).toArray = ls at hl ⊢
  have hl : lv_has ls 7 [(0, .ref (g 0)), (1, .long p1), (3, .int p3), (4, .int p4)] := hl
  refine lv_lload_n hx hb dX5_moved_0 rfl (lv_at hl 1 rfl) ?_
  refine lv_iload_n hx hb dX5_moved_1 rfl (lv_at hl 2 rfl) ?_
  obtain ⟨q1, hq1, h⟩ := bS h
  refine rcI (va_runS (As := [.long p1, .int p3]) (rest := []) ⟨hx, hb, hml, hown, hts⟩ (c_sc_placeOf l D cI cJ cZ   s.heap p1 p3 q1 hq1) (va_cwS 2 hts gX5_moved_X7_placeOf rfl rfl rfl (by decide +kernel) ⟨Nat.le_of_ble_eq_true rfl, Nat.le_of_ble_eq_true rfl⟩) (rPreS hK) rfl rfl hl.1 rfl (lv_room (Nat.le_of_ble_eq_true rfl)) dX5_moved_2 ⟨Nat.zero_le _, Nat.zero_le _⟩) ?_
  refine lv_istore (lv' := [(5, .int q1), (0, .ref (g 0)), (1, .long p1), (3, .int p3), (4, .int p4)]) hx hb dX5_moved_5 hl (by decide) rfl (fun ls hl => ?_)
  refine lv_aload_n hx hb dX5_moved_7 rfl (lv_at hl 1 rfl) ?_
  refine lv_lload_n hx hb dX5_moved_8 rfl (lv_at hl 2 rfl) ?_
  refine lv_iload hx hb dX5_moved_9 (lv_at hl 0 rfl) ?_
  obtain ⟨q2, hq2, h⟩ := bS h
  refine rcI (va_runV (As := [.long p1, .int q1]) (rest := []) ⟨hx, hb, hml, hown, hts⟩ (c_fl_liftAt l D cI cJ cZ g fPk fWn fGw fGk fOw fSt fPe fHo fGr fPa fFt s.heap hP p1 q1 q2 hq2) (cwV 2 hts gX5_moved_X3_liftAt rfl rfl rfl (by decide +kernel) ⟨Nat.le_of_ble_eq_true rfl, Nat.le_of_ble_eq_true rfl⟩) (rPreV hK hP (ci := 2) (q0 := 0) rfl rfl) rfl rfl hl.1 rfl (lv_room (Nat.le_of_ble_eq_true rfl)) dX5_moved_11 ⟨Nat.zero_le _, Nat.zero_le _⟩) ?_
  refine lv_iload hx hb dX5_moved_14 (lv_at hl 4 rfl) ?_
  refine lv_iadd hx hb dX5_moved_16 ?_
  refine lv_istore (lv' := [(6, .int (q2 + p4)), (5, .int q1), (0, .ref (g 0)), (1, .long p1), (3, .int p3), (4, .int p4)]) hx hb dX5_moved_17 hl (by decide) rfl (fun ls hl => ?_)
  refine lv_lload_n hx hb dX5_moved_19 rfl (lv_at hl 3 rfl) ?_
  refine lv_iload_n hx hb dX5_moved_20 rfl (lv_at hl 4 rfl) ?_
  refine lv_aload_n hx hb dX5_moved_21 rfl (lv_at hl 2 rfl) ?_
  refine lv_iload_n hx hb dX5_moved_22 rfl (lv_at hl 4 rfl) ?_
  refine lv_iload hx hb dX5_moved_23 (lv_at hl 1 rfl) ?_
  refine lv_iload hx hb dX5_moved_25 (lv_at hl 0 rfl) ?_
  obtain ⟨q3, hq3, h⟩ := bS h
  refine rcI (va_runV (As := [.int p3, .int q1, .int (q2 + p4)]) (rest := [.int p3, .long p1]) ⟨hx, hb, hml, hown, hts⟩ (c_fl_landing l D cI cJ cZ g fPk fWn fGw fGk fOw fSt fPe fHo fGr fPa fFt s.heap hP p3 q1 (q2 + p4) q3 hq3) (cwV 3 hts gX5_moved_X3_landing rfl rfl rfl (by decide +kernel) ⟨Nat.le_of_ble_eq_true rfl, Nat.le_of_ble_eq_true rfl⟩) (rPreV hK hP (ci := 2) (q0 := 0) rfl rfl) rfl rfl hl.1 rfl (lv_room (Nat.le_of_ble_eq_true rfl)) dX5_moved_27 ⟨Nat.zero_le _, Nat.zero_le _⟩) ?_
  obtain ⟨q4, hq4, h⟩ := bS h
  refine rcL (va_runS (As := [.long p1, .int p3, .int q3]) (rest := []) ⟨hx, hb, hml, hown, hts⟩ (c_sc_withPlace l D cI cJ cZ   s.heap p1 p3 q3 q4 hq4) (va_cwS 3 hts gX5_moved_X7_withPlace rfl rfl rfl (by decide +kernel) ⟨Nat.le_of_ble_eq_true rfl, Nat.le_of_ble_eq_true rfl⟩) (rPreS hK) rfl rfl hl.1 rfl (lv_room (Nat.le_of_ble_eq_true rfl)) dX5_moved_30 ⟨Nat.zero_le _, Nat.zero_le _⟩) ?_
  obtain ⟨q5, hq5, h⟩ := bS h
  refine rcL (va_runS (As := [.long q4]) (rest := []) ⟨hx, hb, hml, hown, hts⟩ (c_sc_later l D cI cJ cZ   s.heap q4 q5 hq5) (va_cwS 1 hts gX5_moved_X7_later rfl rfl rfl (by decide +kernel) ⟨Nat.le_of_ble_eq_true rfl, Nat.le_of_ble_eq_true rfl⟩) (rPreS hK) rfl rfl hl.1 rfl (lv_room (Nat.le_of_ble_eq_true rfl)) dX5_moved_33 ⟨Nat.zero_le _, Nat.zero_le _⟩) ?_
  exact W.lret hx hb hr (fun t ht _ => ⟨_, rfl, Option.some.inj h, ht⟩) (fun _ q => absurd q List.not_mem_nil) dX5_moved_36

set_option maxHeartbeats 4000000 in
set_option maxRecDepth 100000 in
theorem c_gu_waysToBeGone (l : Launch) (D : va_G) (cI cJ cZ : ClassId) (g : Nat → Nat) (fPk : Nat → Int32) (fWn : Nat → Int32) (fGw : Nat → Int32) (fGk : Nat → Int32) (fOw : Nat → Int32) (fSt : Nat → Int32) (fPe : Int32) (fHo : Int32) (fGr : Int32) (fPa : Int32) (fFt : Int32)  (H0 : Heap) (hP : va_P D vwCl (fW g cI fPk fWn fGw fGk fOw fSt fPe fHo fGr fPa fFt) H0) : ∀ (dd : Nat) (p1 : Int64) (p3 : Int32) (p4 : Int32) (p5 : Int32) (rv : Int32) (h : gu_waysToBeGone fPk fWn fGw fGk fOw fPe fHo dd p1 p3 p4 p5 = some rv), Met l yX5_waysToBeGone wsX5_waysToBeGone ({ frames := 4 + (dd), cells := 0, slots := 0, locals := 98 + 25 * (dd) } : Room) (rPc D cI cJ cZ H0 [.ref (g 0), .long p1, .int p3, .int p4, .int p5]) (vp_Si (fun r => r = rv)) 0 0 (fun _ => False) := by
  intro dd
  induction dd with
  | zero => intro _ _ _ _ _ h; rw [gu_waysToBeGone.eq_1] at h; cases h
  | succ dd ihd =>
    intro p1 p3 p4 p5 rv h
    rw [gu_waysToBeGone.eq_2] at h
    refine Met.ofW (cc := cX5_waysToBeGone) (maxL := 6) (ret := (some .int)) (by decide) rfl ?_
    intro p e s m args below meth c s₁ B hml hv
    obtain ⟨rfl, hH, hK⟩ := hv
    have hx := B.exec
    have hb := B.bytes
    have hr := B.returns
    have hts := atoms_spec (ws := wsX5_waysToBeGone) B.pre
    have hown : s.vm.findClass RX5 = some m.cls := findClass_of_methodNamed B.named
    have hlocks := B.notSynchronized
    subst hH
    have hl := lv_entry ([.ref (g 0), .long p1, .int p3, .int p4, .int p5]) (n := 6) (Nat.le_of_ble_eq_true rfl)
    rw [lg_entry_eq]
    generalize (lg_sl ([.ref (g 0), .long p1, .int p3, .int p4, .int p5]) ++ List.replicate (6 - (lg_sl ([.ref (g 0), .long p1, .int p3, .int p4, .int p5])).length) Slot.unset).toArray = ls at hl ⊢
    have hl : lv_has ls 6 [(0, .ref (g 0)), (1, .long p1), (3, .int p3), (4, .int p4), (5, .int p5)] := hl
    refine lv_iload hx hb dX5_waysToBeGone_0 (lv_at hl 3 rfl) ?_
    refine lv_if_gt (tgt := 21) hx hb dX5_waysToBeGone_2 (by decide) (fun c1 => ?_) (fun c1 => ?_)
    · have h := iT c1 h
      refine lv_iload hx hb dX5_waysToBeGone_21 (lv_at hl 4 rfl) ?_
      refine lv_aload_n hx hb dX5_waysToBeGone_23 rfl (lv_at hl 0 rfl) ?_
      refine lv_aload_n hx hb dX5_waysToBeGone_24 rfl (lv_at hl 0 rfl) ?_
      refine lv_lload_n hx hb dX5_waysToBeGone_25 rfl (lv_at hl 1 rfl) ?_
      refine lv_iload_n hx hb dX5_waysToBeGone_26 rfl (lv_at hl 2 rfl) ?_
      refine lv_iconst (v := 3) hx hb dX5_waysToBeGone_27 (by decide) ?_
      obtain ⟨q2, hq2, h⟩ := bS h
      refine rcL (va_runS (As := [.ref (g 0), .long p1, .int p3, .int 3]) (rest := [.ref (g 0), .int p5]) ⟨hx, hb, hml, hown, hts⟩ (c_gu_moved l D cI cJ cZ g fPk fWn fGw fGk fOw fSt fPe fHo fGr fPa fFt s.heap hP p1 p3 3 q2 hq2) (va_cwS 4 hts gX5_waysToBeGone_X5_moved rfl rfl rfl (by decide +kernel) ⟨(show 3 + 1 ≤ 4 + (dd + 1) by omega), (show 8 + (7 + 11) + 72 ≤ 98 + 25 * (dd + 1) by omega)⟩) (rPreS hK) rfl rfl hl.1 rfl (lv_room (Nat.le_of_ble_eq_true rfl)) dX5_waysToBeGone_28 ⟨Nat.zero_le _, Nat.zero_le _⟩) ?_
      refine lv_iload_n hx hb dX5_waysToBeGone_31 rfl (lv_at hl 2 rfl) ?_
      refine lv_iload hx hb dX5_waysToBeGone_32 (lv_at hl 3 rfl) ?_
      refine lv_iconst (v := 1) hx hb dX5_waysToBeGone_34 (by decide) ?_
      refine lv_isub hx hb dX5_waysToBeGone_35 ?_
      refine lv_iload hx hb dX5_waysToBeGone_36 (lv_at hl 4 rfl) ?_
      obtain ⟨q3, hq3, h⟩ := bS h
      refine rcI (va_runS (As := [.ref (g 0), .long q2, .int p3, .int (p4 - 1), .int p5]) (rest := [.int p5]) ⟨hx, hb, hml, hown, hts⟩ (ihd q2 p3 (p4 - 1) p5 q3 hq3) (va_cwS 5 hts gX5_waysToBeGone_X5_waysToBeGone rfl rfl rfl (by decide +kernel) ⟨(show 4 + dd + 1 ≤ 4 + (dd + 1) by omega), (show 8 + (6 + 11) + (98 + 25 * dd) ≤ 98 + 25 * (dd + 1) by omega)⟩) (rPreS hK) rfl rfl hl.1 rfl (lv_room (Nat.le_of_ble_eq_true rfl)) dX5_waysToBeGone_38 ⟨Nat.zero_le _, Nat.zero_le _⟩) ?_
      refine lv_imul hx hb dX5_waysToBeGone_41 ?_
      refine lv_bipush (v := 10) hx hb dX5_waysToBeGone_42 (by decide) ?_
      refine lv_iload hx hb dX5_waysToBeGone_44 (lv_at hl 4 rfl) ?_
      refine lv_isub hx hb dX5_waysToBeGone_46 ?_
      refine lv_aload_n hx hb dX5_waysToBeGone_47 rfl (lv_at hl 0 rfl) ?_
      refine lv_aload_n hx hb dX5_waysToBeGone_48 rfl (lv_at hl 0 rfl) ?_
      refine lv_lload_n hx hb dX5_waysToBeGone_49 rfl (lv_at hl 1 rfl) ?_
      refine lv_iload_n hx hb dX5_waysToBeGone_50 rfl (lv_at hl 2 rfl) ?_
      refine lv_iconst (v := 0) hx hb dX5_waysToBeGone_51 (by decide) ?_
      obtain ⟨q4, hq4, h⟩ := bS h
      refine rcL (va_runS (As := [.ref (g 0), .long p1, .int p3, .int 0]) (rest := [.ref (g 0), .int (10 - p5), .int (p5 * q3)]) ⟨hx, hb, hml, hown, hts⟩ (c_gu_moved l D cI cJ cZ g fPk fWn fGw fGk fOw fSt fPe fHo fGr fPa fFt s.heap hP p1 p3 0 q4 hq4) (va_cwS 4 hts gX5_waysToBeGone_X5_moved rfl rfl rfl (by decide +kernel) ⟨(show 3 + 1 ≤ 4 + (dd + 1) by omega), (show 8 + (7 + 11) + 72 ≤ 98 + 25 * (dd + 1) by omega)⟩) (rPreS hK) rfl rfl hl.1 rfl (lv_room (Nat.le_of_ble_eq_true rfl)) dX5_waysToBeGone_52 ⟨Nat.zero_le _, Nat.zero_le _⟩) ?_
      refine lv_iload_n hx hb dX5_waysToBeGone_55 rfl (lv_at hl 2 rfl) ?_
      refine lv_iload hx hb dX5_waysToBeGone_56 (lv_at hl 3 rfl) ?_
      refine lv_iconst (v := 1) hx hb dX5_waysToBeGone_58 (by decide) ?_
      refine lv_isub hx hb dX5_waysToBeGone_59 ?_
      refine lv_iload hx hb dX5_waysToBeGone_60 (lv_at hl 4 rfl) ?_
      obtain ⟨q5, hq5, h⟩ := bS h
      refine rcI (va_runS (As := [.ref (g 0), .long q4, .int p3, .int (p4 - 1), .int p5]) (rest := [.int (10 - p5), .int (p5 * q3)]) ⟨hx, hb, hml, hown, hts⟩ (ihd q4 p3 (p4 - 1) p5 q5 hq5) (va_cwS 5 hts gX5_waysToBeGone_X5_waysToBeGone rfl rfl rfl (by decide +kernel) ⟨(show 4 + dd + 1 ≤ 4 + (dd + 1) by omega), (show 8 + (6 + 11) + (98 + 25 * dd) ≤ 98 + 25 * (dd + 1) by omega)⟩) (rPreS hK) rfl rfl hl.1 rfl (lv_room (Nat.le_of_ble_eq_true rfl)) dX5_waysToBeGone_62 ⟨Nat.zero_le _, Nat.zero_le _⟩) ?_
      refine lv_imul hx hb dX5_waysToBeGone_65 ?_
      refine lv_iadd hx hb dX5_waysToBeGone_66 ?_
      exact W.iret hx hb hr (fun t ht _ => ⟨_, rfl, Option.some.inj h, ht⟩) (fun _ q => absurd q List.not_mem_nil) dX5_waysToBeGone_67
    · have h := iF c1 h
      refine lv_lload_n hx hb dX5_waysToBeGone_5 rfl (lv_at hl 1 rfl) ?_
      refine lv_iload_n hx hb dX5_waysToBeGone_6 rfl (lv_at hl 2 rfl) ?_
      obtain ⟨q2, hq2, h⟩ := bS h
      refine rcI (va_runS (As := [.long p1, .int p3]) (rest := []) ⟨hx, hb, hml, hown, hts⟩ (c_sc_placeOf l D cI cJ cZ   s.heap p1 p3 q2 hq2) (va_cwS 2 hts gX5_waysToBeGone_X7_placeOf rfl rfl rfl (by decide +kernel) ⟨(show 0 + 1 ≤ 4 + (dd + 1) by omega), (show 8 + (3 + 11) + 0 ≤ 98 + 25 * (dd + 1) by omega)⟩) (rPreS hK) rfl rfl hl.1 rfl (lv_room (Nat.le_of_ble_eq_true rfl)) dX5_waysToBeGone_7 ⟨Nat.zero_le _, Nat.zero_le _⟩) ?_
      refine lv_bipush (v := 8) hx hb dX5_waysToBeGone_10 (by decide) ?_
      refine lv_icmp_ne (tgt := 19) hx hb dX5_waysToBeGone_12 (by decide) (fun c3 => ?_) (fun c3 => ?_)
      · have h := iF c3 h
        refine lv_iconst (v := 0) hx hb dX5_waysToBeGone_19 (by decide) ?_
        exact W.iret hx hb hr (fun t ht _ => ⟨_, rfl, Option.some.inj h, ht⟩) (fun _ q => absurd q List.not_mem_nil) dX5_waysToBeGone_20
      · have h := iT c3 h
        refine lv_iconst (v := 1) hx hb dX5_waysToBeGone_15 (by decide) ?_
        refine lv_goto (tgt := 20) hx hb dX5_waysToBeGone_16 (by decide) ?_
        exact W.iret hx hb hr (fun t ht _ => ⟨_, rfl, Option.some.inj h, ht⟩) (fun _ q => absurd q List.not_mem_nil) dX5_waysToBeGone_20

set_option maxHeartbeats 4000000 in
set_option maxRecDepth 100000 in
theorem c_xx_gust (l : Launch) (D : va_G) (cI cJ cZ : ClassId) (a : Nat → Nat) (g : Nat → Nat) (d : Nat → Nat) (xText : Nat → Int32) (xLetters : Int32) (xNow : Int64) (xKept : Nat → Int64) (xIsKept : Nat → Int32) (xChance : Int64) (xScenes : Nat → Int64) (xASize : Int32) (xSKinds : Nat → Int32) (xSLifts : Nat → Int32) (xSFlights : Nat → Int32) (xSSize : Int32) (xTally : Nat → Int32) (xOut : Nat → Int64) (fPk : Nat → Int32) (fWn : Nat → Int32) (fGw : Nat → Int32) (fGk : Nat → Int32) (fOw : Nat → Int32) (fSt : Nat → Int32) (fPe : Int32) (fHo : Int32) (fGr : Int32) (fPa : Int32) (fFt : Int32) (dPk : Nat → Int32) (dWn : Nat → Int32) (dGw : Nat → Int32) (dGk : Nat → Int32) (dOw : Nat → Int32) (dSt : Nat → Int32) (dPe : Int32) (dHo : Int32) (dGr : Int32) (dPa : Int32) (dFt : Int32)  (H0 : Heap) (hP : va_P D vwCl (xW a g d cI cJ cZ (g 0) (d 0) xText xLetters xNow xKept xIsKept xChance xScenes xASize xSKinds xSLifts xSFlights xSSize xTally xOut fPk fWn fGw fGk fOw fSt fPe fHo fGr fPa fFt dPk dWn dGw dGk dOw dSt dPe dHo dGr dPa dFt) H0) (p1 : Int32) (p2 : Int32) (p3 : Int32) (p4 : Int32) (rv : Int32) (h : xx_gust xNow fPk fWn fGw fGk fOw fPe fHo fGr p1 p2 p3 p4 = some rv) : Met l yX11_gust wsX11_gust ({ frames := 11, cells := 0, slots := 0, locals := 273 } : Room) (rPc D cI cJ cZ H0 [.ref (a 0), .int p1, .int p2, .int p3, .int p4]) (vp_Si (fun r => r = rv)) 0 0 (fun _ => False) := by
  unfold xx_gust at h
  refine Met.ofW (cc := cX11_gust) (maxL := 7) (ret := (some .int)) (by decide) rfl ?_
  intro p e s m args below meth c s₁ B hml hv
  obtain ⟨rfl, hH, hK⟩ := hv
  have hx := B.exec
  have hb := B.bytes
  have hr := B.returns
  have hts := atoms_spec (ws := wsX11_gust) B.pre
  have hown : s.vm.findClass RX11 = some m.cls := findClass_of_methodNamed B.named
  have hlocks := B.notSynchronized
  subst hH
  have hl := lv_entry ([.ref (a 0), .int p1, .int p2, .int p3, .int p4]) (n := 7) (Nat.le_of_ble_eq_true rfl)
  rw [lg_entry_eq]
  generalize (lg_sl ([.ref (a 0), .int p1, .int p2, .int p3, .int p4]) ++ List.replicate (7 - (lg_sl ([.ref (a 0), .int p1, .int p2, .int p3, .int p4])).length) Slot.unset).toArray = ls at hl ⊢
  have hl : lv_has ls 7 [(0, .ref (a 0)), (1, .int p1), (2, .int p2), (3, .int p3), (4, .int p4)] := hl
  have hiX11 : ∀ w ∈ u_ws RX11 TX11 11, w ∈ wsX11_gust := fun w hw => List.mem_cons_of_mem _ (List.mem_append_left _ (List.mem_append_right _ hw))
  refine lv_aload_n hx hb dX11_gust_0 rfl (lv_at hl 0 rfl) ?_
  refine va_get (D := D) (ci := 4) (v := .ref (g 0)) (C := RX11) (T := TX11) (N := 11) hx hb hts hiX11 hown hK.1 hP 0 rfl rfl 2 (by decide) (hts (.fieldLink RX11 16 "WinnowedGuilt" "ground" "LWinnowedGuilt$Floor;") (by decide +kernel)) (fun _ h9 => h9) rfl dX11_gust_1 ?_
  refine lv_iload_n hx hb dX11_gust_4 rfl (lv_at hl 1 rfl) ?_
  have hG := hP.sub (ws' := (fW g cI fPk fWn fGw fGk fOw fSt fPe fHo fGr fPa fFt)) [13, 14, 15, 16, 17, 18, 19] rfl
  obtain ⟨q1, hq1, h⟩ := bS h
  refine rcI (va_runV (As := [.int p1]) (rest := []) ⟨hx, hb, hml, hown, hts⟩ (c_fl_isGrain l D cI cJ cZ g fPk fWn fGw fGk fOw fSt fPe fHo fGr fPa fFt s.heap hG p1 q1 hq1) (cwV 1 hts gX11_gust_X3_isGrain rfl rfl rfl (by decide +kernel) ⟨Nat.le_of_ble_eq_true rfl, Nat.le_of_ble_eq_true rfl⟩) (rPreV hK hG (ci := 2) (q0 := 0) rfl rfl) rfl rfl hl.1 rfl (lv_room (Nat.le_of_ble_eq_true rfl)) dX11_gust_5 ⟨Nat.zero_le _, Nat.zero_le _⟩) ?_
  refine lv_if_ne (tgt := 13) hx hb dX11_gust_8 (by decide) (fun c2 => ?_) (fun c2 => ?_)
  · have h := iF c2 h
    refine lv_iload_n hx hb dX11_gust_13 rfl (lv_at hl 2 rfl) ?_
    refine lv_iconst (v := 1) hx hb dX11_gust_14 (by decide) ?_
    refine lv_icmp_lt (tgt := 33) hx hb dX11_gust_15 (by decide) (fun c3 => ?_) (fun c3 => ?_)
    · have h := iT c3 h
      refine lv_bipush (v := (-2)) hx hb dX11_gust_33 (by decide) ?_
      exact W.iret hx hb hr (fun t ht _ => ⟨_, rfl, Option.some.inj h, ht⟩) (fun _ q => absurd q List.not_mem_nil) dX11_gust_35
    · have h := iF c3 h
      refine lv_iload_n hx hb dX11_gust_18 rfl (lv_at hl 2 rfl) ?_
      refine lv_iconst (v := 5) hx hb dX11_gust_19 (by decide) ?_
      refine lv_icmp_gt (tgt := 33) hx hb dX11_gust_20 (by decide) (fun c4 => ?_) (fun c4 => ?_)
      · have h := iT c4 h
        refine lv_bipush (v := (-2)) hx hb dX11_gust_33 (by decide) ?_
        exact W.iret hx hb hr (fun t ht _ => ⟨_, rfl, Option.some.inj h, ht⟩) (fun _ q => absurd q List.not_mem_nil) dX11_gust_35
      · have h := iF c4 h
        refine lv_iload_n hx hb dX11_gust_23 rfl (lv_at hl 3 rfl) ?_
        refine lv_if_lt (tgt := 33) hx hb dX11_gust_24 (by decide) (fun c5 => ?_) (fun c5 => ?_)
        · have h := iT c5 h
          refine lv_bipush (v := (-2)) hx hb dX11_gust_33 (by decide) ?_
          exact W.iret hx hb hr (fun t ht _ => ⟨_, rfl, Option.some.inj h, ht⟩) (fun _ q => absurd q List.not_mem_nil) dX11_gust_35
        · have h := iF c5 h
          refine lv_iload_n hx hb dX11_gust_27 rfl (lv_at hl 3 rfl) ?_
          refine lv_bipush (v := 10) hx hb dX11_gust_28 (by decide) ?_
          refine lv_icmp_le (tgt := 36) hx hb dX11_gust_30 (by decide) (fun c6 => ?_) (fun c6 => ?_)
          · have h := iT c6 h
            refine lv_iconst (v := 1) hx hb dX11_gust_36 (by decide) ?_
            refine lv_istore (lv' := [(5, .int 1), (0, .ref (a 0)), (1, .int p1), (2, .int p2), (3, .int p3), (4, .int p4)]) hx hb dX11_gust_37 hl (by decide) rfl (fun ls hl => ?_)
            refine lv_iconst (v := 0) hx hb dX11_gust_39 (by decide) ?_
            refine lv_istore (lv' := [(6, .int 0), (5, .int 1), (0, .ref (a 0)), (1, .int p1), (2, .int p2), (3, .int p3), (4, .int p4)]) hx hb dX11_gust_40 hl (by decide) rfl (fun ls hl => ?_)
            have L42 : ∀ (n : Nat) (x6_42 : Int32) (x5_42 : Int32) (ls : Array Slot) (kx : Int32 → Int32 → Option (Int32)), xx_gust_L42 p2 kx n x6_42 x5_42 = some rv → lv_has ls 7 [(6, .int x6_42), (5, .int x5_42), (0, .ref (a 0)), (1, .int p1), (2, .int p2), (3, .int p3), (4, .int p4)] → (∀ (y6_42 : Int32) (y5_42 : Int32) (ls : Array Slot), kx y6_42 y5_42 = some rv → lv_has ls 7 [(6, .int y6_42), (5, .int y5_42), (0, .ref (a 0)), (1, .int p1), (2, .int p2), (3, .int p3), (4, .int p4)] → W p l e (headSpec wsX11_gust ({ frames := 11, cells := 0, slots := 0, locals := 273 } : Room)).room s m ([.ref (a 0), .int p1, .int p2, .int p3, .int p4] : List Value).toArray below meth c s.heap [] 0 0 (MQ below (vp_Si (fun r => r = rv)) ([.ref (a 0), .int p1, .int p2, .int p3, .int p4] : List Value).toArray s 0 0 (fun _ => False)) (F0 m 61 ls [])) → W p l e (headSpec wsX11_gust ({ frames := 11, cells := 0, slots := 0, locals := 273 } : Room)).room s m ([.ref (a 0), .int p1, .int p2, .int p3, .int p4] : List Value).toArray below meth c s.heap [] 0 0 (MQ below (vp_Si (fun r => r = rv)) ([.ref (a 0), .int p1, .int p2, .int p3, .int p4] : List Value).toArray s 0 0 (fun _ => False)) (F0 m 42 ls []) := by
              intro n
              induction n with
              | zero => intro _ _ _ _ h; rw [xx_gust_L42.eq_1] at h; cases h
              | succ n ih =>
                intro x6_42 x5_42 ls kx h hl hk
                rw [xx_gust_L42.eq_2] at h
                refine lv_iload hx hb dX11_gust_42 (lv_at hl 0 rfl) ?_
                refine lv_iload_n hx hb dX11_gust_44 rfl (lv_at hl 4 rfl) ?_
                refine lv_icmp_ge (tgt := 61) hx hb dX11_gust_45 (by decide) (fun c7 => ?_) (fun c7 => ?_)
                · have h := iT c7 h
                  exact hk _ _ _ h (lv_sub hl [0, 1, 2, 3, 4, 5, 6] rfl)
                · have h := iF c7 h
                  refine lv_iload hx hb dX11_gust_48 (lv_at hl 1 rfl) ?_
                  refine lv_bipush (v := 10) hx hb dX11_gust_50 (by decide) ?_
                  refine lv_imul hx hb dX11_gust_52 ?_
                  refine lv_istore (lv' := [(5, .int (x5_42 * 10)), (6, .int x6_42), (0, .ref (a 0)), (1, .int p1), (2, .int p2), (3, .int p3), (4, .int p4)]) hx hb dX11_gust_53 hl (by decide) rfl (fun ls hl => ?_)
                  refine lv_iinc (v := (x6_42 + 1)) (lv' := [(6, .int (x6_42 + 1)), (5, .int (x5_42 * 10)), (0, .ref (a 0)), (1, .int p1), (2, .int p2), (3, .int p3), (4, .int p4)]) hx hb dX11_gust_55 hl (k := 1) rfl rfl (by decide) rfl (fun ls hl => ?_)
                  refine lv_goto (tgt := 42) hx hb dX11_gust_58 (by decide) ?_
                  exact ih _ _ _ _ h (lv_sub hl [0, 1, 2, 3, 4, 5, 6] rfl) hk
            refine L42 _ _ _ _ _ h hl (fun y6_42 y5_42 ls h hl => ?_)
            refine lv_aload_n hx hb dX11_gust_61 rfl (lv_at hl 2 rfl) ?_
            refine va_get (D := D) (ci := 4) (v := .ref (g 0)) (C := RX11) (T := TX11) (N := 11) hx hb hts hiX11 hown hK.1 hP 0 rfl rfl 2 (by decide) (hts (.fieldLink RX11 16 "WinnowedGuilt" "ground" "LWinnowedGuilt$Floor;") (by decide +kernel)) (fun _ h9 => h9) rfl dX11_gust_62 ?_
            refine lv_aload_n hx hb dX11_gust_65 rfl (lv_at hl 2 rfl) ?_
            refine va_get (D := D) (ci := 4) (v := .long xNow) (C := RX11) (T := TX11) (N := 11) hx hb hts hiX11 hown hK.1 hP 0 rfl rfl 4 (by decide) (hts (.fieldLink RX11 27 "WinnowedGuilt" "now" "J") (by decide +kernel)) (fun _ h9 => h9) rfl dX11_gust_66 ?_
            refine lv_iload_n hx hb dX11_gust_69 rfl (lv_at hl 3 rfl) ?_
            refine lv_iload_n hx hb dX11_gust_70 rfl (lv_at hl 4 rfl) ?_
            refine lv_iload_n hx hb dX11_gust_71 rfl (lv_at hl 5 rfl) ?_
            have hG := hP.sub (ws' := (fW g cI fPk fWn fGw fGk fOw fSt fPe fHo fGr fPa fFt)) [13, 14, 15, 16, 17, 18, 19] rfl
            obtain ⟨q7, hq7, h⟩ := bS h
            refine rcI (va_runSN (As := [.ref (g 0), .long xNow, .int p1, .int p2, .int p3]) (rest := []) ⟨hx, hb, hml, hown, hts⟩ (c_gu_waysToBeGone l D cI cJ cZ g fPk fWn fGw fGk fOw fSt fPe fHo fGr fPa fFt s.heap hG 6 xNow p1 p2 p3 q7 hq7) ⟨va_cnB 5 hts gX11_gust_X5_waysToBeGone_n237 rfl rfl rfl (kN_13 hK.2) (hts (.initialized RX5) (by decide +kernel)) (by decide +kernel) ⟨Nat.le_of_ble_eq_true rfl, Nat.le_of_ble_eq_true rfl⟩, hts (.static yX5_waysToBeGone) (by decide +kernel), trivial⟩ (rPreS hK) rfl rfl hl.1 rfl (lv_room (Nat.le_of_ble_eq_true rfl)) dX11_gust_72 ⟨Nat.zero_le _, Nat.zero_le _⟩) ?_
            refine lv_iload hx hb dX11_gust_75 (lv_at hl 1 rfl) ?_
            refine lv_iload hx hb dX11_gust_77 (lv_at hl 6 rfl) ?_
            obtain ⟨q8, hq8, h⟩ := bS h
            refine rcI (va_runS (As := [.int q7, .int y5_42, .int p4]) (rest := []) ⟨hx, hb, hml, hown, hts⟩ (c_nu_leastTerms l D cI cJ cZ   s.heap q7 y5_42 p4 q8 hq8) (va_cwS 3 hts gX11_gust_X6_leastTerms rfl rfl rfl (by decide +kernel) ⟨Nat.le_of_ble_eq_true rfl, Nat.le_of_ble_eq_true rfl⟩) (rPreS hK) rfl rfl hl.1 rfl (lv_room (Nat.le_of_ble_eq_true rfl)) dX11_gust_79 ⟨Nat.zero_le _, Nat.zero_le _⟩) ?_
            exact W.iret hx hb hr (fun t ht _ => ⟨_, rfl, Option.some.inj h, ht⟩) (fun _ q => absurd q List.not_mem_nil) dX11_gust_82
          · have h := iF c6 h
            refine lv_bipush (v := (-2)) hx hb dX11_gust_33 (by decide) ?_
            exact W.iret hx hb hr (fun t ht _ => ⟨_, rfl, Option.some.inj h, ht⟩) (fun _ q => absurd q List.not_mem_nil) dX11_gust_35
  · have h := iT c2 h
    refine lv_iconst (v := (-1)) hx hb dX11_gust_11 (by decide) ?_
    exact W.iret hx hb hr (fun t ht _ => ⟨_, rfl, Option.some.inj h, ht⟩) (fun _ q => absurd q List.not_mem_nil) dX11_gust_12

set_option maxHeartbeats 4000000 in
set_option maxRecDepth 100000 in
theorem c_xx_seed (l : Launch) (D : va_G) (cI cJ cZ : ClassId) (a : Nat → Nat) (g : Nat → Nat) (d : Nat → Nat) (xText : Nat → Int32) (xLetters : Int32) (xNow : Int64) (xKept : Nat → Int64) (xIsKept : Nat → Int32) (xChance : Int64) (xScenes : Nat → Int64) (xASize : Int32) (xSKinds : Nat → Int32) (xSLifts : Nat → Int32) (xSFlights : Nat → Int32) (xSSize : Int32) (xTally : Nat → Int32) (xOut : Nat → Int64) (fPk : Nat → Int32) (fWn : Nat → Int32) (fGw : Nat → Int32) (fGk : Nat → Int32) (fOw : Nat → Int32) (fSt : Nat → Int32) (fPe : Int32) (fHo : Int32) (fGr : Int32) (fPa : Int32) (fFt : Int32) (dPk : Nat → Int32) (dWn : Nat → Int32) (dGw : Nat → Int32) (dGk : Nat → Int32) (dOw : Nat → Int32) (dSt : Nat → Int32) (dPe : Int32) (dHo : Int32) (dGr : Int32) (dPa : Int32) (dFt : Int32)  (sz : Nat) (p1 : Int64) (rv : Int64) (xChance_r : Int64) (h : xx_seed xChance p1 = some (rv, xChance_r)) : Met l yX11_seed wsX11_seed ({ frames := 0, cells := 0, slots := 0, locals := 0 } : Room) (wPc D cI cJ cZ (xW a g d cI cJ cZ (g 0) (d 0) xText xLetters xNow xKept xIsKept xChance xScenes xASize xSKinds xSLifts xSFlights xSSize xTally xOut fPk fWn fGw fGk fOw fSt fPe fHo fGr fPa fFt dPk dWn dGw dGk dOw dSt dPe dHo dGr dPa dFt) sz [.ref (a 0), .long p1]) (wQl D (xW a g d cI cJ cZ (g 0) (d 0) xText xLetters xNow xKept xIsKept xChance xScenes xASize xSKinds xSLifts xSFlights xSSize xTally xOut fPk fWn fGw fGk fOw fSt fPe fHo fGr fPa fFt dPk dWn dGw dGk dOw dSt dPe dHo dGr dPa dFt) (xW a g d cI cJ cZ (g 0) (d 0) xText xLetters xNow xKept xIsKept xChance_r xScenes xASize xSKinds xSLifts xSFlights xSSize xTally xOut fPk fWn fGw fGk fOw fSt fPe fHo fGr fPa fFt dPk dWn dGw dGk dOw dSt dPe dHo dGr dPa dFt) sz rv) 0 0 (va_A (xW a g d cI cJ cZ (g 0) (d 0) xText xLetters xNow xKept xIsKept xChance xScenes xASize xSKinds xSLifts xSFlights xSSize xTally xOut fPk fWn fGw fGk fOw fSt fPe fHo fGr fPa fFt dPk dWn dGw dGk dOw dSt dPe dHo dGr dPa dFt) sz) := by
  unfold xx_seed at h
  refine Met.ofW (cc := cX11_seed) (maxL := 5) (ret := (some .long)) (by decide) rfl ?_
  intro p e s m args below meth c s₁ B hml hv
  obtain ⟨rfl, hsz, hP, hK, hD0⟩ := hv
  have hx := B.exec
  have hb := B.bytes
  have hr := B.returns
  have hts := atoms_spec (ws := wsX11_seed) B.pre
  have hown : s.vm.findClass RX11 = some m.cls := findClass_of_methodNamed B.named
  have hlocks := B.notSynchronized
  subst hsz
  have hD := hD0.self (sz := s.heap.size)
  have hA : ∀ q : Nat, s.heap.size ≤ q → va_A (xW a g d cI cJ cZ (g 0) (d 0) xText xLetters xNow xKept xIsKept xChance xScenes xASize xSKinds xSLifts xSFlights xSSize xTally xOut fPk fWn fGw fGk fOw fSt fPe fHo fGr fPa fFt dPk dWn dGw dGk dOw dSt dPe dHo dGr dPa dFt) s.heap.size q := fun q h => Or.inr h
  have hS : va_S (va_A (xW a g d cI cJ cZ (g 0) (d 0) xText xLetters xNow xKept xIsKept xChance xScenes xASize xSKinds xSLifts xSFlights xSSize xTally xOut fPk fWn fGw fGk fOw fSt fPe fHo fGr fPa fFt dPk dWn dGw dGk dOw dSt dPe dHo dGr dPa dFt) s.heap.size) s.heap s.heap [] := va_S.rf
  obtain ⟨A, hAe⟩ : ∃ A, A = va_A (xW a g d cI cJ cZ (g 0) (d 0) xText xLetters xNow xKept xIsKept xChance xScenes xASize xSKinds xSLifts xSFlights xSSize xTally xOut fPk fWn fGw fGk fOw fSt fPe fHo fGr fPa fFt dPk dWn dGw dGk dOw dSt dPe dHo dGr dPa dFt) s.heap.size := ⟨_, rfl⟩
  rw [← hAe] at hD hA hS
  have hl := lv_entry ([.ref (a 0), .long p1]) (n := 5) (Nat.le_of_ble_eq_true rfl)
  rw [lg_entry_eq]
  generalize (lg_sl ([.ref (a 0), .long p1]) ++ List.replicate (5 - (lg_sl ([.ref (a 0), .long p1])).length) Slot.unset).toArray = ls at hl ⊢
  have hl : lv_has ls 5 [(0, .ref (a 0)), (1, .long p1)] := hl
  have hiX11 : ∀ w ∈ u_ws RX11 TX11 11, w ∈ wsX11_seed := fun w hw => List.mem_cons_of_mem _ (List.mem_append_right _ hw)
  refine lv_aload_n hx hb dX11_seed_0 rfl (lv_at hl 0 rfl) ?_
  refine va_get (D := D) (ci := 4) (v := .long xChance) (C := RX11) (T := TX11) (N := 11) hx hb hts hiX11 hown hK.1 hP 0 rfl rfl 10 (by decide) (hts (.fieldLink RX11 243 "WinnowedGuilt" "chance" "J") (by decide +kernel)) (fun _ h9 => h9) rfl dX11_seed_1 ?_
  refine lv_lstore_n (lv' := [(3, .long xChance), (0, .ref (a 0)), (1, .long p1)]) hx hb dX11_seed_4 rfl hl (by decide) rfl (fun ls hl => ?_)
  refine lv_aload_n hx hb dX11_seed_5 rfl (lv_at hl 1 rfl) ?_
  refine lv_lload_n hx hb dX11_seed_6 rfl (lv_at hl 2 rfl) ?_
  refine va_put (D := D) (ci := 4) (v := .long p1) (ty := .long) (C := RX11) (T := TX11) (N := 11) hx hb hts hiX11 tyX11 tyX11_ok nmX11 hown hK.1 hP hD hS 0 rfl rfl 10 (by decide) (hts (.fieldLink RX11 243 "WinnowedGuilt" "chance" "J") (by decide +kernel)) (fun _ h9 => h9) rfl (by decide +kernel) rfl rfl (Nat.le_of_ble_eq_true rfl) dX11_seed_7 (fun H locs hP hD hS => ?_)
  have hP : va_P D vwCl (xW a g d cI cJ cZ (g 0) (d 0) xText xLetters xNow xKept xIsKept p1 xScenes xASize xSKinds xSLifts xSFlights xSSize xTally xOut fPk fWn fGw fGk fOw fSt fPe fHo fGr fPa fFt dPk dWn dGw dGk dOw dSt dPe dHo dGr dPa dFt) H := hP
  have hD : va_D A (xW a g d cI cJ cZ (g 0) (d 0) xText xLetters xNow xKept xIsKept p1 xScenes xASize xSKinds xSLifts xSFlights xSSize xTally xOut fPk fWn fGw fGk fOw fSt fPe fHo fGr fPa fFt dPk dWn dGw dGk dOw dSt dPe dHo dGr dPa dFt) := hD
  refine lv_lload_n hx hb dX11_seed_10 rfl (lv_at hl 0 rfl) ?_
  cases h
  subst hAe
  exact W.lret hx hb hr (fun t ht _ => ⟨⟨_, (), rfl, rfl, by rw [ht]; exact hP, hD⟩, hS.F ht⟩) hS.2.2 dX11_seed_11

set_option maxHeartbeats 4000000 in
set_option maxRecDepth 100000 in
theorem c_fl_goneWeight (l : Launch) (D : va_G) (cI cJ cZ : ClassId) (g : Nat → Nat) (fPk : Nat → Int32) (fWn : Nat → Int32) (fGw : Nat → Int32) (fGk : Nat → Int32) (fOw : Nat → Int32) (fSt : Nat → Int32) (fPe : Int32) (fHo : Int32) (fGr : Int32) (fPa : Int32) (fFt : Int32)  (H0 : Heap) (hP : va_P D vwCl (fW g cI fPk fWn fGw fGk fOw fSt fPe fHo fGr fPa fFt) H0) (p1 : Int64) (rv : Int32) (h : fl_goneWeight fGw fGr p1 = some rv) : Met l yX3_goneWeight wsX3_goneWeight ({ frames := 2, cells := 0, slots := 0, locals := 47 } : Room) (rPc D cI cJ cZ H0 [.ref (g 0), .long p1]) (vp_Si (fun r => r = rv)) 0 0 (fun _ => False) := by
  unfold fl_goneWeight at h
  refine Met.ofW (cc := cX3_goneWeight) (maxL := 3) (ret := (some .int)) (by decide) rfl ?_
  intro p e s m args below meth c s₁ B hml hv
  obtain ⟨rfl, hH, hK⟩ := hv
  have hx := B.exec
  have hb := B.bytes
  have hr := B.returns
  have hts := atoms_spec (ws := wsX3_goneWeight) B.pre
  have hown : s.vm.findClass RX3 = some m.cls := findClass_of_methodNamed B.named
  have hlocks := B.notSynchronized
  subst hH
  have hl := lv_entry ([.ref (g 0), .long p1]) (n := 3) (Nat.le_of_ble_eq_true rfl)
  rw [lg_entry_eq]
  generalize (lg_sl ([.ref (g 0), .long p1]) ++ List.replicate (3 - (lg_sl ([.ref (g 0), .long p1])).length) Slot.unset).toArray = ls at hl ⊢
  have hl : lv_has ls 3 [(0, .ref (g 0)), (1, .long p1)] := hl
  refine lv_aload_n hx hb dX3_goneWeight_0 rfl (lv_at hl 0 rfl) ?_
  refine lv_aload_n hx hb dX3_goneWeight_1 rfl (lv_at hl 0 rfl) ?_
  refine lv_lload_n hx hb dX3_goneWeight_2 rfl (lv_at hl 1 rfl) ?_
  refine lv_bipush (v := 8) hx hb dX3_goneWeight_3 (by decide) ?_
  obtain ⟨q1, hq1, h⟩ := bS h
  refine rcI (va_runV (As := [.long p1, .int 8]) (rest := [.ref (g 0)]) ⟨hx, hb, hml, hown, hts⟩ (c_fl_lyingBits l D cI cJ cZ g fPk fWn fGw fGk fOw fSt fPe fHo fGr fPa fFt s.heap hP p1 8 q1 hq1) (cwV 2 hts gX3_goneWeight_X3_lyingBits rfl rfl rfl (by decide +kernel) ⟨Nat.le_of_ble_eq_true rfl, Nat.le_of_ble_eq_true rfl⟩) (rPreV hK hP (ci := 2) (q0 := 0) rfl rfl) rfl rfl hl.1 rfl (lv_room (Nat.le_of_ble_eq_true rfl)) dX3_goneWeight_5 ⟨Nat.zero_le _, Nat.zero_le _⟩) ?_
  obtain ⟨q2, hq2, h⟩ := bS h
  refine rcI (va_runV (As := [.int q1]) (rest := []) ⟨hx, hb, hml, hown, hts⟩ (c_fl_weightOfBits l D cI cJ cZ g fPk fWn fGw fGk fOw fSt fPe fHo fGr fPa fFt s.heap hP q1 q2 hq2) (cwV 1 hts gX3_goneWeight_X3_weightOfBits rfl rfl rfl (by decide +kernel) ⟨Nat.le_of_ble_eq_true rfl, Nat.le_of_ble_eq_true rfl⟩) (rPreV hK hP (ci := 2) (q0 := 0) rfl rfl) rfl rfl hl.1 rfl (lv_room (Nat.le_of_ble_eq_true rfl)) dX3_goneWeight_8 ⟨Nat.zero_le _, Nat.zero_le _⟩) ?_
  exact W.iret hx hb hr (fun t ht _ => ⟨_, rfl, Option.some.inj h, ht⟩) (fun _ q => absurd q List.not_mem_nil) dX3_goneWeight_11

set_option maxHeartbeats 4000000 in
set_option maxRecDepth 100000 in
theorem c_gu_nextChance (l : Launch) (D : va_G) (cI cJ cZ : ClassId)  (H0 : Heap) (p0 : Int64) (rv : Int64) (h : gu_nextChance p0 = some rv) : Met l yX5_nextChance wsX5_nextChance ({ frames := 0, cells := 0, slots := 0, locals := 0 } : Room) (rPc D cI cJ cZ H0 [.long p0]) (vp_Sl (fun r => r = rv)) 0 0 (fun _ => False) := by
  unfold gu_nextChance at h
  refine Met.ofW (cc := cX5_nextChance) (maxL := 2) (ret := (some .long)) (by decide) rfl ?_
  intro p e s m args below meth c s₁ B hml hv
  obtain ⟨rfl, hH, hK⟩ := hv
  have hx := B.exec
  have hb := B.bytes
  have hr := B.returns
  have hts := atoms_spec (ws := wsX5_nextChance) B.pre
  have hown : s.vm.findClass RX5 = some m.cls := findClass_of_methodNamed B.named
  have hlocks := B.notSynchronized
  subst hH
  have hl := lv_entry ([.long p0]) (n := 2) (Nat.le_of_ble_eq_true rfl)
  rw [lg_entry_eq]
  generalize (lg_sl ([.long p0]) ++ List.replicate (2 - (lg_sl ([.long p0])).length) Slot.unset).toArray = ls at hl ⊢
  have hl : lv_has ls 2 [(0, .long p0)] := hl
  refine lv_lload_n hx hb dX5_nextChance_0 rfl (lv_at hl 0 rfl) ?_
  refine lv_ldc2 (own := RX5) (v := 6364136223846793005) hx hb hown (hts (.constantLong RX5 42 (6364136223846793005)) (by decide +kernel)) dX5_nextChance_1 ?_
  refine lv_lmul hx hb dX5_nextChance_4 ?_
  refine lv_ldc2 (own := RX5) (v := 1442695040888963407) hx hb hown (hts (.constantLong RX5 44 (1442695040888963407)) (by decide +kernel)) dX5_nextChance_5 ?_
  refine lv_ladd hx hb dX5_nextChance_8 ?_
  exact W.lret hx hb hr (fun t ht _ => ⟨_, rfl, Option.some.inj h, ht⟩) (fun _ q => absurd q List.not_mem_nil) dX5_nextChance_9

set_option maxHeartbeats 4000000 in
set_option maxRecDepth 100000 in
theorem c_gu_yearBehind (l : Launch) (D : va_G) (cI cJ cZ : ClassId) (g : Nat → Nat) (fPk : Nat → Int32) (fWn : Nat → Int32) (fGw : Nat → Int32) (fGk : Nat → Int32) (fOw : Nat → Int32) (fSt : Nat → Int32) (fPe : Int32) (fHo : Int32) (fGr : Int32) (fPa : Int32) (fFt : Int32)  (H0 : Heap) (hP : va_P D vwCl (fW g cI fPk fWn fGw fGk fOw fSt fPe fHo fGr fPa fFt) H0) (p1 : Int64) (p3 : Int32) (rv : Int64) (h : gu_yearBehind fPk fWn fGw fGk fOw fPe fHo fGr p1 p3 = some rv) : Met l yX5_yearBehind wsX5_yearBehind ({ frames := 4, cells := 0, slots := 0, locals := 99 } : Room) (rPc D cI cJ cZ H0 [.ref (g 0), .long p1, .int p3]) (vp_Sl (fun r => r = rv)) 0 0 (fun _ => False) := by
  unfold gu_yearBehind at h
  refine Met.ofW (cc := cX5_yearBehind) (maxL := 4) (ret := (some .long)) (by decide) rfl ?_
  intro p e s m args below meth c s₁ B hml hv
  obtain ⟨rfl, hH, hK⟩ := hv
  have hx := B.exec
  have hb := B.bytes
  have hr := B.returns
  have hts := atoms_spec (ws := wsX5_yearBehind) B.pre
  have hown : s.vm.findClass RX5 = some m.cls := findClass_of_methodNamed B.named
  have hlocks := B.notSynchronized
  subst hH
  have hl := lv_entry ([.ref (g 0), .long p1, .int p3]) (n := 4) (Nat.le_of_ble_eq_true rfl)
  rw [lg_entry_eq]
  generalize (lg_sl ([.ref (g 0), .long p1, .int p3]) ++ List.replicate (4 - (lg_sl ([.ref (g 0), .long p1, .int p3])).length) Slot.unset).toArray = ls at hl ⊢
  have hl : lv_has ls 4 [(0, .ref (g 0)), (1, .long p1), (3, .int p3)] := hl
  refine lv_iload_n hx hb dX5_yearBehind_0 rfl (lv_at hl 2 rfl) ?_
  refine lv_bipush (v := 8) hx hb dX5_yearBehind_1 (by decide) ?_
  refine lv_icmp_ne (tgt := 11) hx hb dX5_yearBehind_3 (by decide) (fun c1 => ?_) (fun c1 => ?_)
  · have h := iF c1 h
    refine lv_iload_n hx hb dX5_yearBehind_11 rfl (lv_at hl 2 rfl) ?_
    refine lv_iconst (v := 4) hx hb dX5_yearBehind_12 (by decide) ?_
    refine lv_icmp_ge (tgt := 35) hx hb dX5_yearBehind_13 (by decide) (fun c2 => ?_) (fun c2 => ?_)
    · have h := iT c2 h
      refine lv_aload_n hx hb dX5_yearBehind_35 rfl (lv_at hl 0 rfl) ?_
      refine lv_iload_n hx hb dX5_yearBehind_36 rfl (lv_at hl 2 rfl) ?_
      refine lv_iconst (v := 4) hx hb dX5_yearBehind_37 (by decide) ?_
      refine lv_isub hx hb dX5_yearBehind_38 ?_
      obtain ⟨q3, hq3, h⟩ := bS h
      refine rcI (va_runV (As := [.int (p3 - 4)]) (rest := []) ⟨hx, hb, hml, hown, hts⟩ (c_fl_isPerson l D cI cJ cZ g fPk fWn fGw fGk fOw fSt fPe fHo fGr fPa fFt s.heap hP (p3 - 4) q3 hq3) (cwV 1 hts gX5_yearBehind_X3_isPerson rfl rfl rfl (by decide +kernel) ⟨Nat.le_of_ble_eq_true rfl, Nat.le_of_ble_eq_true rfl⟩) (rPreV hK hP (ci := 2) (q0 := 0) rfl rfl) rfl rfl hl.1 rfl (lv_room (Nat.le_of_ble_eq_true rfl)) dX5_yearBehind_39 ⟨Nat.zero_le _, Nat.zero_le _⟩) ?_
      refine lv_if_eq (tgt := 55) hx hb dX5_yearBehind_42 (by decide) (fun c4 => ?_) (fun c4 => ?_)
      · have h := iT c4 h
        refine lv_lload_n hx hb dX5_yearBehind_55 rfl (lv_at hl 1 rfl) ?_
        exact W.lret hx hb hr (fun t ht _ => ⟨_, rfl, Option.some.inj h, ht⟩) (fun _ q => absurd q List.not_mem_nil) dX5_yearBehind_56
      · have h := iF c4 h
        refine lv_lload_n hx hb dX5_yearBehind_45 rfl (lv_at hl 1 rfl) ?_
        refine lv_iload_n hx hb dX5_yearBehind_46 rfl (lv_at hl 2 rfl) ?_
        refine lv_iconst (v := 4) hx hb dX5_yearBehind_47 (by decide) ?_
        refine lv_isub hx hb dX5_yearBehind_48 ?_
        obtain ⟨q5, hq5, h⟩ := bS h
        refine rcL (va_runS (As := [.long p1, .int (p3 - 4)]) (rest := []) ⟨hx, hb, hml, hown, hts⟩ (c_sc_withHolder l D cI cJ cZ   s.heap p1 (p3 - 4) q5 hq5) (va_cwS 2 hts gX5_yearBehind_X7_withHolder rfl rfl rfl (by decide +kernel) ⟨Nat.le_of_ble_eq_true rfl, Nat.le_of_ble_eq_true rfl⟩) (rPreS hK) rfl rfl hl.1 rfl (lv_room (Nat.le_of_ble_eq_true rfl)) dX5_yearBehind_49 ⟨Nat.zero_le _, Nat.zero_le _⟩) ?_
        refine lv_goto (tgt := 56) hx hb dX5_yearBehind_52 (by decide) ?_
        exact W.lret hx hb hr (fun t ht _ => ⟨_, rfl, Option.some.inj h, ht⟩) (fun _ q => absurd q List.not_mem_nil) dX5_yearBehind_56
    · have h := iF c2 h
      refine lv_aload_n hx hb dX5_yearBehind_16 rfl (lv_at hl 0 rfl) ?_
      refine lv_iload_n hx hb dX5_yearBehind_17 rfl (lv_at hl 2 rfl) ?_
      obtain ⟨q3, hq3, h⟩ := bS h
      refine rcI (va_runV (As := [.int p3]) (rest := []) ⟨hx, hb, hml, hown, hts⟩ (c_fl_isPerson l D cI cJ cZ g fPk fWn fGw fGk fOw fSt fPe fHo fGr fPa fFt s.heap hP p3 q3 hq3) (cwV 1 hts gX5_yearBehind_X3_isPerson rfl rfl rfl (by decide +kernel) ⟨Nat.le_of_ble_eq_true rfl, Nat.le_of_ble_eq_true rfl⟩) (rPreV hK hP (ci := 2) (q0 := 0) rfl rfl) rfl rfl hl.1 rfl (lv_room (Nat.le_of_ble_eq_true rfl)) dX5_yearBehind_18 ⟨Nat.zero_le _, Nat.zero_le _⟩) ?_
      refine lv_if_eq (tgt := 33) hx hb dX5_yearBehind_21 (by decide) (fun c4 => ?_) (fun c4 => ?_)
      · have h := iT c4 h
        refine lv_lload_n hx hb dX5_yearBehind_33 rfl (lv_at hl 1 rfl) ?_
        exact W.lret hx hb hr (fun t ht _ => ⟨_, rfl, Option.some.inj h, ht⟩) (fun _ q => absurd q List.not_mem_nil) dX5_yearBehind_34
      · have h := iF c4 h
        refine lv_aload_n hx hb dX5_yearBehind_24 rfl (lv_at hl 0 rfl) ?_
        refine lv_lload_n hx hb dX5_yearBehind_25 rfl (lv_at hl 1 rfl) ?_
        refine lv_iload_n hx hb dX5_yearBehind_26 rfl (lv_at hl 2 rfl) ?_
        obtain ⟨q5, hq5, h⟩ := bS h
        refine rcL (va_runV (As := [.long p1, .int p3]) (rest := []) ⟨hx, hb, hml, hown, hts⟩ (c_fl_tossed l D cI cJ cZ g fPk fWn fGw fGk fOw fSt fPe fHo fGr fPa fFt s.heap hP p1 p3 q5 hq5) (cwV 2 hts gX5_yearBehind_X3_tossed rfl rfl rfl (by decide +kernel) ⟨Nat.le_of_ble_eq_true rfl, Nat.le_of_ble_eq_true rfl⟩) (rPreV hK hP (ci := 2) (q0 := 0) rfl rfl) rfl rfl hl.1 rfl (lv_room (Nat.le_of_ble_eq_true rfl)) dX5_yearBehind_27 ⟨Nat.zero_le _, Nat.zero_le _⟩) ?_
        refine lv_goto (tgt := 34) hx hb dX5_yearBehind_30 (by decide) ?_
        exact W.lret hx hb hr (fun t ht _ => ⟨_, rfl, Option.some.inj h, ht⟩) (fun _ q => absurd q List.not_mem_nil) dX5_yearBehind_34
  · have h := iT c1 h
    refine lv_lload_n hx hb dX5_yearBehind_6 rfl (lv_at hl 1 rfl) ?_
    obtain ⟨q2, hq2, h⟩ := bS h
    refine rcL (va_runS (As := [.long p1]) (rest := []) ⟨hx, hb, hml, hown, hts⟩ (c_sc_later l D cI cJ cZ   s.heap p1 q2 hq2) (va_cwS 1 hts gX5_yearBehind_X7_later rfl rfl rfl (by decide +kernel) ⟨Nat.le_of_ble_eq_true rfl, Nat.le_of_ble_eq_true rfl⟩) (rPreS hK) rfl rfl hl.1 rfl (lv_room (Nat.le_of_ble_eq_true rfl)) dX5_yearBehind_7 ⟨Nat.zero_le _, Nat.zero_le _⟩) ?_
    exact W.lret hx hb hr (fun t ht _ => ⟨_, rfl, Option.some.inj h, ht⟩) (fun _ q => absurd q List.not_mem_nil) dX5_yearBehind_10

set_option maxHeartbeats 4000000 in
set_option maxRecDepth 100000 in
theorem c_xx_years (l : Launch) (D : va_G) (cI cJ cZ : ClassId) (a : Nat → Nat) (g : Nat → Nat) (d : Nat → Nat) (xText : Nat → Int32) (xLetters : Int32) (xNow : Int64) (xKept : Nat → Int64) (xIsKept : Nat → Int32) (xChance : Int64) (xScenes : Nat → Int64) (xASize : Int32) (xSKinds : Nat → Int32) (xSLifts : Nat → Int32) (xSFlights : Nat → Int32) (xSSize : Int32) (xTally : Nat → Int32) (xOut : Nat → Int64) (fPk : Nat → Int32) (fWn : Nat → Int32) (fGw : Nat → Int32) (fGk : Nat → Int32) (fOw : Nat → Int32) (fSt : Nat → Int32) (fPe : Int32) (fHo : Int32) (fGr : Int32) (fPa : Int32) (fFt : Int32) (dPk : Nat → Int32) (dWn : Nat → Int32) (dGw : Nat → Int32) (dGk : Nat → Int32) (dOw : Nat → Int32) (dSt : Nat → Int32) (dPe : Int32) (dHo : Int32) (dGr : Int32) (dPa : Int32) (dFt : Int32)  (sz : Nat) (p1 : Int32) (rv : Int32) (xChance_r : Int64) (h : xx_years xNow xChance fPk fWn fGw fGk fOw fPe fHo fGr p1 = some (rv, xChance_r)) : Met l yX11_years wsX11_years ({ frames := 5, cells := 0, slots := 0, locals := 122 } : Room) (wPc D cI cJ cZ (xW a g d cI cJ cZ (g 0) (d 0) xText xLetters xNow xKept xIsKept xChance xScenes xASize xSKinds xSLifts xSFlights xSSize xTally xOut fPk fWn fGw fGk fOw fSt fPe fHo fGr fPa fFt dPk dWn dGw dGk dOw dSt dPe dHo dGr dPa dFt) sz [.ref (a 0), .int p1]) (wQi D (xW a g d cI cJ cZ (g 0) (d 0) xText xLetters xNow xKept xIsKept xChance xScenes xASize xSKinds xSLifts xSFlights xSSize xTally xOut fPk fWn fGw fGk fOw fSt fPe fHo fGr fPa fFt dPk dWn dGw dGk dOw dSt dPe dHo dGr dPa dFt) (xW a g d cI cJ cZ (g 0) (d 0) xText xLetters xNow xKept xIsKept xChance_r xScenes xASize xSKinds xSLifts xSFlights xSSize xTally xOut fPk fWn fGw fGk fOw fSt fPe fHo fGr fPa fFt dPk dWn dGw dGk dOw dSt dPe dHo dGr dPa dFt) sz rv) 0 0 (va_A (xW a g d cI cJ cZ (g 0) (d 0) xText xLetters xNow xKept xIsKept xChance xScenes xASize xSKinds xSLifts xSFlights xSSize xTally xOut fPk fWn fGw fGk fOw fSt fPe fHo fGr fPa fFt dPk dWn dGw dGk dOw dSt dPe dHo dGr dPa dFt) sz) := by
  unfold xx_years at h
  refine Met.ofW (cc := cX11_years) (maxL := 5) (ret := (some .int)) (by decide) rfl ?_
  intro p e s m args below meth c s₁ B hml hv
  obtain ⟨rfl, hsz, hP, hK, hD0⟩ := hv
  have hx := B.exec
  have hb := B.bytes
  have hr := B.returns
  have hts := atoms_spec (ws := wsX11_years) B.pre
  have hown : s.vm.findClass RX11 = some m.cls := findClass_of_methodNamed B.named
  have hlocks := B.notSynchronized
  subst hsz
  have hD := hD0.self (sz := s.heap.size)
  have hA : ∀ q : Nat, s.heap.size ≤ q → va_A (xW a g d cI cJ cZ (g 0) (d 0) xText xLetters xNow xKept xIsKept xChance xScenes xASize xSKinds xSLifts xSFlights xSSize xTally xOut fPk fWn fGw fGk fOw fSt fPe fHo fGr fPa fFt dPk dWn dGw dGk dOw dSt dPe dHo dGr dPa dFt) s.heap.size q := fun q h => Or.inr h
  have hS : va_S (va_A (xW a g d cI cJ cZ (g 0) (d 0) xText xLetters xNow xKept xIsKept xChance xScenes xASize xSKinds xSLifts xSFlights xSSize xTally xOut fPk fWn fGw fGk fOw fSt fPe fHo fGr fPa fFt dPk dWn dGw dGk dOw dSt dPe dHo dGr dPa dFt) s.heap.size) s.heap s.heap [] := va_S.rf
  obtain ⟨A, hAe⟩ : ∃ A, A = va_A (xW a g d cI cJ cZ (g 0) (d 0) xText xLetters xNow xKept xIsKept xChance xScenes xASize xSKinds xSLifts xSFlights xSSize xTally xOut fPk fWn fGw fGk fOw fSt fPe fHo fGr fPa fFt dPk dWn dGw dGk dOw dSt dPe dHo dGr dPa dFt) s.heap.size := ⟨_, rfl⟩
  rw [← hAe] at hD hA hS
  have hl := lv_entry ([.ref (a 0), .int p1]) (n := 5) (Nat.le_of_ble_eq_true rfl)
  rw [lg_entry_eq]
  generalize (lg_sl ([.ref (a 0), .int p1]) ++ List.replicate (5 - (lg_sl ([.ref (a 0), .int p1])).length) Slot.unset).toArray = ls at hl ⊢
  have hl : lv_has ls 5 [(0, .ref (a 0)), (1, .int p1)] := hl
  have hiX11 : ∀ w ∈ u_ws RX11 TX11 11, w ∈ wsX11_years := fun w hw => List.mem_cons_of_mem _ (List.mem_append_left _ (List.mem_append_right _ hw))
  refine lv_iload_n hx hb dX11_years_0 rfl (lv_at hl 1 rfl) ?_
  refine lv_iconst (v := 1) hx hb dX11_years_1 (by decide) ?_
  refine lv_icmp_lt (tgt := 11) hx hb dX11_years_2 (by decide) (fun c1 => ?_) (fun c1 => ?_)
  · have h := iT c1 h
    refine lv_bipush (v := (-2)) hx hb dX11_years_11 (by decide) ?_
    cases h
    subst hAe
    exact W.iret hx hb hr (fun t ht _ => ⟨⟨_, (), rfl, rfl, by rw [ht]; exact hP, hD⟩, hS.F ht⟩) hS.2.2 dX11_years_13
  · have h := iF c1 h
    refine lv_iload_n hx hb dX11_years_5 rfl (lv_at hl 1 rfl) ?_
    refine lv_bipush (v := 30) hx hb dX11_years_6 (by decide) ?_
    refine lv_icmp_le (tgt := 14) hx hb dX11_years_8 (by decide) (fun c2 => ?_) (fun c2 => ?_)
    · have h := iT c2 h
      refine lv_aload_n hx hb dX11_years_14 rfl (lv_at hl 0 rfl) ?_
      refine va_get (D := D) (ci := 4) (v := .long xNow) (C := RX11) (T := TX11) (N := 11) hx hb hts hiX11 hown hK.1 hP 0 rfl rfl 4 (by decide) (hts (.fieldLink RX11 27 "WinnowedGuilt" "now" "J") (by decide +kernel)) (fun _ h9 => h9) rfl dX11_years_15 ?_
      refine lv_lstore_n (lv' := [(2, .long xNow), (0, .ref (a 0)), (1, .int p1)]) hx hb dX11_years_18 rfl hl (by decide) rfl (fun ls hl => ?_)
      refine lv_iconst (v := 0) hx hb dX11_years_19 (by decide) ?_
      refine lv_istore (lv' := [(4, .int 0), (2, .long xNow), (0, .ref (a 0)), (1, .int p1)]) hx hb dX11_years_20 hl (by decide) rfl (fun ls hl => ?_)
      have L22 : ∀ (n : Nat) (x4_22 : Int32) (x2_22 : Int64) (xChance_22x : (Int64)) (H : Heap) (locs : List Loc) (ls : Array Slot) (kx : Int32 → Int64 → (Int64) → Option (Int32 × (Int64))), xx_years_L22 fPk fWn fGw fGk fOw fPe fHo fGr p1 kx n x4_22 x2_22 xChance_22x = some (rv, xChance_r) → va_P D vwCl (xW a g d cI cJ cZ (g 0) (d 0) xText xLetters xNow xKept xIsKept xChance_22x xScenes xASize xSKinds xSLifts xSFlights xSSize xTally xOut fPk fWn fGw fGk fOw fSt fPe fHo fGr fPa fFt dPk dWn dGw dGk dOw dSt dPe dHo dGr dPa dFt) H → va_D A (xW a g d cI cJ cZ (g 0) (d 0) xText xLetters xNow xKept xIsKept xChance_22x xScenes xASize xSKinds xSLifts xSFlights xSSize xTally xOut fPk fWn fGw fGk fOw fSt fPe fHo fGr fPa fFt dPk dWn dGw dGk dOw dSt dPe dHo dGr dPa dFt) → va_S A s.heap H locs → lv_has ls 5 [(4, .int x4_22), (2, .long x2_22), (0, .ref (a 0)), (1, .int p1)] → (∀ (y4_22 : Int32) (y2_22 : Int64) (xChance_22 : (Int64)) (H : Heap) (locs : List Loc) (ls : Array Slot), kx y4_22 y2_22 xChance_22 = some (rv, xChance_r) → va_P D vwCl (xW a g d cI cJ cZ (g 0) (d 0) xText xLetters xNow xKept xIsKept xChance_22 xScenes xASize xSKinds xSLifts xSFlights xSSize xTally xOut fPk fWn fGw fGk fOw fSt fPe fHo fGr fPa fFt dPk dWn dGw dGk dOw dSt dPe dHo dGr dPa dFt) H → va_D A (xW a g d cI cJ cZ (g 0) (d 0) xText xLetters xNow xKept xIsKept xChance_22 xScenes xASize xSKinds xSLifts xSFlights xSSize xTally xOut fPk fWn fGw fGk fOw fSt fPe fHo fGr fPa fFt dPk dWn dGw dGk dOw dSt dPe dHo dGr dPa dFt) → va_S A s.heap H locs → lv_has ls 5 [(4, .int y4_22), (2, .long y2_22), (0, .ref (a 0)), (1, .int p1)] → W p l e (headSpec wsX11_years ({ frames := 5, cells := 0, slots := 0, locals := 122 } : Room)).room s m ([.ref (a 0), .int p1] : List Value).toArray below meth c H locs 0 0 (MQ below (wQi D (xW a g d cI cJ cZ (g 0) (d 0) xText xLetters xNow xKept xIsKept xChance xScenes xASize xSKinds xSLifts xSFlights xSSize xTally xOut fPk fWn fGw fGk fOw fSt fPe fHo fGr fPa fFt dPk dWn dGw dGk dOw dSt dPe dHo dGr dPa dFt) (xW a g d cI cJ cZ (g 0) (d 0) xText xLetters xNow xKept xIsKept xChance_r xScenes xASize xSKinds xSLifts xSFlights xSSize xTally xOut fPk fWn fGw fGk fOw fSt fPe fHo fGr fPa fFt dPk dWn dGw dGk dOw dSt dPe dHo dGr dPa dFt) s.heap.size rv) ([.ref (a 0), .int p1] : List Value).toArray s 0 0 (va_A (xW a g d cI cJ cZ (g 0) (d 0) xText xLetters xNow xKept xIsKept xChance xScenes xASize xSKinds xSLifts xSFlights xSSize xTally xOut fPk fWn fGw fGk fOw fSt fPe fHo fGr fPa fFt dPk dWn dGw dGk dOw dSt dPe dHo dGr dPa dFt) s.heap.size)) (F0 m 65 ls [])) → W p l e (headSpec wsX11_years ({ frames := 5, cells := 0, slots := 0, locals := 122 } : Room)).room s m ([.ref (a 0), .int p1] : List Value).toArray below meth c H locs 0 0 (MQ below (wQi D (xW a g d cI cJ cZ (g 0) (d 0) xText xLetters xNow xKept xIsKept xChance xScenes xASize xSKinds xSLifts xSFlights xSSize xTally xOut fPk fWn fGw fGk fOw fSt fPe fHo fGr fPa fFt dPk dWn dGw dGk dOw dSt dPe dHo dGr dPa dFt) (xW a g d cI cJ cZ (g 0) (d 0) xText xLetters xNow xKept xIsKept xChance_r xScenes xASize xSKinds xSLifts xSFlights xSSize xTally xOut fPk fWn fGw fGk fOw fSt fPe fHo fGr fPa fFt dPk dWn dGw dGk dOw dSt dPe dHo dGr dPa dFt) s.heap.size rv) ([.ref (a 0), .int p1] : List Value).toArray s 0 0 (va_A (xW a g d cI cJ cZ (g 0) (d 0) xText xLetters xNow xKept xIsKept xChance xScenes xASize xSKinds xSLifts xSFlights xSSize xTally xOut fPk fWn fGw fGk fOw fSt fPe fHo fGr fPa fFt dPk dWn dGw dGk dOw dSt dPe dHo dGr dPa dFt) s.heap.size)) (F0 m 22 ls []) := by
        intro n
        induction n with
        | zero => intro _ _ _ _ _ _ _ h; rw [xx_years_L22.eq_1] at h; cases h
        | succ n ih =>
          intro x4_22 x2_22 xChance_22x H locs ls kx h hP hD hS hl hk
          rw [xx_years_L22.eq_2] at h
          refine lv_iload hx hb dX11_years_22 (lv_at hl 0 rfl) ?_
          refine lv_iload_n hx hb dX11_years_24 rfl (lv_at hl 3 rfl) ?_
          refine lv_icmp_ge (tgt := 65) hx hb dX11_years_25 (by decide) (fun c3 => ?_) (fun c3 => ?_)
          · have h := iT c3 h
            exact hk _ _ _ _ _ _ h hP hD hS (lv_sub hl [0, 1, 2, 3] rfl)
          · have h := iF c3 h
            refine lv_aload_n hx hb dX11_years_28 rfl (lv_at hl 2 rfl) ?_
            refine lv_aload_n hx hb dX11_years_29 rfl (lv_at hl 2 rfl) ?_
            refine va_get (D := D) (ci := 4) (v := .long xChance_22x) (C := RX11) (T := TX11) (N := 11) hx hb hts hiX11 hown hK.1 hP 0 rfl rfl 10 (by decide) (hts (.fieldLink RX11 243 "WinnowedGuilt" "chance" "J") (by decide +kernel)) (fun _ h9 => h9) rfl dX11_years_30 ?_
            obtain ⟨q4, hq4, h⟩ := bS h
            refine rcL (va_runS (As := [.long xChance_22x]) (rest := [.ref (a 0)]) ⟨hx, hb, hml, hown, hts⟩ (c_gu_nextChance l D cI cJ cZ   H xChance_22x q4 hq4) (va_cwS 1 hts gX11_years_X5_nextChance rfl rfl rfl (by decide +kernel) ⟨Nat.le_of_ble_eq_true rfl, Nat.le_of_ble_eq_true rfl⟩) (rPreS hK) rfl rfl hl.1 rfl (lv_room (Nat.le_of_ble_eq_true rfl)) dX11_years_33 ⟨Nat.zero_le _, Nat.zero_le _⟩) ?_
            refine va_put (D := D) (ci := 4) (v := .long q4) (ty := .long) (C := RX11) (T := TX11) (N := 11) hx hb hts hiX11 tyX11 tyX11_ok nmX11 hown hK.1 hP hD hS 0 rfl rfl 10 (by decide) (hts (.fieldLink RX11 243 "WinnowedGuilt" "chance" "J") (by decide +kernel)) (fun _ h9 => h9) rfl (by decide +kernel) rfl rfl (Nat.le_of_ble_eq_true rfl) dX11_years_36 (fun H locs hP hD hS => ?_)
            have hP : va_P D vwCl (xW a g d cI cJ cZ (g 0) (d 0) xText xLetters xNow xKept xIsKept q4 xScenes xASize xSKinds xSLifts xSFlights xSSize xTally xOut fPk fWn fGw fGk fOw fSt fPe fHo fGr fPa fFt dPk dWn dGw dGk dOw dSt dPe dHo dGr dPa dFt) H := hP
            have hD : va_D A (xW a g d cI cJ cZ (g 0) (d 0) xText xLetters xNow xKept xIsKept q4 xScenes xASize xSKinds xSLifts xSFlights xSSize xTally xOut fPk fWn fGw fGk fOw fSt fPe fHo fGr fPa fFt dPk dWn dGw dGk dOw dSt dPe dHo dGr dPa dFt) := hD
            refine lv_aload_n hx hb dX11_years_39 rfl (lv_at hl 2 rfl) ?_
            refine va_get (D := D) (ci := 4) (v := .ref (g 0)) (C := RX11) (T := TX11) (N := 11) hx hb hts hiX11 hown hK.1 hP 0 rfl rfl 2 (by decide) (hts (.fieldLink RX11 16 "WinnowedGuilt" "ground" "LWinnowedGuilt$Floor;") (by decide +kernel)) (fun _ h9 => h9) rfl dX11_years_40 ?_
            refine lv_lload_n hx hb dX11_years_43 rfl (lv_at hl 1 rfl) ?_
            refine lv_aload_n hx hb dX11_years_44 rfl (lv_at hl 2 rfl) ?_
            refine va_get (D := D) (ci := 4) (v := .long q4) (C := RX11) (T := TX11) (N := 11) hx hb hts hiX11 hown hK.1 hP 0 rfl rfl 10 (by decide) (hts (.fieldLink RX11 243 "WinnowedGuilt" "chance" "J") (by decide +kernel)) (fun _ h9 => h9) rfl dX11_years_45 ?_
            refine lv_bipush (v := 33) hx hb dX11_years_48 (by decide) ?_
            refine lv_lushr (v := (Int64.toUInt64 q4 >>> ((Int32.toInt64 (33 : Int32)).toUInt64 &&& Int64.toUInt64 63)).toInt64) hx hb dX11_years_50 rfl ?_
            refine lv_l2i (v := (Int64.toInt32 (Int64.toUInt64 q4 >>> ((Int32.toInt64 (33 : Int32)).toUInt64 &&& Int64.toUInt64 63)).toInt64)) hx hb dX11_years_51 rfl ?_
            refine lv_bipush (v := 9) hx hb dX11_years_52 (by decide) ?_
            refine lv_irem hx hb dX11_years_54 (by decide) ?_
            have hG := hP.sub (ws' := (fW g cI fPk fWn fGw fGk fOw fSt fPe fHo fGr fPa fFt)) [13, 14, 15, 16, 17, 18, 19] rfl
            obtain ⟨q5, hq5, h⟩ := bS h
            refine rcL (va_runS (As := [.ref (g 0), .long x2_22, .int ((Int64.toInt32 (Int64.toUInt64 q4 >>> ((Int32.toInt64 (33 : Int32)).toUInt64 &&& Int64.toUInt64 63)).toInt64) - (Int64.toInt32 (Int64.toUInt64 q4 >>> ((Int32.toInt64 (33 : Int32)).toUInt64 &&& Int64.toUInt64 63)).toInt64) / 9 * 9)]) (rest := []) ⟨hx, hb, hml, hown, hts⟩ (c_gu_yearBehind l D cI cJ cZ g fPk fWn fGw fGk fOw fSt fPe fHo fGr fPa fFt H hG x2_22 ((Int64.toInt32 (Int64.toUInt64 q4 >>> ((Int32.toInt64 (33 : Int32)).toUInt64 &&& Int64.toUInt64 63)).toInt64) - (Int64.toInt32 (Int64.toUInt64 q4 >>> ((Int32.toInt64 (33 : Int32)).toUInt64 &&& Int64.toUInt64 63)).toInt64) / 9 * 9) q5 hq5) (va_cwS 3 hts gX11_years_X5_yearBehind rfl rfl rfl (by decide +kernel) ⟨Nat.le_of_ble_eq_true rfl, Nat.le_of_ble_eq_true rfl⟩) (rPreS hK) rfl rfl hl.1 rfl (lv_room (Nat.le_of_ble_eq_true rfl)) dX11_years_55 ⟨Nat.zero_le _, Nat.zero_le _⟩) ?_
            refine lv_lstore_n (lv' := [(2, .long q5), (4, .int x4_22), (0, .ref (a 0)), (1, .int p1)]) hx hb dX11_years_58 rfl hl (by decide) rfl (fun ls hl => ?_)
            refine lv_iinc (v := (x4_22 + 1)) (lv' := [(4, .int (x4_22 + 1)), (2, .long q5), (0, .ref (a 0)), (1, .int p1)]) hx hb dX11_years_59 hl (k := 1) rfl rfl (by decide) rfl (fun ls hl => ?_)
            refine lv_goto (tgt := 22) hx hb dX11_years_62 (by decide) ?_
            exact ih _ _ _ _ _ _ _ h hP hD hS (lv_sub hl [0, 1, 2, 3] rfl) hk
      refine L22 _ _ _ _ _ _ _ _ h hP hD hS hl (fun y4_22 y2_22 xChance_22 H locs ls h hP hD hS hl => ?_)
      refine lv_aload_n hx hb dX11_years_65 rfl (lv_at hl 2 rfl) ?_
      refine va_get (D := D) (ci := 4) (v := .ref (g 0)) (C := RX11) (T := TX11) (N := 11) hx hb hts hiX11 hown hK.1 hP 0 rfl rfl 2 (by decide) (hts (.fieldLink RX11 16 "WinnowedGuilt" "ground" "LWinnowedGuilt$Floor;") (by decide +kernel)) (fun _ h9 => h9) rfl dX11_years_66 ?_
      refine lv_lload_n hx hb dX11_years_69 rfl (lv_at hl 1 rfl) ?_
      have hG := hP.sub (ws' := (fW g cI fPk fWn fGw fGk fOw fSt fPe fHo fGr fPa fFt)) [13, 14, 15, 16, 17, 18, 19] rfl
      obtain ⟨q3, hq3, h⟩ := bS h
      refine rcI (va_runV (As := [.long y2_22]) (rest := []) ⟨hx, hb, hml, hown, hts⟩ (c_fl_goneWeight l D cI cJ cZ g fPk fWn fGw fGk fOw fSt fPe fHo fGr fPa fFt H hG y2_22 q3 hq3) (cwV 1 hts gX11_years_X3_goneWeight rfl rfl rfl (by decide +kernel) ⟨Nat.le_of_ble_eq_true rfl, Nat.le_of_ble_eq_true rfl⟩) (rPreV hK hG (ci := 2) (q0 := 0) rfl rfl) rfl rfl hl.1 rfl (lv_room (Nat.le_of_ble_eq_true rfl)) dX11_years_70 ⟨Nat.zero_le _, Nat.zero_le _⟩) ?_
      cases h
      subst hAe
      exact W.iret hx hb hr (fun t ht _ => ⟨⟨_, (), rfl, rfl, by rw [ht]; exact hP, hD⟩, hS.F ht⟩) hS.2.2 dX11_years_73
    · have h := iF c2 h
      refine lv_bipush (v := (-2)) hx hb dX11_years_11 (by decide) ?_
      cases h
      subst hAe
      exact W.iret hx hb hr (fun t ht _ => ⟨⟨_, (), rfl, rfl, by rw [ht]; exact hP, hD⟩, hS.F ht⟩) hS.2.2 dX11_years_13

set_option maxHeartbeats 4000000 in
set_option maxRecDepth 100000 in
theorem c_xx_keep (l : Launch) (D : va_G) (cI cJ cZ : ClassId) (a : Nat → Nat) (g : Nat → Nat) (d : Nat → Nat) (xText : Nat → Int32) (xLetters : Int32) (xNow : Int64) (xKept : Nat → Int64) (xIsKept : Nat → Int32) (xChance : Int64) (xScenes : Nat → Int64) (xASize : Int32) (xSKinds : Nat → Int32) (xSLifts : Nat → Int32) (xSFlights : Nat → Int32) (xSSize : Int32) (xTally : Nat → Int32) (xOut : Nat → Int64) (fPk : Nat → Int32) (fWn : Nat → Int32) (fGw : Nat → Int32) (fGk : Nat → Int32) (fOw : Nat → Int32) (fSt : Nat → Int32) (fPe : Int32) (fHo : Int32) (fGr : Int32) (fPa : Int32) (fFt : Int32) (dPk : Nat → Int32) (dWn : Nat → Int32) (dGw : Nat → Int32) (dGk : Nat → Int32) (dOw : Nat → Int32) (dSt : Nat → Int32) (dPe : Int32) (dHo : Int32) (dGr : Int32) (dPa : Int32) (dFt : Int32)  (sz : Nat) (p1 : Int32) (rv : Int32) (xKept_r : Nat → Int64) (xIsKept_r : Nat → Int32) (h : xx_keep xNow xKept xIsKept p1 = some (rv, xKept_r, xIsKept_r)) : Met l yX11_keep wsX11_keep ({ frames := 1, cells := 0, slots := 0, locals := 21 } : Room) (wPc D cI cJ cZ (xW a g d cI cJ cZ (g 0) (d 0) xText xLetters xNow xKept xIsKept xChance xScenes xASize xSKinds xSLifts xSFlights xSSize xTally xOut fPk fWn fGw fGk fOw fSt fPe fHo fGr fPa fFt dPk dWn dGw dGk dOw dSt dPe dHo dGr dPa dFt) sz [.ref (a 0), .int p1]) (wQi D (xW a g d cI cJ cZ (g 0) (d 0) xText xLetters xNow xKept xIsKept xChance xScenes xASize xSKinds xSLifts xSFlights xSSize xTally xOut fPk fWn fGw fGk fOw fSt fPe fHo fGr fPa fFt dPk dWn dGw dGk dOw dSt dPe dHo dGr dPa dFt) (xW a g d cI cJ cZ (g 0) (d 0) xText xLetters xNow xKept_r xIsKept_r xChance xScenes xASize xSKinds xSLifts xSFlights xSSize xTally xOut fPk fWn fGw fGk fOw fSt fPe fHo fGr fPa fFt dPk dWn dGw dGk dOw dSt dPe dHo dGr dPa dFt) sz rv) 0 0 (va_A (xW a g d cI cJ cZ (g 0) (d 0) xText xLetters xNow xKept xIsKept xChance xScenes xASize xSKinds xSLifts xSFlights xSSize xTally xOut fPk fWn fGw fGk fOw fSt fPe fHo fGr fPa fFt dPk dWn dGw dGk dOw dSt dPe dHo dGr dPa dFt) sz) := by
  unfold xx_keep at h
  refine Met.ofW (cc := cX11_keep) (maxL := 2) (ret := (some .int)) (by decide) rfl ?_
  intro p e s m args below meth c s₁ B hml hv
  obtain ⟨rfl, hsz, hP, hK, hD0⟩ := hv
  have hx := B.exec
  have hb := B.bytes
  have hr := B.returns
  have hts := atoms_spec (ws := wsX11_keep) B.pre
  have hown : s.vm.findClass RX11 = some m.cls := findClass_of_methodNamed B.named
  have hlocks := B.notSynchronized
  subst hsz
  have hD := hD0.self (sz := s.heap.size)
  have hA : ∀ q : Nat, s.heap.size ≤ q → va_A (xW a g d cI cJ cZ (g 0) (d 0) xText xLetters xNow xKept xIsKept xChance xScenes xASize xSKinds xSLifts xSFlights xSSize xTally xOut fPk fWn fGw fGk fOw fSt fPe fHo fGr fPa fFt dPk dWn dGw dGk dOw dSt dPe dHo dGr dPa dFt) s.heap.size q := fun q h => Or.inr h
  have hS : va_S (va_A (xW a g d cI cJ cZ (g 0) (d 0) xText xLetters xNow xKept xIsKept xChance xScenes xASize xSKinds xSLifts xSFlights xSSize xTally xOut fPk fWn fGw fGk fOw fSt fPe fHo fGr fPa fFt dPk dWn dGw dGk dOw dSt dPe dHo dGr dPa dFt) s.heap.size) s.heap s.heap [] := va_S.rf
  obtain ⟨A, hAe⟩ : ∃ A, A = va_A (xW a g d cI cJ cZ (g 0) (d 0) xText xLetters xNow xKept xIsKept xChance xScenes xASize xSKinds xSLifts xSFlights xSSize xTally xOut fPk fWn fGw fGk fOw fSt fPe fHo fGr fPa fFt dPk dWn dGw dGk dOw dSt dPe dHo dGr dPa dFt) s.heap.size := ⟨_, rfl⟩
  rw [← hAe] at hD hA hS
  have hl := lv_entry ([.ref (a 0), .int p1]) (n := 2) (Nat.le_of_ble_eq_true rfl)
  rw [lg_entry_eq]
  generalize (lg_sl ([.ref (a 0), .int p1]) ++ List.replicate (2 - (lg_sl ([.ref (a 0), .int p1])).length) Slot.unset).toArray = ls at hl ⊢
  have hl : lv_has ls 2 [(0, .ref (a 0)), (1, .int p1)] := hl
  have hiX11 : ∀ w ∈ u_ws RX11 TX11 11, w ∈ wsX11_keep := fun w hw => List.mem_cons_of_mem _ (List.mem_append_right _ hw)
  refine lv_iload_n hx hb dX11_keep_0 rfl (lv_at hl 1 rfl) ?_
  refine lv_if_lt (tgt := 22) hx hb dX11_keep_1 (by decide) (fun c1 => ?_) (fun c1 => ?_)
  · have h := iT c1 h
    refine lv_iconst (v := (-1)) hx hb dX11_keep_22 (by decide) ?_
    cases h
    subst hAe
    exact W.iret hx hb hr (fun t ht _ => ⟨⟨_, (), rfl, rfl, by rw [ht]; exact hP, hD⟩, hS.F ht⟩) hS.2.2 dX11_keep_23
  · have h := iF c1 h
    refine lv_iload_n hx hb dX11_keep_4 rfl (lv_at hl 1 rfl) ?_
    refine lv_aload_n hx hb dX11_keep_5 rfl (lv_at hl 0 rfl) ?_
    refine va_get (D := D) (ci := 4) (v := .ref (a 3)) (C := RX11) (T := TX11) (N := 11) hx hb hts hiX11 hown hK.1 hP 0 rfl rfl 6 (by decide) (hts (.fieldLink RX11 38 "WinnowedGuilt" "kept" "[J") (by decide +kernel)) (fun _ h9 => h9) rfl dX11_keep_6 ?_
    refine va_alen (v := 2) hx hb hK.1 hP 2 1 rfl rfl rfl dX11_keep_9 ?_
    refine lv_icmp_ge (tgt := 22) hx hb dX11_keep_10 (by decide) (fun c2 => ?_) (fun c2 => ?_)
    · have h := iT c2 h
      refine lv_iconst (v := (-1)) hx hb dX11_keep_22 (by decide) ?_
      cases h
      subst hAe
      exact W.iret hx hb hr (fun t ht _ => ⟨⟨_, (), rfl, rfl, by rw [ht]; exact hP, hD⟩, hS.F ht⟩) hS.2.2 dX11_keep_23
    · have h := iF c2 h
      refine lv_iload_n hx hb dX11_keep_13 rfl (lv_at hl 1 rfl) ?_
      refine lv_aload_n hx hb dX11_keep_14 rfl (lv_at hl 0 rfl) ?_
      refine va_get (D := D) (ci := 4) (v := .ref (a 4)) (C := RX11) (T := TX11) (N := 11) hx hb hts hiX11 hown hK.1 hP 0 rfl rfl 7 (by decide) (hts (.fieldLink RX11 42 "WinnowedGuilt" "isKept" "[Z") (by decide +kernel)) (fun _ h9 => h9) rfl dX11_keep_15 ?_
      refine va_alen (v := 2) hx hb hK.1 hP 3 2 rfl rfl rfl dX11_keep_18 ?_
      refine lv_icmp_lt (tgt := 24) hx hb dX11_keep_19 (by decide) (fun c3 => ?_) (fun c3 => ?_)
      · have h := iT c3 h
        refine lv_aload_n hx hb dX11_keep_24 rfl (lv_at hl 0 rfl) ?_
        refine va_get (D := D) (ci := 4) (v := .ref (a 3)) (C := RX11) (T := TX11) (N := 11) hx hb hts hiX11 hown hK.1 hP 0 rfl rfl 6 (by decide) (hts (.fieldLink RX11 38 "WinnowedGuilt" "kept" "[J") (by decide +kernel)) (fun _ h9 => h9) rfl dX11_keep_25 ?_
        refine lv_iload_n hx hb dX11_keep_28 rfl (lv_at hl 1 rfl) ?_
        refine lv_aload_n hx hb dX11_keep_29 rfl (lv_at hl 0 rfl) ?_
        refine va_get (D := D) (ci := 4) (v := .long xNow) (C := RX11) (T := TX11) (N := 11) hx hb hts hiX11 hown hK.1 hP 0 rfl rfl 4 (by decide) (hts (.fieldLink RX11 27 "WinnowedGuilt" "now" "J") (by decide +kernel)) (fun _ h9 => h9) rfl dX11_keep_30 ?_
        obtain ⟨hi4, h⟩ := gI_some h
        refine va_last hx hb hK.1 hP hD hS 2 1 rfl rfl hi4 dX11_keep_33 (fun H locs hP hD hS => ?_)
        have hP : va_P D vwCl (xW a g d cI cJ cZ (g 0) (d 0) xText xLetters xNow (vp_updL xKept (Int32.toNatClampNeg p1) xNow) xIsKept xChance xScenes xASize xSKinds xSLifts xSFlights xSSize xTally xOut fPk fWn fGw fGk fOw fSt fPe fHo fGr fPa fFt dPk dWn dGw dGk dOw dSt dPe dHo dGr dPa dFt) H := hP
        have hD : va_D A (xW a g d cI cJ cZ (g 0) (d 0) xText xLetters xNow (vp_updL xKept (Int32.toNatClampNeg p1) xNow) xIsKept xChance xScenes xASize xSKinds xSLifts xSFlights xSSize xTally xOut fPk fWn fGw fGk fOw fSt fPe fHo fGr fPa fFt dPk dWn dGw dGk dOw dSt dPe dHo dGr dPa dFt) := hD
        refine lv_aload_n hx hb dX11_keep_34 rfl (lv_at hl 0 rfl) ?_
        refine va_get (D := D) (ci := 4) (v := .ref (a 4)) (C := RX11) (T := TX11) (N := 11) hx hb hts hiX11 hown hK.1 hP 0 rfl rfl 7 (by decide) (hts (.fieldLink RX11 42 "WinnowedGuilt" "isKept" "[Z") (by decide +kernel)) (fun _ h9 => h9) rfl dX11_keep_35 ?_
        refine lv_iload_n hx hb dX11_keep_38 rfl (lv_at hl 1 rfl) ?_
        refine lv_iconst (v := 1) hx hb dX11_keep_39 (by decide) ?_
        obtain ⟨hi5, h⟩ := gI_some h
        refine va_zast hx hb hK.1 hP hD hS 3 2 rfl rfl hi5 dX11_keep_40 (fun H locs hP hD hS => ?_)
        have hP : va_P D vwCl (xW a g d cI cJ cZ (g 0) (d 0) xText xLetters xNow (vp_updL xKept (Int32.toNatClampNeg p1) xNow) (upd xIsKept (Int32.toNatClampNeg p1) 1) xChance xScenes xASize xSKinds xSLifts xSFlights xSSize xTally xOut fPk fWn fGw fGk fOw fSt fPe fHo fGr fPa fFt dPk dWn dGw dGk dOw dSt dPe dHo dGr dPa dFt) H := hP
        have hD : va_D A (xW a g d cI cJ cZ (g 0) (d 0) xText xLetters xNow (vp_updL xKept (Int32.toNatClampNeg p1) xNow) (upd xIsKept (Int32.toNatClampNeg p1) 1) xChance xScenes xASize xSKinds xSLifts xSFlights xSSize xTally xOut fPk fWn fGw fGk fOw fSt fPe fHo fGr fPa fFt dPk dWn dGw dGk dOw dSt dPe dHo dGr dPa dFt) := hD
        refine lv_aload_n hx hb dX11_keep_41 rfl (lv_at hl 0 rfl) ?_
        refine va_get (D := D) (ci := 4) (v := .long xNow) (C := RX11) (T := TX11) (N := 11) hx hb hts hiX11 hown hK.1 hP 0 rfl rfl 4 (by decide) (hts (.fieldLink RX11 27 "WinnowedGuilt" "now" "J") (by decide +kernel)) (fun _ h9 => h9) rfl dX11_keep_42 ?_
        obtain ⟨q6, hq6, h⟩ := bS h
        refine rcI (va_runS (As := [.long xNow]) (rest := []) ⟨hx, hb, hml, hown, hts⟩ (c_sc_clockOf l D cI cJ cZ   H xNow q6 hq6) (va_cwS 1 hts gX11_keep_X7_clockOf rfl rfl rfl (by decide +kernel) ⟨Nat.le_of_ble_eq_true rfl, Nat.le_of_ble_eq_true rfl⟩) (rPreS hK) rfl rfl hl.1 rfl (lv_room (Nat.le_of_ble_eq_true rfl)) dX11_keep_45 ⟨Nat.zero_le _, Nat.zero_le _⟩) ?_
        cases h
        subst hAe
        exact W.iret hx hb hr (fun t ht _ => ⟨⟨_, (), rfl, rfl, by rw [ht]; exact hP, hD⟩, hS.F ht⟩) hS.2.2 dX11_keep_48
      · have h := iF c3 h
        refine lv_iconst (v := (-1)) hx hb dX11_keep_22 (by decide) ?_
        cases h
        subst hAe
        exact W.iret hx hb hr (fun t ht _ => ⟨⟨_, (), rfl, rfl, by rw [ht]; exact hP, hD⟩, hS.F ht⟩) hS.2.2 dX11_keep_23

set_option maxHeartbeats 4000000 in
set_option maxRecDepth 100000 in
theorem c_xx_again (l : Launch) (D : va_G) (cI cJ cZ : ClassId) (a : Nat → Nat) (g : Nat → Nat) (d : Nat → Nat) (xText : Nat → Int32) (xLetters : Int32) (xNow : Int64) (xKept : Nat → Int64) (xIsKept : Nat → Int32) (xChance : Int64) (xScenes : Nat → Int64) (xASize : Int32) (xSKinds : Nat → Int32) (xSLifts : Nat → Int32) (xSFlights : Nat → Int32) (xSSize : Int32) (xTally : Nat → Int32) (xOut : Nat → Int64) (fPk : Nat → Int32) (fWn : Nat → Int32) (fGw : Nat → Int32) (fGk : Nat → Int32) (fOw : Nat → Int32) (fSt : Nat → Int32) (fPe : Int32) (fHo : Int32) (fGr : Int32) (fPa : Int32) (fFt : Int32) (dPk : Nat → Int32) (dWn : Nat → Int32) (dGw : Nat → Int32) (dGk : Nat → Int32) (dOw : Nat → Int32) (dSt : Nat → Int32) (dPe : Int32) (dHo : Int32) (dGr : Int32) (dPa : Int32) (dFt : Int32)  (sz : Nat) (p1 : Int32) (rv : Int32) (xNow_r : Int64) (xASize_r : Int32) (h : xx_again xNow xKept xIsKept xASize p1 = some (rv, xNow_r, xASize_r)) : Met l yX11_again wsX11_again ({ frames := 1, cells := 0, slots := 0, locals := 21 } : Room) (wPc D cI cJ cZ (xW a g d cI cJ cZ (g 0) (d 0) xText xLetters xNow xKept xIsKept xChance xScenes xASize xSKinds xSLifts xSFlights xSSize xTally xOut fPk fWn fGw fGk fOw fSt fPe fHo fGr fPa fFt dPk dWn dGw dGk dOw dSt dPe dHo dGr dPa dFt) sz [.ref (a 0), .int p1]) (wQi D (xW a g d cI cJ cZ (g 0) (d 0) xText xLetters xNow xKept xIsKept xChance xScenes xASize xSKinds xSLifts xSFlights xSSize xTally xOut fPk fWn fGw fGk fOw fSt fPe fHo fGr fPa fFt dPk dWn dGw dGk dOw dSt dPe dHo dGr dPa dFt) (xW a g d cI cJ cZ (g 0) (d 0) xText xLetters xNow_r xKept xIsKept xChance xScenes xASize_r xSKinds xSLifts xSFlights xSSize xTally xOut fPk fWn fGw fGk fOw fSt fPe fHo fGr fPa fFt dPk dWn dGw dGk dOw dSt dPe dHo dGr dPa dFt) sz rv) 0 0 (va_A (xW a g d cI cJ cZ (g 0) (d 0) xText xLetters xNow xKept xIsKept xChance xScenes xASize xSKinds xSLifts xSFlights xSSize xTally xOut fPk fWn fGw fGk fOw fSt fPe fHo fGr fPa fFt dPk dWn dGw dGk dOw dSt dPe dHo dGr dPa dFt) sz) := by
  unfold xx_again at h
  refine Met.ofW (cc := cX11_again) (maxL := 2) (ret := (some .int)) (by decide) rfl ?_
  intro p e s m args below meth c s₁ B hml hv
  obtain ⟨rfl, hsz, hP, hK, hD0⟩ := hv
  have hx := B.exec
  have hb := B.bytes
  have hr := B.returns
  have hts := atoms_spec (ws := wsX11_again) B.pre
  have hown : s.vm.findClass RX11 = some m.cls := findClass_of_methodNamed B.named
  have hlocks := B.notSynchronized
  subst hsz
  have hD := hD0.self (sz := s.heap.size)
  have hA : ∀ q : Nat, s.heap.size ≤ q → va_A (xW a g d cI cJ cZ (g 0) (d 0) xText xLetters xNow xKept xIsKept xChance xScenes xASize xSKinds xSLifts xSFlights xSSize xTally xOut fPk fWn fGw fGk fOw fSt fPe fHo fGr fPa fFt dPk dWn dGw dGk dOw dSt dPe dHo dGr dPa dFt) s.heap.size q := fun q h => Or.inr h
  have hS : va_S (va_A (xW a g d cI cJ cZ (g 0) (d 0) xText xLetters xNow xKept xIsKept xChance xScenes xASize xSKinds xSLifts xSFlights xSSize xTally xOut fPk fWn fGw fGk fOw fSt fPe fHo fGr fPa fFt dPk dWn dGw dGk dOw dSt dPe dHo dGr dPa dFt) s.heap.size) s.heap s.heap [] := va_S.rf
  obtain ⟨A, hAe⟩ : ∃ A, A = va_A (xW a g d cI cJ cZ (g 0) (d 0) xText xLetters xNow xKept xIsKept xChance xScenes xASize xSKinds xSLifts xSFlights xSSize xTally xOut fPk fWn fGw fGk fOw fSt fPe fHo fGr fPa fFt dPk dWn dGw dGk dOw dSt dPe dHo dGr dPa dFt) s.heap.size := ⟨_, rfl⟩
  rw [← hAe] at hD hA hS
  have hl := lv_entry ([.ref (a 0), .int p1]) (n := 2) (Nat.le_of_ble_eq_true rfl)
  rw [lg_entry_eq]
  generalize (lg_sl ([.ref (a 0), .int p1]) ++ List.replicate (2 - (lg_sl ([.ref (a 0), .int p1])).length) Slot.unset).toArray = ls at hl ⊢
  have hl : lv_has ls 2 [(0, .ref (a 0)), (1, .int p1)] := hl
  have hiX11 : ∀ w ∈ u_ws RX11 TX11 11, w ∈ wsX11_again := fun w hw => List.mem_cons_of_mem _ (List.mem_append_left _ (List.mem_append_right _ hw))
  refine lv_iload_n hx hb dX11_again_0 rfl (lv_at hl 1 rfl) ?_
  refine lv_if_lt (tgt := 22) hx hb dX11_again_1 (by decide) (fun c1 => ?_) (fun c1 => ?_)
  · have h := iT c1 h
    refine lv_iconst (v := (-1)) hx hb dX11_again_22 (by decide) ?_
    cases h
    subst hAe
    exact W.iret hx hb hr (fun t ht _ => ⟨⟨_, (), rfl, rfl, by rw [ht]; exact hP, hD⟩, hS.F ht⟩) hS.2.2 dX11_again_23
  · have h := iF c1 h
    refine lv_iload_n hx hb dX11_again_4 rfl (lv_at hl 1 rfl) ?_
    refine lv_aload_n hx hb dX11_again_5 rfl (lv_at hl 0 rfl) ?_
    refine va_get (D := D) (ci := 4) (v := .ref (a 3)) (C := RX11) (T := TX11) (N := 11) hx hb hts hiX11 hown hK.1 hP 0 rfl rfl 6 (by decide) (hts (.fieldLink RX11 38 "WinnowedGuilt" "kept" "[J") (by decide +kernel)) (fun _ h9 => h9) rfl dX11_again_6 ?_
    refine va_alen (v := 2) hx hb hK.1 hP 2 1 rfl rfl rfl dX11_again_9 ?_
    refine lv_icmp_ge (tgt := 22) hx hb dX11_again_10 (by decide) (fun c2 => ?_) (fun c2 => ?_)
    · have h := iT c2 h
      refine lv_iconst (v := (-1)) hx hb dX11_again_22 (by decide) ?_
      cases h
      subst hAe
      exact W.iret hx hb hr (fun t ht _ => ⟨⟨_, (), rfl, rfl, by rw [ht]; exact hP, hD⟩, hS.F ht⟩) hS.2.2 dX11_again_23
    · have h := iF c2 h
      refine lv_iload_n hx hb dX11_again_13 rfl (lv_at hl 1 rfl) ?_
      refine lv_aload_n hx hb dX11_again_14 rfl (lv_at hl 0 rfl) ?_
      refine va_get (D := D) (ci := 4) (v := .ref (a 4)) (C := RX11) (T := TX11) (N := 11) hx hb hts hiX11 hown hK.1 hP 0 rfl rfl 7 (by decide) (hts (.fieldLink RX11 42 "WinnowedGuilt" "isKept" "[Z") (by decide +kernel)) (fun _ h9 => h9) rfl dX11_again_15 ?_
      refine va_alen (v := 2) hx hb hK.1 hP 3 2 rfl rfl rfl dX11_again_18 ?_
      refine lv_icmp_lt (tgt := 24) hx hb dX11_again_19 (by decide) (fun c3 => ?_) (fun c3 => ?_)
      · have h := iT c3 h
        refine lv_aload_n hx hb dX11_again_24 rfl (lv_at hl 0 rfl) ?_
        refine va_get (D := D) (ci := 4) (v := .ref (a 4)) (C := RX11) (T := TX11) (N := 11) hx hb hts hiX11 hown hK.1 hP 0 rfl rfl 7 (by decide) (hts (.fieldLink RX11 42 "WinnowedGuilt" "isKept" "[Z") (by decide +kernel)) (fun _ h9 => h9) rfl dX11_again_25 ?_
        refine lv_iload_n hx hb dX11_again_28 rfl (lv_at hl 1 rfl) ?_
        obtain ⟨hi4, h⟩ := gI_some h
        refine ldZ (v := (xIsKept (Int32.toNatClampNeg p1))) hx hb hK.1 hP 3 rfl rfl hi4 rfl dX11_again_29 ?_
        refine lv_if_ne (tgt := 36) hx hb dX11_again_30 (by decide) (fun c5 => ?_) (fun c5 => ?_)
        · have h := iF c5 h
          refine lv_aload_n hx hb dX11_again_36 rfl (lv_at hl 0 rfl) ?_
          refine lv_aload_n hx hb dX11_again_37 rfl (lv_at hl 0 rfl) ?_
          refine va_get (D := D) (ci := 4) (v := .ref (a 3)) (C := RX11) (T := TX11) (N := 11) hx hb hts hiX11 hown hK.1 hP 0 rfl rfl 6 (by decide) (hts (.fieldLink RX11 38 "WinnowedGuilt" "kept" "[J") (by decide +kernel)) (fun _ h9 => h9) rfl dX11_again_38 ?_
          refine lv_iload_n hx hb dX11_again_41 rfl (lv_at hl 1 rfl) ?_
          obtain ⟨hi6, h⟩ := gI_some h
          refine ldL (v := (xKept (Int32.toNatClampNeg p1))) hx hb hK.1 hP 2 rfl rfl hi6 rfl dX11_again_42 ?_
          refine va_put (D := D) (ci := 4) (v := .long (xKept (Int32.toNatClampNeg p1))) (ty := .long) (C := RX11) (T := TX11) (N := 11) hx hb hts hiX11 tyX11 tyX11_ok nmX11 hown hK.1 hP hD hS 0 rfl rfl 4 (by decide) (hts (.fieldLink RX11 27 "WinnowedGuilt" "now" "J") (by decide +kernel)) (fun _ h9 => h9) rfl (by decide +kernel) rfl rfl (Nat.le_of_ble_eq_true rfl) dX11_again_43 (fun H locs hP hD hS => ?_)
          have hP : va_P D vwCl (xW a g d cI cJ cZ (g 0) (d 0) xText xLetters (xKept (Int32.toNatClampNeg p1)) xKept xIsKept xChance xScenes xASize xSKinds xSLifts xSFlights xSSize xTally xOut fPk fWn fGw fGk fOw fSt fPe fHo fGr fPa fFt dPk dWn dGw dGk dOw dSt dPe dHo dGr dPa dFt) H := hP
          have hD : va_D A (xW a g d cI cJ cZ (g 0) (d 0) xText xLetters (xKept (Int32.toNatClampNeg p1)) xKept xIsKept xChance xScenes xASize xSKinds xSLifts xSFlights xSSize xTally xOut fPk fWn fGw fGk fOw fSt fPe fHo fGr fPa fFt dPk dWn dGw dGk dOw dSt dPe dHo dGr dPa dFt) := hD
          refine lv_aload_n hx hb dX11_again_46 rfl (lv_at hl 0 rfl) ?_
          refine va_get (D := D) (ci := 4) (v := .ref (a 2)) (C := RX11) (T := TX11) (N := 11) hx hb hts hiX11 hown hK.1 hP 0 rfl rfl 5 (by decide) (hts (.fieldLink RX11 34 "WinnowedGuilt" "acts" "LWinnowedGuilt$Acts;") (by decide +kernel)) (fun _ h9 => h9) rfl dX11_again_47 ?_
          obtain ⟨q7, hq7, h⟩ := bS h
          refine wcV (va_runV (As := []) (rest := []) ⟨hx, hb, hml, hown, hts⟩ (c_ac_forgetAll l D cI cJ cZ a g d xText xLetters (xKept (Int32.toNatClampNeg p1)) xKept xIsKept xChance xScenes xASize xSKinds xSLifts xSFlights xSSize xTally xOut fPk fWn fGw fGk fOw fSt fPe fHo fGr fPa fFt dPk dWn dGw dGk dOw dSt dPe dHo dGr dPa dFt H.size  q7 hq7) (cwV 0 hts gX11_again_X0_forgetAll rfl rfl rfl (by decide +kernel) ⟨Nat.le_of_ble_eq_true rfl, Nat.le_of_ble_eq_true rfl⟩) (wPreV hK hP hD (ci := 0) (q0 := 4) rfl rfl) rfl rfl hl.1 rfl (lv_room (Nat.le_of_ble_eq_true rfl)) dX11_again_50 ⟨Nat.zero_le _, Nat.zero_le _⟩) hD hS hA (fun H locs hP hD hS => ?_)
          have hP : va_P D vwCl (xW a g d cI cJ cZ (g 0) (d 0) xText xLetters (xKept (Int32.toNatClampNeg p1)) xKept xIsKept xChance xScenes q7 xSKinds xSLifts xSFlights xSSize xTally xOut fPk fWn fGw fGk fOw fSt fPe fHo fGr fPa fFt dPk dWn dGw dGk dOw dSt dPe dHo dGr dPa dFt) H := hP
          have hD : va_D A (xW a g d cI cJ cZ (g 0) (d 0) xText xLetters (xKept (Int32.toNatClampNeg p1)) xKept xIsKept xChance xScenes q7 xSKinds xSLifts xSFlights xSSize xTally xOut fPk fWn fGw fGk fOw fSt fPe fHo fGr fPa fFt dPk dWn dGw dGk dOw dSt dPe dHo dGr dPa dFt) := hD
          refine lv_aload_n hx hb dX11_again_53 rfl (lv_at hl 0 rfl) ?_
          refine va_get (D := D) (ci := 4) (v := .long (xKept (Int32.toNatClampNeg p1))) (C := RX11) (T := TX11) (N := 11) hx hb hts hiX11 hown hK.1 hP 0 rfl rfl 4 (by decide) (hts (.fieldLink RX11 27 "WinnowedGuilt" "now" "J") (by decide +kernel)) (fun _ h9 => h9) rfl dX11_again_54 ?_
          obtain ⟨q8, hq8, h⟩ := bS h
          refine rcI (va_runS (As := [.long (xKept (Int32.toNatClampNeg p1))]) (rest := []) ⟨hx, hb, hml, hown, hts⟩ (c_sc_clockOf l D cI cJ cZ   H (xKept (Int32.toNatClampNeg p1)) q8 hq8) (va_cwS 1 hts gX11_again_X7_clockOf rfl rfl rfl (by decide +kernel) ⟨Nat.le_of_ble_eq_true rfl, Nat.le_of_ble_eq_true rfl⟩) (rPreS hK) rfl rfl hl.1 rfl (lv_room (Nat.le_of_ble_eq_true rfl)) dX11_again_57 ⟨Nat.zero_le _, Nat.zero_le _⟩) ?_
          cases h
          subst hAe
          exact W.iret hx hb hr (fun t ht _ => ⟨⟨_, (), rfl, rfl, by rw [ht]; exact hP, hD⟩, hS.F ht⟩) hS.2.2 dX11_again_60
        · have h := iT c5 h
          refine lv_bipush (v := (-3)) hx hb dX11_again_33 (by decide) ?_
          cases h
          subst hAe
          exact W.iret hx hb hr (fun t ht _ => ⟨⟨_, (), rfl, rfl, by rw [ht]; exact hP, hD⟩, hS.F ht⟩) hS.2.2 dX11_again_35
      · have h := iF c3 h
        refine lv_iconst (v := (-1)) hx hb dX11_again_22 (by decide) ?_
        cases h
        subst hAe
        exact W.iret hx hb hr (fun t ht _ => ⟨⟨_, (), rfl, rfl, by rw [ht]; exact hP, hD⟩, hS.F ht⟩) hS.2.2 dX11_again_23

set_option maxHeartbeats 4000000 in
set_option maxRecDepth 100000 in
theorem c_fl_cleanBits (l : Launch) (D : va_G) (cI cJ cZ : ClassId) (g : Nat → Nat) (fPk : Nat → Int32) (fWn : Nat → Int32) (fGw : Nat → Int32) (fGk : Nat → Int32) (fOw : Nat → Int32) (fSt : Nat → Int32) (fPe : Int32) (fHo : Int32) (fGr : Int32) (fPa : Int32) (fFt : Int32)  (H0 : Heap) (hP : va_P D vwCl (fW g cI fPk fWn fGw fGk fOw fSt fPe fHo fGr fPa fFt) H0) (p1 : Int64) (rv : Int32) (h : fl_cleanBits fOw fPe fGr p1 = some rv) : Met l yX3_cleanBits wsX3_cleanBits ({ frames := 4, cells := 0, slots := 0, locals := 92 } : Room) (rPc D cI cJ cZ H0 [.ref (g 0), .long p1]) (vp_Si (fun r => r = rv)) 0 0 (fun _ => False) := by
  unfold fl_cleanBits at h
  refine Met.ofW (cc := cX3_cleanBits) (maxL := 5) (ret := (some .int)) (by decide) rfl ?_
  intro p e s m args below meth c s₁ B hml hv
  obtain ⟨rfl, hH, hK⟩ := hv
  have hx := B.exec
  have hb := B.bytes
  have hr := B.returns
  have hts := atoms_spec (ws := wsX3_cleanBits) B.pre
  have hown : s.vm.findClass RX3 = some m.cls := findClass_of_methodNamed B.named
  have hlocks := B.notSynchronized
  subst hH
  have hl := lv_entry ([.ref (g 0), .long p1]) (n := 5) (Nat.le_of_ble_eq_true rfl)
  rw [lg_entry_eq]
  generalize (lg_sl ([.ref (g 0), .long p1]) ++ List.replicate (5 - (lg_sl ([.ref (g 0), .long p1])).length) Slot.unset).toArray = ls at hl ⊢
  have hl : lv_has ls 5 [(0, .ref (g 0)), (1, .long p1)] := hl
  have hiX3 : ∀ w ∈ u_ws RX3 TX3 11, w ∈ wsX3_cleanBits := fun w hw => List.mem_cons_of_mem _ (List.mem_append_right _ hw)
  refine lv_iconst (v := 0) hx hb dX3_cleanBits_0 (by decide) ?_
  refine lv_istore_n (lv' := [(3, .int 0), (0, .ref (g 0)), (1, .long p1)]) hx hb dX3_cleanBits_1 rfl hl (by decide) rfl (fun ls hl => ?_)
  refine lv_iconst (v := 0) hx hb dX3_cleanBits_2 (by decide) ?_
  refine lv_istore (lv' := [(4, .int 0), (3, .int 0), (0, .ref (g 0)), (1, .long p1)]) hx hb dX3_cleanBits_3 hl (by decide) rfl (fun ls hl => ?_)
  have L5 : ∀ (n : Nat) (x4_5 : Int32) (x3_5 : Int32) (ls : Array Slot) (kx : Int32 → Int32 → Option (Int32)), fl_cleanBits_L5 fOw fPe fGr p1 kx n x4_5 x3_5 = some rv → lv_has ls 5 [(4, .int x4_5), (3, .int x3_5), (0, .ref (g 0)), (1, .long p1)] → (∀ (y4_5 : Int32) (y3_5 : Int32) (ls : Array Slot), kx y4_5 y3_5 = some rv → lv_has ls 5 [(4, .int y4_5), (3, .int y3_5), (0, .ref (g 0)), (1, .long p1)] → W p l e (headSpec wsX3_cleanBits ({ frames := 4, cells := 0, slots := 0, locals := 92 } : Room)).room s m ([.ref (g 0), .long p1] : List Value).toArray below meth c s.heap [] 0 0 (MQ below (vp_Si (fun r => r = rv)) ([.ref (g 0), .long p1] : List Value).toArray s 0 0 (fun _ => False)) (F0 m 37 ls [])) → W p l e (headSpec wsX3_cleanBits ({ frames := 4, cells := 0, slots := 0, locals := 92 } : Room)).room s m ([.ref (g 0), .long p1] : List Value).toArray below meth c s.heap [] 0 0 (MQ below (vp_Si (fun r => r = rv)) ([.ref (g 0), .long p1] : List Value).toArray s 0 0 (fun _ => False)) (F0 m 5 ls []) := by
    intro n
    induction n with
    | zero => intro _ _ _ _ h; rw [fl_cleanBits_L5.eq_1] at h; cases h
    | succ n ih =>
      intro x4_5 x3_5 ls kx h hl hk
      rw [fl_cleanBits_L5.eq_2] at h
      refine lv_iload hx hb dX3_cleanBits_5 (lv_at hl 0 rfl) ?_
      refine lv_aload_n hx hb dX3_cleanBits_7 rfl (lv_at hl 2 rfl) ?_
      refine va_get (D := D) (ci := 2) (v := .int fPe) (C := RX3) (T := TX3) (N := 11) hx hb hts hiX3 hown hK.1 hP 0 rfl rfl 6 (by decide) (hts (.fieldLink RX3 30 "WinnowedGuilt$Floor" "people" "I") (by decide +kernel)) (fun _ h9 => h9) rfl dX3_cleanBits_8 ?_
      refine lv_icmp_ge (tgt := 37) hx hb dX3_cleanBits_11 (by decide) (fun c1 => ?_) (fun c1 => ?_)
      · have h := iT c1 h
        exact hk _ _ _ h (lv_sub hl [0, 1, 2, 3] rfl)
      · have h := iF c1 h
        refine lv_aload_n hx hb dX3_cleanBits_14 rfl (lv_at hl 2 rfl) ?_
        refine lv_lload_n hx hb dX3_cleanBits_15 rfl (lv_at hl 3 rfl) ?_
        refine lv_iload hx hb dX3_cleanBits_16 (lv_at hl 0 rfl) ?_
        obtain ⟨q2, hq2, h⟩ := bS h
        refine rcI (va_runV (As := [.long p1, .int x4_5]) (rest := []) ⟨hx, hb, hml, hown, hts⟩ (c_fl_isClean l D cI cJ cZ g fPk fWn fGw fGk fOw fSt fPe fHo fGr fPa fFt s.heap hP p1 x4_5 q2 hq2) (cwV 2 hts gX3_cleanBits_X3_isClean rfl rfl rfl (by decide +kernel) ⟨Nat.le_of_ble_eq_true rfl, Nat.le_of_ble_eq_true rfl⟩) (rPreV hK hP (ci := 2) (q0 := 0) rfl rfl) rfl rfl hl.1 rfl (lv_room (Nat.le_of_ble_eq_true rfl)) dX3_cleanBits_18 ⟨Nat.zero_le _, Nat.zero_le _⟩) ?_
        refine lv_if_eq (tgt := 31) hx hb dX3_cleanBits_21 (by decide) (fun c3 => ?_) (fun c3 => ?_)
        · have h := iT c3 h
          refine lv_iinc (v := (x4_5 + 1)) (lv' := [(4, .int (x4_5 + 1)), (3, .int x3_5), (0, .ref (g 0)), (1, .long p1)]) hx hb dX3_cleanBits_31 hl (k := 0) rfl rfl (by decide) rfl (fun ls hl => ?_)
          refine lv_goto (tgt := 5) hx hb dX3_cleanBits_34 (by decide) ?_
          exact ih _ _ _ _ h (lv_sub hl [0, 1, 2, 3] rfl) hk
        · have h := iF c3 h
          refine lv_iload_n hx hb dX3_cleanBits_24 rfl (lv_at hl 1 rfl) ?_
          refine lv_iconst (v := 1) hx hb dX3_cleanBits_25 (by decide) ?_
          refine lv_iload hx hb dX3_cleanBits_26 (lv_at hl 0 rfl) ?_
          refine lv_ishl hx hb dX3_cleanBits_28 ?_
          refine lv_ior hx hb dX3_cleanBits_29 ?_
          refine lv_istore_n (lv' := [(3, .int (x3_5 ||| (1 <<< (x4_5 &&& 31)))), (4, .int x4_5), (0, .ref (g 0)), (1, .long p1)]) hx hb dX3_cleanBits_30 rfl hl (by decide) rfl (fun ls hl => ?_)
          refine lv_iinc (v := (x4_5 + 1)) (lv' := [(4, .int (x4_5 + 1)), (3, .int (x3_5 ||| (1 <<< (x4_5 &&& 31)))), (0, .ref (g 0)), (1, .long p1)]) hx hb dX3_cleanBits_31 hl (k := 1) rfl rfl (by decide) rfl (fun ls hl => ?_)
          refine lv_goto (tgt := 5) hx hb dX3_cleanBits_34 (by decide) ?_
          exact ih _ _ _ _ h (lv_sub hl [0, 1, 2, 3] rfl) hk
  refine L5 _ _ _ _ _ h hl (fun y4_5 y3_5 ls h hl => ?_)
  refine lv_iload_n hx hb dX3_cleanBits_37 rfl (lv_at hl 1 rfl) ?_
  exact W.iret hx hb hr (fun t ht _ => ⟨_, rfl, Option.some.inj h, ht⟩) (fun _ q => absurd q List.not_mem_nil) dX3_cleanBits_38

set_option maxHeartbeats 4000000 in
set_option maxRecDepth 100000 in
theorem c_xx_count (l : Launch) (D : va_G) (cI cJ cZ : ClassId) (a : Nat → Nat) (g : Nat → Nat) (d : Nat → Nat) (xText : Nat → Int32) (xLetters : Int32) (xNow : Int64) (xKept : Nat → Int64) (xIsKept : Nat → Int32) (xChance : Int64) (xScenes : Nat → Int64) (xASize : Int32) (xSKinds : Nat → Int32) (xSLifts : Nat → Int32) (xSFlights : Nat → Int32) (xSSize : Int32) (xTally : Nat → Int32) (xOut : Nat → Int64) (fPk : Nat → Int32) (fWn : Nat → Int32) (fGw : Nat → Int32) (fGk : Nat → Int32) (fOw : Nat → Int32) (fSt : Nat → Int32) (fPe : Int32) (fHo : Int32) (fGr : Int32) (fPa : Int32) (fFt : Int32) (dPk : Nat → Int32) (dWn : Nat → Int32) (dGw : Nat → Int32) (dGk : Nat → Int32) (dOw : Nat → Int32) (dSt : Nat → Int32) (dPe : Int32) (dHo : Int32) (dGr : Int32) (dPa : Int32) (dFt : Int32)  (H0 : Heap) (hP : va_P D vwCl (xW a g d cI cJ cZ (g 0) (d 0) xText xLetters xNow xKept xIsKept xChance xScenes xASize xSKinds xSLifts xSFlights xSSize xTally xOut fPk fWn fGw fGk fOw fSt fPe fHo fGr fPa fFt dPk dWn dGw dGk dOw dSt dPe dHo dGr dPa dFt) H0) (p1 : Int32) (rv : Int32) (h : xx_count xLetters xNow xASize xSSize fWn fOw fPe fHo fGr p1 = some rv) : Met l yX11_count wsX11_count ({ frames := 5, cells := 0, slots := 0, locals := 116 } : Room) (rPc D cI cJ cZ H0 [.ref (a 0), .int p1]) (vp_Si (fun r => r = rv)) 0 0 (fun _ => False) := by
  unfold xx_count at h
  refine Met.ofW (cc := cX11_count) (maxL := 2) (ret := (some .int)) (by decide) rfl ?_
  intro p e s m args below meth c s₁ B hml hv
  obtain ⟨rfl, hH, hK⟩ := hv
  have hx := B.exec
  have hb := B.bytes
  have hr := B.returns
  have hts := atoms_spec (ws := wsX11_count) B.pre
  have hown : s.vm.findClass RX11 = some m.cls := findClass_of_methodNamed B.named
  have hlocks := B.notSynchronized
  subst hH
  have hl := lv_entry ([.ref (a 0), .int p1]) (n := 2) (Nat.le_of_ble_eq_true rfl)
  rw [lg_entry_eq]
  generalize (lg_sl ([.ref (a 0), .int p1]) ++ List.replicate (2 - (lg_sl ([.ref (a 0), .int p1])).length) Slot.unset).toArray = ls at hl ⊢
  have hl : lv_has ls 2 [(0, .ref (a 0)), (1, .int p1)] := hl
  have hiX0 : ∀ w ∈ u_ws RX0 TX0 2, w ∈ wsX11_count := fun w hw => List.mem_cons_of_mem _ (List.mem_append_left _ (List.mem_append_right _ hw))
  have hiX11 : ∀ w ∈ u_ws RX11 TX11 11, w ∈ wsX11_count := fun w hw => List.mem_cons_of_mem _ (List.mem_append_left _ (List.mem_append_left _ (List.mem_append_left _ (List.mem_append_right _ hw))))
  have hiX3 : ∀ w ∈ u_ws RX3 TX3 11, w ∈ wsX11_count := fun w hw => List.mem_cons_of_mem _ (List.mem_append_left _ (List.mem_append_left _ (List.mem_append_right _ hw)))
  have hiX8 : ∀ w ∈ u_ws RX8 TX8 4, w ∈ wsX11_count := fun w hw => List.mem_cons_of_mem _ (List.mem_append_right _ hw)
  refine lv_iload_n hx hb dX11_count_0 rfl (lv_at hl 1 rfl) ?_
  by_cases w0_0 : p1 = 0
  · have h := iT w0_0 h
    refine lv_tableIn (tgt := 68) hx hb dX11_count_1 (by rw [w0_0]; decide) (by rw [w0_0]; decide) (by rw [w0_0]; rfl) (by decide) ?_
    refine lv_aload_n hx hb dX11_count_68 rfl (lv_at hl 0 rfl) ?_
    refine va_get (D := D) (ci := 4) (v := .int xLetters) (C := RX11) (T := TX11) (N := 11) hx hb hts hiX11 hown hK.1 hP 0 rfl rfl 1 (by decide) (hts (.fieldLink RX11 60 "WinnowedGuilt" "letters" "I") (by decide +kernel)) (fun _ h9 => h9) rfl dX11_count_69 ?_
    exact W.iret hx hb hr (fun t ht _ => ⟨_, rfl, Option.some.inj h, ht⟩) (fun _ q => absurd q List.not_mem_nil) dX11_count_72
  have h := iF w0_0 h
  by_cases w0_1 : p1 = 1
  · have h := iT w0_1 h
    refine lv_tableIn (tgt := 73) hx hb dX11_count_1 (by rw [w0_1]; decide) (by rw [w0_1]; decide) (by rw [w0_1]; rfl) (by decide) ?_
    refine lv_aload_n hx hb dX11_count_73 rfl (lv_at hl 0 rfl) ?_
    refine va_get (D := D) (ci := 4) (v := .ref (g 0)) (C := RX11) (T := TX11) (N := 11) hx hb hts hiX11 hown hK.1 hP 0 rfl rfl 2 (by decide) (hts (.fieldLink RX11 16 "WinnowedGuilt" "ground" "LWinnowedGuilt$Floor;") (by decide +kernel)) (fun _ h9 => h9) rfl dX11_count_74 ?_
    refine va_getN (D := D) (ci := 2) (v := .int fPe) (C := RX3) (T := TX3) (N := 11) hx hb hts hiX3 hown hK.1 hP 13 rfl rfl 6 (by decide) (va_Nw.use rfl (kN_2 hK.2)) (fun _ h9 => h9) rfl dX11_count_77 ?_
    exact W.iret hx hb hr (fun t ht _ => ⟨_, rfl, Option.some.inj h, ht⟩) (fun _ q => absurd q List.not_mem_nil) dX11_count_80
  have h := iF w0_1 h
  by_cases w0_2 : p1 = 2
  · have h := iT w0_2 h
    refine lv_tableIn (tgt := 81) hx hb dX11_count_1 (by rw [w0_2]; decide) (by rw [w0_2]; decide) (by rw [w0_2]; rfl) (by decide) ?_
    refine lv_aload_n hx hb dX11_count_81 rfl (lv_at hl 0 rfl) ?_
    refine va_get (D := D) (ci := 4) (v := .ref (g 0)) (C := RX11) (T := TX11) (N := 11) hx hb hts hiX11 hown hK.1 hP 0 rfl rfl 2 (by decide) (hts (.fieldLink RX11 16 "WinnowedGuilt" "ground" "LWinnowedGuilt$Floor;") (by decide +kernel)) (fun _ h9 => h9) rfl dX11_count_82 ?_
    refine va_getN (D := D) (ci := 2) (v := .int fHo) (C := RX3) (T := TX3) (N := 11) hx hb hts hiX3 hown hK.1 hP 13 rfl rfl 7 (by decide) (va_Nw.use rfl (kN_3 hK.2)) (fun _ h9 => h9) rfl dX11_count_85 ?_
    exact W.iret hx hb hr (fun t ht _ => ⟨_, rfl, Option.some.inj h, ht⟩) (fun _ q => absurd q List.not_mem_nil) dX11_count_88
  have h := iF w0_2 h
  by_cases w0_3 : p1 = 3
  · have h := iT w0_3 h
    refine lv_tableIn (tgt := 89) hx hb dX11_count_1 (by rw [w0_3]; decide) (by rw [w0_3]; decide) (by rw [w0_3]; rfl) (by decide) ?_
    refine lv_aload_n hx hb dX11_count_89 rfl (lv_at hl 0 rfl) ?_
    refine va_get (D := D) (ci := 4) (v := .ref (g 0)) (C := RX11) (T := TX11) (N := 11) hx hb hts hiX11 hown hK.1 hP 0 rfl rfl 2 (by decide) (hts (.fieldLink RX11 16 "WinnowedGuilt" "ground" "LWinnowedGuilt$Floor;") (by decide +kernel)) (fun _ h9 => h9) rfl dX11_count_90 ?_
    refine va_getN (D := D) (ci := 2) (v := .int fGr) (C := RX3) (T := TX3) (N := 11) hx hb hts hiX3 hown hK.1 hP 13 rfl rfl 8 (by decide) (va_Nw.use rfl (kN_4 hK.2)) (fun _ h9 => h9) rfl dX11_count_93 ?_
    exact W.iret hx hb hr (fun t ht _ => ⟨_, rfl, Option.some.inj h, ht⟩) (fun _ q => absurd q List.not_mem_nil) dX11_count_96
  have h := iF w0_3 h
  by_cases w0_4 : p1 = 4
  · have h := iT w0_4 h
    refine lv_tableIn (tgt := 97) hx hb dX11_count_1 (by rw [w0_4]; decide) (by rw [w0_4]; decide) (by rw [w0_4]; rfl) (by decide) ?_
    refine lv_aload_n hx hb dX11_count_97 rfl (lv_at hl 0 rfl) ?_
    refine va_get (D := D) (ci := 4) (v := .long xNow) (C := RX11) (T := TX11) (N := 11) hx hb hts hiX11 hown hK.1 hP 0 rfl rfl 4 (by decide) (hts (.fieldLink RX11 27 "WinnowedGuilt" "now" "J") (by decide +kernel)) (fun _ h9 => h9) rfl dX11_count_98 ?_
    obtain ⟨q2, hq2, h⟩ := bS h
    refine rcI (va_runS (As := [.long xNow]) (rest := []) ⟨hx, hb, hml, hown, hts⟩ (c_sc_clockOf l D cI cJ cZ   s.heap xNow q2 hq2) (va_cwS 1 hts gX11_count_X7_clockOf rfl rfl rfl (by decide +kernel) ⟨Nat.le_of_ble_eq_true rfl, Nat.le_of_ble_eq_true rfl⟩) (rPreS hK) rfl rfl hl.1 rfl (lv_room (Nat.le_of_ble_eq_true rfl)) dX11_count_101 ⟨Nat.zero_le _, Nat.zero_le _⟩) ?_
    exact W.iret hx hb hr (fun t ht _ => ⟨_, rfl, Option.some.inj h, ht⟩) (fun _ q => absurd q List.not_mem_nil) dX11_count_104
  have h := iF w0_4 h
  by_cases w0_5 : p1 = 5
  · have h := iT w0_5 h
    refine lv_tableIn (tgt := 105) hx hb dX11_count_1 (by rw [w0_5]; decide) (by rw [w0_5]; decide) (by rw [w0_5]; rfl) (by decide) ?_
    refine lv_aload_n hx hb dX11_count_105 rfl (lv_at hl 0 rfl) ?_
    refine va_get (D := D) (ci := 4) (v := .ref (g 0)) (C := RX11) (T := TX11) (N := 11) hx hb hts hiX11 hown hK.1 hP 0 rfl rfl 2 (by decide) (hts (.fieldLink RX11 16 "WinnowedGuilt" "ground" "LWinnowedGuilt$Floor;") (by decide +kernel)) (fun _ h9 => h9) rfl dX11_count_106 ?_
    refine lv_aload_n hx hb dX11_count_109 rfl (lv_at hl 0 rfl) ?_
    refine va_get (D := D) (ci := 4) (v := .long xNow) (C := RX11) (T := TX11) (N := 11) hx hb hts hiX11 hown hK.1 hP 0 rfl rfl 4 (by decide) (hts (.fieldLink RX11 27 "WinnowedGuilt" "now" "J") (by decide +kernel)) (fun _ h9 => h9) rfl dX11_count_110 ?_
    have hG := hP.sub (ws' := (fW g cI fPk fWn fGw fGk fOw fSt fPe fHo fGr fPa fFt)) [13, 14, 15, 16, 17, 18, 19] rfl
    obtain ⟨q2, hq2, h⟩ := bS h
    refine rcI (va_runV (As := [.long xNow]) (rest := []) ⟨hx, hb, hml, hown, hts⟩ (c_fl_windAt l D cI cJ cZ g fPk fWn fGw fGk fOw fSt fPe fHo fGr fPa fFt s.heap hG xNow q2 hq2) (cwV 1 hts gX11_count_X3_windAt rfl rfl rfl (by decide +kernel) ⟨Nat.le_of_ble_eq_true rfl, Nat.le_of_ble_eq_true rfl⟩) (rPreV hK hG (ci := 2) (q0 := 0) rfl rfl) rfl rfl hl.1 rfl (lv_room (Nat.le_of_ble_eq_true rfl)) dX11_count_113 ⟨Nat.zero_le _, Nat.zero_le _⟩) ?_
    exact W.iret hx hb hr (fun t ht _ => ⟨_, rfl, Option.some.inj h, ht⟩) (fun _ q => absurd q List.not_mem_nil) dX11_count_116
  have h := iF w0_5 h
  by_cases w0_6 : p1 = 6
  · have h := iT w0_6 h
    refine lv_tableIn (tgt := 117) hx hb dX11_count_1 (by rw [w0_6]; decide) (by rw [w0_6]; decide) (by rw [w0_6]; rfl) (by decide) ?_
    refine lv_aload_n hx hb dX11_count_117 rfl (lv_at hl 0 rfl) ?_
    refine va_get (D := D) (ci := 4) (v := .long xNow) (C := RX11) (T := TX11) (N := 11) hx hb hts hiX11 hown hK.1 hP 0 rfl rfl 4 (by decide) (hts (.fieldLink RX11 27 "WinnowedGuilt" "now" "J") (by decide +kernel)) (fun _ h9 => h9) rfl dX11_count_118 ?_
    obtain ⟨q2, hq2, h⟩ := bS h
    refine rcI (va_runS (As := [.long xNow]) (rest := []) ⟨hx, hb, hml, hown, hts⟩ (c_sc_holderOf l D cI cJ cZ   s.heap xNow q2 hq2) (va_cwS 1 hts gX11_count_X7_holderOf rfl rfl rfl (by decide +kernel) ⟨Nat.le_of_ble_eq_true rfl, Nat.le_of_ble_eq_true rfl⟩) (rPreS hK) rfl rfl hl.1 rfl (lv_room (Nat.le_of_ble_eq_true rfl)) dX11_count_121 ⟨Nat.zero_le _, Nat.zero_le _⟩) ?_
    exact W.iret hx hb hr (fun t ht _ => ⟨_, rfl, Option.some.inj h, ht⟩) (fun _ q => absurd q List.not_mem_nil) dX11_count_124
  have h := iF w0_6 h
  by_cases w0_7 : p1 = 7
  · have h := iT w0_7 h
    refine lv_tableIn (tgt := 125) hx hb dX11_count_1 (by rw [w0_7]; decide) (by rw [w0_7]; decide) (by rw [w0_7]; rfl) (by decide) ?_
    refine lv_aload_n hx hb dX11_count_125 rfl (lv_at hl 0 rfl) ?_
    refine va_get (D := D) (ci := 4) (v := .ref (g 0)) (C := RX11) (T := TX11) (N := 11) hx hb hts hiX11 hown hK.1 hP 0 rfl rfl 2 (by decide) (hts (.fieldLink RX11 16 "WinnowedGuilt" "ground" "LWinnowedGuilt$Floor;") (by decide +kernel)) (fun _ h9 => h9) rfl dX11_count_126 ?_
    refine lv_aload_n hx hb dX11_count_129 rfl (lv_at hl 0 rfl) ?_
    refine va_get (D := D) (ci := 4) (v := .long xNow) (C := RX11) (T := TX11) (N := 11) hx hb hts hiX11 hown hK.1 hP 0 rfl rfl 4 (by decide) (hts (.fieldLink RX11 27 "WinnowedGuilt" "now" "J") (by decide +kernel)) (fun _ h9 => h9) rfl dX11_count_130 ?_
    have hG := hP.sub (ws' := (fW g cI fPk fWn fGw fGk fOw fSt fPe fHo fGr fPa fFt)) [13, 14, 15, 16, 17, 18, 19] rfl
    obtain ⟨q2, hq2, h⟩ := bS h
    refine rcI (va_runV (As := [.long xNow]) (rest := []) ⟨hx, hb, hml, hown, hts⟩ (c_fl_rightBits l D cI cJ cZ g fPk fWn fGw fGk fOw fSt fPe fHo fGr fPa fFt s.heap hG xNow q2 hq2) (cwV 1 hts gX11_count_X3_rightBits rfl rfl rfl (by decide +kernel) ⟨Nat.le_of_ble_eq_true rfl, Nat.le_of_ble_eq_true rfl⟩) (rPreV hK hG (ci := 2) (q0 := 0) rfl rfl) rfl rfl hl.1 rfl (lv_room (Nat.le_of_ble_eq_true rfl)) dX11_count_133 ⟨Nat.zero_le _, Nat.zero_le _⟩) ?_
    exact W.iret hx hb hr (fun t ht _ => ⟨_, rfl, Option.some.inj h, ht⟩) (fun _ q => absurd q List.not_mem_nil) dX11_count_136
  have h := iF w0_7 h
  by_cases w0_8 : p1 = 8
  · have h := iT w0_8 h
    refine lv_tableIn (tgt := 137) hx hb dX11_count_1 (by rw [w0_8]; decide) (by rw [w0_8]; decide) (by rw [w0_8]; rfl) (by decide) ?_
    refine lv_aload_n hx hb dX11_count_137 rfl (lv_at hl 0 rfl) ?_
    refine va_get (D := D) (ci := 4) (v := .ref (g 0)) (C := RX11) (T := TX11) (N := 11) hx hb hts hiX11 hown hK.1 hP 0 rfl rfl 2 (by decide) (hts (.fieldLink RX11 16 "WinnowedGuilt" "ground" "LWinnowedGuilt$Floor;") (by decide +kernel)) (fun _ h9 => h9) rfl dX11_count_138 ?_
    refine lv_aload_n hx hb dX11_count_141 rfl (lv_at hl 0 rfl) ?_
    refine va_get (D := D) (ci := 4) (v := .long xNow) (C := RX11) (T := TX11) (N := 11) hx hb hts hiX11 hown hK.1 hP 0 rfl rfl 4 (by decide) (hts (.fieldLink RX11 27 "WinnowedGuilt" "now" "J") (by decide +kernel)) (fun _ h9 => h9) rfl dX11_count_142 ?_
    refine lv_bipush (v := 8) hx hb dX11_count_145 (by decide) ?_
    have hG := hP.sub (ws' := (fW g cI fPk fWn fGw fGk fOw fSt fPe fHo fGr fPa fFt)) [13, 14, 15, 16, 17, 18, 19] rfl
    obtain ⟨q2, hq2, h⟩ := bS h
    refine rcI (va_runV (As := [.long xNow, .int 8]) (rest := []) ⟨hx, hb, hml, hown, hts⟩ (c_fl_lyingBits l D cI cJ cZ g fPk fWn fGw fGk fOw fSt fPe fHo fGr fPa fFt s.heap hG xNow 8 q2 hq2) (cwV 2 hts gX11_count_X3_lyingBits rfl rfl rfl (by decide +kernel) ⟨Nat.le_of_ble_eq_true rfl, Nat.le_of_ble_eq_true rfl⟩) (rPreV hK hG (ci := 2) (q0 := 0) rfl rfl) rfl rfl hl.1 rfl (lv_room (Nat.le_of_ble_eq_true rfl)) dX11_count_147 ⟨Nat.zero_le _, Nat.zero_le _⟩) ?_
    exact W.iret hx hb hr (fun t ht _ => ⟨_, rfl, Option.some.inj h, ht⟩) (fun _ q => absurd q List.not_mem_nil) dX11_count_150
  have h := iF w0_8 h
  by_cases w0_9 : p1 = 9
  · have h := iT w0_9 h
    refine lv_tableIn (tgt := 151) hx hb dX11_count_1 (by rw [w0_9]; decide) (by rw [w0_9]; decide) (by rw [w0_9]; rfl) (by decide) ?_
    refine lv_aload_n hx hb dX11_count_151 rfl (lv_at hl 0 rfl) ?_
    refine va_get (D := D) (ci := 4) (v := .ref (g 0)) (C := RX11) (T := TX11) (N := 11) hx hb hts hiX11 hown hK.1 hP 0 rfl rfl 2 (by decide) (hts (.fieldLink RX11 16 "WinnowedGuilt" "ground" "LWinnowedGuilt$Floor;") (by decide +kernel)) (fun _ h9 => h9) rfl dX11_count_152 ?_
    refine lv_aload_n hx hb dX11_count_155 rfl (lv_at hl 0 rfl) ?_
    refine va_get (D := D) (ci := 4) (v := .long xNow) (C := RX11) (T := TX11) (N := 11) hx hb hts hiX11 hown hK.1 hP 0 rfl rfl 4 (by decide) (hts (.fieldLink RX11 27 "WinnowedGuilt" "now" "J") (by decide +kernel)) (fun _ h9 => h9) rfl dX11_count_156 ?_
    refine lv_bipush (v := 9) hx hb dX11_count_159 (by decide) ?_
    have hG := hP.sub (ws' := (fW g cI fPk fWn fGw fGk fOw fSt fPe fHo fGr fPa fFt)) [13, 14, 15, 16, 17, 18, 19] rfl
    obtain ⟨q2, hq2, h⟩ := bS h
    refine rcI (va_runV (As := [.long xNow, .int 9]) (rest := []) ⟨hx, hb, hml, hown, hts⟩ (c_fl_lyingBits l D cI cJ cZ g fPk fWn fGw fGk fOw fSt fPe fHo fGr fPa fFt s.heap hG xNow 9 q2 hq2) (cwV 2 hts gX11_count_X3_lyingBits rfl rfl rfl (by decide +kernel) ⟨Nat.le_of_ble_eq_true rfl, Nat.le_of_ble_eq_true rfl⟩) (rPreV hK hG (ci := 2) (q0 := 0) rfl rfl) rfl rfl hl.1 rfl (lv_room (Nat.le_of_ble_eq_true rfl)) dX11_count_161 ⟨Nat.zero_le _, Nat.zero_le _⟩) ?_
    exact W.iret hx hb hr (fun t ht _ => ⟨_, rfl, Option.some.inj h, ht⟩) (fun _ q => absurd q List.not_mem_nil) dX11_count_164
  have h := iF w0_9 h
  by_cases w0_10 : p1 = 10
  · have h := iT w0_10 h
    refine lv_tableIn (tgt := 165) hx hb dX11_count_1 (by rw [w0_10]; decide) (by rw [w0_10]; decide) (by rw [w0_10]; rfl) (by decide) ?_
    refine lv_aload_n hx hb dX11_count_165 rfl (lv_at hl 0 rfl) ?_
    refine va_get (D := D) (ci := 4) (v := .ref (g 0)) (C := RX11) (T := TX11) (N := 11) hx hb hts hiX11 hown hK.1 hP 0 rfl rfl 2 (by decide) (hts (.fieldLink RX11 16 "WinnowedGuilt" "ground" "LWinnowedGuilt$Floor;") (by decide +kernel)) (fun _ h9 => h9) rfl dX11_count_166 ?_
    refine lv_aload_n hx hb dX11_count_169 rfl (lv_at hl 0 rfl) ?_
    refine va_get (D := D) (ci := 4) (v := .long xNow) (C := RX11) (T := TX11) (N := 11) hx hb hts hiX11 hown hK.1 hP 0 rfl rfl 4 (by decide) (hts (.fieldLink RX11 27 "WinnowedGuilt" "now" "J") (by decide +kernel)) (fun _ h9 => h9) rfl dX11_count_170 ?_
    have hG := hP.sub (ws' := (fW g cI fPk fWn fGw fGk fOw fSt fPe fHo fGr fPa fFt)) [13, 14, 15, 16, 17, 18, 19] rfl
    obtain ⟨q2, hq2, h⟩ := bS h
    refine rcI (va_runV (As := [.long xNow]) (rest := []) ⟨hx, hb, hml, hown, hts⟩ (c_fl_cleanBits l D cI cJ cZ g fPk fWn fGw fGk fOw fSt fPe fHo fGr fPa fFt s.heap hG xNow q2 hq2) (cwV 1 hts gX11_count_X3_cleanBits rfl rfl rfl (by decide +kernel) ⟨Nat.le_of_ble_eq_true rfl, Nat.le_of_ble_eq_true rfl⟩) (rPreV hK hG (ci := 2) (q0 := 0) rfl rfl) rfl rfl hl.1 rfl (lv_room (Nat.le_of_ble_eq_true rfl)) dX11_count_173 ⟨Nat.zero_le _, Nat.zero_le _⟩) ?_
    exact W.iret hx hb hr (fun t ht _ => ⟨_, rfl, Option.some.inj h, ht⟩) (fun _ q => absurd q List.not_mem_nil) dX11_count_176
  have h := iF w0_10 h
  by_cases w0_11 : p1 = 11
  · have h := iT w0_11 h
    refine lv_tableIn (tgt := 177) hx hb dX11_count_1 (by rw [w0_11]; decide) (by rw [w0_11]; decide) (by rw [w0_11]; rfl) (by decide) ?_
    refine lv_aload_n hx hb dX11_count_177 rfl (lv_at hl 0 rfl) ?_
    refine va_get (D := D) (ci := 4) (v := .ref (a 2)) (C := RX11) (T := TX11) (N := 11) hx hb hts hiX11 hown hK.1 hP 0 rfl rfl 5 (by decide) (hts (.fieldLink RX11 34 "WinnowedGuilt" "acts" "LWinnowedGuilt$Acts;") (by decide +kernel)) (fun _ h9 => h9) rfl dX11_count_178 ?_
    refine va_getN (D := D) (ci := 0) (v := .int xASize) (C := RX0) (T := TX0) (N := 2) hx hb hts hiX0 hown hK.1 hP 4 rfl rfl 1 (by decide) (va_Nw.use rfl (kN_5 hK.2)) (fun _ h9 => h9) rfl dX11_count_181 ?_
    exact W.iret hx hb hr (fun t ht _ => ⟨_, rfl, Option.some.inj h, ht⟩) (fun _ q => absurd q List.not_mem_nil) dX11_count_184
  have h := iF w0_11 h
  by_cases w0_12 : p1 = 12
  · have h := iT w0_12 h
    refine lv_tableIn (tgt := 185) hx hb dX11_count_1 (by rw [w0_12]; decide) (by rw [w0_12]; decide) (by rw [w0_12]; rfl) (by decide) ?_
    refine lv_aload_n hx hb dX11_count_185 rfl (lv_at hl 0 rfl) ?_
    refine va_get (D := D) (ci := 4) (v := .ref (a 5)) (C := RX11) (T := TX11) (N := 11) hx hb hts hiX11 hown hK.1 hP 0 rfl rfl 8 (by decide) (hts (.fieldLink RX11 49 "WinnowedGuilt" "seen" "LWinnowedGuilt$Seen;") (by decide +kernel)) (fun _ h9 => h9) rfl dX11_count_186 ?_
    refine va_getN (D := D) (ci := 3) (v := .int xSSize) (C := RX8) (T := TX8) (N := 4) hx hb hts hiX8 hown hK.1 hP 6 rfl rfl 3 (by decide) (va_Nw.use rfl (kN_6 hK.2)) (fun _ h9 => h9) rfl dX11_count_189 ?_
    exact W.iret hx hb hr (fun t ht _ => ⟨_, rfl, Option.some.inj h, ht⟩) (fun _ q => absurd q List.not_mem_nil) dX11_count_192
  have h := iF w0_12 h
  refine lv_tableOut (tgt := 193) hx hb dX11_count_1 (by have := lv_neT (a := 0) w0_0 (by decide); have := lv_neT (a := 1) w0_1 (by decide); have := lv_neT (a := 2) w0_2 (by decide); have := lv_neT (a := 3) w0_3 (by decide); have := lv_neT (a := 4) w0_4 (by decide); have := lv_neT (a := 5) w0_5 (by decide); have := lv_neT (a := 6) w0_6 (by decide); have := lv_neT (a := 7) w0_7 (by decide); have := lv_neT (a := 8) w0_8 (by decide); have := lv_neT (a := 9) w0_9 (by decide); have := lv_neT (a := 10) w0_10 (by decide); have := lv_neT (a := 11) w0_11 (by decide); have := lv_neT (a := 12) w0_12 (by decide); omega) (by decide) ?_
  refine lv_bipush (v := (-2)) hx hb dX11_count_193 (by decide) ?_
  exact W.iret hx hb hr (fun t ht _ => ⟨_, rfl, Option.some.inj h, ht⟩) (fun _ q => absurd q List.not_mem_nil) dX11_count_195

set_option maxHeartbeats 4000000 in
set_option maxRecDepth 100000 in
theorem c_mm_in (l : Launch) (D : va_G) (cI cJ cZ : ClassId)  (H0 : Heap) (p0 : Int64) (p2 : Int64) (p4 : Int64) (rv : Int32) (h : mm_in p0 p2 p4 = some rv) : Met l yX12_in wsX12_in ({ frames := 0, cells := 0, slots := 0, locals := 0 } : Room) (rPc D cI cJ cZ H0 [.long p0, .long p2, .long p4]) (vp_Si (fun r => r = rv)) 0 0 (fun _ => False) := by
  unfold mm_in at h
  refine Met.ofW (cc := cX12_in) (maxL := 6) (ret := (some .boolean)) (by decide) rfl ?_
  intro p e s m args below meth c s₁ B hml hv
  obtain ⟨rfl, hH, hK⟩ := hv
  have hx := B.exec
  have hb := B.bytes
  have hr := B.returns
  have hts := atoms_spec (ws := wsX12_in) B.pre
  have hown : s.vm.findClass RX12 = some m.cls := findClass_of_methodNamed B.named
  have hlocks := B.notSynchronized
  subst hH
  have hl := lv_entry ([.long p0, .long p2, .long p4]) (n := 6) (Nat.le_of_ble_eq_true rfl)
  rw [lg_entry_eq]
  generalize (lg_sl ([.long p0, .long p2, .long p4]) ++ List.replicate (6 - (lg_sl ([.long p0, .long p2, .long p4])).length) Slot.unset).toArray = ls at hl ⊢
  have hl : lv_has ls 6 [(0, .long p0), (2, .long p2), (4, .long p4)] := hl
  refine lv_lload_n hx hb dX12_in_0 rfl (lv_at hl 0 rfl) ?_
  refine lv_lload_n hx hb dX12_in_1 rfl (lv_at hl 1 rfl) ?_
  refine W.lcmp hx hb dX12_in_2 ?_
  refine lv_if_lt (tgt := 17) hx hb dX12_in_3 (by decide) (fun c1 => ?_) (fun c1 => ?_)
  · have h := iT c1 h
    refine lv_iconst (v := 0) hx hb dX12_in_17 (by decide) ?_
    exact W.zret hx hb hr (by decide) (fun t ht _ => ⟨_, rfl, Option.some.inj h, ht⟩) (fun _ q => absurd q List.not_mem_nil) dX12_in_18
  · have h := iF c1 h
    refine lv_lload_n hx hb dX12_in_6 rfl (lv_at hl 0 rfl) ?_
    refine lv_lload hx hb dX12_in_7 (lv_at hl 2 rfl) ?_
    refine W.lcmp hx hb dX12_in_9 ?_
    refine lv_if_gt (tgt := 17) hx hb dX12_in_10 (by decide) (fun c2 => ?_) (fun c2 => ?_)
    · have h := iT c2 h
      refine lv_iconst (v := 0) hx hb dX12_in_17 (by decide) ?_
      exact W.zret hx hb hr (by decide) (fun t ht _ => ⟨_, rfl, Option.some.inj h, ht⟩) (fun _ q => absurd q List.not_mem_nil) dX12_in_18
    · have h := iF c2 h
      refine lv_iconst (v := 1) hx hb dX12_in_13 (by decide) ?_
      refine lv_goto (tgt := 18) hx hb dX12_in_14 (by decide) ?_
      exact W.zret hx hb hr (by decide) (fun t ht _ => ⟨_, rfl, Option.some.inj h, ht⟩) (fun _ q => absurd q List.not_mem_nil) dX12_in_18

set_option maxHeartbeats 4000000 in
set_option maxRecDepth 100000 in
theorem c_mm_has (l : Launch) (D : va_G) (cI cJ cZ : ClassId)  (H0 : Heap) (p0 : Int32) (p1 : Int32) (rv : Int32) (h : mm_has p0 p1 = some rv) : Met l yX12_has wsX12_has ({ frames := 0, cells := 0, slots := 0, locals := 0 } : Room) (rPc D cI cJ cZ H0 [.int p0, .int p1]) (vp_Si (fun r => r = rv)) 0 0 (fun _ => False) := by
  unfold mm_has at h
  refine Met.ofW (cc := cX12_has) (maxL := 2) (ret := (some .boolean)) (by decide) rfl ?_
  intro p e s m args below meth c s₁ B hml hv
  obtain ⟨rfl, hH, hK⟩ := hv
  have hx := B.exec
  have hb := B.bytes
  have hr := B.returns
  have hts := atoms_spec (ws := wsX12_has) B.pre
  have hown : s.vm.findClass RX12 = some m.cls := findClass_of_methodNamed B.named
  have hlocks := B.notSynchronized
  subst hH
  have hl := lv_entry ([.int p0, .int p1]) (n := 2) (Nat.le_of_ble_eq_true rfl)
  rw [lg_entry_eq]
  generalize (lg_sl ([.int p0, .int p1]) ++ List.replicate (2 - (lg_sl ([.int p0, .int p1])).length) Slot.unset).toArray = ls at hl ⊢
  have hl : lv_has ls 2 [(0, .int p0), (1, .int p1)] := hl
  refine lv_iload_n hx hb dX12_has_0 rfl (lv_at hl 0 rfl) ?_
  refine lv_iload_n hx hb dX12_has_1 rfl (lv_at hl 1 rfl) ?_
  refine lv_ishr hx hb dX12_has_2 ?_
  refine lv_iconst (v := 1) hx hb dX12_has_3 (by decide) ?_
  refine lv_iand hx hb dX12_has_4 ?_
  refine lv_iconst (v := 1) hx hb dX12_has_5 (by decide) ?_
  refine lv_icmp_ne (tgt := 13) hx hb dX12_has_6 (by decide) (fun c1 => ?_) (fun c1 => ?_)
  · have h := iF c1 h
    refine lv_iconst (v := 0) hx hb dX12_has_13 (by decide) ?_
    exact W.zret hx hb hr (by decide) (fun t ht _ => ⟨_, rfl, Option.some.inj h, ht⟩) (fun _ q => absurd q List.not_mem_nil) dX12_has_14
  · have h := iT c1 h
    refine lv_iconst (v := 1) hx hb dX12_has_9 (by decide) ?_
    refine lv_goto (tgt := 14) hx hb dX12_has_10 (by decide) ?_
    exact W.zret hx hb hr (by decide) (fun t ht _ => ⟨_, rfl, Option.some.inj h, ht⟩) (fun _ q => absurd q List.not_mem_nil) dX12_has_14
