set_option maxHeartbeats 4000000 in
set_option maxRecDepth 100000 in
theorem c_fl_takes (l : Launch) (D : va_G) (cI cJ cZ : ClassId) (a : Nat → Nat) (g : Nat → Nat) (d : Nat → Nat) (xText : Nat → Int32) (xLetters : Int32) (xNow : Int64) (xKept : Nat → Int64) (xIsKept : Nat → Int32) (xChance : Int64) (xScenes : Nat → Int64) (xASize : Int32) (xSKinds : Nat → Int32) (xSLifts : Nat → Int32) (xSFlights : Nat → Int32) (xSSize : Int32) (xTally : Nat → Int32) (xOut : Nat → Int64) (fPk : Nat → Int32) (fWn : Nat → Int32) (fGw : Nat → Int32) (fGk : Nat → Int32) (fOw : Nat → Int32) (fSt : Nat → Int32) (fPe : Int32) (fHo : Int32) (fGr : Int32) (fPa : Int32) (fFt : Int32) (dPk : Nat → Int32) (dWn : Nat → Int32) (dGw : Nat → Int32) (dGk : Nat → Int32) (dOw : Nat → Int32) (dSt : Nat → Int32) (dPe : Int32) (dHo : Int32) (dGr : Int32) (dPa : Int32) (dFt : Int32)  (sz : Nat) (p1 : Int32) (rv : Int32) (dPk_r : Nat → Int32) (dWn_r : Nat → Int32) (dGw_r : Nat → Int32) (dGk_r : Nat → Int32) (dOw_r : Nat → Int32) (dSt_r : Nat → Int32) (dPe_r : Int32) (dHo_r : Int32) (dGr_r : Int32) (dPa_r : Int32) (dFt_r : Int32) (h : fl_takes dPk dWn dGw dGk dOw dSt dPe dHo dGr dPa dFt p1 = some (rv, dPk_r, dWn_r, dGw_r, dGk_r, dOw_r, dSt_r, dPe_r, dHo_r, dGr_r, dPa_r, dFt_r)) : Met l yX3_takes wsX3_takes ({ frames := 2, cells := 0, slots := 0, locals := 43 } : Room) (wPc D cI cJ cZ (xW a g d cI cJ cZ (g 0) (d 0) xText xLetters xNow xKept xIsKept xChance xScenes xASize xSKinds xSLifts xSFlights xSSize xTally xOut fPk fWn fGw fGk fOw fSt fPe fHo fGr fPa fFt dPk dWn dGw dGk dOw dSt dPe dHo dGr dPa dFt) sz [.ref (d 0), .int p1]) (wQi D (xW a g d cI cJ cZ (g 0) (d 0) xText xLetters xNow xKept xIsKept xChance xScenes xASize xSKinds xSLifts xSFlights xSSize xTally xOut fPk fWn fGw fGk fOw fSt fPe fHo fGr fPa fFt dPk dWn dGw dGk dOw dSt dPe dHo dGr dPa dFt) (xW a g d cI cJ cZ (g 0) (d 0) xText xLetters xNow xKept xIsKept xChance xScenes xASize xSKinds xSLifts xSFlights xSSize xTally xOut fPk fWn fGw fGk fOw fSt fPe fHo fGr fPa fFt dPk_r dWn_r dGw_r dGk_r dOw_r dSt_r dPe_r dHo_r dGr_r dPa_r dFt_r) sz rv) 0 0 (va_A (xW a g d cI cJ cZ (g 0) (d 0) xText xLetters xNow xKept xIsKept xChance xScenes xASize xSKinds xSLifts xSFlights xSSize xTally xOut fPk fWn fGw fGk fOw fSt fPe fHo fGr fPa fFt dPk dWn dGw dGk dOw dSt dPe dHo dGr dPa dFt) sz) := by
  unfold fl_takes at h
  refine Met.ofW (cc := cX3_takes) (maxL := 3) (ret := (some .boolean)) (by decide) rfl ?_
  intro p e s m args below meth c s₁ B hml hv
  obtain ⟨rfl, hsz, hP, hK, hD0⟩ := hv
  have hx := B.exec
  have hb := B.bytes
  have hr := B.returns
  have hts := atoms_spec (ws := wsX3_takes) B.pre
  have hown : s.vm.findClass RX3 = some m.cls := findClass_of_methodNamed B.named
  have hlocks := B.notSynchronized
  subst hsz
  have hD := hD0.self (sz := s.heap.size)
  have hA : ∀ q : Nat, s.heap.size ≤ q → va_A (xW a g d cI cJ cZ (g 0) (d 0) xText xLetters xNow xKept xIsKept xChance xScenes xASize xSKinds xSLifts xSFlights xSSize xTally xOut fPk fWn fGw fGk fOw fSt fPe fHo fGr fPa fFt dPk dWn dGw dGk dOw dSt dPe dHo dGr dPa dFt) s.heap.size q := fun q h => Or.inr h
  have hS : va_S (va_A (xW a g d cI cJ cZ (g 0) (d 0) xText xLetters xNow xKept xIsKept xChance xScenes xASize xSKinds xSLifts xSFlights xSSize xTally xOut fPk fWn fGw fGk fOw fSt fPe fHo fGr fPa fFt dPk dWn dGw dGk dOw dSt dPe dHo dGr dPa dFt) s.heap.size) s.heap s.heap [] := va_S.rf
  obtain ⟨A, hAe⟩ : ∃ A, A = va_A (xW a g d cI cJ cZ (g 0) (d 0) xText xLetters xNow xKept xIsKept xChance xScenes xASize xSKinds xSLifts xSFlights xSSize xTally xOut fPk fWn fGw fGk fOw fSt fPe fHo fGr fPa fFt dPk dWn dGw dGk dOw dSt dPe dHo dGr dPa dFt) s.heap.size := ⟨_, rfl⟩
  rw [← hAe] at hD hA hS
  have hl := lv_entry ([.ref (d 0), .int p1]) (n := 3) (Nat.le_of_ble_eq_true rfl)
  rw [lg_entry_eq]
  generalize (lg_sl ([.ref (d 0), .int p1]) ++ List.replicate (3 - (lg_sl ([.ref (d 0), .int p1])).length) Slot.unset).toArray = ls at hl ⊢
  have hl : lv_has ls 3 [(0, .ref (d 0)), (1, .int p1)] := hl
  have hiX3 : ∀ w ∈ u_ws RX3 TX3 11, w ∈ wsX3_takes := fun w hw => List.mem_cons_of_mem _ (List.mem_append_right _ hw)
  refine lv_iload_n hx hb dX3_takes_0 rfl (lv_at hl 1 rfl) ?_
  refine lv_bipush (v := 48) hx hb dX3_takes_1 (by decide) ?_
  refine lv_isub hx hb dX3_takes_3 ?_
  refine lv_istore_n (lv' := [(2, .int (p1 - 48)), (0, .ref (d 0)), (1, .int p1)]) hx hb dX3_takes_4 rfl hl (by decide) rfl (fun ls hl => ?_)
  refine lv_aload_n hx hb dX3_takes_5 rfl (lv_at hl 1 rfl) ?_
  refine va_get (D := D) (ci := 2) (v := .int dPa) (C := RX3) (T := TX3) (N := 11) hx hb hts hiX3 hown hK.1 hP 20 rfl rfl 9 (by decide) (hts (.fieldLink RX3 40 "WinnowedGuilt$Floor" "part" "I") (by decide +kernel)) (fun _ h9 => h9) rfl dX3_takes_6 ?_
  by_cases w0_0 : dPa = 71
  · have h := iT w0_0 h
    refine lv_lookup (tgt := 70) hx hb dX3_takes_9 (by decide) (by rw [w0_0] <;> rfl) (by decide) ?_
    refine lv_aload_n hx hb dX3_takes_70 rfl (lv_at hl 1 rfl) ?_
    refine lv_iload_n hx hb dX3_takes_71 rfl (lv_at hl 0 rfl) ?_
    obtain ⟨q2, hq2, h⟩ := bS h
    refine wcI (va_runV (As := [.int (p1 - 48)]) (rest := []) ⟨hx, hb, hml, hown, hts⟩ (c_fl_tellsGrain l D cI cJ cZ a g d xText xLetters xNow xKept xIsKept xChance xScenes xASize xSKinds xSLifts xSFlights xSSize xTally xOut fPk fWn fGw fGk fOw fSt fPe fHo fGr fPa fFt dPk dWn dGw dGk dOw dSt dPe dHo dGr dPa dFt s.heap.size (p1 - 48) q2.1 q2.2.1 q2.2.2.1 q2.2.2.2.1 q2.2.2.2.2.1 q2.2.2.2.2.2.1 q2.2.2.2.2.2.2.1 q2.2.2.2.2.2.2.2 hq2) (cwV 1 hts gX3_takes_X3_tellsGrain rfl rfl rfl (by decide +kernel) ⟨Nat.le_of_ble_eq_true rfl, Nat.le_of_ble_eq_true rfl⟩) (wPreV hK hP hD (ci := 2) (q0 := 20) rfl rfl) rfl rfl hl.1 rfl (lv_room (Nat.le_of_ble_eq_true rfl)) dX3_takes_72 ⟨Nat.zero_le _, Nat.zero_le _⟩) hD hS hA (fun H locs hP hD hS => ?_)
    have hP : va_P D vwCl (xW a g d cI cJ cZ (g 0) (d 0) xText xLetters xNow xKept xIsKept xChance xScenes xASize xSKinds xSLifts xSFlights xSSize xTally xOut fPk fWn fGw fGk fOw fSt fPe fHo fGr fPa fFt dPk dWn q2.2.1 q2.2.2.1 q2.2.2.2.1 q2.2.2.2.2.1 dPe dHo q2.2.2.2.2.2.1 q2.2.2.2.2.2.2.1 q2.2.2.2.2.2.2.2) H := hP
    have hD : va_D A (xW a g d cI cJ cZ (g 0) (d 0) xText xLetters xNow xKept xIsKept xChance xScenes xASize xSKinds xSLifts xSFlights xSSize xTally xOut fPk fWn fGw fGk fOw fSt fPe fHo fGr fPa fFt dPk dWn q2.2.1 q2.2.2.1 q2.2.2.2.1 q2.2.2.2.2.1 dPe dHo q2.2.2.2.2.2.1 q2.2.2.2.2.2.2.1 q2.2.2.2.2.2.2.2) := hD
    obtain ⟨hz, h⟩ := gZ_some h
    cases h
    subst hAe
    exact W.zret hx hb hr hz (fun t ht _ => ⟨⟨_, (), rfl, rfl, by rw [ht]; exact hP, hD⟩, hS.F ht⟩) hS.2.2 dX3_takes_75
  have h := iF w0_0 h
  by_cases w0_1 : dPa = 72
  · have h := iT w0_1 h
    refine lv_lookup (tgt := 64) hx hb dX3_takes_9 (by decide) (by rw [w0_1] <;> rfl) (by decide) ?_
    refine lv_aload_n hx hb dX3_takes_64 rfl (lv_at hl 1 rfl) ?_
    refine lv_iload_n hx hb dX3_takes_65 rfl (lv_at hl 0 rfl) ?_
    obtain ⟨q2, hq2, h⟩ := bS h
    refine wcI (va_runV (As := [.int (p1 - 48)]) (rest := []) ⟨hx, hb, hml, hown, hts⟩ (c_fl_tellsHour l D cI cJ cZ a g d xText xLetters xNow xKept xIsKept xChance xScenes xASize xSKinds xSLifts xSFlights xSSize xTally xOut fPk fWn fGw fGk fOw fSt fPe fHo fGr fPa fFt dPk dWn dGw dGk dOw dSt dPe dHo dGr dPa dFt s.heap.size (p1 - 48) q2.1 q2.2.1 q2.2.2.1 q2.2.2.2 hq2) (cwV 1 hts gX3_takes_X3_tellsHour rfl rfl rfl (by decide +kernel) ⟨Nat.le_of_ble_eq_true rfl, Nat.le_of_ble_eq_true rfl⟩) (wPreV hK hP hD (ci := 2) (q0 := 20) rfl rfl) rfl rfl hl.1 rfl (lv_room (Nat.le_of_ble_eq_true rfl)) dX3_takes_66 ⟨Nat.zero_le _, Nat.zero_le _⟩) hD hS hA (fun H locs hP hD hS => ?_)
    have hP : va_P D vwCl (xW a g d cI cJ cZ (g 0) (d 0) xText xLetters xNow xKept xIsKept xChance xScenes xASize xSKinds xSLifts xSFlights xSSize xTally xOut fPk fWn fGw fGk fOw fSt fPe fHo fGr fPa fFt dPk q2.2.1 dGw dGk dOw dSt dPe q2.2.2.1 dGr q2.2.2.2 dFt) H := hP
    have hD : va_D A (xW a g d cI cJ cZ (g 0) (d 0) xText xLetters xNow xKept xIsKept xChance xScenes xASize xSKinds xSLifts xSFlights xSSize xTally xOut fPk fWn fGw fGk fOw fSt fPe fHo fGr fPa fFt dPk q2.2.1 dGw dGk dOw dSt dPe q2.2.2.1 dGr q2.2.2.2 dFt) := hD
    obtain ⟨hz, h⟩ := gZ_some h
    cases h
    subst hAe
    exact W.zret hx hb hr hz (fun t ht _ => ⟨⟨_, (), rfl, rfl, by rw [ht]; exact hP, hD⟩, hS.F ht⟩) hS.2.2 dX3_takes_69
  have h := iF w0_1 h
  by_cases w0_2 : dPa = 80
  · have h := iT w0_2 h
    refine lv_lookup (tgt := 58) hx hb dX3_takes_9 (by decide) (by rw [w0_2] <;> rfl) (by decide) ?_
    refine lv_aload_n hx hb dX3_takes_58 rfl (lv_at hl 1 rfl) ?_
    refine lv_iload_n hx hb dX3_takes_59 rfl (lv_at hl 0 rfl) ?_
    obtain ⟨q2, hq2, h⟩ := bS h
    refine wcI (va_runV (As := [.int (p1 - 48)]) (rest := []) ⟨hx, hb, hml, hown, hts⟩ (c_fl_tellsPerson l D cI cJ cZ a g d xText xLetters xNow xKept xIsKept xChance xScenes xASize xSKinds xSLifts xSFlights xSSize xTally xOut fPk fWn fGw fGk fOw fSt fPe fHo fGr fPa fFt dPk dWn dGw dGk dOw dSt dPe dHo dGr dPa dFt s.heap.size (p1 - 48) q2.1 q2.2.1 q2.2.2.1 q2.2.2.2 hq2) (cwV 1 hts gX3_takes_X3_tellsPerson rfl rfl rfl (by decide +kernel) ⟨Nat.le_of_ble_eq_true rfl, Nat.le_of_ble_eq_true rfl⟩) (wPreV hK hP hD (ci := 2) (q0 := 20) rfl rfl) rfl rfl hl.1 rfl (lv_room (Nat.le_of_ble_eq_true rfl)) dX3_takes_60 ⟨Nat.zero_le _, Nat.zero_le _⟩) hD hS hA (fun H locs hP hD hS => ?_)
    have hP : va_P D vwCl (xW a g d cI cJ cZ (g 0) (d 0) xText xLetters xNow xKept xIsKept xChance xScenes xASize xSKinds xSLifts xSFlights xSSize xTally xOut fPk fWn fGw fGk fOw fSt fPe fHo fGr fPa fFt q2.2.1 dWn dGw dGk dOw dSt q2.2.2.1 dHo dGr q2.2.2.2 dFt) H := hP
    have hD : va_D A (xW a g d cI cJ cZ (g 0) (d 0) xText xLetters xNow xKept xIsKept xChance xScenes xASize xSKinds xSLifts xSFlights xSSize xTally xOut fPk fWn fGw fGk fOw fSt fPe fHo fGr fPa fFt q2.2.1 dWn dGw dGk dOw dSt q2.2.2.1 dHo dGr q2.2.2.2 dFt) := hD
    obtain ⟨hz, h⟩ := gZ_some h
    cases h
    subst hAe
    exact W.zret hx hb hr hz (fun t ht _ => ⟨⟨_, (), rfl, rfl, by rw [ht]; exact hP, hD⟩, hS.F ht⟩) hS.2.2 dX3_takes_63
  have h := iF w0_2 h
  by_cases w0_3 : dPa = 87
  · have h := iT w0_3 h
    refine lv_lookup (tgt := 52) hx hb dX3_takes_9 (by decide) (by rw [w0_3] <;> rfl) (by decide) ?_
    refine lv_aload_n hx hb dX3_takes_52 rfl (lv_at hl 1 rfl) ?_
    refine lv_iload_n hx hb dX3_takes_53 rfl (lv_at hl 2 rfl) ?_
    obtain ⟨q2, hq2, h⟩ := bS h
    refine wcI (va_runV (As := [.int p1]) (rest := []) ⟨hx, hb, hml, hown, hts⟩ (c_fl_begins l D cI cJ cZ a g d xText xLetters xNow xKept xIsKept xChance xScenes xASize xSKinds xSLifts xSFlights xSSize xTally xOut fPk fWn fGw fGk fOw fSt fPe fHo fGr fPa fFt dPk dWn dGw dGk dOw dSt dPe dHo dGr dPa dFt s.heap.size p1 q2.1 q2.2.1 q2.2.2 hq2) (cwV 1 hts gX3_takes_X3_begins rfl rfl rfl (by decide +kernel) ⟨Nat.le_of_ble_eq_true rfl, Nat.le_of_ble_eq_true rfl⟩) (wPreV hK hP hD (ci := 2) (q0 := 20) rfl rfl) rfl rfl hl.1 rfl (lv_room (Nat.le_of_ble_eq_true rfl)) dX3_takes_54 ⟨Nat.zero_le _, Nat.zero_le _⟩) hD hS hA (fun H locs hP hD hS => ?_)
    have hP : va_P D vwCl (xW a g d cI cJ cZ (g 0) (d 0) xText xLetters xNow xKept xIsKept xChance xScenes xASize xSKinds xSLifts xSFlights xSSize xTally xOut fPk fWn fGw fGk fOw fSt fPe fHo fGr fPa fFt dPk dWn dGw dGk dOw dSt dPe dHo dGr q2.2.1 q2.2.2) H := hP
    have hD : va_D A (xW a g d cI cJ cZ (g 0) (d 0) xText xLetters xNow xKept xIsKept xChance xScenes xASize xSKinds xSLifts xSFlights xSSize xTally xOut fPk fWn fGw fGk fOw fSt fPe fHo fGr fPa fFt dPk dWn dGw dGk dOw dSt dPe dHo dGr q2.2.1 q2.2.2) := hD
    obtain ⟨hz, h⟩ := gZ_some h
    cases h
    subst hAe
    exact W.zret hx hb hr hz (fun t ht _ => ⟨⟨_, (), rfl, rfl, by rw [ht]; exact hP, hD⟩, hS.F ht⟩) hS.2.2 dX3_takes_57
  have h := iF w0_3 h
  refine lv_lookup (off := 67) (tgt := 76) hx hb dX3_takes_9 (by decide) ((lv_osw (k := 71) w0_0 (by decide)).trans ((lv_osw (k := 72) w0_1 (by decide)).trans ((lv_osw (k := 80) w0_2 (by decide)).trans ((lv_osw (k := 87) w0_3 (by decide)).trans (rfl))))) (by decide) ?_
  refine lv_aload_n hx hb dX3_takes_76 rfl (lv_at hl 1 rfl) ?_
  refine lv_bipush (v := 87) hx hb dX3_takes_77 (by decide) ?_
  refine va_put (D := D) (ci := 2) (v := .int 87) (ty := .int) (C := RX3) (T := TX3) (N := 11) hx hb hts hiX3 tyX3 tyX3_ok nmX3 hown hK.1 hP hD hS 20 rfl rfl 9 (by decide) (hts (.fieldLink RX3 40 "WinnowedGuilt$Floor" "part" "I") (by decide +kernel)) (fun _ h9 => h9) rfl (by decide +kernel) rfl rfl (Nat.le_of_ble_eq_true rfl) dX3_takes_79 (fun H locs hP hD hS => ?_)
  have hP : va_P D vwCl (xW a g d cI cJ cZ (g 0) (d 0) xText xLetters xNow xKept xIsKept xChance xScenes xASize xSKinds xSLifts xSFlights xSSize xTally xOut fPk fWn fGw fGk fOw fSt fPe fHo fGr fPa fFt dPk dWn dGw dGk dOw dSt dPe dHo dGr 87 dFt) H := hP
  have hD : va_D A (xW a g d cI cJ cZ (g 0) (d 0) xText xLetters xNow xKept xIsKept xChance xScenes xASize xSKinds xSLifts xSFlights xSSize xTally xOut fPk fWn fGw fGk fOw fSt fPe fHo fGr fPa fFt dPk dWn dGw dGk dOw dSt dPe dHo dGr 87 dFt) := hD
  refine lv_iload_n hx hb dX3_takes_82 rfl (lv_at hl 2 rfl) ?_
  refine lv_bipush (v := 87) hx hb dX3_takes_83 (by decide) ?_
  refine lv_icmp_ne (tgt := 92) hx hb dX3_takes_85 (by decide) (fun c2 => ?_) (fun c2 => ?_)
  · have h := iF c2 h
    refine lv_iconst (v := 0) hx hb dX3_takes_92 (by decide) ?_
    cases h
    subst hAe
    exact W.zret hx hb hr (by decide) (fun t ht _ => ⟨⟨_, (), rfl, rfl, by rw [ht]; exact hP, hD⟩, hS.F ht⟩) hS.2.2 dX3_takes_93
  · have h := iT c2 h
    refine lv_iconst (v := 1) hx hb dX3_takes_88 (by decide) ?_
    refine lv_goto (tgt := 93) hx hb dX3_takes_89 (by decide) ?_
    cases h
    subst hAe
    exact W.zret hx hb hr (by decide) (fun t ht _ => ⟨⟨_, (), rfl, rfl, by rw [ht]; exact hP, hD⟩, hS.F ht⟩) hS.2.2 dX3_takes_93

set_option maxHeartbeats 4000000 in
set_option maxRecDepth 100000 in
theorem c_fl_read (l : Launch) (D : va_G) (cI cJ cZ : ClassId) (a : Nat → Nat) (g : Nat → Nat) (d : Nat → Nat) (xText : Nat → Int32) (xLetters : Int32) (xNow : Int64) (xKept : Nat → Int64) (xIsKept : Nat → Int32) (xChance : Int64) (xScenes : Nat → Int64) (xASize : Int32) (xSKinds : Nat → Int32) (xSLifts : Nat → Int32) (xSFlights : Nat → Int32) (xSSize : Int32) (xTally : Nat → Int32) (xOut : Nat → Int64) (fPk : Nat → Int32) (fWn : Nat → Int32) (fGw : Nat → Int32) (fGk : Nat → Int32) (fOw : Nat → Int32) (fSt : Nat → Int32) (fPe : Int32) (fHo : Int32) (fGr : Int32) (fPa : Int32) (fFt : Int32) (dPk : Nat → Int32) (dWn : Nat → Int32) (dGw : Nat → Int32) (dGk : Nat → Int32) (dOw : Nat → Int32) (dSt : Nat → Int32) (dPe : Int32) (dHo : Int32) (dGr : Int32) (dPa : Int32) (dFt : Int32)  (sz : Nat) (p2 : Int32) (rv : Int32) (dPk_r : Nat → Int32) (dWn_r : Nat → Int32) (dGw_r : Nat → Int32) (dGk_r : Nat → Int32) (dOw_r : Nat → Int32) (dSt_r : Nat → Int32) (dPe_r : Int32) (dHo_r : Int32) (dGr_r : Int32) (dPa_r : Int32) (dFt_r : Int32) (h : fl_read xText dPk dWn dGw dGk dOw dSt p2 = some (rv, dPk_r, dWn_r, dGw_r, dGk_r, dOw_r, dSt_r, dPe_r, dHo_r, dGr_r, dPa_r, dFt_r)) : Met l yX3_read wsX3_read ({ frames := 3, cells := 0, slots := 0, locals := 65 } : Room) (wPc D cI cJ cZ (xW a g d cI cJ cZ (g 0) (d 0) xText xLetters xNow xKept xIsKept xChance xScenes xASize xSKinds xSLifts xSFlights xSSize xTally xOut fPk fWn fGw fGk fOw fSt fPe fHo fGr fPa fFt dPk dWn dGw dGk dOw dSt dPe dHo dGr dPa dFt) sz [.ref (d 0), .ref (a 1), .int p2]) (wQi D (xW a g d cI cJ cZ (g 0) (d 0) xText xLetters xNow xKept xIsKept xChance xScenes xASize xSKinds xSLifts xSFlights xSSize xTally xOut fPk fWn fGw fGk fOw fSt fPe fHo fGr fPa fFt dPk dWn dGw dGk dOw dSt dPe dHo dGr dPa dFt) (xW a g d cI cJ cZ (g 0) (d 0) xText xLetters xNow xKept xIsKept xChance xScenes xASize xSKinds xSLifts xSFlights xSSize xTally xOut fPk fWn fGw fGk fOw fSt fPe fHo fGr fPa fFt dPk_r dWn_r dGw_r dGk_r dOw_r dSt_r dPe_r dHo_r dGr_r dPa_r dFt_r) sz rv) 0 0 (va_A (xW a g d cI cJ cZ (g 0) (d 0) xText xLetters xNow xKept xIsKept xChance xScenes xASize xSKinds xSLifts xSFlights xSSize xTally xOut fPk fWn fGw fGk fOw fSt fPe fHo fGr fPa fFt dPk dWn dGw dGk dOw dSt dPe dHo dGr dPa dFt) sz) := by
  unfold fl_read at h
  refine Met.ofW (cc := cX3_read) (maxL := 4) (ret := (some .int)) (by decide) rfl ?_
  intro p e s m args below meth c s₁ B hml hv
  obtain ⟨rfl, hsz, hP, hK, hD0⟩ := hv
  have hx := B.exec
  have hb := B.bytes
  have hr := B.returns
  have hts := atoms_spec (ws := wsX3_read) B.pre
  have hown : s.vm.findClass RX3 = some m.cls := findClass_of_methodNamed B.named
  have hlocks := B.notSynchronized
  subst hsz
  have hD := hD0.self (sz := s.heap.size)
  have hA : ∀ q : Nat, s.heap.size ≤ q → va_A (xW a g d cI cJ cZ (g 0) (d 0) xText xLetters xNow xKept xIsKept xChance xScenes xASize xSKinds xSLifts xSFlights xSSize xTally xOut fPk fWn fGw fGk fOw fSt fPe fHo fGr fPa fFt dPk dWn dGw dGk dOw dSt dPe dHo dGr dPa dFt) s.heap.size q := fun q h => Or.inr h
  have hS : va_S (va_A (xW a g d cI cJ cZ (g 0) (d 0) xText xLetters xNow xKept xIsKept xChance xScenes xASize xSKinds xSLifts xSFlights xSSize xTally xOut fPk fWn fGw fGk fOw fSt fPe fHo fGr fPa fFt dPk dWn dGw dGk dOw dSt dPe dHo dGr dPa dFt) s.heap.size) s.heap s.heap [] := va_S.rf
  obtain ⟨A, hAe⟩ : ∃ A, A = va_A (xW a g d cI cJ cZ (g 0) (d 0) xText xLetters xNow xKept xIsKept xChance xScenes xASize xSKinds xSLifts xSFlights xSSize xTally xOut fPk fWn fGw fGk fOw fSt fPe fHo fGr fPa fFt dPk dWn dGw dGk dOw dSt dPe dHo dGr dPa dFt) s.heap.size := ⟨_, rfl⟩
  rw [← hAe] at hD hA hS
  have hl := lv_entry ([.ref (d 0), .ref (a 1), .int p2]) (n := 4) (Nat.le_of_ble_eq_true rfl)
  rw [lg_entry_eq]
  generalize (lg_sl ([.ref (d 0), .ref (a 1), .int p2]) ++ List.replicate (4 - (lg_sl ([.ref (d 0), .ref (a 1), .int p2])).length) Slot.unset).toArray = ls at hl ⊢
  have hl : lv_has ls 4 [(0, .ref (d 0)), (1, .ref (a 1)), (2, .int p2)] := hl
  have hiX3 : ∀ w ∈ u_ws RX3 TX3 11, w ∈ wsX3_read := fun w hw => List.mem_cons_of_mem _ (List.mem_append_right _ hw)
  refine lv_aload_n hx hb dX3_read_0 rfl (lv_at hl 0 rfl) ?_
  refine lv_iconst (v := 0) hx hb dX3_read_1 (by decide) ?_
  refine va_put (D := D) (ci := 2) (v := .int 0) (ty := .int) (C := RX3) (T := TX3) (N := 11) hx hb hts hiX3 tyX3 tyX3_ok nmX3 hown hK.1 hP hD hS 20 rfl rfl 6 (by decide) (hts (.fieldLink RX3 30 "WinnowedGuilt$Floor" "people" "I") (by decide +kernel)) (fun _ h9 => h9) rfl (by decide +kernel) rfl rfl (Nat.le_of_ble_eq_true rfl) dX3_read_2 (fun H locs hP hD hS => ?_)
  have hP : va_P D vwCl (xW a g d cI cJ cZ (g 0) (d 0) xText xLetters xNow xKept xIsKept xChance xScenes xASize xSKinds xSLifts xSFlights xSSize xTally xOut fPk fWn fGw fGk fOw fSt fPe fHo fGr fPa fFt dPk dWn dGw dGk dOw dSt 0 dHo dGr dPa dFt) H := hP
  have hD : va_D A (xW a g d cI cJ cZ (g 0) (d 0) xText xLetters xNow xKept xIsKept xChance xScenes xASize xSKinds xSLifts xSFlights xSSize xTally xOut fPk fWn fGw fGk fOw fSt fPe fHo fGr fPa fFt dPk dWn dGw dGk dOw dSt 0 dHo dGr dPa dFt) := hD
  refine lv_aload_n hx hb dX3_read_5 rfl (lv_at hl 0 rfl) ?_
  refine lv_iconst (v := 0) hx hb dX3_read_6 (by decide) ?_
  refine va_put (D := D) (ci := 2) (v := .int 0) (ty := .int) (C := RX3) (T := TX3) (N := 11) hx hb hts hiX3 tyX3 tyX3_ok nmX3 hown hK.1 hP hD hS 20 rfl rfl 7 (by decide) (hts (.fieldLink RX3 34 "WinnowedGuilt$Floor" "hours" "I") (by decide +kernel)) (fun _ h9 => h9) rfl (by decide +kernel) rfl rfl (Nat.le_of_ble_eq_true rfl) dX3_read_7 (fun H locs hP hD hS => ?_)
  have hP : va_P D vwCl (xW a g d cI cJ cZ (g 0) (d 0) xText xLetters xNow xKept xIsKept xChance xScenes xASize xSKinds xSLifts xSFlights xSSize xTally xOut fPk fWn fGw fGk fOw fSt fPe fHo fGr fPa fFt dPk dWn dGw dGk dOw dSt 0 0 dGr dPa dFt) H := hP
  have hD : va_D A (xW a g d cI cJ cZ (g 0) (d 0) xText xLetters xNow xKept xIsKept xChance xScenes xASize xSKinds xSLifts xSFlights xSSize xTally xOut fPk fWn fGw fGk fOw fSt fPe fHo fGr fPa fFt dPk dWn dGw dGk dOw dSt 0 0 dGr dPa dFt) := hD
  refine lv_aload_n hx hb dX3_read_10 rfl (lv_at hl 0 rfl) ?_
  refine lv_iconst (v := 0) hx hb dX3_read_11 (by decide) ?_
  refine va_put (D := D) (ci := 2) (v := .int 0) (ty := .int) (C := RX3) (T := TX3) (N := 11) hx hb hts hiX3 tyX3 tyX3_ok nmX3 hown hK.1 hP hD hS 20 rfl rfl 8 (by decide) (hts (.fieldLink RX3 37 "WinnowedGuilt$Floor" "grains" "I") (by decide +kernel)) (fun _ h9 => h9) rfl (by decide +kernel) rfl rfl (Nat.le_of_ble_eq_true rfl) dX3_read_12 (fun H locs hP hD hS => ?_)
  have hP : va_P D vwCl (xW a g d cI cJ cZ (g 0) (d 0) xText xLetters xNow xKept xIsKept xChance xScenes xASize xSKinds xSLifts xSFlights xSSize xTally xOut fPk fWn fGw fGk fOw fSt fPe fHo fGr fPa fFt dPk dWn dGw dGk dOw dSt 0 0 0 dPa dFt) H := hP
  have hD : va_D A (xW a g d cI cJ cZ (g 0) (d 0) xText xLetters xNow xKept xIsKept xChance xScenes xASize xSKinds xSLifts xSFlights xSSize xTally xOut fPk fWn fGw fGk fOw fSt fPe fHo fGr fPa fFt dPk dWn dGw dGk dOw dSt 0 0 0 dPa dFt) := hD
  refine lv_aload_n hx hb dX3_read_15 rfl (lv_at hl 0 rfl) ?_
  refine lv_iconst (v := 0) hx hb dX3_read_16 (by decide) ?_
  refine va_put (D := D) (ci := 2) (v := .int 0) (ty := .int) (C := RX3) (T := TX3) (N := 11) hx hb hts hiX3 tyX3 tyX3_ok nmX3 hown hK.1 hP hD hS 20 rfl rfl 9 (by decide) (hts (.fieldLink RX3 40 "WinnowedGuilt$Floor" "part" "I") (by decide +kernel)) (fun _ h9 => h9) rfl (by decide +kernel) rfl rfl (Nat.le_of_ble_eq_true rfl) dX3_read_17 (fun H locs hP hD hS => ?_)
  have hP : va_P D vwCl (xW a g d cI cJ cZ (g 0) (d 0) xText xLetters xNow xKept xIsKept xChance xScenes xASize xSKinds xSLifts xSFlights xSSize xTally xOut fPk fWn fGw fGk fOw fSt fPe fHo fGr fPa fFt dPk dWn dGw dGk dOw dSt 0 0 0 0 dFt) H := hP
  have hD : va_D A (xW a g d cI cJ cZ (g 0) (d 0) xText xLetters xNow xKept xIsKept xChance xScenes xASize xSKinds xSLifts xSFlights xSSize xTally xOut fPk fWn fGw fGk fOw fSt fPe fHo fGr fPa fFt dPk dWn dGw dGk dOw dSt 0 0 0 0 dFt) := hD
  refine lv_aload_n hx hb dX3_read_20 rfl (lv_at hl 0 rfl) ?_
  refine lv_iconst (v := 0) hx hb dX3_read_21 (by decide) ?_
  refine va_put (D := D) (ci := 2) (v := .int 0) (ty := .int) (C := RX3) (T := TX3) (N := 11) hx hb hts hiX3 tyX3 tyX3_ok nmX3 hown hK.1 hP hD hS 20 rfl rfl 10 (by decide) (hts (.fieldLink RX3 43 "WinnowedGuilt$Floor" "figuresTold" "I") (by decide +kernel)) (fun _ h9 => h9) rfl (by decide +kernel) rfl rfl (Nat.le_of_ble_eq_true rfl) dX3_read_22 (fun H locs hP hD hS => ?_)
  have hP : va_P D vwCl (xW a g d cI cJ cZ (g 0) (d 0) xText xLetters xNow xKept xIsKept xChance xScenes xASize xSKinds xSLifts xSFlights xSSize xTally xOut fPk fWn fGw fGk fOw fSt fPe fHo fGr fPa fFt dPk dWn dGw dGk dOw dSt 0 0 0 0 0) H := hP
  have hD : va_D A (xW a g d cI cJ cZ (g 0) (d 0) xText xLetters xNow xKept xIsKept xChance xScenes xASize xSKinds xSLifts xSFlights xSSize xTally xOut fPk fWn fGw fGk fOw fSt fPe fHo fGr fPa fFt dPk dWn dGw dGk dOw dSt 0 0 0 0 0) := hD
  refine lv_iconst (v := 0) hx hb dX3_read_25 (by decide) ?_
  refine lv_istore_n (lv' := [(3, .int 0), (0, .ref (d 0)), (1, .ref (a 1)), (2, .int p2)]) hx hb dX3_read_26 rfl hl (by decide) rfl (fun ls hl => ?_)
  have L27 : ∀ (n : Nat) (x3_27 : Int32) (dPk_27x : (Nat → Int32)) (dWn_27x : (Nat → Int32)) (dGw_27x : (Nat → Int32)) (dGk_27x : (Nat → Int32)) (dOw_27x : (Nat → Int32)) (dSt_27x : (Nat → Int32)) (dPe_27x : (Int32)) (dHo_27x : (Int32)) (dGr_27x : (Int32)) (dPa_27x : (Int32)) (dFt_27x : (Int32)) (H : Heap) (locs : List Loc) (ls : Array Slot) (kx : Int32 → (Nat → Int32) → (Nat → Int32) → (Nat → Int32) → (Nat → Int32) → (Nat → Int32) → (Nat → Int32) → (Int32) → (Int32) → (Int32) → (Int32) → (Int32) → Option (Int32 × (Nat → Int32) × (Nat → Int32) × (Nat → Int32) × (Nat → Int32) × (Nat → Int32) × (Nat → Int32) × (Int32) × (Int32) × (Int32) × (Int32) × (Int32))), fl_read_L27 xText p2 kx n x3_27 dPk_27x dWn_27x dGw_27x dGk_27x dOw_27x dSt_27x dPe_27x dHo_27x dGr_27x dPa_27x dFt_27x = some (rv, dPk_r, dWn_r, dGw_r, dGk_r, dOw_r, dSt_r, dPe_r, dHo_r, dGr_r, dPa_r, dFt_r) → va_P D vwCl (xW a g d cI cJ cZ (g 0) (d 0) xText xLetters xNow xKept xIsKept xChance xScenes xASize xSKinds xSLifts xSFlights xSSize xTally xOut fPk fWn fGw fGk fOw fSt fPe fHo fGr fPa fFt dPk_27x dWn_27x dGw_27x dGk_27x dOw_27x dSt_27x dPe_27x dHo_27x dGr_27x dPa_27x dFt_27x) H → va_D A (xW a g d cI cJ cZ (g 0) (d 0) xText xLetters xNow xKept xIsKept xChance xScenes xASize xSKinds xSLifts xSFlights xSSize xTally xOut fPk fWn fGw fGk fOw fSt fPe fHo fGr fPa fFt dPk_27x dWn_27x dGw_27x dGk_27x dOw_27x dSt_27x dPe_27x dHo_27x dGr_27x dPa_27x dFt_27x) → va_S A s.heap H locs → lv_has ls 4 [(3, .int x3_27), (0, .ref (d 0)), (1, .ref (a 1)), (2, .int p2)] → (∀ (y3_27 : Int32) (dPk_27 : (Nat → Int32)) (dWn_27 : (Nat → Int32)) (dGw_27 : (Nat → Int32)) (dGk_27 : (Nat → Int32)) (dOw_27 : (Nat → Int32)) (dSt_27 : (Nat → Int32)) (dPe_27 : (Int32)) (dHo_27 : (Int32)) (dGr_27 : (Int32)) (dPa_27 : (Int32)) (dFt_27 : (Int32)) (H : Heap) (locs : List Loc) (ls : Array Slot), kx y3_27 dPk_27 dWn_27 dGw_27 dGk_27 dOw_27 dSt_27 dPe_27 dHo_27 dGr_27 dPa_27 dFt_27 = some (rv, dPk_r, dWn_r, dGw_r, dGk_r, dOw_r, dSt_r, dPe_r, dHo_r, dGr_r, dPa_r, dFt_r) → va_P D vwCl (xW a g d cI cJ cZ (g 0) (d 0) xText xLetters xNow xKept xIsKept xChance xScenes xASize xSKinds xSLifts xSFlights xSSize xTally xOut fPk fWn fGw fGk fOw fSt fPe fHo fGr fPa fFt dPk_27 dWn_27 dGw_27 dGk_27 dOw_27 dSt_27 dPe_27 dHo_27 dGr_27 dPa_27 dFt_27) H → va_D A (xW a g d cI cJ cZ (g 0) (d 0) xText xLetters xNow xKept xIsKept xChance xScenes xASize xSKinds xSLifts xSFlights xSSize xTally xOut fPk fWn fGw fGk fOw fSt fPe fHo fGr fPa fFt dPk_27 dWn_27 dGw_27 dGk_27 dOw_27 dSt_27 dPe_27 dHo_27 dGr_27 dPa_27 dFt_27) → va_S A s.heap H locs → lv_has ls 4 [(3, .int y3_27), (0, .ref (d 0)), (1, .ref (a 1)), (2, .int p2)] → W p l e (headSpec wsX3_read ({ frames := 3, cells := 0, slots := 0, locals := 65 } : Room)).room s m ([.ref (d 0), .ref (a 1), .int p2] : List Value).toArray below meth c H locs 0 0 (MQ below (wQi D (xW a g d cI cJ cZ (g 0) (d 0) xText xLetters xNow xKept xIsKept xChance xScenes xASize xSKinds xSLifts xSFlights xSSize xTally xOut fPk fWn fGw fGk fOw fSt fPe fHo fGr fPa fFt dPk dWn dGw dGk dOw dSt dPe dHo dGr dPa dFt) (xW a g d cI cJ cZ (g 0) (d 0) xText xLetters xNow xKept xIsKept xChance xScenes xASize xSKinds xSLifts xSFlights xSSize xTally xOut fPk fWn fGw fGk fOw fSt fPe fHo fGr fPa fFt dPk_r dWn_r dGw_r dGk_r dOw_r dSt_r dPe_r dHo_r dGr_r dPa_r dFt_r) s.heap.size rv) ([.ref (d 0), .ref (a 1), .int p2] : List Value).toArray s 0 0 (va_A (xW a g d cI cJ cZ (g 0) (d 0) xText xLetters xNow xKept xIsKept xChance xScenes xASize xSKinds xSLifts xSFlights xSSize xTally xOut fPk fWn fGw fGk fOw fSt fPe fHo fGr fPa fFt dPk dWn dGw dGk dOw dSt dPe dHo dGr dPa dFt) s.heap.size)) (F0 m 56 ls [])) → W p l e (headSpec wsX3_read ({ frames := 3, cells := 0, slots := 0, locals := 65 } : Room)).room s m ([.ref (d 0), .ref (a 1), .int p2] : List Value).toArray below meth c H locs 0 0 (MQ below (wQi D (xW a g d cI cJ cZ (g 0) (d 0) xText xLetters xNow xKept xIsKept xChance xScenes xASize xSKinds xSLifts xSFlights xSSize xTally xOut fPk fWn fGw fGk fOw fSt fPe fHo fGr fPa fFt dPk dWn dGw dGk dOw dSt dPe dHo dGr dPa dFt) (xW a g d cI cJ cZ (g 0) (d 0) xText xLetters xNow xKept xIsKept xChance xScenes xASize xSKinds xSLifts xSFlights xSSize xTally xOut fPk fWn fGw fGk fOw fSt fPe fHo fGr fPa fFt dPk_r dWn_r dGw_r dGk_r dOw_r dSt_r dPe_r dHo_r dGr_r dPa_r dFt_r) s.heap.size rv) ([.ref (d 0), .ref (a 1), .int p2] : List Value).toArray s 0 0 (va_A (xW a g d cI cJ cZ (g 0) (d 0) xText xLetters xNow xKept xIsKept xChance xScenes xASize xSKinds xSLifts xSFlights xSSize xTally xOut fPk fWn fGw fGk fOw fSt fPe fHo fGr fPa fFt dPk dWn dGw dGk dOw dSt dPe dHo dGr dPa dFt) s.heap.size)) (F0 m 27 ls []) := by
    intro n
    induction n with
    | zero => intro _ _ _ _ _ _ _ _ _ _ _ _ _ _ _ _ h; rw [fl_read_L27.eq_1] at h; cases h
    | succ n ih =>
      intro x3_27 dPk_27x dWn_27x dGw_27x dGk_27x dOw_27x dSt_27x dPe_27x dHo_27x dGr_27x dPa_27x dFt_27x H locs ls kx h hP hD hS hl hk
      rw [fl_read_L27.eq_2] at h
      refine lv_iload_n hx hb dX3_read_27 rfl (lv_at hl 0 rfl) ?_
      refine lv_iload_n hx hb dX3_read_28 rfl (lv_at hl 3 rfl) ?_
      refine lv_icmp_ge (tgt := 56) hx hb dX3_read_29 (by decide) (fun c1 => ?_) (fun c1 => ?_)
      · have h := iT c1 h
        exact hk _ _ _ _ _ _ _ _ _ _ _ _ _ _ _ h hP hD hS (lv_sub hl [0, 1, 2, 3] rfl)
      · have h := iF c1 h
        refine lv_iload_n hx hb dX3_read_32 rfl (lv_at hl 0 rfl) ?_
        refine lv_aload_n hx hb dX3_read_33 rfl (lv_at hl 2 rfl) ?_
        refine va_alen (v := 56) hx hb hK.1 hP 1 0 rfl rfl rfl dX3_read_34 ?_
        refine lv_icmp_ge (tgt := 56) hx hb dX3_read_35 (by decide) (fun c2 => ?_) (fun c2 => ?_)
        · have h := iT c2 h
          exact hk _ _ _ _ _ _ _ _ _ _ _ _ _ _ _ h hP hD hS (lv_sub hl [0, 1, 2, 3] rfl)
        · have h := iF c2 h
          refine lv_aload_n hx hb dX3_read_38 rfl (lv_at hl 1 rfl) ?_
          refine lv_aload_n hx hb dX3_read_39 rfl (lv_at hl 2 rfl) ?_
          refine lv_iload_n hx hb dX3_read_40 rfl (lv_at hl 0 rfl) ?_
          obtain ⟨hi3, h⟩ := gI_some h
          refine ldI (v := (xText (Int32.toNatClampNeg x3_27))) hx hb hK.1 hP 1 rfl rfl hi3 rfl dX3_read_41 ?_
          obtain ⟨q4, hq4, h⟩ := bS h
          refine wcI (va_runV (As := [.int (xText (Int32.toNatClampNeg x3_27))]) (rest := []) ⟨hx, hb, hml, hown, hts⟩ (c_fl_takes l D cI cJ cZ a g d xText xLetters xNow xKept xIsKept xChance xScenes xASize xSKinds xSLifts xSFlights xSSize xTally xOut fPk fWn fGw fGk fOw fSt fPe fHo fGr fPa fFt dPk_27x dWn_27x dGw_27x dGk_27x dOw_27x dSt_27x dPe_27x dHo_27x dGr_27x dPa_27x dFt_27x H.size (xText (Int32.toNatClampNeg x3_27)) q4.1 q4.2.1 q4.2.2.1 q4.2.2.2.1 q4.2.2.2.2.1 q4.2.2.2.2.2.1 q4.2.2.2.2.2.2.1 q4.2.2.2.2.2.2.2.1 q4.2.2.2.2.2.2.2.2.1 q4.2.2.2.2.2.2.2.2.2.1 q4.2.2.2.2.2.2.2.2.2.2.1 q4.2.2.2.2.2.2.2.2.2.2.2 hq4) (cwV 1 hts gX3_read_X3_takes rfl rfl rfl (by decide +kernel) ⟨Nat.le_of_ble_eq_true rfl, Nat.le_of_ble_eq_true rfl⟩) (wPreV hK hP hD (ci := 2) (q0 := 20) rfl rfl) rfl rfl hl.1 rfl (lv_room (Nat.le_of_ble_eq_true rfl)) dX3_read_42 ⟨Nat.zero_le _, Nat.zero_le _⟩) hD hS hA (fun H locs hP hD hS => ?_)
          have hP : va_P D vwCl (xW a g d cI cJ cZ (g 0) (d 0) xText xLetters xNow xKept xIsKept xChance xScenes xASize xSKinds xSLifts xSFlights xSSize xTally xOut fPk fWn fGw fGk fOw fSt fPe fHo fGr fPa fFt q4.2.1 q4.2.2.1 q4.2.2.2.1 q4.2.2.2.2.1 q4.2.2.2.2.2.1 q4.2.2.2.2.2.2.1 q4.2.2.2.2.2.2.2.1 q4.2.2.2.2.2.2.2.2.1 q4.2.2.2.2.2.2.2.2.2.1 q4.2.2.2.2.2.2.2.2.2.2.1 q4.2.2.2.2.2.2.2.2.2.2.2) H := hP
          have hD : va_D A (xW a g d cI cJ cZ (g 0) (d 0) xText xLetters xNow xKept xIsKept xChance xScenes xASize xSKinds xSLifts xSFlights xSSize xTally xOut fPk fWn fGw fGk fOw fSt fPe fHo fGr fPa fFt q4.2.1 q4.2.2.1 q4.2.2.2.1 q4.2.2.2.2.1 q4.2.2.2.2.2.1 q4.2.2.2.2.2.2.1 q4.2.2.2.2.2.2.2.1 q4.2.2.2.2.2.2.2.2.1 q4.2.2.2.2.2.2.2.2.2.1 q4.2.2.2.2.2.2.2.2.2.2.1 q4.2.2.2.2.2.2.2.2.2.2.2) := hD
          refine lv_if_ne (tgt := 50) hx hb dX3_read_45 (by decide) (fun c5 => ?_) (fun c5 => ?_)
          · have h := iF c5 h
            refine lv_iinc (v := (x3_27 + 1)) (lv' := [(3, .int (x3_27 + 1)), (0, .ref (d 0)), (1, .ref (a 1)), (2, .int p2)]) hx hb dX3_read_50 hl (k := 0) rfl rfl (by decide) rfl (fun ls hl => ?_)
            refine lv_goto (tgt := 27) hx hb dX3_read_53 (by decide) ?_
            exact ih _ _ _ _ _ _ _ _ _ _ _ _ _ _ _ _ h hP hD hS (lv_sub hl [0, 1, 2, 3] rfl) hk
          · have h := iT c5 h
            refine lv_iload_n hx hb dX3_read_48 rfl (lv_at hl 0 rfl) ?_
            cases h
            subst hAe
            exact W.iret hx hb hr (fun t ht _ => ⟨⟨_, (), rfl, rfl, by rw [ht]; exact hP, hD⟩, hS.F ht⟩) hS.2.2 dX3_read_49
  refine L27 _ _ _ _ _ _ _ _ _ _ _ _ _ _ _ _ _ h hP hD hS hl (fun y3_27 dPk_27 dWn_27 dGw_27 dGk_27 dOw_27 dSt_27 dPe_27 dHo_27 dGr_27 dPa_27 dFt_27 H locs ls h hP hD hS hl => ?_)
  refine lv_aload_n hx hb dX3_read_56 rfl (lv_at hl 1 rfl) ?_
  refine va_get (D := D) (ci := 2) (v := .int dPa_27) (C := RX3) (T := TX3) (N := 11) hx hb hts hiX3 hown hK.1 hP 20 rfl rfl 9 (by decide) (hts (.fieldLink RX3 40 "WinnowedGuilt$Floor" "part" "I") (by decide +kernel)) (fun _ h9 => h9) rfl dX3_read_57 ?_
  refine lv_bipush (v := 87) hx hb dX3_read_60 (by decide) ?_
  refine lv_icmp_ne (tgt := 70) hx hb dX3_read_62 (by decide) (fun c1 => ?_) (fun c1 => ?_)
  · have h := iF c1 h
    refine lv_iload_n hx hb dX3_read_70 rfl (lv_at hl 3 rfl) ?_
    cases h
    subst hAe
    exact W.iret hx hb hr (fun t ht _ => ⟨⟨_, (), rfl, rfl, by rw [ht]; exact hP, hD⟩, hS.F ht⟩) hS.2.2 dX3_read_71
  · have h := iT c1 h
    refine lv_bipush (v := (-9)) hx hb dX3_read_65 (by decide) ?_
    refine lv_goto (tgt := 71) hx hb dX3_read_67 (by decide) ?_
    cases h
    subst hAe
    exact W.iret hx hb hr (fun t ht _ => ⟨⟨_, (), rfl, rfl, by rw [ht]; exact hP, hD⟩, hS.F ht⟩) hS.2.2 dX3_read_71

set_option maxHeartbeats 4000000 in
set_option maxRecDepth 100000 in
theorem c_xx_fault (l : Launch) (D : va_G) (cI cJ cZ : ClassId) (a : Nat → Nat) (g : Nat → Nat) (d : Nat → Nat) (xText : Nat → Int32) (xLetters : Int32) (xNow : Int64) (xKept : Nat → Int64) (xIsKept : Nat → Int32) (xChance : Int64) (xScenes : Nat → Int64) (xASize : Int32) (xSKinds : Nat → Int32) (xSLifts : Nat → Int32) (xSFlights : Nat → Int32) (xSSize : Int32) (xTally : Nat → Int32) (xOut : Nat → Int64) (fPk : Nat → Int32) (fWn : Nat → Int32) (fGw : Nat → Int32) (fGk : Nat → Int32) (fOw : Nat → Int32) (fSt : Nat → Int32) (fPe : Int32) (fHo : Int32) (fGr : Int32) (fPa : Int32) (fFt : Int32) (dPk : Nat → Int32) (dWn : Nat → Int32) (dGw : Nat → Int32) (dGk : Nat → Int32) (dOw : Nat → Int32) (dSt : Nat → Int32) (dPe : Int32) (dHo : Int32) (dGr : Int32) (dPa : Int32) (dFt : Int32)  (sz : Nat)  (rv : Int32) (dPk_r : Nat → Int32) (dWn_r : Nat → Int32) (dGw_r : Nat → Int32) (dGk_r : Nat → Int32) (dOw_r : Nat → Int32) (dSt_r : Nat → Int32) (dPe_r : Int32) (dHo_r : Int32) (dGr_r : Int32) (dPa_r : Int32) (dFt_r : Int32) (h : xx_fault xText xLetters dPk dWn dGw dGk dOw dSt = some (rv, dPk_r, dWn_r, dGw_r, dGk_r, dOw_r, dSt_r, dPe_r, dHo_r, dGr_r, dPa_r, dFt_r)) : Met l yX11_fault wsX11_fault ({ frames := 4, cells := 0, slots := 0, locals := 88 } : Room) (wPc D cI cJ cZ (xW a g d cI cJ cZ (g 0) (d 0) xText xLetters xNow xKept xIsKept xChance xScenes xASize xSKinds xSLifts xSFlights xSSize xTally xOut fPk fWn fGw fGk fOw fSt fPe fHo fGr fPa fFt dPk dWn dGw dGk dOw dSt dPe dHo dGr dPa dFt) sz [.ref (a 0)]) (wQi D (xW a g d cI cJ cZ (g 0) (d 0) xText xLetters xNow xKept xIsKept xChance xScenes xASize xSKinds xSLifts xSFlights xSSize xTally xOut fPk fWn fGw fGk fOw fSt fPe fHo fGr fPa fFt dPk dWn dGw dGk dOw dSt dPe dHo dGr dPa dFt) (xW a g d cI cJ cZ (g 0) (d 0) xText xLetters xNow xKept xIsKept xChance xScenes xASize xSKinds xSLifts xSFlights xSSize xTally xOut fPk fWn fGw fGk fOw fSt fPe fHo fGr fPa fFt dPk_r dWn_r dGw_r dGk_r dOw_r dSt_r dPe_r dHo_r dGr_r dPa_r dFt_r) sz rv) 0 0 (va_A (xW a g d cI cJ cZ (g 0) (d 0) xText xLetters xNow xKept xIsKept xChance xScenes xASize xSKinds xSLifts xSFlights xSSize xTally xOut fPk fWn fGw fGk fOw fSt fPe fHo fGr fPa fFt dPk dWn dGw dGk dOw dSt dPe dHo dGr dPa dFt) sz) := by
  unfold xx_fault at h
  refine Met.ofW (cc := cX11_fault) (maxL := 1) (ret := (some .int)) (by decide) rfl ?_
  intro p e s m args below meth c s₁ B hml hv
  obtain ⟨rfl, hsz, hP, hK, hD0⟩ := hv
  have hx := B.exec
  have hb := B.bytes
  have hr := B.returns
  have hts := atoms_spec (ws := wsX11_fault) B.pre
  have hown : s.vm.findClass RX11 = some m.cls := findClass_of_methodNamed B.named
  have hlocks := B.notSynchronized
  subst hsz
  have hD := hD0.self (sz := s.heap.size)
  have hA : ∀ q : Nat, s.heap.size ≤ q → va_A (xW a g d cI cJ cZ (g 0) (d 0) xText xLetters xNow xKept xIsKept xChance xScenes xASize xSKinds xSLifts xSFlights xSSize xTally xOut fPk fWn fGw fGk fOw fSt fPe fHo fGr fPa fFt dPk dWn dGw dGk dOw dSt dPe dHo dGr dPa dFt) s.heap.size q := fun q h => Or.inr h
  have hS : va_S (va_A (xW a g d cI cJ cZ (g 0) (d 0) xText xLetters xNow xKept xIsKept xChance xScenes xASize xSKinds xSLifts xSFlights xSSize xTally xOut fPk fWn fGw fGk fOw fSt fPe fHo fGr fPa fFt dPk dWn dGw dGk dOw dSt dPe dHo dGr dPa dFt) s.heap.size) s.heap s.heap [] := va_S.rf
  obtain ⟨A, hAe⟩ : ∃ A, A = va_A (xW a g d cI cJ cZ (g 0) (d 0) xText xLetters xNow xKept xIsKept xChance xScenes xASize xSKinds xSLifts xSFlights xSSize xTally xOut fPk fWn fGw fGk fOw fSt fPe fHo fGr fPa fFt dPk dWn dGw dGk dOw dSt dPe dHo dGr dPa dFt) s.heap.size := ⟨_, rfl⟩
  rw [← hAe] at hD hA hS
  have hl := lv_entry ([.ref (a 0)]) (n := 1) (Nat.le_of_ble_eq_true rfl)
  rw [lg_entry_eq]
  generalize (lg_sl ([.ref (a 0)]) ++ List.replicate (1 - (lg_sl ([.ref (a 0)])).length) Slot.unset).toArray = ls at hl ⊢
  have hl : lv_has ls 1 [(0, .ref (a 0))] := hl
  have hiX11 : ∀ w ∈ u_ws RX11 TX11 11, w ∈ wsX11_fault := fun w hw => List.mem_cons_of_mem _ (List.mem_append_left _ (List.mem_append_right _ hw))
  refine lv_aload_n hx hb dX11_fault_0 rfl (lv_at hl 0 rfl) ?_
  refine va_get (D := D) (ci := 4) (v := .ref (d 0)) (C := RX11) (T := TX11) (N := 11) hx hb hts hiX11 hown hK.1 hP 0 rfl rfl 3 (by decide) (hts (.fieldLink RX11 20 "WinnowedGuilt" "draft" "LWinnowedGuilt$Floor;") (by decide +kernel)) (fun _ h9 => h9) rfl dX11_fault_1 ?_
  refine lv_aload_n hx hb dX11_fault_4 rfl (lv_at hl 0 rfl) ?_
  refine va_get (D := D) (ci := 4) (v := .ref (a 1)) (C := RX11) (T := TX11) (N := 11) hx hb hts hiX11 hown hK.1 hP 0 rfl rfl 0 (by decide) (hts (.fieldLink RX11 9 "WinnowedGuilt" "text" "[I") (by decide +kernel)) (fun _ h9 => h9) rfl dX11_fault_5 ?_
  refine lv_aload_n hx hb dX11_fault_8 rfl (lv_at hl 0 rfl) ?_
  refine va_get (D := D) (ci := 4) (v := .int xLetters) (C := RX11) (T := TX11) (N := 11) hx hb hts hiX11 hown hK.1 hP 0 rfl rfl 1 (by decide) (hts (.fieldLink RX11 60 "WinnowedGuilt" "letters" "I") (by decide +kernel)) (fun _ h9 => h9) rfl dX11_fault_9 ?_
  obtain ⟨q1, hq1, h⟩ := bS h
  refine wcI (va_runV (As := [.ref (a 1), .int xLetters]) (rest := []) ⟨hx, hb, hml, hown, hts⟩ (c_fl_read l D cI cJ cZ a g d xText xLetters xNow xKept xIsKept xChance xScenes xASize xSKinds xSLifts xSFlights xSSize xTally xOut fPk fWn fGw fGk fOw fSt fPe fHo fGr fPa fFt dPk dWn dGw dGk dOw dSt dPe dHo dGr dPa dFt s.heap.size xLetters q1.1 q1.2.1 q1.2.2.1 q1.2.2.2.1 q1.2.2.2.2.1 q1.2.2.2.2.2.1 q1.2.2.2.2.2.2.1 q1.2.2.2.2.2.2.2.1 q1.2.2.2.2.2.2.2.2.1 q1.2.2.2.2.2.2.2.2.2.1 q1.2.2.2.2.2.2.2.2.2.2.1 q1.2.2.2.2.2.2.2.2.2.2.2 hq1) (cwV 2 hts gX11_fault_X3_read rfl rfl rfl (by decide +kernel) ⟨Nat.le_of_ble_eq_true rfl, Nat.le_of_ble_eq_true rfl⟩) (wPreV hK hP hD (ci := 2) (q0 := 20) rfl rfl) rfl rfl hl.1 rfl (lv_room (Nat.le_of_ble_eq_true rfl)) dX11_fault_12 ⟨Nat.zero_le _, Nat.zero_le _⟩) hD hS hA (fun H locs hP hD hS => ?_)
  have hP : va_P D vwCl (xW a g d cI cJ cZ (g 0) (d 0) xText xLetters xNow xKept xIsKept xChance xScenes xASize xSKinds xSLifts xSFlights xSSize xTally xOut fPk fWn fGw fGk fOw fSt fPe fHo fGr fPa fFt q1.2.1 q1.2.2.1 q1.2.2.2.1 q1.2.2.2.2.1 q1.2.2.2.2.2.1 q1.2.2.2.2.2.2.1 q1.2.2.2.2.2.2.2.1 q1.2.2.2.2.2.2.2.2.1 q1.2.2.2.2.2.2.2.2.2.1 q1.2.2.2.2.2.2.2.2.2.2.1 q1.2.2.2.2.2.2.2.2.2.2.2) H := hP
  have hD : va_D A (xW a g d cI cJ cZ (g 0) (d 0) xText xLetters xNow xKept xIsKept xChance xScenes xASize xSKinds xSLifts xSFlights xSSize xTally xOut fPk fWn fGw fGk fOw fSt fPe fHo fGr fPa fFt q1.2.1 q1.2.2.1 q1.2.2.2.1 q1.2.2.2.2.1 q1.2.2.2.2.2.1 q1.2.2.2.2.2.2.1 q1.2.2.2.2.2.2.2.1 q1.2.2.2.2.2.2.2.2.1 q1.2.2.2.2.2.2.2.2.2.1 q1.2.2.2.2.2.2.2.2.2.2.1 q1.2.2.2.2.2.2.2.2.2.2.2) := hD
  cases h
  subst hAe
  exact W.iret hx hb hr (fun t ht _ => ⟨⟨_, (), rfl, rfl, by rw [ht]; exact hP, hD⟩, hS.F ht⟩) hS.2.2 dX11_fault_15

set_option maxHeartbeats 4000000 in
set_option maxRecDepth 100000 in
theorem c_sc_withPlace (l : Launch) (D : va_G) (cI cJ cZ : ClassId)  (H0 : Heap) (p0 : Int64) (p2 : Int32) (p3 : Int32) (rv : Int64) (h : sc_withPlace p0 p2 p3 = some rv) : Met l yX7_withPlace wsX7_withPlace ({ frames := 0, cells := 0, slots := 0, locals := 0 } : Room) (rPc D cI cJ cZ H0 [.long p0, .int p2, .int p3]) (vp_Sl (fun r => r = rv)) 0 0 (fun _ => False) := by
  unfold sc_withPlace at h
  refine Met.ofW (cc := cX7_withPlace) (maxL := 5) (ret := (some .long)) (by decide) rfl ?_
  intro p e s m args below meth c s₁ B hml hv
  obtain ⟨rfl, hH, hK⟩ := hv
  have hx := B.exec
  have hb := B.bytes
  have hr := B.returns
  have hts := atoms_spec (ws := wsX7_withPlace) B.pre
  have hown : s.vm.findClass RX7 = some m.cls := findClass_of_methodNamed B.named
  have hlocks := B.notSynchronized
  subst hH
  have hl := lv_entry ([.long p0, .int p2, .int p3]) (n := 5) (Nat.le_of_ble_eq_true rfl)
  rw [lg_entry_eq]
  generalize (lg_sl ([.long p0, .int p2, .int p3]) ++ List.replicate (5 - (lg_sl ([.long p0, .int p2, .int p3])).length) Slot.unset).toArray = ls at hl ⊢
  have hl : lv_has ls 5 [(0, .long p0), (2, .int p2), (3, .int p3)] := hl
  refine lv_iconst (v := 4) hx hb dX7_withPlace_0 (by decide) ?_
  refine lv_iload_n hx hb dX7_withPlace_1 rfl (lv_at hl 1 rfl) ?_
  refine lv_imul hx hb dX7_withPlace_2 ?_
  refine lv_istore (lv' := [(4, .int (4 * p2)), (0, .long p0), (2, .int p2), (3, .int p3)]) hx hb dX7_withPlace_3 hl (by decide) rfl (fun ls hl => ?_)
  refine lv_lload_n hx hb dX7_withPlace_5 rfl (lv_at hl 1 rfl) ?_
  refine lv_ldc2 (own := RX7) (v := 15) hx hb hown (hts (.constantLong RX7 11 (15)) (by decide +kernel)) dX7_withPlace_6 ?_
  refine lv_iload hx hb dX7_withPlace_9 (lv_at hl 0 rfl) ?_
  refine lv_lshl (v := (15 <<< (Int32.toInt64 (4 * p2) &&& 63))) hx hb dX7_withPlace_11 rfl ?_
  refine lv_ldc2 (own := RX7) (v := (-1)) hx hb hown (hts (.constantLong RX7 13 (-1)) (by decide +kernel)) dX7_withPlace_12 ?_
  refine lv_lxor hx hb dX7_withPlace_15 ?_
  refine lv_land hx hb dX7_withPlace_16 ?_
  refine lv_iload_n hx hb dX7_withPlace_17 rfl (lv_at hl 3 rfl) ?_
  refine lv_i2l (v := (Int32.toInt64 p3)) hx hb dX7_withPlace_18 rfl ?_
  refine lv_iload hx hb dX7_withPlace_19 (lv_at hl 0 rfl) ?_
  refine lv_lshl (v := ((Int32.toInt64 p3) <<< (Int32.toInt64 (4 * p2) &&& 63))) hx hb dX7_withPlace_21 rfl ?_
  refine lv_lor hx hb dX7_withPlace_22 ?_
  exact W.lret hx hb hr (fun t ht _ => ⟨_, rfl, Option.some.inj h, ht⟩) (fun _ q => absurd q List.not_mem_nil) dX7_withPlace_23

set_option maxHeartbeats 4000000 in
set_option maxRecDepth 100000 in
theorem c_fl_firstScene (l : Launch) (D : va_G) (cI cJ cZ : ClassId) (g : Nat → Nat) (fPk : Nat → Int32) (fWn : Nat → Int32) (fGw : Nat → Int32) (fGk : Nat → Int32) (fOw : Nat → Int32) (fSt : Nat → Int32) (fPe : Int32) (fHo : Int32) (fGr : Int32) (fPa : Int32) (fFt : Int32)  (H0 : Heap) (hP : va_P D vwCl (fW g cI fPk fWn fGw fGk fOw fSt fPe fHo fGr fPa fFt) H0)  (rv : Int64) (h : fl_firstScene fSt fGr = some rv) : Met l yX3_firstScene wsX3_firstScene ({ frames := 1, cells := 0, slots := 0, locals := 24 } : Room) (rPc D cI cJ cZ H0 [.ref (g 0)]) (vp_Sl (fun r => r = rv)) 0 0 (fun _ => False) := by
  unfold fl_firstScene at h
  refine Met.ofW (cc := cX3_firstScene) (maxL := 4) (ret := (some .long)) (by decide) rfl ?_
  intro p e s m args below meth c s₁ B hml hv
  obtain ⟨rfl, hH, hK⟩ := hv
  have hx := B.exec
  have hb := B.bytes
  have hr := B.returns
  have hts := atoms_spec (ws := wsX3_firstScene) B.pre
  have hown : s.vm.findClass RX3 = some m.cls := findClass_of_methodNamed B.named
  have hlocks := B.notSynchronized
  subst hH
  have hl := lv_entry ([.ref (g 0)]) (n := 4) (Nat.le_of_ble_eq_true rfl)
  rw [lg_entry_eq]
  generalize (lg_sl ([.ref (g 0)]) ++ List.replicate (4 - (lg_sl ([.ref (g 0)])).length) Slot.unset).toArray = ls at hl ⊢
  have hl : lv_has ls 4 [(0, .ref (g 0))] := hl
  have hiX3 : ∀ w ∈ u_ws RX3 TX3 11, w ∈ wsX3_firstScene := fun w hw => List.mem_cons_of_mem _ (List.mem_append_right _ hw)
  refine lv_ldc2 (own := RX3) (v := 4026531840) hx hb hown (hts (.constantLong RX3 71 (4026531840)) (by decide +kernel)) dX3_firstScene_0 ?_
  refine lv_lstore_n (lv' := [(1, .long 4026531840), (0, .ref (g 0))]) hx hb dX3_firstScene_3 rfl hl (by decide) rfl (fun ls hl => ?_)
  refine lv_iconst (v := 0) hx hb dX3_firstScene_4 (by decide) ?_
  refine lv_istore_n (lv' := [(3, .int 0), (1, .long 4026531840), (0, .ref (g 0))]) hx hb dX3_firstScene_5 rfl hl (by decide) rfl (fun ls hl => ?_)
  have L6 : ∀ (n : Nat) (x3_6 : Int32) (x1_6 : Int64) (ls : Array Slot) (kx : Int32 → Int64 → Option (Int64)), fl_firstScene_L6 fSt fGr kx n x3_6 x1_6 = some rv → lv_has ls 4 [(3, .int x3_6), (1, .long x1_6), (0, .ref (g 0))] → (∀ (y3_6 : Int32) (y1_6 : Int64) (ls : Array Slot), kx y3_6 y1_6 = some rv → lv_has ls 4 [(3, .int y3_6), (1, .long y1_6), (0, .ref (g 0))] → W p l e (headSpec wsX3_firstScene ({ frames := 1, cells := 0, slots := 0, locals := 24 } : Room)).room s m ([.ref (g 0)] : List Value).toArray below meth c s.heap [] 0 0 (MQ below (vp_Sl (fun r => r = rv)) ([.ref (g 0)] : List Value).toArray s 0 0 (fun _ => False)) (F0 m 41 ls [])) → W p l e (headSpec wsX3_firstScene ({ frames := 1, cells := 0, slots := 0, locals := 24 } : Room)).room s m ([.ref (g 0)] : List Value).toArray below meth c s.heap [] 0 0 (MQ below (vp_Sl (fun r => r = rv)) ([.ref (g 0)] : List Value).toArray s 0 0 (fun _ => False)) (F0 m 6 ls []) := by
    intro n
    induction n with
    | zero => intro _ _ _ _ h; rw [fl_firstScene_L6.eq_1] at h; cases h
    | succ n ih =>
      intro x3_6 x1_6 ls kx h hl hk
      rw [fl_firstScene_L6.eq_2] at h
      refine lv_iload_n hx hb dX3_firstScene_6 rfl (lv_at hl 0 rfl) ?_
      refine lv_aload_n hx hb dX3_firstScene_7 rfl (lv_at hl 2 rfl) ?_
      refine va_get (D := D) (ci := 2) (v := .int fGr) (C := RX3) (T := TX3) (N := 11) hx hb hts hiX3 hown hK.1 hP 0 rfl rfl 8 (by decide) (hts (.fieldLink RX3 37 "WinnowedGuilt$Floor" "grains" "I") (by decide +kernel)) (fun _ h9 => h9) rfl dX3_firstScene_8 ?_
      refine lv_icmp_ge (tgt := 41) hx hb dX3_firstScene_11 (by decide) (fun c1 => ?_) (fun c1 => ?_)
      · have h := iT c1 h
        exact hk _ _ _ h (lv_sub hl [0, 1, 2] rfl)
      · have h := iF c1 h
        refine lv_iload_n hx hb dX3_firstScene_14 rfl (lv_at hl 0 rfl) ?_
        refine lv_aload_n hx hb dX3_firstScene_15 rfl (lv_at hl 2 rfl) ?_
        refine va_get (D := D) (ci := 2) (v := .ref (g 6)) (C := RX3) (T := TX3) (N := 11) hx hb hts hiX3 hown hK.1 hP 0 rfl rfl 5 (by decide) (hts (.fieldLink RX3 27 "WinnowedGuilt$Floor" "starts" "[I") (by decide +kernel)) (fun _ h9 => h9) rfl dX3_firstScene_16 ?_
        refine va_alen (v := 7) hx hb hK.1 hP 6 0 rfl rfl rfl dX3_firstScene_19 ?_
        refine lv_icmp_ge (tgt := 41) hx hb dX3_firstScene_20 (by decide) (fun c2 => ?_) (fun c2 => ?_)
        · have h := iT c2 h
          exact hk _ _ _ h (lv_sub hl [0, 1, 2] rfl)
        · have h := iF c2 h
          refine lv_lload_n hx hb dX3_firstScene_23 rfl (lv_at hl 1 rfl) ?_
          refine lv_iload_n hx hb dX3_firstScene_24 rfl (lv_at hl 0 rfl) ?_
          refine lv_aload_n hx hb dX3_firstScene_25 rfl (lv_at hl 2 rfl) ?_
          refine va_get (D := D) (ci := 2) (v := .ref (g 6)) (C := RX3) (T := TX3) (N := 11) hx hb hts hiX3 hown hK.1 hP 0 rfl rfl 5 (by decide) (hts (.fieldLink RX3 27 "WinnowedGuilt$Floor" "starts" "[I") (by decide +kernel)) (fun _ h9 => h9) rfl dX3_firstScene_26 ?_
          refine lv_iload_n hx hb dX3_firstScene_29 rfl (lv_at hl 0 rfl) ?_
          obtain ⟨hi3, h⟩ := gI_some h
          refine ldI (v := (fSt (Int32.toNatClampNeg x3_6))) hx hb hK.1 hP 6 rfl rfl hi3 rfl dX3_firstScene_30 ?_
          obtain ⟨q4, hq4, h⟩ := bS h
          refine rcL (va_runS (As := [.long x1_6, .int x3_6, .int (fSt (Int32.toNatClampNeg x3_6))]) (rest := []) ⟨hx, hb, hml, hown, hts⟩ (c_sc_withPlace l D cI cJ cZ   s.heap x1_6 x3_6 (fSt (Int32.toNatClampNeg x3_6)) q4 hq4) (va_cwS 3 hts gX3_firstScene_X7_withPlace rfl rfl rfl (by decide +kernel) ⟨Nat.le_of_ble_eq_true rfl, Nat.le_of_ble_eq_true rfl⟩) (rPreS hK) rfl rfl hl.1 rfl (lv_room (Nat.le_of_ble_eq_true rfl)) dX3_firstScene_31 ⟨Nat.zero_le _, Nat.zero_le _⟩) ?_
          refine lv_lstore_n (lv' := [(1, .long q4), (3, .int x3_6), (0, .ref (g 0))]) hx hb dX3_firstScene_34 rfl hl (by decide) rfl (fun ls hl => ?_)
          refine lv_iinc (v := (x3_6 + 1)) (lv' := [(3, .int (x3_6 + 1)), (1, .long q4), (0, .ref (g 0))]) hx hb dX3_firstScene_35 hl (k := 1) rfl rfl (by decide) rfl (fun ls hl => ?_)
          refine lv_goto (tgt := 6) hx hb dX3_firstScene_38 (by decide) ?_
          exact ih _ _ _ _ h (lv_sub hl [0, 1, 2] rfl) hk
  refine L6 _ _ _ _ _ h hl (fun y3_6 y1_6 ls h hl => ?_)
  refine lv_lload_n hx hb dX3_firstScene_41 rfl (lv_at hl 1 rfl) ?_
  exact W.lret hx hb hr (fun t ht _ => ⟨_, rfl, Option.some.inj h, ht⟩) (fun _ q => absurd q List.not_mem_nil) dX3_firstScene_42

set_option maxHeartbeats 4000000 in
set_option maxRecDepth 100000 in
theorem c_ac_forgetAll (l : Launch) (D : va_G) (cI cJ cZ : ClassId) (a : Nat → Nat) (g : Nat → Nat) (d : Nat → Nat) (xText : Nat → Int32) (xLetters : Int32) (xNow : Int64) (xKept : Nat → Int64) (xIsKept : Nat → Int32) (xChance : Int64) (xScenes : Nat → Int64) (xASize : Int32) (xSKinds : Nat → Int32) (xSLifts : Nat → Int32) (xSFlights : Nat → Int32) (xSSize : Int32) (xTally : Nat → Int32) (xOut : Nat → Int64) (fPk : Nat → Int32) (fWn : Nat → Int32) (fGw : Nat → Int32) (fGk : Nat → Int32) (fOw : Nat → Int32) (fSt : Nat → Int32) (fPe : Int32) (fHo : Int32) (fGr : Int32) (fPa : Int32) (fFt : Int32) (dPk : Nat → Int32) (dWn : Nat → Int32) (dGw : Nat → Int32) (dGk : Nat → Int32) (dOw : Nat → Int32) (dSt : Nat → Int32) (dPe : Int32) (dHo : Int32) (dGr : Int32) (dPa : Int32) (dFt : Int32)  (sz : Nat)  (xASize_r : Int32) (h : ac_forgetAll  = some xASize_r) : Met l yX0_forgetAll wsX0_forgetAll ({ frames := 0, cells := 0, slots := 0, locals := 0 } : Room) (wPc D cI cJ cZ (xW a g d cI cJ cZ (g 0) (d 0) xText xLetters xNow xKept xIsKept xChance xScenes xASize xSKinds xSLifts xSFlights xSSize xTally xOut fPk fWn fGw fGk fOw fSt fPe fHo fGr fPa fFt dPk dWn dGw dGk dOw dSt dPe dHo dGr dPa dFt) sz [.ref (a 2)]) (wQv D (xW a g d cI cJ cZ (g 0) (d 0) xText xLetters xNow xKept xIsKept xChance xScenes xASize xSKinds xSLifts xSFlights xSSize xTally xOut fPk fWn fGw fGk fOw fSt fPe fHo fGr fPa fFt dPk dWn dGw dGk dOw dSt dPe dHo dGr dPa dFt) (xW a g d cI cJ cZ (g 0) (d 0) xText xLetters xNow xKept xIsKept xChance xScenes xASize_r xSKinds xSLifts xSFlights xSSize xTally xOut fPk fWn fGw fGk fOw fSt fPe fHo fGr fPa fFt dPk dWn dGw dGk dOw dSt dPe dHo dGr dPa dFt) sz) 0 0 (va_A (xW a g d cI cJ cZ (g 0) (d 0) xText xLetters xNow xKept xIsKept xChance xScenes xASize xSKinds xSLifts xSFlights xSSize xTally xOut fPk fWn fGw fGk fOw fSt fPe fHo fGr fPa fFt dPk dWn dGw dGk dOw dSt dPe dHo dGr dPa dFt) sz) := by
  unfold ac_forgetAll at h
  refine Met.ofW (cc := cX0_forgetAll) (maxL := 1) (ret := none) (by decide) rfl ?_
  intro p e s m args below meth c s₁ B hml hv
  obtain ⟨rfl, hsz, hP, hK, hD0⟩ := hv
  have hx := B.exec
  have hb := B.bytes
  have hr := B.returns
  have hts := atoms_spec (ws := wsX0_forgetAll) B.pre
  have hown : s.vm.findClass RX0 = some m.cls := findClass_of_methodNamed B.named
  have hlocks := B.notSynchronized
  subst hsz
  have hD := hD0.self (sz := s.heap.size)
  have hA : ∀ q : Nat, s.heap.size ≤ q → va_A (xW a g d cI cJ cZ (g 0) (d 0) xText xLetters xNow xKept xIsKept xChance xScenes xASize xSKinds xSLifts xSFlights xSSize xTally xOut fPk fWn fGw fGk fOw fSt fPe fHo fGr fPa fFt dPk dWn dGw dGk dOw dSt dPe dHo dGr dPa dFt) s.heap.size q := fun q h => Or.inr h
  have hS : va_S (va_A (xW a g d cI cJ cZ (g 0) (d 0) xText xLetters xNow xKept xIsKept xChance xScenes xASize xSKinds xSLifts xSFlights xSSize xTally xOut fPk fWn fGw fGk fOw fSt fPe fHo fGr fPa fFt dPk dWn dGw dGk dOw dSt dPe dHo dGr dPa dFt) s.heap.size) s.heap s.heap [] := va_S.rf
  obtain ⟨A, hAe⟩ : ∃ A, A = va_A (xW a g d cI cJ cZ (g 0) (d 0) xText xLetters xNow xKept xIsKept xChance xScenes xASize xSKinds xSLifts xSFlights xSSize xTally xOut fPk fWn fGw fGk fOw fSt fPe fHo fGr fPa fFt dPk dWn dGw dGk dOw dSt dPe dHo dGr dPa dFt) s.heap.size := ⟨_, rfl⟩
  rw [← hAe] at hD hA hS
  have hl := lv_entry ([.ref (a 2)]) (n := 1) (Nat.le_of_ble_eq_true rfl)
  rw [lg_entry_eq]
  generalize (lg_sl ([.ref (a 2)]) ++ List.replicate (1 - (lg_sl ([.ref (a 2)])).length) Slot.unset).toArray = ls at hl ⊢
  have hl : lv_has ls 1 [(0, .ref (a 2))] := hl
  have hiX0 : ∀ w ∈ u_ws RX0 TX0 2, w ∈ wsX0_forgetAll := fun w hw => List.mem_cons_of_mem _ (List.mem_append_right _ hw)
  refine lv_aload_n hx hb dX0_forgetAll_0 rfl (lv_at hl 0 rfl) ?_
  refine lv_iconst (v := 0) hx hb dX0_forgetAll_1 (by decide) ?_
  refine va_put (D := D) (ci := 0) (v := .int 0) (ty := .int) (C := RX0) (T := TX0) (N := 2) hx hb hts hiX0 tyX0 tyX0_ok nmX0 hown hK.1 hP hD hS 4 rfl rfl 1 (by decide) (hts (.fieldLink RX0 15 "WinnowedGuilt$Acts" "size" "I") (by decide +kernel)) (fun _ h9 => h9) rfl (by decide +kernel) rfl rfl (Nat.le_of_ble_eq_true rfl) dX0_forgetAll_2 (fun H locs hP hD hS => ?_)
  have hP : va_P D vwCl (xW a g d cI cJ cZ (g 0) (d 0) xText xLetters xNow xKept xIsKept xChance xScenes 0 xSKinds xSLifts xSFlights xSSize xTally xOut fPk fWn fGw fGk fOw fSt fPe fHo fGr fPa fFt dPk dWn dGw dGk dOw dSt dPe dHo dGr dPa dFt) H := hP
  have hD : va_D A (xW a g d cI cJ cZ (g 0) (d 0) xText xLetters xNow xKept xIsKept xChance xScenes 0 xSKinds xSLifts xSFlights xSSize xTally xOut fPk fWn fGw fGk fOw fSt fPe fHo fGr fPa fFt dPk dWn dGw dGk dOw dSt dPe dHo dGr dPa dFt) := hD
  cases h
  subst hAe
  exact W.vret hx hb hr (fun t ht _ => ⟨⟨(), rfl, trivial, by rw [ht]; exact hP, hD⟩, hS.F ht⟩) hS.2.2 dX0_forgetAll_5

set_option maxHeartbeats 4000000 in
set_option maxRecDepth 100000 in
theorem c_xx_floor (l : Launch) (D : va_G) (cI cJ cZ : ClassId) (a : Nat → Nat) (g : Nat → Nat) (d : Nat → Nat) (xText : Nat → Int32) (xLetters : Int32) (xNow : Int64) (xKept : Nat → Int64) (xIsKept : Nat → Int32) (xChance : Int64) (xScenes : Nat → Int64) (xASize : Int32) (xSKinds : Nat → Int32) (xSLifts : Nat → Int32) (xSFlights : Nat → Int32) (xSSize : Int32) (xTally : Nat → Int32) (xOut : Nat → Int64) (fPk : Nat → Int32) (fWn : Nat → Int32) (fGw : Nat → Int32) (fGk : Nat → Int32) (fOw : Nat → Int32) (fSt : Nat → Int32) (fPe : Int32) (fHo : Int32) (fGr : Int32) (fPa : Int32) (fFt : Int32) (dPk : Nat → Int32) (dWn : Nat → Int32) (dGw : Nat → Int32) (dGk : Nat → Int32) (dOw : Nat → Int32) (dSt : Nat → Int32) (dPe : Int32) (dHo : Int32) (dGr : Int32) (dPa : Int32) (dFt : Int32)  (sz : Nat)  (rv : Int32) (g_r : Nat → Nat) (d_r : Nat → Nat) (xNow_r : Int64) (xIsKept_r : Nat → Int32) (xASize_r : Int32) (fPk_r : Nat → Int32) (fWn_r : Nat → Int32) (fGw_r : Nat → Int32) (fGk_r : Nat → Int32) (fOw_r : Nat → Int32) (fSt_r : Nat → Int32) (fPe_r : Int32) (fHo_r : Int32) (fGr_r : Int32) (fPa_r : Int32) (fFt_r : Int32) (dPk_r : Nat → Int32) (dWn_r : Nat → Int32) (dGw_r : Nat → Int32) (dGk_r : Nat → Int32) (dOw_r : Nat → Int32) (dSt_r : Nat → Int32) (dPe_r : Int32) (dHo_r : Int32) (dGr_r : Int32) (dPa_r : Int32) (dFt_r : Int32) (h : xx_floor g d xText xLetters xNow xIsKept xASize fPk fWn fGw fGk fOw fSt fPe fHo fGr fPa fFt dPk dWn dGw dGk dOw dSt = some (rv, g_r, d_r, xNow_r, xIsKept_r, xASize_r, fPk_r, fWn_r, fGw_r, fGk_r, fOw_r, fSt_r, fPe_r, fHo_r, fGr_r, fPa_r, fFt_r, dPk_r, dWn_r, dGw_r, dGk_r, dOw_r, dSt_r, dPe_r, dHo_r, dGr_r, dPa_r, dFt_r)) : Met l yX11_floor wsX11_floor ({ frames := 4, cells := 0, slots := 0, locals := 88 } : Room) (wPc D cI cJ cZ (xW a g d cI cJ cZ (g 0) (d 0) xText xLetters xNow xKept xIsKept xChance xScenes xASize xSKinds xSLifts xSFlights xSSize xTally xOut fPk fWn fGw fGk fOw fSt fPe fHo fGr fPa fFt dPk dWn dGw dGk dOw dSt dPe dHo dGr dPa dFt) sz [.ref (a 0)]) (wQi D (xW a g d cI cJ cZ (g 0) (d 0) xText xLetters xNow xKept xIsKept xChance xScenes xASize xSKinds xSLifts xSFlights xSSize xTally xOut fPk fWn fGw fGk fOw fSt fPe fHo fGr fPa fFt dPk dWn dGw dGk dOw dSt dPe dHo dGr dPa dFt) (xW a g_r d_r cI cJ cZ (g_r 0) (d_r 0) xText xLetters xNow_r xKept xIsKept_r xChance xScenes xASize_r xSKinds xSLifts xSFlights xSSize xTally xOut fPk_r fWn_r fGw_r fGk_r fOw_r fSt_r fPe_r fHo_r fGr_r fPa_r fFt_r dPk_r dWn_r dGw_r dGk_r dOw_r dSt_r dPe_r dHo_r dGr_r dPa_r dFt_r) sz rv) 0 0 (va_A (xW a g d cI cJ cZ (g 0) (d 0) xText xLetters xNow xKept xIsKept xChance xScenes xASize xSKinds xSLifts xSFlights xSSize xTally xOut fPk fWn fGw fGk fOw fSt fPe fHo fGr fPa fFt dPk dWn dGw dGk dOw dSt dPe dHo dGr dPa dFt) sz) := by
  unfold xx_floor at h
  refine Met.ofW (cc := cX11_floor) (maxL := 3) (ret := (some .int)) (by decide) rfl ?_
  intro p e s m args below meth c s₁ B hml hv
  obtain ⟨rfl, hsz, hP, hK, hD0⟩ := hv
  have hx := B.exec
  have hb := B.bytes
  have hr := B.returns
  have hts := atoms_spec (ws := wsX11_floor) B.pre
  have hown : s.vm.findClass RX11 = some m.cls := findClass_of_methodNamed B.named
  have hlocks := B.notSynchronized
  subst hsz
  have hD := hD0.self (sz := s.heap.size)
  have hA : ∀ q : Nat, s.heap.size ≤ q → va_A (xW a g d cI cJ cZ (g 0) (d 0) xText xLetters xNow xKept xIsKept xChance xScenes xASize xSKinds xSLifts xSFlights xSSize xTally xOut fPk fWn fGw fGk fOw fSt fPe fHo fGr fPa fFt dPk dWn dGw dGk dOw dSt dPe dHo dGr dPa dFt) s.heap.size q := fun q h => Or.inr h
  have hS : va_S (va_A (xW a g d cI cJ cZ (g 0) (d 0) xText xLetters xNow xKept xIsKept xChance xScenes xASize xSKinds xSLifts xSFlights xSSize xTally xOut fPk fWn fGw fGk fOw fSt fPe fHo fGr fPa fFt dPk dWn dGw dGk dOw dSt dPe dHo dGr dPa dFt) s.heap.size) s.heap s.heap [] := va_S.rf
  obtain ⟨A, hAe⟩ : ∃ A, A = va_A (xW a g d cI cJ cZ (g 0) (d 0) xText xLetters xNow xKept xIsKept xChance xScenes xASize xSKinds xSLifts xSFlights xSSize xTally xOut fPk fWn fGw fGk fOw fSt fPe fHo fGr fPa fFt dPk dWn dGw dGk dOw dSt dPe dHo dGr dPa dFt) s.heap.size := ⟨_, rfl⟩
  rw [← hAe] at hD hA hS
  have hl := lv_entry ([.ref (a 0)]) (n := 3) (Nat.le_of_ble_eq_true rfl)
  rw [lg_entry_eq]
  generalize (lg_sl ([.ref (a 0)]) ++ List.replicate (3 - (lg_sl ([.ref (a 0)])).length) Slot.unset).toArray = ls at hl ⊢
  have hl : lv_has ls 3 [(0, .ref (a 0))] := hl
  have hiX11 : ∀ w ∈ u_ws RX11 TX11 11, w ∈ wsX11_floor := fun w hw => List.mem_cons_of_mem _ (List.mem_append_left _ (List.mem_append_left _ (List.mem_append_right _ hw)))
  have hiX3 : ∀ w ∈ u_ws RX3 TX3 11, w ∈ wsX11_floor := fun w hw => List.mem_cons_of_mem _ (List.mem_append_left _ (List.mem_append_right _ hw))
  refine lv_aload_n hx hb dX11_floor_0 rfl (lv_at hl 0 rfl) ?_
  refine va_get (D := D) (ci := 4) (v := .ref (d 0)) (C := RX11) (T := TX11) (N := 11) hx hb hts hiX11 hown hK.1 hP 0 rfl rfl 3 (by decide) (hts (.fieldLink RX11 20 "WinnowedGuilt" "draft" "LWinnowedGuilt$Floor;") (by decide +kernel)) (fun _ h9 => h9) rfl dX11_floor_1 ?_
  refine lv_aload_n hx hb dX11_floor_4 rfl (lv_at hl 0 rfl) ?_
  refine va_get (D := D) (ci := 4) (v := .ref (a 1)) (C := RX11) (T := TX11) (N := 11) hx hb hts hiX11 hown hK.1 hP 0 rfl rfl 0 (by decide) (hts (.fieldLink RX11 9 "WinnowedGuilt" "text" "[I") (by decide +kernel)) (fun _ h9 => h9) rfl dX11_floor_5 ?_
  refine lv_aload_n hx hb dX11_floor_8 rfl (lv_at hl 0 rfl) ?_
  refine va_get (D := D) (ci := 4) (v := .int xLetters) (C := RX11) (T := TX11) (N := 11) hx hb hts hiX11 hown hK.1 hP 0 rfl rfl 1 (by decide) (hts (.fieldLink RX11 60 "WinnowedGuilt" "letters" "I") (by decide +kernel)) (fun _ h9 => h9) rfl dX11_floor_9 ?_
  obtain ⟨q1, hq1, h⟩ := bS h
  refine wcI (va_runV (As := [.ref (a 1), .int xLetters]) (rest := []) ⟨hx, hb, hml, hown, hts⟩ (c_fl_read l D cI cJ cZ a g d xText xLetters xNow xKept xIsKept xChance xScenes xASize xSKinds xSLifts xSFlights xSSize xTally xOut fPk fWn fGw fGk fOw fSt fPe fHo fGr fPa fFt dPk dWn dGw dGk dOw dSt dPe dHo dGr dPa dFt s.heap.size xLetters q1.1 q1.2.1 q1.2.2.1 q1.2.2.2.1 q1.2.2.2.2.1 q1.2.2.2.2.2.1 q1.2.2.2.2.2.2.1 q1.2.2.2.2.2.2.2.1 q1.2.2.2.2.2.2.2.2.1 q1.2.2.2.2.2.2.2.2.2.1 q1.2.2.2.2.2.2.2.2.2.2.1 q1.2.2.2.2.2.2.2.2.2.2.2 hq1) (cwV 2 hts gX11_floor_X3_read rfl rfl rfl (by decide +kernel) ⟨Nat.le_of_ble_eq_true rfl, Nat.le_of_ble_eq_true rfl⟩) (wPreV hK hP hD (ci := 2) (q0 := 20) rfl rfl) rfl rfl hl.1 rfl (lv_room (Nat.le_of_ble_eq_true rfl)) dX11_floor_12 ⟨Nat.zero_le _, Nat.zero_le _⟩) hD hS hA (fun H locs hP hD hS => ?_)
  have hP : va_P D vwCl (xW a g d cI cJ cZ (g 0) (d 0) xText xLetters xNow xKept xIsKept xChance xScenes xASize xSKinds xSLifts xSFlights xSSize xTally xOut fPk fWn fGw fGk fOw fSt fPe fHo fGr fPa fFt q1.2.1 q1.2.2.1 q1.2.2.2.1 q1.2.2.2.2.1 q1.2.2.2.2.2.1 q1.2.2.2.2.2.2.1 q1.2.2.2.2.2.2.2.1 q1.2.2.2.2.2.2.2.2.1 q1.2.2.2.2.2.2.2.2.2.1 q1.2.2.2.2.2.2.2.2.2.2.1 q1.2.2.2.2.2.2.2.2.2.2.2) H := hP
  have hD : va_D A (xW a g d cI cJ cZ (g 0) (d 0) xText xLetters xNow xKept xIsKept xChance xScenes xASize xSKinds xSLifts xSFlights xSSize xTally xOut fPk fWn fGw fGk fOw fSt fPe fHo fGr fPa fFt q1.2.1 q1.2.2.1 q1.2.2.2.1 q1.2.2.2.2.1 q1.2.2.2.2.2.1 q1.2.2.2.2.2.2.1 q1.2.2.2.2.2.2.2.1 q1.2.2.2.2.2.2.2.2.1 q1.2.2.2.2.2.2.2.2.2.1 q1.2.2.2.2.2.2.2.2.2.2.1 q1.2.2.2.2.2.2.2.2.2.2.2) := hD
  refine lv_bipush (v := (-9)) hx hb dX11_floor_15 (by decide) ?_
  refine lv_icmp_eq (tgt := 23) hx hb dX11_floor_17 (by decide) (fun c2 => ?_) (fun c2 => ?_)
  · have h := iT c2 h
    refine lv_aload_n hx hb dX11_floor_23 rfl (lv_at hl 0 rfl) ?_
    refine va_get (D := D) (ci := 4) (v := .ref (g 0)) (C := RX11) (T := TX11) (N := 11) hx hb hts hiX11 hown hK.1 hP 0 rfl rfl 2 (by decide) (hts (.fieldLink RX11 16 "WinnowedGuilt" "ground" "LWinnowedGuilt$Floor;") (by decide +kernel)) (fun _ h9 => h9) rfl dX11_floor_24 ?_
    refine lv_astore_n (lv' := [(1, .ref (g 0)), (0, .ref (a 0))]) hx hb dX11_floor_27 rfl hl (by decide) rfl (fun ls hl => ?_)
    refine lv_aload_n hx hb dX11_floor_28 rfl (lv_at hl 1 rfl) ?_
    refine lv_aload_n hx hb dX11_floor_29 rfl (lv_at hl 1 rfl) ?_
    refine va_get (D := D) (ci := 4) (v := .ref (d 0)) (C := RX11) (T := TX11) (N := 11) hx hb hts hiX11 hown hK.1 hP 0 rfl rfl 3 (by decide) (hts (.fieldLink RX11 20 "WinnowedGuilt" "draft" "LWinnowedGuilt$Floor;") (by decide +kernel)) (fun _ h9 => h9) rfl dX11_floor_30 ?_
    refine va_put (D := D) (ci := 4) (v := .ref (d 0)) (ty := .object "WinnowedGuilt$Floor") (C := RX11) (T := TX11) (N := 11) hx hb hts hiX11 tyX11 tyX11_ok nmX11 hown hK.1 hP hD hS 0 rfl rfl 2 (by decide) (hts (.fieldLink RX11 16 "WinnowedGuilt" "ground" "LWinnowedGuilt$Floor;") (by decide +kernel)) (fun _ h9 => h9) rfl (by decide +kernel) rfl rfl (Nat.le_of_ble_eq_true rfl) dX11_floor_33 (fun H locs hP hD hS => ?_)
    have hP : va_P D vwCl (xW a g d cI cJ cZ (d 0) (d 0) xText xLetters xNow xKept xIsKept xChance xScenes xASize xSKinds xSLifts xSFlights xSSize xTally xOut fPk fWn fGw fGk fOw fSt fPe fHo fGr fPa fFt q1.2.1 q1.2.2.1 q1.2.2.2.1 q1.2.2.2.2.1 q1.2.2.2.2.2.1 q1.2.2.2.2.2.2.1 q1.2.2.2.2.2.2.2.1 q1.2.2.2.2.2.2.2.2.1 q1.2.2.2.2.2.2.2.2.2.1 q1.2.2.2.2.2.2.2.2.2.2.1 q1.2.2.2.2.2.2.2.2.2.2.2) H := hP
    have hD : va_D A (xW a g d cI cJ cZ (d 0) (d 0) xText xLetters xNow xKept xIsKept xChance xScenes xASize xSKinds xSLifts xSFlights xSSize xTally xOut fPk fWn fGw fGk fOw fSt fPe fHo fGr fPa fFt q1.2.1 q1.2.2.1 q1.2.2.2.1 q1.2.2.2.2.1 q1.2.2.2.2.2.1 q1.2.2.2.2.2.2.1 q1.2.2.2.2.2.2.2.1 q1.2.2.2.2.2.2.2.2.1 q1.2.2.2.2.2.2.2.2.2.1 q1.2.2.2.2.2.2.2.2.2.2.1 q1.2.2.2.2.2.2.2.2.2.2.2) := hD
    refine lv_aload_n hx hb dX11_floor_36 rfl (lv_at hl 1 rfl) ?_
    refine lv_aload_n hx hb dX11_floor_37 rfl (lv_at hl 0 rfl) ?_
    refine va_put (D := D) (ci := 4) (v := .ref (g 0)) (ty := .object "WinnowedGuilt$Floor") (C := RX11) (T := TX11) (N := 11) hx hb hts hiX11 tyX11 tyX11_ok nmX11 hown hK.1 hP hD hS 0 rfl rfl 3 (by decide) (hts (.fieldLink RX11 20 "WinnowedGuilt" "draft" "LWinnowedGuilt$Floor;") (by decide +kernel)) (fun _ h9 => h9) rfl (by decide +kernel) rfl rfl (Nat.le_of_ble_eq_true rfl) dX11_floor_38 (fun H locs hP hD hS => ?_)
    have hP : va_P D vwCl (xW a g d cI cJ cZ (d 0) (g 0) xText xLetters xNow xKept xIsKept xChance xScenes xASize xSKinds xSLifts xSFlights xSSize xTally xOut fPk fWn fGw fGk fOw fSt fPe fHo fGr fPa fFt q1.2.1 q1.2.2.1 q1.2.2.2.1 q1.2.2.2.2.1 q1.2.2.2.2.2.1 q1.2.2.2.2.2.2.1 q1.2.2.2.2.2.2.2.1 q1.2.2.2.2.2.2.2.2.1 q1.2.2.2.2.2.2.2.2.2.1 q1.2.2.2.2.2.2.2.2.2.2.1 q1.2.2.2.2.2.2.2.2.2.2.2) H := hP
    have hD : va_D A (xW a g d cI cJ cZ (d 0) (g 0) xText xLetters xNow xKept xIsKept xChance xScenes xASize xSKinds xSLifts xSFlights xSSize xTally xOut fPk fWn fGw fGk fOw fSt fPe fHo fGr fPa fFt q1.2.1 q1.2.2.1 q1.2.2.2.1 q1.2.2.2.2.1 q1.2.2.2.2.2.1 q1.2.2.2.2.2.2.1 q1.2.2.2.2.2.2.2.1 q1.2.2.2.2.2.2.2.2.1 q1.2.2.2.2.2.2.2.2.2.1 q1.2.2.2.2.2.2.2.2.2.2.1 q1.2.2.2.2.2.2.2.2.2.2.2) := hD
    have hP := hP.sub (ws' := (xW a d g cI cJ cZ (d 0) (g 0) xText xLetters xNow xKept xIsKept xChance xScenes xASize xSKinds xSLifts xSFlights xSSize xTally xOut q1.2.1 q1.2.2.1 q1.2.2.2.1 q1.2.2.2.2.1 q1.2.2.2.2.2.1 q1.2.2.2.2.2.2.1 q1.2.2.2.2.2.2.2.1 q1.2.2.2.2.2.2.2.2.1 q1.2.2.2.2.2.2.2.2.2.1 q1.2.2.2.2.2.2.2.2.2.2.1 q1.2.2.2.2.2.2.2.2.2.2.2 fPk fWn fGw fGk fOw fSt fPe fHo fGr fPa fFt)) [0, 1, 2, 3, 4, 5, 6, 7, 8, 9, 10, 11, 12, 20, 21, 22, 23, 24, 25, 26, 13, 14, 15, 16, 17, 18, 19] rfl
    have hD := hD.sub (ws' := (xW a d g cI cJ cZ (d 0) (g 0) xText xLetters xNow xKept xIsKept xChance xScenes xASize xSKinds xSLifts xSFlights xSSize xTally xOut q1.2.1 q1.2.2.1 q1.2.2.2.1 q1.2.2.2.2.1 q1.2.2.2.2.2.1 q1.2.2.2.2.2.2.1 q1.2.2.2.2.2.2.2.1 q1.2.2.2.2.2.2.2.2.1 q1.2.2.2.2.2.2.2.2.2.1 q1.2.2.2.2.2.2.2.2.2.2.1 q1.2.2.2.2.2.2.2.2.2.2.2 fPk fWn fGw fGk fOw fSt fPe fHo fGr fPa fFt)) [0, 1, 2, 3, 4, 5, 6, 7, 8, 9, 10, 11, 12, 20, 21, 22, 23, 24, 25, 26, 13, 14, 15, 16, 17, 18, 19] (by decide) rfl
    refine lv_aload_n hx hb dX11_floor_41 rfl (lv_at hl 1 rfl) ?_
    refine lv_aload_n hx hb dX11_floor_42 rfl (lv_at hl 1 rfl) ?_
    refine va_get (D := D) (ci := 4) (v := .ref (d 0)) (C := RX11) (T := TX11) (N := 11) hx hb hts hiX11 hown hK.1 hP 0 rfl rfl 2 (by decide) (hts (.fieldLink RX11 16 "WinnowedGuilt" "ground" "LWinnowedGuilt$Floor;") (by decide +kernel)) (fun _ h9 => h9) rfl dX11_floor_43 ?_
    have hG := hP.sub (ws' := (fW d cI q1.2.1 q1.2.2.1 q1.2.2.2.1 q1.2.2.2.2.1 q1.2.2.2.2.2.1 q1.2.2.2.2.2.2.1 q1.2.2.2.2.2.2.2.1 q1.2.2.2.2.2.2.2.2.1 q1.2.2.2.2.2.2.2.2.2.1 q1.2.2.2.2.2.2.2.2.2.2.1 q1.2.2.2.2.2.2.2.2.2.2.2)) [13, 14, 15, 16, 17, 18, 19] rfl
    obtain ⟨q3, hq3, h⟩ := bS h
    refine rcL (va_runV (As := []) (rest := [.ref (a 0)]) ⟨hx, hb, hml, hown, hts⟩ (c_fl_firstScene l D cI cJ cZ d q1.2.1 q1.2.2.1 q1.2.2.2.1 q1.2.2.2.2.1 q1.2.2.2.2.2.1 q1.2.2.2.2.2.2.1 q1.2.2.2.2.2.2.2.1 q1.2.2.2.2.2.2.2.2.1 q1.2.2.2.2.2.2.2.2.2.1 q1.2.2.2.2.2.2.2.2.2.2.1 q1.2.2.2.2.2.2.2.2.2.2.2 H hG  q3 hq3) (cwV 0 hts gX11_floor_X3_firstScene rfl rfl rfl (by decide +kernel) ⟨Nat.le_of_ble_eq_true rfl, Nat.le_of_ble_eq_true rfl⟩) (rPreV hK hG (ci := 2) (q0 := 0) rfl rfl) rfl rfl hl.1 rfl (lv_room (Nat.le_of_ble_eq_true rfl)) dX11_floor_46 ⟨Nat.zero_le _, Nat.zero_le _⟩) ?_
    refine va_put (D := D) (ci := 4) (v := .long q3) (ty := .long) (C := RX11) (T := TX11) (N := 11) hx hb hts hiX11 tyX11 tyX11_ok nmX11 hown hK.1 hP hD hS 0 rfl rfl 4 (by decide) (hts (.fieldLink RX11 27 "WinnowedGuilt" "now" "J") (by decide +kernel)) (fun _ h9 => h9) rfl (by decide +kernel) rfl rfl (Nat.le_of_ble_eq_true rfl) dX11_floor_49 (fun H locs hP hD hS => ?_)
    have hP : va_P D vwCl (xW a d g cI cJ cZ (d 0) (g 0) xText xLetters q3 xKept xIsKept xChance xScenes xASize xSKinds xSLifts xSFlights xSSize xTally xOut q1.2.1 q1.2.2.1 q1.2.2.2.1 q1.2.2.2.2.1 q1.2.2.2.2.2.1 q1.2.2.2.2.2.2.1 q1.2.2.2.2.2.2.2.1 q1.2.2.2.2.2.2.2.2.1 q1.2.2.2.2.2.2.2.2.2.1 q1.2.2.2.2.2.2.2.2.2.2.1 q1.2.2.2.2.2.2.2.2.2.2.2 fPk fWn fGw fGk fOw fSt fPe fHo fGr fPa fFt) H := hP
    have hD : va_D A (xW a d g cI cJ cZ (d 0) (g 0) xText xLetters q3 xKept xIsKept xChance xScenes xASize xSKinds xSLifts xSFlights xSSize xTally xOut q1.2.1 q1.2.2.1 q1.2.2.2.1 q1.2.2.2.2.1 q1.2.2.2.2.2.1 q1.2.2.2.2.2.2.1 q1.2.2.2.2.2.2.2.1 q1.2.2.2.2.2.2.2.2.1 q1.2.2.2.2.2.2.2.2.2.1 q1.2.2.2.2.2.2.2.2.2.2.1 q1.2.2.2.2.2.2.2.2.2.2.2 fPk fWn fGw fGk fOw fSt fPe fHo fGr fPa fFt) := hD
    refine lv_aload_n hx hb dX11_floor_52 rfl (lv_at hl 1 rfl) ?_
    refine va_get (D := D) (ci := 4) (v := .ref (a 2)) (C := RX11) (T := TX11) (N := 11) hx hb hts hiX11 hown hK.1 hP 0 rfl rfl 5 (by decide) (hts (.fieldLink RX11 34 "WinnowedGuilt" "acts" "LWinnowedGuilt$Acts;") (by decide +kernel)) (fun _ h9 => h9) rfl dX11_floor_53 ?_
    obtain ⟨q4, hq4, h⟩ := bS h
    refine wcV (va_runV (As := []) (rest := []) ⟨hx, hb, hml, hown, hts⟩ (c_ac_forgetAll l D cI cJ cZ a d g xText xLetters q3 xKept xIsKept xChance xScenes xASize xSKinds xSLifts xSFlights xSSize xTally xOut q1.2.1 q1.2.2.1 q1.2.2.2.1 q1.2.2.2.2.1 q1.2.2.2.2.2.1 q1.2.2.2.2.2.2.1 q1.2.2.2.2.2.2.2.1 q1.2.2.2.2.2.2.2.2.1 q1.2.2.2.2.2.2.2.2.2.1 q1.2.2.2.2.2.2.2.2.2.2.1 q1.2.2.2.2.2.2.2.2.2.2.2 fPk fWn fGw fGk fOw fSt fPe fHo fGr fPa fFt H.size  q4 hq4) (cwV 0 hts gX11_floor_X0_forgetAll rfl rfl rfl (by decide +kernel) ⟨Nat.le_of_ble_eq_true rfl, Nat.le_of_ble_eq_true rfl⟩) (wPreV hK hP hD (ci := 0) (q0 := 4) rfl rfl) rfl rfl hl.1 rfl (lv_room (Nat.le_of_ble_eq_true rfl)) dX11_floor_56 ⟨Nat.zero_le _, Nat.zero_le _⟩) hD hS hA (fun H locs hP hD hS => ?_)
    have hP : va_P D vwCl (xW a d g cI cJ cZ (d 0) (g 0) xText xLetters q3 xKept xIsKept xChance xScenes q4 xSKinds xSLifts xSFlights xSSize xTally xOut q1.2.1 q1.2.2.1 q1.2.2.2.1 q1.2.2.2.2.1 q1.2.2.2.2.2.1 q1.2.2.2.2.2.2.1 q1.2.2.2.2.2.2.2.1 q1.2.2.2.2.2.2.2.2.1 q1.2.2.2.2.2.2.2.2.2.1 q1.2.2.2.2.2.2.2.2.2.2.1 q1.2.2.2.2.2.2.2.2.2.2.2 fPk fWn fGw fGk fOw fSt fPe fHo fGr fPa fFt) H := hP
    have hD : va_D A (xW a d g cI cJ cZ (d 0) (g 0) xText xLetters q3 xKept xIsKept xChance xScenes q4 xSKinds xSLifts xSFlights xSSize xTally xOut q1.2.1 q1.2.2.1 q1.2.2.2.1 q1.2.2.2.2.1 q1.2.2.2.2.2.1 q1.2.2.2.2.2.2.1 q1.2.2.2.2.2.2.2.1 q1.2.2.2.2.2.2.2.2.1 q1.2.2.2.2.2.2.2.2.2.1 q1.2.2.2.2.2.2.2.2.2.2.1 q1.2.2.2.2.2.2.2.2.2.2.2 fPk fWn fGw fGk fOw fSt fPe fHo fGr fPa fFt) := hD
    refine lv_iconst (v := 0) hx hb dX11_floor_59 (by decide) ?_
    refine lv_istore_n (lv' := [(2, .int 0), (1, .ref (g 0)), (0, .ref (a 0))]) hx hb dX11_floor_60 rfl hl (by decide) rfl (fun ls hl => ?_)
    have L61 : ∀ (n : Nat) (x2_61 : Int32) (xIsKept_61x : (Nat → Int32)) (H : Heap) (locs : List Loc) (ls : Array Slot) (kx : Int32 → (Nat → Int32) → Option (Int32 × (Nat → Nat) × (Nat → Nat) × (Int64) × (Nat → Int32) × (Int32) × (Nat → Int32) × (Nat → Int32) × (Nat → Int32) × (Nat → Int32) × (Nat → Int32) × (Nat → Int32) × (Int32) × (Int32) × (Int32) × (Int32) × (Int32) × (Nat → Int32) × (Nat → Int32) × (Nat → Int32) × (Nat → Int32) × (Nat → Int32) × (Nat → Int32) × (Int32) × (Int32) × (Int32) × (Int32) × (Int32))), xx_floor_L61  kx n x2_61 xIsKept_61x = some (rv, g_r, d_r, xNow_r, xIsKept_r, xASize_r, fPk_r, fWn_r, fGw_r, fGk_r, fOw_r, fSt_r, fPe_r, fHo_r, fGr_r, fPa_r, fFt_r, dPk_r, dWn_r, dGw_r, dGk_r, dOw_r, dSt_r, dPe_r, dHo_r, dGr_r, dPa_r, dFt_r) → va_P D vwCl (xW a d g cI cJ cZ (d 0) (g 0) xText xLetters q3 xKept xIsKept_61x xChance xScenes q4 xSKinds xSLifts xSFlights xSSize xTally xOut q1.2.1 q1.2.2.1 q1.2.2.2.1 q1.2.2.2.2.1 q1.2.2.2.2.2.1 q1.2.2.2.2.2.2.1 q1.2.2.2.2.2.2.2.1 q1.2.2.2.2.2.2.2.2.1 q1.2.2.2.2.2.2.2.2.2.1 q1.2.2.2.2.2.2.2.2.2.2.1 q1.2.2.2.2.2.2.2.2.2.2.2 fPk fWn fGw fGk fOw fSt fPe fHo fGr fPa fFt) H → va_D A (xW a d g cI cJ cZ (d 0) (g 0) xText xLetters q3 xKept xIsKept_61x xChance xScenes q4 xSKinds xSLifts xSFlights xSSize xTally xOut q1.2.1 q1.2.2.1 q1.2.2.2.1 q1.2.2.2.2.1 q1.2.2.2.2.2.1 q1.2.2.2.2.2.2.1 q1.2.2.2.2.2.2.2.1 q1.2.2.2.2.2.2.2.2.1 q1.2.2.2.2.2.2.2.2.2.1 q1.2.2.2.2.2.2.2.2.2.2.1 q1.2.2.2.2.2.2.2.2.2.2.2 fPk fWn fGw fGk fOw fSt fPe fHo fGr fPa fFt) → va_S A s.heap H locs → lv_has ls 3 [(2, .int x2_61), (1, .ref (g 0)), (0, .ref (a 0))] → (∀ (y2_61 : Int32) (xIsKept_61 : (Nat → Int32)) (H : Heap) (locs : List Loc) (ls : Array Slot), kx y2_61 xIsKept_61 = some (rv, g_r, d_r, xNow_r, xIsKept_r, xASize_r, fPk_r, fWn_r, fGw_r, fGk_r, fOw_r, fSt_r, fPe_r, fHo_r, fGr_r, fPa_r, fFt_r, dPk_r, dWn_r, dGw_r, dGk_r, dOw_r, dSt_r, dPe_r, dHo_r, dGr_r, dPa_r, dFt_r) → va_P D vwCl (xW a d g cI cJ cZ (d 0) (g 0) xText xLetters q3 xKept xIsKept_61 xChance xScenes q4 xSKinds xSLifts xSFlights xSSize xTally xOut q1.2.1 q1.2.2.1 q1.2.2.2.1 q1.2.2.2.2.1 q1.2.2.2.2.2.1 q1.2.2.2.2.2.2.1 q1.2.2.2.2.2.2.2.1 q1.2.2.2.2.2.2.2.2.1 q1.2.2.2.2.2.2.2.2.2.1 q1.2.2.2.2.2.2.2.2.2.2.1 q1.2.2.2.2.2.2.2.2.2.2.2 fPk fWn fGw fGk fOw fSt fPe fHo fGr fPa fFt) H → va_D A (xW a d g cI cJ cZ (d 0) (g 0) xText xLetters q3 xKept xIsKept_61 xChance xScenes q4 xSKinds xSLifts xSFlights xSSize xTally xOut q1.2.1 q1.2.2.1 q1.2.2.2.1 q1.2.2.2.2.1 q1.2.2.2.2.2.1 q1.2.2.2.2.2.2.1 q1.2.2.2.2.2.2.2.1 q1.2.2.2.2.2.2.2.2.1 q1.2.2.2.2.2.2.2.2.2.1 q1.2.2.2.2.2.2.2.2.2.2.1 q1.2.2.2.2.2.2.2.2.2.2.2 fPk fWn fGw fGk fOw fSt fPe fHo fGr fPa fFt) → va_S A s.heap H locs → lv_has ls 3 [(2, .int y2_61), (1, .ref (g 0)), (0, .ref (a 0))] → W p l e (headSpec wsX11_floor ({ frames := 4, cells := 0, slots := 0, locals := 88 } : Room)).room s m ([.ref (a 0)] : List Value).toArray below meth c H locs 0 0 (MQ below (wQi D (xW a g d cI cJ cZ (g 0) (d 0) xText xLetters xNow xKept xIsKept xChance xScenes xASize xSKinds xSLifts xSFlights xSSize xTally xOut fPk fWn fGw fGk fOw fSt fPe fHo fGr fPa fFt dPk dWn dGw dGk dOw dSt dPe dHo dGr dPa dFt) (xW a g_r d_r cI cJ cZ (g_r 0) (d_r 0) xText xLetters xNow_r xKept xIsKept_r xChance xScenes xASize_r xSKinds xSLifts xSFlights xSSize xTally xOut fPk_r fWn_r fGw_r fGk_r fOw_r fSt_r fPe_r fHo_r fGr_r fPa_r fFt_r dPk_r dWn_r dGw_r dGk_r dOw_r dSt_r dPe_r dHo_r dGr_r dPa_r dFt_r) s.heap.size rv) ([.ref (a 0)] : List Value).toArray s 0 0 (va_A (xW a g d cI cJ cZ (g 0) (d 0) xText xLetters xNow xKept xIsKept xChance xScenes xASize xSKinds xSLifts xSFlights xSSize xTally xOut fPk fWn fGw fGk fOw fSt fPe fHo fGr fPa fFt dPk dWn dGw dGk dOw dSt dPe dHo dGr dPa dFt) s.heap.size)) (F0 m 83 ls [])) → W p l e (headSpec wsX11_floor ({ frames := 4, cells := 0, slots := 0, locals := 88 } : Room)).room s m ([.ref (a 0)] : List Value).toArray below meth c H locs 0 0 (MQ below (wQi D (xW a g d cI cJ cZ (g 0) (d 0) xText xLetters xNow xKept xIsKept xChance xScenes xASize xSKinds xSLifts xSFlights xSSize xTally xOut fPk fWn fGw fGk fOw fSt fPe fHo fGr fPa fFt dPk dWn dGw dGk dOw dSt dPe dHo dGr dPa dFt) (xW a g_r d_r cI cJ cZ (g_r 0) (d_r 0) xText xLetters xNow_r xKept xIsKept_r xChance xScenes xASize_r xSKinds xSLifts xSFlights xSSize xTally xOut fPk_r fWn_r fGw_r fGk_r fOw_r fSt_r fPe_r fHo_r fGr_r fPa_r fFt_r dPk_r dWn_r dGw_r dGk_r dOw_r dSt_r dPe_r dHo_r dGr_r dPa_r dFt_r) s.heap.size rv) ([.ref (a 0)] : List Value).toArray s 0 0 (va_A (xW a g d cI cJ cZ (g 0) (d 0) xText xLetters xNow xKept xIsKept xChance xScenes xASize xSKinds xSLifts xSFlights xSSize xTally xOut fPk fWn fGw fGk fOw fSt fPe fHo fGr fPa fFt dPk dWn dGw dGk dOw dSt dPe dHo dGr dPa dFt) s.heap.size)) (F0 m 61 ls []) := by
      intro n
      induction n with
      | zero => intro _ _ _ _ _ _ h; rw [xx_floor_L61.eq_1] at h; cases h
      | succ n ih =>
        intro x2_61 xIsKept_61x H locs ls kx h hP hD hS hl hk
        rw [xx_floor_L61.eq_2] at h
        refine lv_iload_n hx hb dX11_floor_61 rfl (lv_at hl 0 rfl) ?_
        refine lv_aload_n hx hb dX11_floor_62 rfl (lv_at hl 2 rfl) ?_
        refine va_get (D := D) (ci := 4) (v := .ref (a 4)) (C := RX11) (T := TX11) (N := 11) hx hb hts hiX11 hown hK.1 hP 0 rfl rfl 7 (by decide) (hts (.fieldLink RX11 42 "WinnowedGuilt" "isKept" "[Z") (by decide +kernel)) (fun _ h9 => h9) rfl dX11_floor_63 ?_
        refine va_alen (v := 2) hx hb hK.1 hP 3 2 rfl rfl rfl dX11_floor_66 ?_
        refine lv_icmp_ge (tgt := 83) hx hb dX11_floor_67 (by decide) (fun c5 => ?_) (fun c5 => ?_)
        · have h := iT c5 h
          exact hk _ _ _ _ _ h hP hD hS (lv_sub hl [0, 1, 2] rfl)
        · have h := iF c5 h
          refine lv_aload_n hx hb dX11_floor_70 rfl (lv_at hl 2 rfl) ?_
          refine va_get (D := D) (ci := 4) (v := .ref (a 4)) (C := RX11) (T := TX11) (N := 11) hx hb hts hiX11 hown hK.1 hP 0 rfl rfl 7 (by decide) (hts (.fieldLink RX11 42 "WinnowedGuilt" "isKept" "[Z") (by decide +kernel)) (fun _ h9 => h9) rfl dX11_floor_71 ?_
          refine lv_iload_n hx hb dX11_floor_74 rfl (lv_at hl 0 rfl) ?_
          refine lv_iconst (v := 0) hx hb dX11_floor_75 (by decide) ?_
          obtain ⟨hi6, h⟩ := gI_some h
          refine va_zast hx hb hK.1 hP hD hS 3 2 rfl rfl hi6 dX11_floor_76 (fun H locs hP hD hS => ?_)
          have hP : va_P D vwCl (xW a d g cI cJ cZ (d 0) (g 0) xText xLetters q3 xKept (upd xIsKept_61x (Int32.toNatClampNeg x2_61) 0) xChance xScenes q4 xSKinds xSLifts xSFlights xSSize xTally xOut q1.2.1 q1.2.2.1 q1.2.2.2.1 q1.2.2.2.2.1 q1.2.2.2.2.2.1 q1.2.2.2.2.2.2.1 q1.2.2.2.2.2.2.2.1 q1.2.2.2.2.2.2.2.2.1 q1.2.2.2.2.2.2.2.2.2.1 q1.2.2.2.2.2.2.2.2.2.2.1 q1.2.2.2.2.2.2.2.2.2.2.2 fPk fWn fGw fGk fOw fSt fPe fHo fGr fPa fFt) H := hP
          have hD : va_D A (xW a d g cI cJ cZ (d 0) (g 0) xText xLetters q3 xKept (upd xIsKept_61x (Int32.toNatClampNeg x2_61) 0) xChance xScenes q4 xSKinds xSLifts xSFlights xSSize xTally xOut q1.2.1 q1.2.2.1 q1.2.2.2.1 q1.2.2.2.2.1 q1.2.2.2.2.2.1 q1.2.2.2.2.2.2.1 q1.2.2.2.2.2.2.2.1 q1.2.2.2.2.2.2.2.2.1 q1.2.2.2.2.2.2.2.2.2.1 q1.2.2.2.2.2.2.2.2.2.2.1 q1.2.2.2.2.2.2.2.2.2.2.2 fPk fWn fGw fGk fOw fSt fPe fHo fGr fPa fFt) := hD
          refine lv_iinc (v := (x2_61 + 1)) (lv' := [(2, .int (x2_61 + 1)), (1, .ref (g 0)), (0, .ref (a 0))]) hx hb dX11_floor_77 hl (k := 0) rfl rfl (by decide) rfl (fun ls hl => ?_)
          refine lv_goto (tgt := 61) hx hb dX11_floor_80 (by decide) ?_
          exact ih _ _ _ _ _ _ h hP hD hS (lv_sub hl [0, 1, 2] rfl) hk
    refine L61 _ _ _ _ _ _ _ h hP hD hS hl (fun y2_61 xIsKept_61 H locs ls h hP hD hS hl => ?_)
    refine lv_bipush (v := 100) hx hb dX11_floor_83 (by decide) ?_
    refine lv_aload_n hx hb dX11_floor_85 rfl (lv_at hl 2 rfl) ?_
    refine va_get (D := D) (ci := 4) (v := .ref (d 0)) (C := RX11) (T := TX11) (N := 11) hx hb hts hiX11 hown hK.1 hP 0 rfl rfl 2 (by decide) (hts (.fieldLink RX11 16 "WinnowedGuilt" "ground" "LWinnowedGuilt$Floor;") (by decide +kernel)) (fun _ h9 => h9) rfl dX11_floor_86 ?_
    refine va_getN (D := D) (ci := 2) (v := .int q1.2.2.2.2.2.2.2.1) (C := RX3) (T := TX3) (N := 11) hx hb hts hiX3 hown hK.1 hP 13 rfl rfl 6 (by decide) (va_Nw.use rfl (kN_2 hK.2)) (fun _ h9 => h9) rfl dX11_floor_89 ?_
    refine lv_imul hx hb dX11_floor_92 ?_
    refine lv_bipush (v := 10) hx hb dX11_floor_93 (by decide) ?_
    refine lv_aload_n hx hb dX11_floor_95 rfl (lv_at hl 2 rfl) ?_
    refine va_get (D := D) (ci := 4) (v := .ref (d 0)) (C := RX11) (T := TX11) (N := 11) hx hb hts hiX11 hown hK.1 hP 0 rfl rfl 2 (by decide) (hts (.fieldLink RX11 16 "WinnowedGuilt" "ground" "LWinnowedGuilt$Floor;") (by decide +kernel)) (fun _ h9 => h9) rfl dX11_floor_96 ?_
    refine va_getN (D := D) (ci := 2) (v := .int q1.2.2.2.2.2.2.2.2.1) (C := RX3) (T := TX3) (N := 11) hx hb hts hiX3 hown hK.1 hP 13 rfl rfl 7 (by decide) (va_Nw.use rfl (kN_3 hK.2)) (fun _ h9 => h9) rfl dX11_floor_99 ?_
    refine lv_imul hx hb dX11_floor_102 ?_
    refine lv_iadd hx hb dX11_floor_103 ?_
    refine lv_aload_n hx hb dX11_floor_104 rfl (lv_at hl 2 rfl) ?_
    refine va_get (D := D) (ci := 4) (v := .ref (d 0)) (C := RX11) (T := TX11) (N := 11) hx hb hts hiX11 hown hK.1 hP 0 rfl rfl 2 (by decide) (hts (.fieldLink RX11 16 "WinnowedGuilt" "ground" "LWinnowedGuilt$Floor;") (by decide +kernel)) (fun _ h9 => h9) rfl dX11_floor_105 ?_
    refine va_getN (D := D) (ci := 2) (v := .int q1.2.2.2.2.2.2.2.2.2.1) (C := RX3) (T := TX3) (N := 11) hx hb hts hiX3 hown hK.1 hP 13 rfl rfl 8 (by decide) (va_Nw.use rfl (kN_4 hK.2)) (fun _ h9 => h9) rfl dX11_floor_108 ?_
    refine lv_iadd hx hb dX11_floor_111 ?_
    cases h
    subst hAe
    exact W.iret hx hb hr (fun t ht _ => ⟨⟨_, (), rfl, rfl, by rw [ht]; exact hP, hD⟩, hS.F ht⟩) hS.2.2 dX11_floor_112
  · have h := iF c2 h
    refine lv_bipush (v := (-3)) hx hb dX11_floor_20 (by decide) ?_
    cases h
    subst hAe
    exact W.iret hx hb hr (fun t ht _ => ⟨⟨_, (), rfl, rfl, by rw [ht]; exact hP, hD⟩, hS.F ht⟩) hS.2.2 dX11_floor_22

set_option maxHeartbeats 4000000 in
set_option maxRecDepth 100000 in
theorem c_fl_personKind (l : Launch) (D : va_G) (cI cJ cZ : ClassId) (g : Nat → Nat) (fPk : Nat → Int32) (fWn : Nat → Int32) (fGw : Nat → Int32) (fGk : Nat → Int32) (fOw : Nat → Int32) (fSt : Nat → Int32) (fPe : Int32) (fHo : Int32) (fGr : Int32) (fPa : Int32) (fFt : Int32)  (H0 : Heap) (hP : va_P D vwCl (fW g cI fPk fWn fGw fGk fOw fSt fPe fHo fGr fPa fFt) H0) (p1 : Int32) (rv : Int32) (h : fl_personKind fPk p1 = some rv) : Met l yX3_personKind wsX3_personKind ({ frames := 0, cells := 0, slots := 0, locals := 0 } : Room) (rPc D cI cJ cZ H0 [.ref (g 0), .int p1]) (vp_Si (fun r => r = rv)) 0 0 (fun _ => False) := by
  unfold fl_personKind at h
  refine Met.ofW (cc := cX3_personKind) (maxL := 2) (ret := (some .int)) (by decide) rfl ?_
  intro p e s m args below meth c s₁ B hml hv
  obtain ⟨rfl, hH, hK⟩ := hv
  have hx := B.exec
  have hb := B.bytes
  have hr := B.returns
  have hts := atoms_spec (ws := wsX3_personKind) B.pre
  have hown : s.vm.findClass RX3 = some m.cls := findClass_of_methodNamed B.named
  have hlocks := B.notSynchronized
  subst hH
  have hl := lv_entry ([.ref (g 0), .int p1]) (n := 2) (Nat.le_of_ble_eq_true rfl)
  rw [lg_entry_eq]
  generalize (lg_sl ([.ref (g 0), .int p1]) ++ List.replicate (2 - (lg_sl ([.ref (g 0), .int p1])).length) Slot.unset).toArray = ls at hl ⊢
  have hl : lv_has ls 2 [(0, .ref (g 0)), (1, .int p1)] := hl
  have hiX3 : ∀ w ∈ u_ws RX3 TX3 11, w ∈ wsX3_personKind := fun w hw => List.mem_cons_of_mem _ (List.mem_append_right _ hw)
  refine lv_iload_n hx hb dX3_personKind_0 rfl (lv_at hl 1 rfl) ?_
  refine lv_if_lt (tgt := 22) hx hb dX3_personKind_1 (by decide) (fun c1 => ?_) (fun c1 => ?_)
  · have h := iT c1 h
    refine lv_bipush (v := (-9)) hx hb dX3_personKind_22 (by decide) ?_
    exact W.iret hx hb hr (fun t ht _ => ⟨_, rfl, Option.some.inj h, ht⟩) (fun _ q => absurd q List.not_mem_nil) dX3_personKind_24
  · have h := iF c1 h
    refine lv_iload_n hx hb dX3_personKind_4 rfl (lv_at hl 1 rfl) ?_
    refine lv_aload_n hx hb dX3_personKind_5 rfl (lv_at hl 0 rfl) ?_
    refine va_get (D := D) (ci := 2) (v := .ref (g 1)) (C := RX3) (T := TX3) (N := 11) hx hb hts hiX3 hown hK.1 hP 0 rfl rfl 0 (by decide) (hts (.fieldLink RX3 9 "WinnowedGuilt$Floor" "personKinds" "[I") (by decide +kernel)) (fun _ h9 => h9) rfl dX3_personKind_6 ?_
    refine va_alen (v := 4) hx hb hK.1 hP 1 0 rfl rfl rfl dX3_personKind_9 ?_
    refine lv_icmp_ge (tgt := 22) hx hb dX3_personKind_10 (by decide) (fun c2 => ?_) (fun c2 => ?_)
    · have h := iT c2 h
      refine lv_bipush (v := (-9)) hx hb dX3_personKind_22 (by decide) ?_
      exact W.iret hx hb hr (fun t ht _ => ⟨_, rfl, Option.some.inj h, ht⟩) (fun _ q => absurd q List.not_mem_nil) dX3_personKind_24
    · have h := iF c2 h
      refine lv_aload_n hx hb dX3_personKind_13 rfl (lv_at hl 0 rfl) ?_
      refine va_get (D := D) (ci := 2) (v := .ref (g 1)) (C := RX3) (T := TX3) (N := 11) hx hb hts hiX3 hown hK.1 hP 0 rfl rfl 0 (by decide) (hts (.fieldLink RX3 9 "WinnowedGuilt$Floor" "personKinds" "[I") (by decide +kernel)) (fun _ h9 => h9) rfl dX3_personKind_14 ?_
      refine lv_iload_n hx hb dX3_personKind_17 rfl (lv_at hl 1 rfl) ?_
      obtain ⟨hi3, h⟩ := gI_some h
      refine ldI (v := (fPk (Int32.toNatClampNeg p1))) hx hb hK.1 hP 1 rfl rfl hi3 rfl dX3_personKind_18 ?_
      refine lv_goto (tgt := 24) hx hb dX3_personKind_19 (by decide) ?_
      exact W.iret hx hb hr (fun t ht _ => ⟨_, rfl, Option.some.inj h, ht⟩) (fun _ q => absurd q List.not_mem_nil) dX3_personKind_24

set_option maxHeartbeats 4000000 in
set_option maxRecDepth 100000 in
theorem c_sc_clockOf (l : Launch) (D : va_G) (cI cJ cZ : ClassId)  (H0 : Heap) (p0 : Int64) (rv : Int32) (h : sc_clockOf p0 = some rv) : Met l yX7_clockOf wsX7_clockOf ({ frames := 0, cells := 0, slots := 0, locals := 0 } : Room) (rPc D cI cJ cZ H0 [.long p0]) (vp_Si (fun r => r = rv)) 0 0 (fun _ => False) := by
  unfold sc_clockOf at h
  refine Met.ofW (cc := cX7_clockOf) (maxL := 2) (ret := (some .int)) (by decide) rfl ?_
  intro p e s m args below meth c s₁ B hml hv
  obtain ⟨rfl, hH, hK⟩ := hv
  have hx := B.exec
  have hb := B.bytes
  have hr := B.returns
  have hts := atoms_spec (ws := wsX7_clockOf) B.pre
  have hown : s.vm.findClass RX7 = some m.cls := findClass_of_methodNamed B.named
  have hlocks := B.notSynchronized
  subst hH
  have hl := lv_entry ([.long p0]) (n := 2) (Nat.le_of_ble_eq_true rfl)
  rw [lg_entry_eq]
  generalize (lg_sl ([.long p0]) ++ List.replicate (2 - (lg_sl ([.long p0])).length) Slot.unset).toArray = ls at hl ⊢
  have hl : lv_has ls 2 [(0, .long p0)] := hl
  refine lv_lload_n hx hb dX7_clockOf_0 rfl (lv_at hl 0 rfl) ?_
  refine lv_bipush (v := 32) hx hb dX7_clockOf_1 (by decide) ?_
  refine lv_lushr (v := (Int64.toUInt64 p0 >>> ((Int32.toInt64 (32 : Int32)).toUInt64 &&& Int64.toUInt64 63)).toInt64) hx hb dX7_clockOf_3 rfl ?_
  refine lv_l2i (v := (Int64.toInt32 (Int64.toUInt64 p0 >>> ((Int32.toInt64 (32 : Int32)).toUInt64 &&& Int64.toUInt64 63)).toInt64)) hx hb dX7_clockOf_4 rfl ?_
  exact W.iret hx hb hr (fun t ht _ => ⟨_, rfl, Option.some.inj h, ht⟩) (fun _ q => absurd q List.not_mem_nil) dX7_clockOf_5

set_option maxHeartbeats 4000000 in
set_option maxRecDepth 100000 in
theorem c_fl_windAt (l : Launch) (D : va_G) (cI cJ cZ : ClassId) (g : Nat → Nat) (fPk : Nat → Int32) (fWn : Nat → Int32) (fGw : Nat → Int32) (fGk : Nat → Int32) (fOw : Nat → Int32) (fSt : Nat → Int32) (fPe : Int32) (fHo : Int32) (fGr : Int32) (fPa : Int32) (fFt : Int32)  (H0 : Heap) (hP : va_P D vwCl (fW g cI fPk fWn fGw fGk fOw fSt fPe fHo fGr fPa fFt) H0) (p1 : Int64) (rv : Int32) (h : fl_windAt fWn fHo p1 = some rv) : Met l yX3_windAt wsX3_windAt ({ frames := 1, cells := 0, slots := 0, locals := 21 } : Room) (rPc D cI cJ cZ H0 [.ref (g 0), .long p1]) (vp_Si (fun r => r = rv)) 0 0 (fun _ => False) := by
  unfold fl_windAt at h
  refine Met.ofW (cc := cX3_windAt) (maxL := 4) (ret := (some .int)) (by decide) rfl ?_
  intro p e s m args below meth c s₁ B hml hv
  obtain ⟨rfl, hH, hK⟩ := hv
  have hx := B.exec
  have hb := B.bytes
  have hr := B.returns
  have hts := atoms_spec (ws := wsX3_windAt) B.pre
  have hown : s.vm.findClass RX3 = some m.cls := findClass_of_methodNamed B.named
  have hlocks := B.notSynchronized
  subst hH
  have hl := lv_entry ([.ref (g 0), .long p1]) (n := 4) (Nat.le_of_ble_eq_true rfl)
  rw [lg_entry_eq]
  generalize (lg_sl ([.ref (g 0), .long p1]) ++ List.replicate (4 - (lg_sl ([.ref (g 0), .long p1])).length) Slot.unset).toArray = ls at hl ⊢
  have hl : lv_has ls 4 [(0, .ref (g 0)), (1, .long p1)] := hl
  have hiX3 : ∀ w ∈ u_ws RX3 TX3 11, w ∈ wsX3_windAt := fun w hw => List.mem_cons_of_mem _ (List.mem_append_right _ hw)
  refine lv_aload_n hx hb dX3_windAt_0 rfl (lv_at hl 0 rfl) ?_
  refine va_get (D := D) (ci := 2) (v := .int fHo) (C := RX3) (T := TX3) (N := 11) hx hb hts hiX3 hown hK.1 hP 0 rfl rfl 7 (by decide) (hts (.fieldLink RX3 34 "WinnowedGuilt$Floor" "hours" "I") (by decide +kernel)) (fun _ h9 => h9) rfl dX3_windAt_1 ?_
  refine lv_if_gt (tgt := 9) hx hb dX3_windAt_4 (by decide) (fun c1 => ?_) (fun c1 => ?_)
  · have h := iT c1 h
    refine lv_lload_n hx hb dX3_windAt_9 rfl (lv_at hl 1 rfl) ?_
    obtain ⟨q2, hq2, h⟩ := bS h
    refine rcI (va_runS (As := [.long p1]) (rest := []) ⟨hx, hb, hml, hown, hts⟩ (c_sc_clockOf l D cI cJ cZ   s.heap p1 q2 hq2) (va_cwS 1 hts gX3_windAt_X7_clockOf rfl rfl rfl (by decide +kernel) ⟨Nat.le_of_ble_eq_true rfl, Nat.le_of_ble_eq_true rfl⟩) (rPreS hK) rfl rfl hl.1 rfl (lv_room (Nat.le_of_ble_eq_true rfl)) dX3_windAt_10 ⟨Nat.zero_le _, Nat.zero_le _⟩) ?_
    refine lv_aload_n hx hb dX3_windAt_13 rfl (lv_at hl 0 rfl) ?_
    refine va_get (D := D) (ci := 2) (v := .int fHo) (C := RX3) (T := TX3) (N := 11) hx hb hts hiX3 hown hK.1 hP 0 rfl rfl 7 (by decide) (hts (.fieldLink RX3 34 "WinnowedGuilt$Floor" "hours" "I") (by decide +kernel)) (fun _ h9 => h9) rfl dX3_windAt_14 ?_
    obtain ⟨hd3, h⟩ := gD_some h
    refine lv_irem hx hb dX3_windAt_17 hd3 ?_
    refine lv_istore_n (lv' := [(3, .int (q2 - q2 / fHo * fHo)), (0, .ref (g 0)), (1, .long p1)]) hx hb dX3_windAt_18 rfl hl (by decide) rfl (fun ls hl => ?_)
    refine lv_iload_n hx hb dX3_windAt_19 rfl (lv_at hl 0 rfl) ?_
    refine lv_if_lt (tgt := 41) hx hb dX3_windAt_20 (by decide) (fun c4 => ?_) (fun c4 => ?_)
    · have h := iT c4 h
      refine lv_iconst (v := 0) hx hb dX3_windAt_41 (by decide) ?_
      exact W.iret hx hb hr (fun t ht _ => ⟨_, rfl, Option.some.inj h, ht⟩) (fun _ q => absurd q List.not_mem_nil) dX3_windAt_42
    · have h := iF c4 h
      refine lv_iload_n hx hb dX3_windAt_23 rfl (lv_at hl 0 rfl) ?_
      refine lv_aload_n hx hb dX3_windAt_24 rfl (lv_at hl 1 rfl) ?_
      refine va_get (D := D) (ci := 2) (v := .ref (g 2)) (C := RX3) (T := TX3) (N := 11) hx hb hts hiX3 hown hK.1 hP 0 rfl rfl 1 (by decide) (hts (.fieldLink RX3 15 "WinnowedGuilt$Floor" "winds" "[I") (by decide +kernel)) (fun _ h9 => h9) rfl dX3_windAt_25 ?_
      refine va_alen (v := 6) hx hb hK.1 hP 2 0 rfl rfl rfl dX3_windAt_28 ?_
      refine lv_icmp_ge (tgt := 41) hx hb dX3_windAt_29 (by decide) (fun c5 => ?_) (fun c5 => ?_)
      · have h := iT c5 h
        refine lv_iconst (v := 0) hx hb dX3_windAt_41 (by decide) ?_
        exact W.iret hx hb hr (fun t ht _ => ⟨_, rfl, Option.some.inj h, ht⟩) (fun _ q => absurd q List.not_mem_nil) dX3_windAt_42
      · have h := iF c5 h
        refine lv_aload_n hx hb dX3_windAt_32 rfl (lv_at hl 1 rfl) ?_
        refine va_get (D := D) (ci := 2) (v := .ref (g 2)) (C := RX3) (T := TX3) (N := 11) hx hb hts hiX3 hown hK.1 hP 0 rfl rfl 1 (by decide) (hts (.fieldLink RX3 15 "WinnowedGuilt$Floor" "winds" "[I") (by decide +kernel)) (fun _ h9 => h9) rfl dX3_windAt_33 ?_
        refine lv_iload_n hx hb dX3_windAt_36 rfl (lv_at hl 0 rfl) ?_
        obtain ⟨hi6, h⟩ := gI_some h
        refine ldI (v := (fWn (Int32.toNatClampNeg (q2 - q2 / fHo * fHo)))) hx hb hK.1 hP 2 rfl rfl hi6 rfl dX3_windAt_37 ?_
        refine lv_goto (tgt := 42) hx hb dX3_windAt_38 (by decide) ?_
        exact W.iret hx hb hr (fun t ht _ => ⟨_, rfl, Option.some.inj h, ht⟩) (fun _ q => absurd q List.not_mem_nil) dX3_windAt_42
  · have h := iF c1 h
    refine lv_iconst (v := 0) hx hb dX3_windAt_7 (by decide) ?_
    exact W.iret hx hb hr (fun t ht _ => ⟨_, rfl, Option.some.inj h, ht⟩) (fun _ q => absurd q List.not_mem_nil) dX3_windAt_8

set_option maxHeartbeats 4000000 in
set_option maxRecDepth 100000 in
theorem c_sc_holderOf (l : Launch) (D : va_G) (cI cJ cZ : ClassId)  (H0 : Heap) (p0 : Int64) (rv : Int32) (h : sc_holderOf p0 = some rv) : Met l yX7_holderOf wsX7_holderOf ({ frames := 0, cells := 0, slots := 0, locals := 0 } : Room) (rPc D cI cJ cZ H0 [.long p0]) (vp_Si (fun r => r = rv)) 0 0 (fun _ => False) := by
  unfold sc_holderOf at h
  refine Met.ofW (cc := cX7_holderOf) (maxL := 3) (ret := (some .int)) (by decide) rfl ?_
  intro p e s m args below meth c s₁ B hml hv
  obtain ⟨rfl, hH, hK⟩ := hv
  have hx := B.exec
  have hb := B.bytes
  have hr := B.returns
  have hts := atoms_spec (ws := wsX7_holderOf) B.pre
  have hown : s.vm.findClass RX7 = some m.cls := findClass_of_methodNamed B.named
  have hlocks := B.notSynchronized
  subst hH
  have hl := lv_entry ([.long p0]) (n := 3) (Nat.le_of_ble_eq_true rfl)
  rw [lg_entry_eq]
  generalize (lg_sl ([.long p0]) ++ List.replicate (3 - (lg_sl ([.long p0])).length) Slot.unset).toArray = ls at hl ⊢
  have hl : lv_has ls 3 [(0, .long p0)] := hl
  refine lv_lload_n hx hb dX7_holderOf_0 rfl (lv_at hl 0 rfl) ?_
  refine lv_bipush (v := 28) hx hb dX7_holderOf_1 (by decide) ?_
  refine lv_lushr (v := (Int64.toUInt64 p0 >>> ((Int32.toInt64 (28 : Int32)).toUInt64 &&& Int64.toUInt64 63)).toInt64) hx hb dX7_holderOf_3 rfl ?_
  refine lv_l2i (v := (Int64.toInt32 (Int64.toUInt64 p0 >>> ((Int32.toInt64 (28 : Int32)).toUInt64 &&& Int64.toUInt64 63)).toInt64)) hx hb dX7_holderOf_4 rfl ?_
  refine lv_bipush (v := 15) hx hb dX7_holderOf_5 (by decide) ?_
  refine lv_iand hx hb dX7_holderOf_7 ?_
  refine lv_istore_n (lv' := [(2, .int ((Int64.toInt32 (Int64.toUInt64 p0 >>> ((Int32.toInt64 (28 : Int32)).toUInt64 &&& Int64.toUInt64 63)).toInt64) &&& 15)), (0, .long p0)]) hx hb dX7_holderOf_8 rfl hl (by decide) rfl (fun ls hl => ?_)
  refine lv_iload_n hx hb dX7_holderOf_9 rfl (lv_at hl 0 rfl) ?_
  refine lv_bipush (v := 15) hx hb dX7_holderOf_10 (by decide) ?_
  refine lv_icmp_ne (tgt := 20) hx hb dX7_holderOf_12 (by decide) (fun c1 => ?_) (fun c1 => ?_)
  · have h := iF c1 h
    refine lv_iload_n hx hb dX7_holderOf_20 rfl (lv_at hl 0 rfl) ?_
    exact W.iret hx hb hr (fun t ht _ => ⟨_, rfl, Option.some.inj h, ht⟩) (fun _ q => absurd q List.not_mem_nil) dX7_holderOf_21
  · have h := iT c1 h
    refine lv_bipush (v := (-9)) hx hb dX7_holderOf_15 (by decide) ?_
    refine lv_goto (tgt := 21) hx hb dX7_holderOf_17 (by decide) ?_
    exact W.iret hx hb hr (fun t ht _ => ⟨_, rfl, Option.some.inj h, ht⟩) (fun _ q => absurd q List.not_mem_nil) dX7_holderOf_21

set_option maxHeartbeats 4000000 in
set_option maxRecDepth 100000 in
theorem c_fl_liftAt (l : Launch) (D : va_G) (cI cJ cZ : ClassId) (g : Nat → Nat) (fPk : Nat → Int32) (fWn : Nat → Int32) (fGw : Nat → Int32) (fGk : Nat → Int32) (fOw : Nat → Int32) (fSt : Nat → Int32) (fPe : Int32) (fHo : Int32) (fGr : Int32) (fPa : Int32) (fFt : Int32)  (H0 : Heap) (hP : va_P D vwCl (fW g cI fPk fWn fGw fGk fOw fSt fPe fHo fGr fPa fFt) H0) (p1 : Int64) (p3 : Int32) (rv : Int32) (h : fl_liftAt fPk fWn fHo p1 p3 = some rv) : Met l yX3_liftAt wsX3_liftAt ({ frames := 2, cells := 0, slots := 0, locals := 44 } : Room) (rPc D cI cJ cZ H0 [.ref (g 0), .long p1, .int p3]) (vp_Si (fun r => r = rv)) 0 0 (fun _ => False) := by
  unfold fl_liftAt at h
  refine Met.ofW (cc := cX3_liftAt) (maxL := 5) (ret := (some .int)) (by decide) rfl ?_
  intro p e s m args below meth c s₁ B hml hv
  obtain ⟨rfl, hH, hK⟩ := hv
  have hx := B.exec
  have hb := B.bytes
  have hr := B.returns
  have hts := atoms_spec (ws := wsX3_liftAt) B.pre
  have hown : s.vm.findClass RX3 = some m.cls := findClass_of_methodNamed B.named
  have hlocks := B.notSynchronized
  subst hH
  have hl := lv_entry ([.ref (g 0), .long p1, .int p3]) (n := 5) (Nat.le_of_ble_eq_true rfl)
  rw [lg_entry_eq]
  generalize (lg_sl ([.ref (g 0), .long p1, .int p3]) ++ List.replicate (5 - (lg_sl ([.ref (g 0), .long p1, .int p3])).length) Slot.unset).toArray = ls at hl ⊢
  have hl : lv_has ls 5 [(0, .ref (g 0)), (1, .long p1), (3, .int p3)] := hl
  refine lv_aload_n hx hb dX3_liftAt_0 rfl (lv_at hl 0 rfl) ?_
  refine lv_lload_n hx hb dX3_liftAt_1 rfl (lv_at hl 1 rfl) ?_
  obtain ⟨q1, hq1, h⟩ := bS h
  refine rcI (va_runV (As := [.long p1]) (rest := []) ⟨hx, hb, hml, hown, hts⟩ (c_fl_windAt l D cI cJ cZ g fPk fWn fGw fGk fOw fSt fPe fHo fGr fPa fFt s.heap hP p1 q1 hq1) (cwV 1 hts gX3_liftAt_X3_windAt rfl rfl rfl (by decide +kernel) ⟨Nat.le_of_ble_eq_true rfl, Nat.le_of_ble_eq_true rfl⟩) (rPreV hK hP (ci := 2) (q0 := 0) rfl rfl) rfl rfl hl.1 rfl (lv_room (Nat.le_of_ble_eq_true rfl)) dX3_liftAt_2 ⟨Nat.zero_le _, Nat.zero_le _⟩) ?_
  refine lv_istore (lv' := [(4, .int q1), (0, .ref (g 0)), (1, .long p1), (3, .int p3)]) hx hb dX3_liftAt_5 hl (by decide) rfl (fun ls hl => ?_)
  refine lv_lload_n hx hb dX3_liftAt_7 rfl (lv_at hl 2 rfl) ?_
  obtain ⟨q2, hq2, h⟩ := bS h
  refine rcI (va_runS (As := [.long p1]) (rest := []) ⟨hx, hb, hml, hown, hts⟩ (c_sc_holderOf l D cI cJ cZ   s.heap p1 q2 hq2) (va_cwS 1 hts gX3_liftAt_X7_holderOf rfl rfl rfl (by decide +kernel) ⟨Nat.le_of_ble_eq_true rfl, Nat.le_of_ble_eq_true rfl⟩) (rPreS hK) rfl rfl hl.1 rfl (lv_room (Nat.le_of_ble_eq_true rfl)) dX3_liftAt_8 ⟨Nat.zero_le _, Nat.zero_le _⟩) ?_
  refine lv_iload_n hx hb dX3_liftAt_11 rfl (lv_at hl 3 rfl) ?_
  refine lv_icmp_ne (tgt := 18) hx hb dX3_liftAt_12 (by decide) (fun c3 => ?_) (fun c3 => ?_)
  · have h := iF c3 h
    refine lv_aload_n hx hb dX3_liftAt_18 rfl (lv_at hl 1 rfl) ?_
    refine lv_iload_n hx hb dX3_liftAt_19 rfl (lv_at hl 3 rfl) ?_
    obtain ⟨q4, hq4, h⟩ := bS h
    refine rcI (va_runV (As := [.int p3]) (rest := []) ⟨hx, hb, hml, hown, hts⟩ (c_fl_personKind l D cI cJ cZ g fPk fWn fGw fGk fOw fSt fPe fHo fGr fPa fFt s.heap hP p3 q4 hq4) (cwV 1 hts gX3_liftAt_X3_personKind rfl rfl rfl (by decide +kernel) ⟨Nat.le_of_ble_eq_true rfl, Nat.le_of_ble_eq_true rfl⟩) (rPreV hK hP (ci := 2) (q0 := 0) rfl rfl) rfl rfl hl.1 rfl (lv_room (Nat.le_of_ble_eq_true rfl)) dX3_liftAt_20 ⟨Nat.zero_le _, Nat.zero_le _⟩) ?_
    refine lv_iconst (v := 1) hx hb dX3_liftAt_23 (by decide) ?_
    refine lv_icmp_ne (tgt := 30) hx hb dX3_liftAt_24 (by decide) (fun c5 => ?_) (fun c5 => ?_)
    · have h := iF c5 h
      refine lv_iload hx hb dX3_liftAt_30 (lv_at hl 0 rfl) ?_
      exact W.iret hx hb hr (fun t ht _ => ⟨_, rfl, Option.some.inj h, ht⟩) (fun _ q => absurd q List.not_mem_nil) dX3_liftAt_32
    · have h := iT c5 h
      refine lv_iinc (v := (q1 + 1)) (lv' := [(4, .int (q1 + 1)), (0, .ref (g 0)), (1, .long p1), (3, .int p3)]) hx hb dX3_liftAt_27 hl (k := 0) rfl rfl (by decide) rfl (fun ls hl => ?_)
      refine lv_iload hx hb dX3_liftAt_30 (lv_at hl 0 rfl) ?_
      exact W.iret hx hb hr (fun t ht _ => ⟨_, rfl, Option.some.inj h, ht⟩) (fun _ q => absurd q List.not_mem_nil) dX3_liftAt_32
  · have h := iT c3 h
    refine lv_iinc (v := (q1 + 2)) (lv' := [(4, .int (q1 + 2)), (0, .ref (g 0)), (1, .long p1), (3, .int p3)]) hx hb dX3_liftAt_15 hl (k := 0) rfl rfl (by decide) rfl (fun ls hl => ?_)
    refine lv_aload_n hx hb dX3_liftAt_18 rfl (lv_at hl 1 rfl) ?_
    refine lv_iload_n hx hb dX3_liftAt_19 rfl (lv_at hl 3 rfl) ?_
    obtain ⟨q4, hq4, h⟩ := bS h
    refine rcI (va_runV (As := [.int p3]) (rest := []) ⟨hx, hb, hml, hown, hts⟩ (c_fl_personKind l D cI cJ cZ g fPk fWn fGw fGk fOw fSt fPe fHo fGr fPa fFt s.heap hP p3 q4 hq4) (cwV 1 hts gX3_liftAt_X3_personKind rfl rfl rfl (by decide +kernel) ⟨Nat.le_of_ble_eq_true rfl, Nat.le_of_ble_eq_true rfl⟩) (rPreV hK hP (ci := 2) (q0 := 0) rfl rfl) rfl rfl hl.1 rfl (lv_room (Nat.le_of_ble_eq_true rfl)) dX3_liftAt_20 ⟨Nat.zero_le _, Nat.zero_le _⟩) ?_
    refine lv_iconst (v := 1) hx hb dX3_liftAt_23 (by decide) ?_
    refine lv_icmp_ne (tgt := 30) hx hb dX3_liftAt_24 (by decide) (fun c5 => ?_) (fun c5 => ?_)
    · have h := iF c5 h
      refine lv_iload hx hb dX3_liftAt_30 (lv_at hl 0 rfl) ?_
      exact W.iret hx hb hr (fun t ht _ => ⟨_, rfl, Option.some.inj h, ht⟩) (fun _ q => absurd q List.not_mem_nil) dX3_liftAt_32
    · have h := iT c5 h
      refine lv_iinc (v := ((q1 + 2) + 1)) (lv' := [(4, .int ((q1 + 2) + 1)), (0, .ref (g 0)), (1, .long p1), (3, .int p3)]) hx hb dX3_liftAt_27 hl (k := 0) rfl rfl (by decide) rfl (fun ls hl => ?_)
      refine lv_iload hx hb dX3_liftAt_30 (lv_at hl 0 rfl) ?_
      exact W.iret hx hb hr (fun t ht _ => ⟨_, rfl, Option.some.inj h, ht⟩) (fun _ q => absurd q List.not_mem_nil) dX3_liftAt_32

set_option maxHeartbeats 4000000 in
set_option maxRecDepth 100000 in
theorem c_sc_placeOf (l : Launch) (D : va_G) (cI cJ cZ : ClassId)  (H0 : Heap) (p0 : Int64) (p2 : Int32) (rv : Int32) (h : sc_placeOf p0 p2 = some rv) : Met l yX7_placeOf wsX7_placeOf ({ frames := 0, cells := 0, slots := 0, locals := 0 } : Room) (rPc D cI cJ cZ H0 [.long p0, .int p2]) (vp_Si (fun r => r = rv)) 0 0 (fun _ => False) := by
  unfold sc_placeOf at h
  refine Met.ofW (cc := cX7_placeOf) (maxL := 3) (ret := (some .int)) (by decide) rfl ?_
  intro p e s m args below meth c s₁ B hml hv
  obtain ⟨rfl, hH, hK⟩ := hv
  have hx := B.exec
  have hb := B.bytes
  have hr := B.returns
  have hts := atoms_spec (ws := wsX7_placeOf) B.pre
  have hown : s.vm.findClass RX7 = some m.cls := findClass_of_methodNamed B.named
  have hlocks := B.notSynchronized
  subst hH
  have hl := lv_entry ([.long p0, .int p2]) (n := 3) (Nat.le_of_ble_eq_true rfl)
  rw [lg_entry_eq]
  generalize (lg_sl ([.long p0, .int p2]) ++ List.replicate (3 - (lg_sl ([.long p0, .int p2])).length) Slot.unset).toArray = ls at hl ⊢
  have hl : lv_has ls 3 [(0, .long p0), (2, .int p2)] := hl
  refine lv_lload_n hx hb dX7_placeOf_0 rfl (lv_at hl 0 rfl) ?_
  refine lv_iconst (v := 4) hx hb dX7_placeOf_1 (by decide) ?_
  refine lv_iload_n hx hb dX7_placeOf_2 rfl (lv_at hl 1 rfl) ?_
  refine lv_imul hx hb dX7_placeOf_3 ?_
  refine lv_lushr (v := (Int64.toUInt64 p0 >>> ((Int32.toInt64 (4 * p2)).toUInt64 &&& Int64.toUInt64 63)).toInt64) hx hb dX7_placeOf_4 rfl ?_
  refine lv_l2i (v := (Int64.toInt32 (Int64.toUInt64 p0 >>> ((Int32.toInt64 (4 * p2)).toUInt64 &&& Int64.toUInt64 63)).toInt64)) hx hb dX7_placeOf_5 rfl ?_
  refine lv_bipush (v := 15) hx hb dX7_placeOf_6 (by decide) ?_
  refine lv_iand hx hb dX7_placeOf_8 ?_
  exact W.iret hx hb hr (fun t ht _ => ⟨_, rfl, Option.some.inj h, ht⟩) (fun _ q => absurd q List.not_mem_nil) dX7_placeOf_9

set_option maxHeartbeats 4000000 in
set_option maxRecDepth 100000 in
theorem c_fl_lyingBits (l : Launch) (D : va_G) (cI cJ cZ : ClassId) (g : Nat → Nat) (fPk : Nat → Int32) (fWn : Nat → Int32) (fGw : Nat → Int32) (fGk : Nat → Int32) (fOw : Nat → Int32) (fSt : Nat → Int32) (fPe : Int32) (fHo : Int32) (fGr : Int32) (fPa : Int32) (fFt : Int32)  (H0 : Heap) (hP : va_P D vwCl (fW g cI fPk fWn fGw fGk fOw fSt fPe fHo fGr fPa fFt) H0) (p1 : Int64) (p3 : Int32) (rv : Int32) (h : fl_lyingBits fGr p1 p3 = some rv) : Met l yX3_lyingBits wsX3_lyingBits ({ frames := 1, cells := 0, slots := 0, locals := 22 } : Room) (rPc D cI cJ cZ H0 [.ref (g 0), .long p1, .int p3]) (vp_Si (fun r => r = rv)) 0 0 (fun _ => False) := by
  unfold fl_lyingBits at h
  refine Met.ofW (cc := cX3_lyingBits) (maxL := 6) (ret := (some .int)) (by decide) rfl ?_
  intro p e s m args below meth c s₁ B hml hv
  obtain ⟨rfl, hH, hK⟩ := hv
  have hx := B.exec
  have hb := B.bytes
  have hr := B.returns
  have hts := atoms_spec (ws := wsX3_lyingBits) B.pre
  have hown : s.vm.findClass RX3 = some m.cls := findClass_of_methodNamed B.named
  have hlocks := B.notSynchronized
  subst hH
  have hl := lv_entry ([.ref (g 0), .long p1, .int p3]) (n := 6) (Nat.le_of_ble_eq_true rfl)
  rw [lg_entry_eq]
  generalize (lg_sl ([.ref (g 0), .long p1, .int p3]) ++ List.replicate (6 - (lg_sl ([.ref (g 0), .long p1, .int p3])).length) Slot.unset).toArray = ls at hl ⊢
  have hl : lv_has ls 6 [(0, .ref (g 0)), (1, .long p1), (3, .int p3)] := hl
  have hiX3 : ∀ w ∈ u_ws RX3 TX3 11, w ∈ wsX3_lyingBits := fun w hw => List.mem_cons_of_mem _ (List.mem_append_right _ hw)
  refine lv_iconst (v := 0) hx hb dX3_lyingBits_0 (by decide) ?_
  refine lv_istore (lv' := [(4, .int 0), (0, .ref (g 0)), (1, .long p1), (3, .int p3)]) hx hb dX3_lyingBits_1 hl (by decide) rfl (fun ls hl => ?_)
  refine lv_iconst (v := 0) hx hb dX3_lyingBits_3 (by decide) ?_
  refine lv_istore (lv' := [(5, .int 0), (4, .int 0), (0, .ref (g 0)), (1, .long p1), (3, .int p3)]) hx hb dX3_lyingBits_4 hl (by decide) rfl (fun ls hl => ?_)
  have L6 : ∀ (n : Nat) (x5_6 : Int32) (x4_6 : Int32) (ls : Array Slot) (kx : Int32 → Int32 → Option (Int32)), fl_lyingBits_L6 fGr p1 p3 kx n x5_6 x4_6 = some rv → lv_has ls 6 [(5, .int x5_6), (4, .int x4_6), (0, .ref (g 0)), (1, .long p1), (3, .int p3)] → (∀ (y5_6 : Int32) (y4_6 : Int32) (ls : Array Slot), kx y5_6 y4_6 = some rv → lv_has ls 6 [(5, .int y5_6), (4, .int y4_6), (0, .ref (g 0)), (1, .long p1), (3, .int p3)] → W p l e (headSpec wsX3_lyingBits ({ frames := 1, cells := 0, slots := 0, locals := 22 } : Room)).room s m ([.ref (g 0), .long p1, .int p3] : List Value).toArray below meth c s.heap [] 0 0 (MQ below (vp_Si (fun r => r = rv)) ([.ref (g 0), .long p1, .int p3] : List Value).toArray s 0 0 (fun _ => False)) (F0 m 40 ls [])) → W p l e (headSpec wsX3_lyingBits ({ frames := 1, cells := 0, slots := 0, locals := 22 } : Room)).room s m ([.ref (g 0), .long p1, .int p3] : List Value).toArray below meth c s.heap [] 0 0 (MQ below (vp_Si (fun r => r = rv)) ([.ref (g 0), .long p1, .int p3] : List Value).toArray s 0 0 (fun _ => False)) (F0 m 6 ls []) := by
    intro n
    induction n with
    | zero => intro _ _ _ _ h; rw [fl_lyingBits_L6.eq_1] at h; cases h
    | succ n ih =>
      intro x5_6 x4_6 ls kx h hl hk
      rw [fl_lyingBits_L6.eq_2] at h
      refine lv_iload hx hb dX3_lyingBits_6 (lv_at hl 0 rfl) ?_
      refine lv_aload_n hx hb dX3_lyingBits_8 rfl (lv_at hl 2 rfl) ?_
      refine va_get (D := D) (ci := 2) (v := .int fGr) (C := RX3) (T := TX3) (N := 11) hx hb hts hiX3 hown hK.1 hP 0 rfl rfl 8 (by decide) (hts (.fieldLink RX3 37 "WinnowedGuilt$Floor" "grains" "I") (by decide +kernel)) (fun _ h9 => h9) rfl dX3_lyingBits_9 ?_
      refine lv_icmp_ge (tgt := 40) hx hb dX3_lyingBits_12 (by decide) (fun c1 => ?_) (fun c1 => ?_)
      · have h := iT c1 h
        exact hk _ _ _ h (lv_sub hl [0, 1, 2, 3, 4] rfl)
      · have h := iF c1 h
        refine lv_lload_n hx hb dX3_lyingBits_15 rfl (lv_at hl 3 rfl) ?_
        refine lv_iload hx hb dX3_lyingBits_16 (lv_at hl 0 rfl) ?_
        obtain ⟨q2, hq2, h⟩ := bS h
        refine rcI (va_runS (As := [.long p1, .int x5_6]) (rest := []) ⟨hx, hb, hml, hown, hts⟩ (c_sc_placeOf l D cI cJ cZ   s.heap p1 x5_6 q2 hq2) (va_cwS 2 hts gX3_lyingBits_X7_placeOf rfl rfl rfl (by decide +kernel) ⟨Nat.le_of_ble_eq_true rfl, Nat.le_of_ble_eq_true rfl⟩) (rPreS hK) rfl rfl hl.1 rfl (lv_room (Nat.le_of_ble_eq_true rfl)) dX3_lyingBits_18 ⟨Nat.zero_le _, Nat.zero_le _⟩) ?_
        refine lv_iload_n hx hb dX3_lyingBits_21 rfl (lv_at hl 4 rfl) ?_
        refine lv_icmp_ne (tgt := 34) hx hb dX3_lyingBits_22 (by decide) (fun c3 => ?_) (fun c3 => ?_)
        · have h := iF c3 h
          refine lv_iinc (v := (x5_6 + 1)) (lv' := [(5, .int (x5_6 + 1)), (4, .int x4_6), (0, .ref (g 0)), (1, .long p1), (3, .int p3)]) hx hb dX3_lyingBits_34 hl (k := 0) rfl rfl (by decide) rfl (fun ls hl => ?_)
          refine lv_goto (tgt := 6) hx hb dX3_lyingBits_37 (by decide) ?_
          exact ih _ _ _ _ h (lv_sub hl [0, 1, 2, 3, 4] rfl) hk
        · have h := iT c3 h
          refine lv_iload hx hb dX3_lyingBits_25 (lv_at hl 1 rfl) ?_
          refine lv_iconst (v := 1) hx hb dX3_lyingBits_27 (by decide) ?_
          refine lv_iload hx hb dX3_lyingBits_28 (lv_at hl 0 rfl) ?_
          refine lv_ishl hx hb dX3_lyingBits_30 ?_
          refine lv_ior hx hb dX3_lyingBits_31 ?_
          refine lv_istore (lv' := [(4, .int (x4_6 ||| (1 <<< (x5_6 &&& 31)))), (5, .int x5_6), (0, .ref (g 0)), (1, .long p1), (3, .int p3)]) hx hb dX3_lyingBits_32 hl (by decide) rfl (fun ls hl => ?_)
          refine lv_iinc (v := (x5_6 + 1)) (lv' := [(5, .int (x5_6 + 1)), (4, .int (x4_6 ||| (1 <<< (x5_6 &&& 31)))), (0, .ref (g 0)), (1, .long p1), (3, .int p3)]) hx hb dX3_lyingBits_34 hl (k := 1) rfl rfl (by decide) rfl (fun ls hl => ?_)
          refine lv_goto (tgt := 6) hx hb dX3_lyingBits_37 (by decide) ?_
          exact ih _ _ _ _ h (lv_sub hl [0, 1, 2, 3, 4] rfl) hk
  refine L6 _ _ _ _ _ h hl (fun y5_6 y4_6 ls h hl => ?_)
  refine lv_iload hx hb dX3_lyingBits_40 (lv_at hl 1 rfl) ?_
  exact W.iret hx hb hr (fun t ht _ => ⟨_, rfl, Option.some.inj h, ht⟩) (fun _ q => absurd q List.not_mem_nil) dX3_lyingBits_42
