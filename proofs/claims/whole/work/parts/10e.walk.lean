set_option maxHeartbeats 4000000 in
set_option maxRecDepth 100000 in
theorem c_xx_fan (l : Launch) (D : va_G) (cI cJ cZ : ClassId) (a : Nat → Nat) (g : Nat → Nat) (d : Nat → Nat) (xText : Nat → Int32) (xLetters : Int32) (xNow : Int64) (xKept : Nat → Int64) (xIsKept : Nat → Int32) (xChance : Int64) (xScenes : Nat → Int64) (xASize : Int32) (xSKinds : Nat → Int32) (xSLifts : Nat → Int32) (xSFlights : Nat → Int32) (xSSize : Int32) (xTally : Nat → Int32) (xOut : Nat → Int64) (fPk : Nat → Int32) (fWn : Nat → Int32) (fGw : Nat → Int32) (fGk : Nat → Int32) (fOw : Nat → Int32) (fSt : Nat → Int32) (fPe : Int32) (fHo : Int32) (fGr : Int32) (fPa : Int32) (fFt : Int32) (dPk : Nat → Int32) (dWn : Nat → Int32) (dGw : Nat → Int32) (dGk : Nat → Int32) (dOw : Nat → Int32) (dSt : Nat → Int32) (dPe : Int32) (dHo : Int32) (dGr : Int32) (dPa : Int32) (dFt : Int32)  (sz : Nat) (p1 : Int32) (rv : Int32) (xNow_r : Int64) (xScenes_r : Nat → Int64) (xASize_r : Int32) (h : xx_fan xNow xScenes xASize fPe p1 = some (rv, xNow_r, xScenes_r, xASize_r)) : Met l yX11_fan wsX11_fan ({ frames := 3, cells := 0, slots := 0, locals := 65 } : Room) (wPc D cI cJ cZ (xW a g d cI cJ cZ (g 0) (d 0) xText xLetters xNow xKept xIsKept xChance xScenes xASize xSKinds xSLifts xSFlights xSSize xTally xOut fPk fWn fGw fGk fOw fSt fPe fHo fGr fPa fFt dPk dWn dGw dGk dOw dSt dPe dHo dGr dPa dFt) sz [.ref (a 0), .int p1]) (wQi D (xW a g d cI cJ cZ (g 0) (d 0) xText xLetters xNow xKept xIsKept xChance xScenes xASize xSKinds xSLifts xSFlights xSSize xTally xOut fPk fWn fGw fGk fOw fSt fPe fHo fGr fPa fFt dPk dWn dGw dGk dOw dSt dPe dHo dGr dPa dFt) (xW a g d cI cJ cZ (g 0) (d 0) xText xLetters xNow_r xKept xIsKept xChance xScenes_r xASize_r xSKinds xSLifts xSFlights xSSize xTally xOut fPk fWn fGw fGk fOw fSt fPe fHo fGr fPa fFt dPk dWn dGw dGk dOw dSt dPe dHo dGr dPa dFt) sz rv) 0 0 (va_A (xW a g d cI cJ cZ (g 0) (d 0) xText xLetters xNow xKept xIsKept xChance xScenes xASize xSKinds xSLifts xSFlights xSSize xTally xOut fPk fWn fGw fGk fOw fSt fPe fHo fGr fPa fFt dPk dWn dGw dGk dOw dSt dPe dHo dGr dPa dFt) sz) := by
  unfold xx_fan at h
  refine Met.ofW (cc := cX11_fan) (maxL := 3) (ret := (some .int)) (by decide) rfl ?_
  intro p e s m args below meth c s₁ B hml hv
  obtain ⟨rfl, hsz, hP, hK, hD0⟩ := hv
  have hx := B.exec
  have hb := B.bytes
  have hr := B.returns
  have hts := atoms_spec (ws := wsX11_fan) B.pre
  have hown : s.vm.findClass RX11 = some m.cls := findClass_of_methodNamed B.named
  have hlocks := B.notSynchronized
  subst hsz
  have hD := hD0.self (sz := s.heap.size)
  have hA : ∀ q : Nat, s.heap.size ≤ q → va_A (xW a g d cI cJ cZ (g 0) (d 0) xText xLetters xNow xKept xIsKept xChance xScenes xASize xSKinds xSLifts xSFlights xSSize xTally xOut fPk fWn fGw fGk fOw fSt fPe fHo fGr fPa fFt dPk dWn dGw dGk dOw dSt dPe dHo dGr dPa dFt) s.heap.size q := fun q h => Or.inr h
  have hS : va_S (va_A (xW a g d cI cJ cZ (g 0) (d 0) xText xLetters xNow xKept xIsKept xChance xScenes xASize xSKinds xSLifts xSFlights xSSize xTally xOut fPk fWn fGw fGk fOw fSt fPe fHo fGr fPa fFt dPk dWn dGw dGk dOw dSt dPe dHo dGr dPa dFt) s.heap.size) s.heap s.heap [] := va_S.rf
  obtain ⟨A, hAe⟩ : ∃ A, A = va_A (xW a g d cI cJ cZ (g 0) (d 0) xText xLetters xNow xKept xIsKept xChance xScenes xASize xSKinds xSLifts xSFlights xSSize xTally xOut fPk fWn fGw fGk fOw fSt fPe fHo fGr fPa fFt dPk dWn dGw dGk dOw dSt dPe dHo dGr dPa dFt) s.heap.size := ⟨_, rfl⟩
  rw [← hAe] at hD hA hS
  have hl := lv_entry ([.ref (a 0), .int p1]) (n := 3) (Nat.le_of_ble_eq_true rfl)
  rw [lg_entry_eq]
  generalize (lg_sl ([.ref (a 0), .int p1]) ++ List.replicate (3 - (lg_sl ([.ref (a 0), .int p1])).length) Slot.unset).toArray = ls at hl ⊢
  have hl : lv_has ls 3 [(0, .ref (a 0)), (1, .int p1)] := hl
  have hiX11 : ∀ w ∈ u_ws RX11 TX11 11, w ∈ wsX11_fan := fun w hw => List.mem_cons_of_mem _ (List.mem_append_left _ (List.mem_append_left _ (List.mem_append_right _ hw)))
  refine lv_aload_n hx hb dX11_fan_0 rfl (lv_at hl 0 rfl) ?_
  refine va_get (D := D) (ci := 4) (v := .ref (g 0)) (C := RX11) (T := TX11) (N := 11) hx hb hts hiX11 hown hK.1 hP 0 rfl rfl 2 (by decide) (hts (.fieldLink RX11 16 "WinnowedGuilt" "ground" "LWinnowedGuilt$Floor;") (by decide +kernel)) (fun _ h9 => h9) rfl dX11_fan_1 ?_
  refine lv_iload_n hx hb dX11_fan_4 rfl (lv_at hl 1 rfl) ?_
  have hG := hP.sub (ws' := (fW g cI fPk fWn fGw fGk fOw fSt fPe fHo fGr fPa fFt)) [13, 14, 15, 16, 17, 18, 19] rfl
  obtain ⟨q1, hq1, h⟩ := bS h
  refine rcI (va_runV (As := [.int p1]) (rest := []) ⟨hx, hb, hml, hown, hts⟩ (c_fl_isPerson l D cI cJ cZ g fPk fWn fGw fGk fOw fSt fPe fHo fGr fPa fFt s.heap hG p1 q1 hq1) (cwV 1 hts gX11_fan_X3_isPerson rfl rfl rfl (by decide +kernel) ⟨Nat.le_of_ble_eq_true rfl, Nat.le_of_ble_eq_true rfl⟩) (rPreV hK hG (ci := 2) (q0 := 0) rfl rfl) rfl rfl hl.1 rfl (lv_room (Nat.le_of_ble_eq_true rfl)) dX11_fan_5 ⟨Nat.zero_le _, Nat.zero_le _⟩) ?_
  refine lv_if_ne (tgt := 13) hx hb dX11_fan_8 (by decide) (fun c2 => ?_) (fun c2 => ?_)
  · have h := iF c2 h
    refine lv_aload_n hx hb dX11_fan_13 rfl (lv_at hl 0 rfl) ?_
    refine va_get (D := D) (ci := 4) (v := .long xNow) (C := RX11) (T := TX11) (N := 11) hx hb hts hiX11 hown hK.1 hP 0 rfl rfl 4 (by decide) (hts (.fieldLink RX11 27 "WinnowedGuilt" "now" "J") (by decide +kernel)) (fun _ h9 => h9) rfl dX11_fan_14 ?_
    obtain ⟨q3, hq3, h⟩ := bS h
    refine rcI (va_runS (As := [.long xNow]) (rest := []) ⟨hx, hb, hml, hown, hts⟩ (c_sc_holderOf l D cI cJ cZ   s.heap xNow q3 hq3) (va_cwS 1 hts gX11_fan_X7_holderOf rfl rfl rfl (by decide +kernel) ⟨Nat.le_of_ble_eq_true rfl, Nat.le_of_ble_eq_true rfl⟩) (rPreS hK) rfl rfl hl.1 rfl (lv_room (Nat.le_of_ble_eq_true rfl)) dX11_fan_17 ⟨Nat.zero_le _, Nat.zero_le _⟩) ?_
    refine lv_istore_n (lv' := [(2, .int q3), (0, .ref (a 0)), (1, .int p1)]) hx hb dX11_fan_20 rfl hl (by decide) rfl (fun ls hl => ?_)
    refine lv_iload_n hx hb dX11_fan_21 rfl (lv_at hl 0 rfl) ?_
    refine lv_iload_n hx hb dX11_fan_22 rfl (lv_at hl 2 rfl) ?_
    refine lv_icmp_ne (tgt := 29) hx hb dX11_fan_23 (by decide) (fun c4 => ?_) (fun c4 => ?_)
    · have h := iF c4 h
      refine lv_aload_n hx hb dX11_fan_29 rfl (lv_at hl 1 rfl) ?_
      refine lv_aload_n hx hb dX11_fan_30 rfl (lv_at hl 1 rfl) ?_
      refine va_get (D := D) (ci := 4) (v := .long xNow) (C := RX11) (T := TX11) (N := 11) hx hb hts hiX11 hown hK.1 hP 0 rfl rfl 4 (by decide) (hts (.fieldLink RX11 27 "WinnowedGuilt" "now" "J") (by decide +kernel)) (fun _ h9 => h9) rfl dX11_fan_31 ?_
      refine lv_iload_n hx hb dX11_fan_34 rfl (lv_at hl 2 rfl) ?_
      obtain ⟨q5, hq5, h⟩ := bS h
      refine rcL (va_runS (As := [.long xNow, .int p1]) (rest := [.ref (a 0)]) ⟨hx, hb, hml, hown, hts⟩ (c_sc_withHolder l D cI cJ cZ   s.heap xNow p1 q5 hq5) (va_cwS 2 hts gX11_fan_X7_withHolder rfl rfl rfl (by decide +kernel) ⟨Nat.le_of_ble_eq_true rfl, Nat.le_of_ble_eq_true rfl⟩) (rPreS hK) rfl rfl hl.1 rfl (lv_room (Nat.le_of_ble_eq_true rfl)) dX11_fan_35 ⟨Nat.zero_le _, Nat.zero_le _⟩) ?_
      obtain ⟨q6, hq6, h⟩ := bS h
      refine wcV (va_runV (As := [.long q5]) (rest := []) ⟨hx, hb, hml, hown, hts⟩ (c_xx_actTo l D cI cJ cZ a g d xText xLetters xNow xKept xIsKept xChance xScenes xASize xSKinds xSLifts xSFlights xSSize xTally xOut fPk fWn fGw fGk fOw fSt fPe fHo fGr fPa fFt dPk dWn dGw dGk dOw dSt dPe dHo dGr dPa dFt s.heap.size q5 q6.1 q6.2.1 q6.2.2 hq6) (cwV 1 hts gX11_fan_X11_actTo rfl rfl rfl (by decide +kernel) ⟨Nat.le_of_ble_eq_true rfl, Nat.le_of_ble_eq_true rfl⟩) (wPreV hK hP hD (ci := 4) (q0 := 0) rfl rfl) rfl rfl hl.1 rfl (lv_room (Nat.le_of_ble_eq_true rfl)) dX11_fan_38 ⟨Nat.zero_le _, Nat.zero_le _⟩) hD hS hA (fun H locs hP hD hS => ?_)
      have hP : va_P D vwCl (xW a g d cI cJ cZ (g 0) (d 0) xText xLetters q6.1 xKept xIsKept xChance q6.2.1 q6.2.2 xSKinds xSLifts xSFlights xSSize xTally xOut fPk fWn fGw fGk fOw fSt fPe fHo fGr fPa fFt dPk dWn dGw dGk dOw dSt dPe dHo dGr dPa dFt) H := hP
      have hD : va_D A (xW a g d cI cJ cZ (g 0) (d 0) xText xLetters q6.1 xKept xIsKept xChance q6.2.1 q6.2.2 xSKinds xSLifts xSFlights xSSize xTally xOut fPk fWn fGw fGk fOw fSt fPe fHo fGr fPa fFt dPk dWn dGw dGk dOw dSt dPe dHo dGr dPa dFt) := hD
      refine lv_iload_n hx hb dX11_fan_41 rfl (lv_at hl 0 rfl) ?_
      cases h
      subst hAe
      exact W.iret hx hb hr (fun t ht _ => ⟨⟨_, (), rfl, rfl, by rw [ht]; exact hP, hD⟩, hS.F ht⟩) hS.2.2 dX11_fan_42
    · have h := iT c4 h
      refine lv_bipush (v := (-3)) hx hb dX11_fan_26 (by decide) ?_
      cases h
      subst hAe
      exact W.iret hx hb hr (fun t ht _ => ⟨⟨_, (), rfl, rfl, by rw [ht]; exact hP, hD⟩, hS.F ht⟩) hS.2.2 dX11_fan_28
  · have h := iT c2 h
    refine lv_iconst (v := (-1)) hx hb dX11_fan_11 (by decide) ?_
    cases h
    subst hAe
    exact W.iret hx hb hr (fun t ht _ => ⟨⟨_, (), rfl, rfl, by rw [ht]; exact hP, hD⟩, hS.F ht⟩) hS.2.2 dX11_fan_12

set_option maxHeartbeats 4000000 in
set_option maxRecDepth 100000 in
theorem c_ac_takeLast (l : Launch) (D : va_G) (cI cJ cZ : ClassId) (a : Nat → Nat) (g : Nat → Nat) (d : Nat → Nat) (xText : Nat → Int32) (xLetters : Int32) (xNow : Int64) (xKept : Nat → Int64) (xIsKept : Nat → Int32) (xChance : Int64) (xScenes : Nat → Int64) (xASize : Int32) (xSKinds : Nat → Int32) (xSLifts : Nat → Int32) (xSFlights : Nat → Int32) (xSSize : Int32) (xTally : Nat → Int32) (xOut : Nat → Int64) (fPk : Nat → Int32) (fWn : Nat → Int32) (fGw : Nat → Int32) (fGk : Nat → Int32) (fOw : Nat → Int32) (fSt : Nat → Int32) (fPe : Int32) (fHo : Int32) (fGr : Int32) (fPa : Int32) (fFt : Int32) (dPk : Nat → Int32) (dWn : Nat → Int32) (dGw : Nat → Int32) (dGk : Nat → Int32) (dOw : Nat → Int32) (dSt : Nat → Int32) (dPe : Int32) (dHo : Int32) (dGr : Int32) (dPa : Int32) (dFt : Int32)  (sz : Nat) (p1 : Int64) (rv : Int64) (xASize_r : Int32) (h : ac_takeLast xScenes xASize p1 = some (rv, xASize_r)) : Met l yX0_takeLast wsX0_takeLast ({ frames := 0, cells := 0, slots := 0, locals := 0 } : Room) (wPc D cI cJ cZ (xW a g d cI cJ cZ (g 0) (d 0) xText xLetters xNow xKept xIsKept xChance xScenes xASize xSKinds xSLifts xSFlights xSSize xTally xOut fPk fWn fGw fGk fOw fSt fPe fHo fGr fPa fFt dPk dWn dGw dGk dOw dSt dPe dHo dGr dPa dFt) sz [.ref (a 2), .long p1]) (wQl D (xW a g d cI cJ cZ (g 0) (d 0) xText xLetters xNow xKept xIsKept xChance xScenes xASize xSKinds xSLifts xSFlights xSSize xTally xOut fPk fWn fGw fGk fOw fSt fPe fHo fGr fPa fFt dPk dWn dGw dGk dOw dSt dPe dHo dGr dPa dFt) (xW a g d cI cJ cZ (g 0) (d 0) xText xLetters xNow xKept xIsKept xChance xScenes xASize_r xSKinds xSLifts xSFlights xSSize xTally xOut fPk fWn fGw fGk fOw fSt fPe fHo fGr fPa fFt dPk dWn dGw dGk dOw dSt dPe dHo dGr dPa dFt) sz rv) 0 0 (va_A (xW a g d cI cJ cZ (g 0) (d 0) xText xLetters xNow xKept xIsKept xChance xScenes xASize xSKinds xSLifts xSFlights xSSize xTally xOut fPk fWn fGw fGk fOw fSt fPe fHo fGr fPa fFt dPk dWn dGw dGk dOw dSt dPe dHo dGr dPa dFt) sz) := by
  unfold ac_takeLast at h
  refine Met.ofW (cc := cX0_takeLast) (maxL := 3) (ret := (some .long)) (by decide) rfl ?_
  intro p e s m args below meth c s₁ B hml hv
  obtain ⟨rfl, hsz, hP, hK, hD0⟩ := hv
  have hx := B.exec
  have hb := B.bytes
  have hr := B.returns
  have hts := atoms_spec (ws := wsX0_takeLast) B.pre
  have hown : s.vm.findClass RX0 = some m.cls := findClass_of_methodNamed B.named
  have hlocks := B.notSynchronized
  subst hsz
  have hD := hD0.self (sz := s.heap.size)
  have hA : ∀ q : Nat, s.heap.size ≤ q → va_A (xW a g d cI cJ cZ (g 0) (d 0) xText xLetters xNow xKept xIsKept xChance xScenes xASize xSKinds xSLifts xSFlights xSSize xTally xOut fPk fWn fGw fGk fOw fSt fPe fHo fGr fPa fFt dPk dWn dGw dGk dOw dSt dPe dHo dGr dPa dFt) s.heap.size q := fun q h => Or.inr h
  have hS : va_S (va_A (xW a g d cI cJ cZ (g 0) (d 0) xText xLetters xNow xKept xIsKept xChance xScenes xASize xSKinds xSLifts xSFlights xSSize xTally xOut fPk fWn fGw fGk fOw fSt fPe fHo fGr fPa fFt dPk dWn dGw dGk dOw dSt dPe dHo dGr dPa dFt) s.heap.size) s.heap s.heap [] := va_S.rf
  obtain ⟨A, hAe⟩ : ∃ A, A = va_A (xW a g d cI cJ cZ (g 0) (d 0) xText xLetters xNow xKept xIsKept xChance xScenes xASize xSKinds xSLifts xSFlights xSSize xTally xOut fPk fWn fGw fGk fOw fSt fPe fHo fGr fPa fFt dPk dWn dGw dGk dOw dSt dPe dHo dGr dPa dFt) s.heap.size := ⟨_, rfl⟩
  rw [← hAe] at hD hA hS
  have hl := lv_entry ([.ref (a 2), .long p1]) (n := 3) (Nat.le_of_ble_eq_true rfl)
  rw [lg_entry_eq]
  generalize (lg_sl ([.ref (a 2), .long p1]) ++ List.replicate (3 - (lg_sl ([.ref (a 2), .long p1])).length) Slot.unset).toArray = ls at hl ⊢
  have hl : lv_has ls 3 [(0, .ref (a 2)), (1, .long p1)] := hl
  have hiX0 : ∀ w ∈ u_ws RX0 TX0 2, w ∈ wsX0_takeLast := fun w hw => List.mem_cons_of_mem _ (List.mem_append_right _ hw)
  refine lv_aload_n hx hb dX0_takeLast_0 rfl (lv_at hl 0 rfl) ?_
  refine va_get (D := D) (ci := 0) (v := .int xASize) (C := RX0) (T := TX0) (N := 2) hx hb hts hiX0 hown hK.1 hP 4 rfl rfl 1 (by decide) (hts (.fieldLink RX0 15 "WinnowedGuilt$Acts" "size" "I") (by decide +kernel)) (fun _ h9 => h9) rfl dX0_takeLast_1 ?_
  refine lv_if_le (tgt := 19) hx hb dX0_takeLast_4 (by decide) (fun c1 => ?_) (fun c1 => ?_)
  · have h := iT c1 h
    refine lv_lload_n hx hb dX0_takeLast_19 rfl (lv_at hl 1 rfl) ?_
    cases h
    subst hAe
    exact W.lret hx hb hr (fun t ht _ => ⟨⟨_, (), rfl, rfl, by rw [ht]; exact hP, hD⟩, hS.F ht⟩) hS.2.2 dX0_takeLast_20
  · have h := iF c1 h
    refine lv_aload_n hx hb dX0_takeLast_7 rfl (lv_at hl 0 rfl) ?_
    refine va_get (D := D) (ci := 0) (v := .int xASize) (C := RX0) (T := TX0) (N := 2) hx hb hts hiX0 hown hK.1 hP 4 rfl rfl 1 (by decide) (hts (.fieldLink RX0 15 "WinnowedGuilt$Acts" "size" "I") (by decide +kernel)) (fun _ h9 => h9) rfl dX0_takeLast_8 ?_
    refine lv_aload_n hx hb dX0_takeLast_11 rfl (lv_at hl 0 rfl) ?_
    refine va_get (D := D) (ci := 0) (v := .ref (a 7)) (C := RX0) (T := TX0) (N := 2) hx hb hts hiX0 hown hK.1 hP 4 rfl rfl 0 (by decide) (hts (.fieldLink RX0 9 "WinnowedGuilt$Acts" "scenes" "[J") (by decide +kernel)) (fun _ h9 => h9) rfl dX0_takeLast_12 ?_
    refine va_alen (v := 14) hx hb hK.1 hP 5 1 rfl rfl rfl dX0_takeLast_15 ?_
    refine lv_icmp_le (tgt := 21) hx hb dX0_takeLast_16 (by decide) (fun c2 => ?_) (fun c2 => ?_)
    · have h := iT c2 h
      refine lv_aload_n hx hb dX0_takeLast_21 rfl (lv_at hl 0 rfl) ?_
      refine lv_dup hx hb dX0_takeLast_22 rfl ?_
      refine va_get (D := D) (ci := 0) (v := .int xASize) (C := RX0) (T := TX0) (N := 2) hx hb hts hiX0 hown hK.1 hP 4 rfl rfl 1 (by decide) (hts (.fieldLink RX0 15 "WinnowedGuilt$Acts" "size" "I") (by decide +kernel)) (fun _ h9 => h9) rfl dX0_takeLast_23 ?_
      refine lv_iconst (v := 1) hx hb dX0_takeLast_26 (by decide) ?_
      refine lv_isub hx hb dX0_takeLast_27 ?_
      refine va_put (D := D) (ci := 0) (v := .int (xASize - 1)) (ty := .int) (C := RX0) (T := TX0) (N := 2) hx hb hts hiX0 tyX0 tyX0_ok nmX0 hown hK.1 hP hD hS 4 rfl rfl 1 (by decide) (hts (.fieldLink RX0 15 "WinnowedGuilt$Acts" "size" "I") (by decide +kernel)) (fun _ h9 => h9) rfl (by decide +kernel) rfl rfl (Nat.le_of_ble_eq_true rfl) dX0_takeLast_28 (fun H locs hP hD hS => ?_)
      have hP : va_P D vwCl (xW a g d cI cJ cZ (g 0) (d 0) xText xLetters xNow xKept xIsKept xChance xScenes (xASize - 1) xSKinds xSLifts xSFlights xSSize xTally xOut fPk fWn fGw fGk fOw fSt fPe fHo fGr fPa fFt dPk dWn dGw dGk dOw dSt dPe dHo dGr dPa dFt) H := hP
      have hD : va_D A (xW a g d cI cJ cZ (g 0) (d 0) xText xLetters xNow xKept xIsKept xChance xScenes (xASize - 1) xSKinds xSLifts xSFlights xSSize xTally xOut fPk fWn fGw fGk fOw fSt fPe fHo fGr fPa fFt dPk dWn dGw dGk dOw dSt dPe dHo dGr dPa dFt) := hD
      refine lv_aload_n hx hb dX0_takeLast_31 rfl (lv_at hl 0 rfl) ?_
      refine va_get (D := D) (ci := 0) (v := .ref (a 7)) (C := RX0) (T := TX0) (N := 2) hx hb hts hiX0 hown hK.1 hP 4 rfl rfl 0 (by decide) (hts (.fieldLink RX0 9 "WinnowedGuilt$Acts" "scenes" "[J") (by decide +kernel)) (fun _ h9 => h9) rfl dX0_takeLast_32 ?_
      refine lv_aload_n hx hb dX0_takeLast_35 rfl (lv_at hl 0 rfl) ?_
      refine va_get (D := D) (ci := 0) (v := .int (xASize - 1)) (C := RX0) (T := TX0) (N := 2) hx hb hts hiX0 hown hK.1 hP 4 rfl rfl 1 (by decide) (hts (.fieldLink RX0 15 "WinnowedGuilt$Acts" "size" "I") (by decide +kernel)) (fun _ h9 => h9) rfl dX0_takeLast_36 ?_
      obtain ⟨hi3, h⟩ := gI_some h
      refine ldL (v := (xScenes (Int32.toNatClampNeg (xASize - 1)))) hx hb hK.1 hP 5 rfl rfl hi3 rfl dX0_takeLast_39 ?_
      cases h
      subst hAe
      exact W.lret hx hb hr (fun t ht _ => ⟨⟨_, (), rfl, rfl, by rw [ht]; exact hP, hD⟩, hS.F ht⟩) hS.2.2 dX0_takeLast_40
    · have h := iF c2 h
      refine lv_lload_n hx hb dX0_takeLast_19 rfl (lv_at hl 1 rfl) ?_
      cases h
      subst hAe
      exact W.lret hx hb hr (fun t ht _ => ⟨⟨_, (), rfl, rfl, by rw [ht]; exact hP, hD⟩, hS.F ht⟩) hS.2.2 dX0_takeLast_20

set_option maxHeartbeats 4000000 in
set_option maxRecDepth 100000 in
theorem c_xx_undo (l : Launch) (D : va_G) (cI cJ cZ : ClassId) (a : Nat → Nat) (g : Nat → Nat) (d : Nat → Nat) (xText : Nat → Int32) (xLetters : Int32) (xNow : Int64) (xKept : Nat → Int64) (xIsKept : Nat → Int32) (xChance : Int64) (xScenes : Nat → Int64) (xASize : Int32) (xSKinds : Nat → Int32) (xSLifts : Nat → Int32) (xSFlights : Nat → Int32) (xSSize : Int32) (xTally : Nat → Int32) (xOut : Nat → Int64) (fPk : Nat → Int32) (fWn : Nat → Int32) (fGw : Nat → Int32) (fGk : Nat → Int32) (fOw : Nat → Int32) (fSt : Nat → Int32) (fPe : Int32) (fHo : Int32) (fGr : Int32) (fPa : Int32) (fFt : Int32) (dPk : Nat → Int32) (dWn : Nat → Int32) (dGw : Nat → Int32) (dGk : Nat → Int32) (dOw : Nat → Int32) (dSt : Nat → Int32) (dPe : Int32) (dHo : Int32) (dGr : Int32) (dPa : Int32) (dFt : Int32)  (sz : Nat)  (rv : Int32) (xNow_r : Int64) (xASize_r : Int32) (h : xx_undo xNow xScenes xASize = some (rv, xNow_r, xASize_r)) : Met l yX11_undo wsX11_undo ({ frames := 1, cells := 0, slots := 0, locals := 22 } : Room) (wPc D cI cJ cZ (xW a g d cI cJ cZ (g 0) (d 0) xText xLetters xNow xKept xIsKept xChance xScenes xASize xSKinds xSLifts xSFlights xSSize xTally xOut fPk fWn fGw fGk fOw fSt fPe fHo fGr fPa fFt dPk dWn dGw dGk dOw dSt dPe dHo dGr dPa dFt) sz [.ref (a 0)]) (wQi D (xW a g d cI cJ cZ (g 0) (d 0) xText xLetters xNow xKept xIsKept xChance xScenes xASize xSKinds xSLifts xSFlights xSSize xTally xOut fPk fWn fGw fGk fOw fSt fPe fHo fGr fPa fFt dPk dWn dGw dGk dOw dSt dPe dHo dGr dPa dFt) (xW a g d cI cJ cZ (g 0) (d 0) xText xLetters xNow_r xKept xIsKept xChance xScenes xASize_r xSKinds xSLifts xSFlights xSSize xTally xOut fPk fWn fGw fGk fOw fSt fPe fHo fGr fPa fFt dPk dWn dGw dGk dOw dSt dPe dHo dGr dPa dFt) sz rv) 0 0 (va_A (xW a g d cI cJ cZ (g 0) (d 0) xText xLetters xNow xKept xIsKept xChance xScenes xASize xSKinds xSLifts xSFlights xSSize xTally xOut fPk fWn fGw fGk fOw fSt fPe fHo fGr fPa fFt dPk dWn dGw dGk dOw dSt dPe dHo dGr dPa dFt) sz) := by
  unfold xx_undo at h
  refine Met.ofW (cc := cX11_undo) (maxL := 1) (ret := (some .int)) (by decide) rfl ?_
  intro p e s m args below meth c s₁ B hml hv
  obtain ⟨rfl, hsz, hP, hK, hD0⟩ := hv
  have hx := B.exec
  have hb := B.bytes
  have hr := B.returns
  have hts := atoms_spec (ws := wsX11_undo) B.pre
  have hown : s.vm.findClass RX11 = some m.cls := findClass_of_methodNamed B.named
  have hlocks := B.notSynchronized
  subst hsz
  have hD := hD0.self (sz := s.heap.size)
  have hA : ∀ q : Nat, s.heap.size ≤ q → va_A (xW a g d cI cJ cZ (g 0) (d 0) xText xLetters xNow xKept xIsKept xChance xScenes xASize xSKinds xSLifts xSFlights xSSize xTally xOut fPk fWn fGw fGk fOw fSt fPe fHo fGr fPa fFt dPk dWn dGw dGk dOw dSt dPe dHo dGr dPa dFt) s.heap.size q := fun q h => Or.inr h
  have hS : va_S (va_A (xW a g d cI cJ cZ (g 0) (d 0) xText xLetters xNow xKept xIsKept xChance xScenes xASize xSKinds xSLifts xSFlights xSSize xTally xOut fPk fWn fGw fGk fOw fSt fPe fHo fGr fPa fFt dPk dWn dGw dGk dOw dSt dPe dHo dGr dPa dFt) s.heap.size) s.heap s.heap [] := va_S.rf
  obtain ⟨A, hAe⟩ : ∃ A, A = va_A (xW a g d cI cJ cZ (g 0) (d 0) xText xLetters xNow xKept xIsKept xChance xScenes xASize xSKinds xSLifts xSFlights xSSize xTally xOut fPk fWn fGw fGk fOw fSt fPe fHo fGr fPa fFt dPk dWn dGw dGk dOw dSt dPe dHo dGr dPa dFt) s.heap.size := ⟨_, rfl⟩
  rw [← hAe] at hD hA hS
  have hl := lv_entry ([.ref (a 0)]) (n := 1) (Nat.le_of_ble_eq_true rfl)
  rw [lg_entry_eq]
  generalize (lg_sl ([.ref (a 0)]) ++ List.replicate (1 - (lg_sl ([.ref (a 0)])).length) Slot.unset).toArray = ls at hl ⊢
  have hl : lv_has ls 1 [(0, .ref (a 0))] := hl
  have hiX0 : ∀ w ∈ u_ws RX0 TX0 2, w ∈ wsX11_undo := fun w hw => List.mem_cons_of_mem _ (List.mem_append_right _ hw)
  have hiX11 : ∀ w ∈ u_ws RX11 TX11 11, w ∈ wsX11_undo := fun w hw => List.mem_cons_of_mem _ (List.mem_append_left _ (List.mem_append_right _ hw))
  refine lv_aload_n hx hb dX11_undo_0 rfl (lv_at hl 0 rfl) ?_
  refine va_get (D := D) (ci := 4) (v := .ref (a 2)) (C := RX11) (T := TX11) (N := 11) hx hb hts hiX11 hown hK.1 hP 0 rfl rfl 5 (by decide) (hts (.fieldLink RX11 34 "WinnowedGuilt" "acts" "LWinnowedGuilt$Acts;") (by decide +kernel)) (fun _ h9 => h9) rfl dX11_undo_1 ?_
  refine va_getN (D := D) (ci := 0) (v := .int xASize) (C := RX0) (T := TX0) (N := 2) hx hb hts hiX0 hown hK.1 hP 4 rfl rfl 1 (by decide) (va_Nw.use rfl (kN_5 hK.2)) (fun _ h9 => h9) rfl dX11_undo_4 ?_
  refine lv_if_gt (tgt := 13) hx hb dX11_undo_7 (by decide) (fun c1 => ?_) (fun c1 => ?_)
  · have h := iT c1 h
    refine lv_aload_n hx hb dX11_undo_13 rfl (lv_at hl 0 rfl) ?_
    refine lv_aload_n hx hb dX11_undo_14 rfl (lv_at hl 0 rfl) ?_
    refine va_get (D := D) (ci := 4) (v := .ref (a 2)) (C := RX11) (T := TX11) (N := 11) hx hb hts hiX11 hown hK.1 hP 0 rfl rfl 5 (by decide) (hts (.fieldLink RX11 34 "WinnowedGuilt" "acts" "LWinnowedGuilt$Acts;") (by decide +kernel)) (fun _ h9 => h9) rfl dX11_undo_15 ?_
    refine lv_aload_n hx hb dX11_undo_18 rfl (lv_at hl 0 rfl) ?_
    refine va_get (D := D) (ci := 4) (v := .long xNow) (C := RX11) (T := TX11) (N := 11) hx hb hts hiX11 hown hK.1 hP 0 rfl rfl 4 (by decide) (hts (.fieldLink RX11 27 "WinnowedGuilt" "now" "J") (by decide +kernel)) (fun _ h9 => h9) rfl dX11_undo_19 ?_
    obtain ⟨q2, hq2, h⟩ := bS h
    refine wcL (va_runV (As := [.long xNow]) (rest := [.ref (a 0)]) ⟨hx, hb, hml, hown, hts⟩ (c_ac_takeLast l D cI cJ cZ a g d xText xLetters xNow xKept xIsKept xChance xScenes xASize xSKinds xSLifts xSFlights xSSize xTally xOut fPk fWn fGw fGk fOw fSt fPe fHo fGr fPa fFt dPk dWn dGw dGk dOw dSt dPe dHo dGr dPa dFt s.heap.size xNow q2.1 q2.2 hq2) (cwV 1 hts gX11_undo_X0_takeLast rfl rfl rfl (by decide +kernel) ⟨Nat.le_of_ble_eq_true rfl, Nat.le_of_ble_eq_true rfl⟩) (wPreV hK hP hD (ci := 0) (q0 := 4) rfl rfl) rfl rfl hl.1 rfl (lv_room (Nat.le_of_ble_eq_true rfl)) dX11_undo_22 ⟨Nat.zero_le _, Nat.zero_le _⟩) hD hS hA (fun H locs hP hD hS => ?_)
    have hP : va_P D vwCl (xW a g d cI cJ cZ (g 0) (d 0) xText xLetters xNow xKept xIsKept xChance xScenes q2.2 xSKinds xSLifts xSFlights xSSize xTally xOut fPk fWn fGw fGk fOw fSt fPe fHo fGr fPa fFt dPk dWn dGw dGk dOw dSt dPe dHo dGr dPa dFt) H := hP
    have hD : va_D A (xW a g d cI cJ cZ (g 0) (d 0) xText xLetters xNow xKept xIsKept xChance xScenes q2.2 xSKinds xSLifts xSFlights xSSize xTally xOut fPk fWn fGw fGk fOw fSt fPe fHo fGr fPa fFt dPk dWn dGw dGk dOw dSt dPe dHo dGr dPa dFt) := hD
    refine va_put (D := D) (ci := 4) (v := .long q2.1) (ty := .long) (C := RX11) (T := TX11) (N := 11) hx hb hts hiX11 tyX11 tyX11_ok nmX11 hown hK.1 hP hD hS 0 rfl rfl 4 (by decide) (hts (.fieldLink RX11 27 "WinnowedGuilt" "now" "J") (by decide +kernel)) (fun _ h9 => h9) rfl (by decide +kernel) rfl rfl (Nat.le_of_ble_eq_true rfl) dX11_undo_25 (fun H locs hP hD hS => ?_)
    have hP : va_P D vwCl (xW a g d cI cJ cZ (g 0) (d 0) xText xLetters q2.1 xKept xIsKept xChance xScenes q2.2 xSKinds xSLifts xSFlights xSSize xTally xOut fPk fWn fGw fGk fOw fSt fPe fHo fGr fPa fFt dPk dWn dGw dGk dOw dSt dPe dHo dGr dPa dFt) H := hP
    have hD : va_D A (xW a g d cI cJ cZ (g 0) (d 0) xText xLetters q2.1 xKept xIsKept xChance xScenes q2.2 xSKinds xSLifts xSFlights xSSize xTally xOut fPk fWn fGw fGk fOw fSt fPe fHo fGr fPa fFt dPk dWn dGw dGk dOw dSt dPe dHo dGr dPa dFt) := hD
    refine lv_aload_n hx hb dX11_undo_28 rfl (lv_at hl 0 rfl) ?_
    refine va_get (D := D) (ci := 4) (v := .ref (a 2)) (C := RX11) (T := TX11) (N := 11) hx hb hts hiX11 hown hK.1 hP 0 rfl rfl 5 (by decide) (hts (.fieldLink RX11 34 "WinnowedGuilt" "acts" "LWinnowedGuilt$Acts;") (by decide +kernel)) (fun _ h9 => h9) rfl dX11_undo_29 ?_
    refine va_getN (D := D) (ci := 0) (v := .int q2.2) (C := RX0) (T := TX0) (N := 2) hx hb hts hiX0 hown hK.1 hP 4 rfl rfl 1 (by decide) (va_Nw.use rfl (kN_5 hK.2)) (fun _ h9 => h9) rfl dX11_undo_32 ?_
    cases h
    subst hAe
    exact W.iret hx hb hr (fun t ht _ => ⟨⟨_, (), rfl, rfl, by rw [ht]; exact hP, hD⟩, hS.F ht⟩) hS.2.2 dX11_undo_35
  · have h := iF c1 h
    refine lv_bipush (v := (-3)) hx hb dX11_undo_10 (by decide) ?_
    cases h
    subst hAe
    exact W.iret hx hb hr (fun t ht _ => ⟨⟨_, (), rfl, rfl, by rw [ht]; exact hP, hD⟩, hS.F ht⟩) hS.2.2 dX11_undo_12

set_option maxHeartbeats 4000000 in
set_option maxRecDepth 100000 in
theorem c_fl_isTurn (l : Launch) (D : va_G) (cI cJ cZ : ClassId) (g : Nat → Nat) (fPk : Nat → Int32) (fWn : Nat → Int32) (fGw : Nat → Int32) (fGk : Nat → Int32) (fOw : Nat → Int32) (fSt : Nat → Int32) (fPe : Int32) (fHo : Int32) (fGr : Int32) (fPa : Int32) (fFt : Int32)  (H0 : Heap) (hP : va_P D vwCl (fW g cI fPk fWn fGw fGk fOw fSt fPe fHo fGr fPa fFt) H0) (p1 : Int32) (rv : Int32) (h : fl_isTurn fPe p1 = some rv) : Met l yX3_isTurn wsX3_isTurn ({ frames := 1, cells := 0, slots := 0, locals := 21 } : Room) (rPc D cI cJ cZ H0 [.ref (g 0), .int p1]) (vp_Si (fun r => r = rv)) 0 0 (fun _ => False) := by
  unfold fl_isTurn at h
  refine Met.ofW (cc := cX3_isTurn) (maxL := 2) (ret := (some .boolean)) (by decide) rfl ?_
  intro p e s m args below meth c s₁ B hml hv
  obtain ⟨rfl, hH, hK⟩ := hv
  have hx := B.exec
  have hb := B.bytes
  have hr := B.returns
  have hts := atoms_spec (ws := wsX3_isTurn) B.pre
  have hown : s.vm.findClass RX3 = some m.cls := findClass_of_methodNamed B.named
  have hlocks := B.notSynchronized
  subst hH
  have hl := lv_entry ([.ref (g 0), .int p1]) (n := 2) (Nat.le_of_ble_eq_true rfl)
  rw [lg_entry_eq]
  generalize (lg_sl ([.ref (g 0), .int p1]) ++ List.replicate (2 - (lg_sl ([.ref (g 0), .int p1])).length) Slot.unset).toArray = ls at hl ⊢
  have hl : lv_has ls 2 [(0, .ref (g 0)), (1, .int p1)] := hl
  refine lv_iload_n hx hb dX3_isTurn_0 rfl (lv_at hl 1 rfl) ?_
  refine lv_iconst (v := 4) hx hb dX3_isTurn_1 (by decide) ?_
  refine lv_icmp_eq (tgt := 13) hx hb dX3_isTurn_2 (by decide) (fun c1 => ?_) (fun c1 => ?_)
  · have h := iT c1 h
    refine lv_iconst (v := 1) hx hb dX3_isTurn_13 (by decide) ?_
    refine lv_goto (tgt := 18) hx hb dX3_isTurn_14 (by decide) ?_
    exact W.zret hx hb hr (by decide) (fun t ht _ => ⟨_, rfl, Option.some.inj h, ht⟩) (fun _ q => absurd q List.not_mem_nil) dX3_isTurn_18
  · have h := iF c1 h
    refine lv_aload_n hx hb dX3_isTurn_5 rfl (lv_at hl 0 rfl) ?_
    refine lv_iload_n hx hb dX3_isTurn_6 rfl (lv_at hl 1 rfl) ?_
    obtain ⟨q2, hq2, h⟩ := bS h
    refine rcI (va_runV (As := [.int p1]) (rest := []) ⟨hx, hb, hml, hown, hts⟩ (c_fl_isPerson l D cI cJ cZ g fPk fWn fGw fGk fOw fSt fPe fHo fGr fPa fFt s.heap hP p1 q2 hq2) (cwV 1 hts gX3_isTurn_X3_isPerson rfl rfl rfl (by decide +kernel) ⟨Nat.le_of_ble_eq_true rfl, Nat.le_of_ble_eq_true rfl⟩) (rPreV hK hP (ci := 2) (q0 := 0) rfl rfl) rfl rfl hl.1 rfl (lv_room (Nat.le_of_ble_eq_true rfl)) dX3_isTurn_7 ⟨Nat.zero_le _, Nat.zero_le _⟩) ?_
    refine lv_if_eq (tgt := 17) hx hb dX3_isTurn_10 (by decide) (fun c3 => ?_) (fun c3 => ?_)
    · have h := iT c3 h
      refine lv_iconst (v := 0) hx hb dX3_isTurn_17 (by decide) ?_
      exact W.zret hx hb hr (by decide) (fun t ht _ => ⟨_, rfl, Option.some.inj h, ht⟩) (fun _ q => absurd q List.not_mem_nil) dX3_isTurn_18
    · have h := iF c3 h
      refine lv_iconst (v := 1) hx hb dX3_isTurn_13 (by decide) ?_
      refine lv_goto (tgt := 18) hx hb dX3_isTurn_14 (by decide) ?_
      exact W.zret hx hb hr (by decide) (fun t ht _ => ⟨_, rfl, Option.some.inj h, ht⟩) (fun _ q => absurd q List.not_mem_nil) dX3_isTurn_18

set_option maxHeartbeats 4000000 in
set_option maxRecDepth 100000 in
theorem c_fl_turned (l : Launch) (D : va_G) (cI cJ cZ : ClassId) (g : Nat → Nat) (fPk : Nat → Int32) (fWn : Nat → Int32) (fGw : Nat → Int32) (fGk : Nat → Int32) (fOw : Nat → Int32) (fSt : Nat → Int32) (fPe : Int32) (fHo : Int32) (fGr : Int32) (fPa : Int32) (fFt : Int32)  (H0 : Heap) (hP : va_P D vwCl (fW g cI fPk fWn fGw fGk fOw fSt fPe fHo fGr fPa fFt) H0) (p1 : Int64) (p3 : Int32) (rv : Int64) (h : fl_turned fPk fWn fGw fGk fOw fPe fHo fGr p1 p3 = some rv) : Met l yX3_turned wsX3_turned ({ frames := 4, cells := 0, slots := 0, locals := 99 } : Room) (rPc D cI cJ cZ H0 [.ref (g 0), .long p1, .int p3]) (vp_Sl (fun r => r = rv)) 0 0 (fun _ => False) := by
  unfold fl_turned at h
  refine Met.ofW (cc := cX3_turned) (maxL := 4) (ret := (some .long)) (by decide) rfl ?_
  intro p e s m args below meth c s₁ B hml hv
  obtain ⟨rfl, hH, hK⟩ := hv
  have hx := B.exec
  have hb := B.bytes
  have hr := B.returns
  have hts := atoms_spec (ws := wsX3_turned) B.pre
  have hown : s.vm.findClass RX3 = some m.cls := findClass_of_methodNamed B.named
  have hlocks := B.notSynchronized
  subst hH
  have hl := lv_entry ([.ref (g 0), .long p1, .int p3]) (n := 4) (Nat.le_of_ble_eq_true rfl)
  rw [lg_entry_eq]
  generalize (lg_sl ([.ref (g 0), .long p1, .int p3]) ++ List.replicate (4 - (lg_sl ([.ref (g 0), .long p1, .int p3])).length) Slot.unset).toArray = ls at hl ⊢
  have hl : lv_has ls 4 [(0, .ref (g 0)), (1, .long p1), (3, .int p3)] := hl
  refine lv_iload_n hx hb dX3_turned_0 rfl (lv_at hl 2 rfl) ?_
  refine lv_iconst (v := 4) hx hb dX3_turned_1 (by decide) ?_
  refine lv_icmp_ne (tgt := 12) hx hb dX3_turned_2 (by decide) (fun c1 => ?_) (fun c1 => ?_)
  · have h := iF c1 h
    refine lv_aload_n hx hb dX3_turned_12 rfl (lv_at hl 0 rfl) ?_
    refine lv_lload_n hx hb dX3_turned_13 rfl (lv_at hl 1 rfl) ?_
    refine lv_iload_n hx hb dX3_turned_14 rfl (lv_at hl 2 rfl) ?_
    obtain ⟨q2, hq2, h⟩ := bS h
    refine rcL (va_runV (As := [.long p1, .int p3]) (rest := []) ⟨hx, hb, hml, hown, hts⟩ (c_fl_tossed l D cI cJ cZ g fPk fWn fGw fGk fOw fSt fPe fHo fGr fPa fFt s.heap hP p1 p3 q2 hq2) (cwV 2 hts gX3_turned_X3_tossed rfl rfl rfl (by decide +kernel) ⟨Nat.le_of_ble_eq_true rfl, Nat.le_of_ble_eq_true rfl⟩) (rPreV hK hP (ci := 2) (q0 := 0) rfl rfl) rfl rfl hl.1 rfl (lv_room (Nat.le_of_ble_eq_true rfl)) dX3_turned_15 ⟨Nat.zero_le _, Nat.zero_le _⟩) ?_
    exact W.lret hx hb hr (fun t ht _ => ⟨_, rfl, Option.some.inj h, ht⟩) (fun _ q => absurd q List.not_mem_nil) dX3_turned_18
  · have h := iT c1 h
    refine lv_lload_n hx hb dX3_turned_5 rfl (lv_at hl 1 rfl) ?_
    obtain ⟨q2, hq2, h⟩ := bS h
    refine rcL (va_runS (As := [.long p1]) (rest := []) ⟨hx, hb, hml, hown, hts⟩ (c_sc_later l D cI cJ cZ   s.heap p1 q2 hq2) (va_cwS 1 hts gX3_turned_X7_later rfl rfl rfl (by decide +kernel) ⟨Nat.le_of_ble_eq_true rfl, Nat.le_of_ble_eq_true rfl⟩) (rPreS hK) rfl rfl hl.1 rfl (lv_room (Nat.le_of_ble_eq_true rfl)) dX3_turned_6 ⟨Nat.zero_le _, Nat.zero_le _⟩) ?_
    refine lv_goto (tgt := 18) hx hb dX3_turned_9 (by decide) ?_
    exact W.lret hx hb hr (fun t ht _ => ⟨_, rfl, Option.some.inj h, ht⟩) (fun _ q => absurd q List.not_mem_nil) dX3_turned_18

set_option maxHeartbeats 4000000 in
set_option maxRecDepth 100000 in
theorem c_tu_mostRight (l : Launch) (D : va_G) (cI cJ cZ : ClassId) (g : Nat → Nat) (fPk : Nat → Int32) (fWn : Nat → Int32) (fGw : Nat → Int32) (fGk : Nat → Int32) (fOw : Nat → Int32) (fSt : Nat → Int32) (fPe : Int32) (fHo : Int32) (fGr : Int32) (fPa : Int32) (fFt : Int32)  (H0 : Heap) (hP : va_P D vwCl (fW g cI fPk fWn fGw fGk fOw fSt fPe fHo fGr fPa fFt) H0) : ∀ (dd : Nat) (p1 : Int64) (p3 : Int32) (p4 : Int32) (rv : Int32) (h : tu_mostRight fPk fWn fGw fGk fOw fPe fHo fGr dd p1 p3 p4 = some rv), Met l yX10_mostRight wsX10_mostRight ({ frames := 5 + (dd), cells := 0, slots := 0, locals := 122 + 27 * (dd) } : Room) (rPc D cI cJ cZ H0 [.ref (g 0), .long p1, .int p3, .int p4]) (vp_Si (fun r => r = rv)) 0 0 (fun _ => False) := by
  intro dd
  induction dd with
  | zero => intro _ _ _ _ h; rw [tu_mostRight.eq_1] at h; cases h
  | succ dd ihd =>
    intro p1 p3 p4 rv h
    rw [tu_mostRight.eq_2] at h
    refine Met.ofW (cc := cX10_mostRight) (maxL := 8) (ret := (some .int)) (by decide) rfl ?_
    intro p e s m args below meth c s₁ B hml hv
    obtain ⟨rfl, hH, hK⟩ := hv
    have hx := B.exec
    have hb := B.bytes
    have hr := B.returns
    have hts := atoms_spec (ws := wsX10_mostRight) B.pre
    have hown : s.vm.findClass RX10 = some m.cls := findClass_of_methodNamed B.named
    have hlocks := B.notSynchronized
    subst hH
    have hl := lv_entry ([.ref (g 0), .long p1, .int p3, .int p4]) (n := 8) (Nat.le_of_ble_eq_true rfl)
    rw [lg_entry_eq]
    generalize (lg_sl ([.ref (g 0), .long p1, .int p3, .int p4]) ++ List.replicate (8 - (lg_sl ([.ref (g 0), .long p1, .int p3, .int p4])).length) Slot.unset).toArray = ls at hl ⊢
    have hl : lv_has ls 8 [(0, .ref (g 0)), (1, .long p1), (3, .int p3), (4, .int p4)] := hl
    refine lv_iload_n hx hb dX10_mostRight_0 rfl (lv_at hl 2 rfl) ?_
    refine lv_if_gt (tgt := 19) hx hb dX10_mostRight_1 (by decide) (fun c1 => ?_) (fun c1 => ?_)
    · have h := iT c1 h
      refine lv_iconst (v := (-1)) hx hb dX10_mostRight_19 (by decide) ?_
      refine lv_istore (lv' := [(5, .int (-1)), (0, .ref (g 0)), (1, .long p1), (3, .int p3), (4, .int p4)]) hx hb dX10_mostRight_20 hl (by decide) rfl (fun ls hl => ?_)
      refine lv_iconst (v := 0) hx hb dX10_mostRight_22 (by decide) ?_
      refine lv_istore (lv' := [(6, .int 0), (5, .int (-1)), (0, .ref (g 0)), (1, .long p1), (3, .int p3), (4, .int p4)]) hx hb dX10_mostRight_23 hl (by decide) rfl (fun ls hl => ?_)
      have L25 : ∀ (n : Nat) (x6_25 : Int32) (x5_25 : Int32) (ls : Array Slot) (kx : Int32 → Int32 → Option (Int32)), tu_mostRight_L25 (tu_mostRight fPk fWn fGw fGk fOw fPe fHo fGr dd) fPk fWn fGw fGk fOw fPe fHo fGr p1 p3 p4 kx n x6_25 x5_25 = some rv → lv_has ls 8 [(6, .int x6_25), (5, .int x5_25), (0, .ref (g 0)), (1, .long p1), (3, .int p3), (4, .int p4)] → (∀ (y6_25 : Int32) (y5_25 : Int32) (ls : Array Slot), kx y6_25 y5_25 = some rv → lv_has ls 8 [(6, .int y6_25), (5, .int y5_25), (0, .ref (g 0)), (1, .long p1), (3, .int p3), (4, .int p4)] → W p l e (headSpec wsX10_mostRight ({ frames := 5 + (dd + 1), cells := 0, slots := 0, locals := 122 + 27 * (dd + 1) } : Room)).room s m ([.ref (g 0), .long p1, .int p3, .int p4] : List Value).toArray below meth c s.heap [] 0 0 (MQ below (vp_Si (fun r => r = rv)) ([.ref (g 0), .long p1, .int p3, .int p4] : List Value).toArray s 0 0 (fun _ => False)) (F0 m 92 ls [])) → W p l e (headSpec wsX10_mostRight ({ frames := 5 + (dd + 1), cells := 0, slots := 0, locals := 122 + 27 * (dd + 1) } : Room)).room s m ([.ref (g 0), .long p1, .int p3, .int p4] : List Value).toArray below meth c s.heap [] 0 0 (MQ below (vp_Si (fun r => r = rv)) ([.ref (g 0), .long p1, .int p3, .int p4] : List Value).toArray s 0 0 (fun _ => False)) (F0 m 25 ls []) := by
        intro n
        induction n with
        | zero => intro _ _ _ _ h; rw [tu_mostRight_L25.eq_1] at h; cases h
        | succ n ih =>
          intro x6_25 x5_25 ls kx h hl hk
          rw [tu_mostRight_L25.eq_2] at h
          refine lv_iload hx hb dX10_mostRight_25 (lv_at hl 0 rfl) ?_
          refine lv_iconst (v := 4) hx hb dX10_mostRight_27 (by decide) ?_
          refine lv_icmp_gt (tgt := 92) hx hb dX10_mostRight_28 (by decide) (fun c2 => ?_) (fun c2 => ?_)
          · have h := iT c2 h
            exact hk _ _ _ h (lv_sub hl [0, 1, 2, 3, 4, 5] rfl)
          · have h := iF c2 h
            refine lv_aload_n hx hb dX10_mostRight_31 rfl (lv_at hl 2 rfl) ?_
            refine lv_iload hx hb dX10_mostRight_32 (lv_at hl 0 rfl) ?_
            obtain ⟨q3, hq3, h⟩ := bS h
            refine rcI (va_runV (As := [.int x6_25]) (rest := []) ⟨hx, hb, hml, hown, hts⟩ (c_fl_isTurn l D cI cJ cZ g fPk fWn fGw fGk fOw fSt fPe fHo fGr fPa fFt s.heap hP x6_25 q3 hq3) (cwV 1 hts gX10_mostRight_X3_isTurn rfl rfl rfl (by decide +kernel) ⟨(show 1 + 1 ≤ 5 + (dd + 1) by omega), (show 8 + (2 + 11) + 21 ≤ 122 + 27 * (dd + 1) by omega)⟩) (rPreV hK hP (ci := 2) (q0 := 0) rfl rfl) rfl rfl hl.1 rfl (lv_room (Nat.le_of_ble_eq_true rfl)) dX10_mostRight_34 ⟨Nat.zero_le _, Nat.zero_le _⟩) ?_
            refine lv_if_eq (tgt := 86) hx hb dX10_mostRight_37 (by decide) (fun c4 => ?_) (fun c4 => ?_)
            · have h := iT c4 h
              refine lv_iinc (v := (x6_25 + 1)) (lv' := [(6, .int (x6_25 + 1)), (5, .int x5_25), (0, .ref (g 0)), (1, .long p1), (3, .int p3), (4, .int p4)]) hx hb dX10_mostRight_86 hl (k := 0) rfl rfl (by decide) rfl (fun ls hl => ?_)
              refine lv_goto (tgt := 25) hx hb dX10_mostRight_89 (by decide) ?_
              exact ih _ _ _ _ h (lv_sub hl [0, 1, 2, 3, 4, 5] rfl) hk
            · have h := iF c4 h
              refine lv_aload_n hx hb dX10_mostRight_40 rfl (lv_at hl 2 rfl) ?_
              refine lv_aload_n hx hb dX10_mostRight_41 rfl (lv_at hl 2 rfl) ?_
              refine lv_lload_n hx hb dX10_mostRight_42 rfl (lv_at hl 3 rfl) ?_
              refine lv_iload hx hb dX10_mostRight_43 (lv_at hl 0 rfl) ?_
              obtain ⟨q5, hq5, h⟩ := bS h
              refine rcL (va_runV (As := [.long p1, .int x6_25]) (rest := [.ref (g 0)]) ⟨hx, hb, hml, hown, hts⟩ (c_fl_turned l D cI cJ cZ g fPk fWn fGw fGk fOw fSt fPe fHo fGr fPa fFt s.heap hP p1 x6_25 q5 hq5) (cwV 2 hts gX10_mostRight_X3_turned rfl rfl rfl (by decide +kernel) ⟨(show 4 + 1 ≤ 5 + (dd + 1) by omega), (show 8 + (4 + 11) + 99 ≤ 122 + 27 * (dd + 1) by omega)⟩) (rPreV hK hP (ci := 2) (q0 := 0) rfl rfl) rfl rfl hl.1 rfl (lv_room (Nat.le_of_ble_eq_true rfl)) dX10_mostRight_45 ⟨Nat.zero_le _, Nat.zero_le _⟩) ?_
              refine lv_iload_n hx hb dX10_mostRight_48 rfl (lv_at hl 4 rfl) ?_
              refine lv_iconst (v := 1) hx hb dX10_mostRight_49 (by decide) ?_
              refine lv_isub hx hb dX10_mostRight_50 ?_
              refine lv_bipush (v := 10) hx hb dX10_mostRight_51 (by decide) ?_
              refine lv_iload hx hb dX10_mostRight_53 (lv_at hl 5 rfl) ?_
              refine lv_imul hx hb dX10_mostRight_55 ?_
              refine lv_iload hx hb dX10_mostRight_56 (lv_at hl 0 rfl) ?_
              refine lv_iadd hx hb dX10_mostRight_58 ?_
              obtain ⟨q6, hq6, h⟩ := bS h
              refine rcI (va_runS (As := [.ref (g 0), .long q5, .int (p3 - 1), .int ((10 * p4) + x6_25)]) (rest := []) ⟨hx, hb, hml, hown, hts⟩ (ihd q5 (p3 - 1) ((10 * p4) + x6_25) q6 hq6) (va_cwS 4 hts gX10_mostRight_X10_mostRight rfl rfl rfl (by decide +kernel) ⟨(show 5 + dd + 1 ≤ 5 + (dd + 1) by omega), (show 8 + (8 + 11) + (122 + 27 * dd) ≤ 122 + 27 * (dd + 1) by omega)⟩) (rPreS hK) rfl rfl hl.1 rfl (lv_room (Nat.le_of_ble_eq_true rfl)) dX10_mostRight_59 ⟨Nat.zero_le _, Nat.zero_le _⟩) ?_
              refine lv_istore (lv' := [(7, .int q6), (6, .int x6_25), (5, .int x5_25), (0, .ref (g 0)), (1, .long p1), (3, .int p3), (4, .int p4)]) hx hb dX10_mostRight_62 hl (by decide) rfl (fun ls hl => ?_)
              refine lv_iload hx hb dX10_mostRight_64 (lv_at hl 2 rfl) ?_
              refine lv_if_lt (tgt := 82) hx hb dX10_mostRight_66 (by decide) (fun c7 => ?_) (fun c7 => ?_)
              · have h := iT c7 h
                refine lv_iload hx hb dX10_mostRight_82 (lv_at hl 0 rfl) ?_
                refine lv_istore (lv' := [(5, .int q6), (7, .int q6), (6, .int x6_25), (0, .ref (g 0)), (1, .long p1), (3, .int p3), (4, .int p4)]) hx hb dX10_mostRight_84 hl (by decide) rfl (fun ls hl => ?_)
                refine lv_iinc (v := (x6_25 + 1)) (lv' := [(6, .int (x6_25 + 1)), (5, .int q6), (7, .int q6), (0, .ref (g 0)), (1, .long p1), (3, .int p3), (4, .int p4)]) hx hb dX10_mostRight_86 hl (k := 2) rfl rfl (by decide) rfl (fun ls hl => ?_)
                refine lv_goto (tgt := 25) hx hb dX10_mostRight_89 (by decide) ?_
                exact ih _ _ _ _ h (lv_sub hl [0, 1, 3, 4, 5, 6] rfl) hk
              · have h := iF c7 h
                refine lv_iload hx hb dX10_mostRight_69 (lv_at hl 0 rfl) ?_
                refine lv_ldc (own := RX10) (v := 100000) hx hb hown (hts (.constant RX10 23 (100000)) (by decide +kernel)) dX10_mostRight_71 ?_
                refine lv_idiv hx hb dX10_mostRight_73 (by decide) ?_
                refine lv_iload hx hb dX10_mostRight_74 (lv_at hl 2 rfl) ?_
                refine lv_ldc (own := RX10) (v := 100000) hx hb hown (hts (.constant RX10 23 (100000)) (by decide +kernel)) dX10_mostRight_76 ?_
                refine lv_idiv hx hb dX10_mostRight_78 (by decide) ?_
                refine lv_icmp_le (tgt := 86) hx hb dX10_mostRight_79 (by decide) (fun c8 => ?_) (fun c8 => ?_)
                · have h := iT c8 h
                  refine lv_iinc (v := (x6_25 + 1)) (lv' := [(6, .int (x6_25 + 1)), (7, .int q6), (5, .int x5_25), (0, .ref (g 0)), (1, .long p1), (3, .int p3), (4, .int p4)]) hx hb dX10_mostRight_86 hl (k := 1) rfl rfl (by decide) rfl (fun ls hl => ?_)
                  refine lv_goto (tgt := 25) hx hb dX10_mostRight_89 (by decide) ?_
                  exact ih _ _ _ _ h (lv_sub hl [0, 2, 3, 4, 5, 6] rfl) hk
                · have h := iF c8 h
                  refine lv_iload hx hb dX10_mostRight_82 (lv_at hl 0 rfl) ?_
                  refine lv_istore (lv' := [(5, .int q6), (7, .int q6), (6, .int x6_25), (0, .ref (g 0)), (1, .long p1), (3, .int p3), (4, .int p4)]) hx hb dX10_mostRight_84 hl (by decide) rfl (fun ls hl => ?_)
                  refine lv_iinc (v := (x6_25 + 1)) (lv' := [(6, .int (x6_25 + 1)), (5, .int q6), (7, .int q6), (0, .ref (g 0)), (1, .long p1), (3, .int p3), (4, .int p4)]) hx hb dX10_mostRight_86 hl (k := 2) rfl rfl (by decide) rfl (fun ls hl => ?_)
                  refine lv_goto (tgt := 25) hx hb dX10_mostRight_89 (by decide) ?_
                  exact ih _ _ _ _ h (lv_sub hl [0, 1, 3, 4, 5, 6] rfl) hk
      refine L25 _ _ _ _ _ h hl (fun y6_25 y5_25 ls h hl => ?_)
      refine lv_iload hx hb dX10_mostRight_92 (lv_at hl 1 rfl) ?_
      exact W.iret hx hb hr (fun t ht _ => ⟨_, rfl, Option.some.inj h, ht⟩) (fun _ q => absurd q List.not_mem_nil) dX10_mostRight_94
    · have h := iF c1 h
      refine lv_aload_n hx hb dX10_mostRight_4 rfl (lv_at hl 0 rfl) ?_
      refine lv_lload_n hx hb dX10_mostRight_5 rfl (lv_at hl 1 rfl) ?_
      obtain ⟨q2, hq2, h⟩ := bS h
      refine rcI (va_runV (As := [.long p1]) (rest := []) ⟨hx, hb, hml, hown, hts⟩ (c_fl_rightBits l D cI cJ cZ g fPk fWn fGw fGk fOw fSt fPe fHo fGr fPa fFt s.heap hP p1 q2 hq2) (cwV 1 hts gX10_mostRight_X3_rightBits rfl rfl rfl (by decide +kernel) ⟨(show 2 + 1 ≤ 5 + (dd + 1) by omega), (show 8 + (5 + 11) + 45 ≤ 122 + 27 * (dd + 1) by omega)⟩) (rPreV hK hP (ci := 2) (q0 := 0) rfl rfl) rfl rfl hl.1 rfl (lv_room (Nat.le_of_ble_eq_true rfl)) dX10_mostRight_6 ⟨Nat.zero_le _, Nat.zero_le _⟩) ?_
      obtain ⟨q3, hq3, h⟩ := bS h
      refine rcI (va_runS (As := [.int q2]) (rest := []) ⟨hx, hb, hml, hown, hts⟩ (c_ji_bitCount l D cI cJ cZ   s.heap q2 q3 hq3) (va_cwS 1 hts gX10_mostRight_J6_bitCount_0f7a4 rfl rfl rfl (by decide +kernel) ⟨(show 0 + 1 ≤ 5 + (dd + 1) by omega), (show 8 + (1 + 11) + 0 ≤ 122 + 27 * (dd + 1) by omega)⟩) (rPreS hK) rfl rfl hl.1 rfl (lv_room (Nat.le_of_ble_eq_true rfl)) dX10_mostRight_9 ⟨Nat.zero_le _, Nat.zero_le _⟩) ?_
      refine lv_ldc (own := RX10) (v := 100000) hx hb hown (hts (.constant RX10 23 (100000)) (by decide +kernel)) dX10_mostRight_12 ?_
      refine lv_imul hx hb dX10_mostRight_14 ?_
      refine lv_iload hx hb dX10_mostRight_15 (lv_at hl 3 rfl) ?_
      refine lv_iadd hx hb dX10_mostRight_17 ?_
      exact W.iret hx hb hr (fun t ht _ => ⟨_, rfl, Option.some.inj h, ht⟩) (fun _ q => absurd q List.not_mem_nil) dX10_mostRight_18

set_option maxHeartbeats 4000000 in
set_option maxRecDepth 100000 in
theorem c_xx_best (l : Launch) (D : va_G) (cI cJ cZ : ClassId) (a : Nat → Nat) (g : Nat → Nat) (d : Nat → Nat) (xText : Nat → Int32) (xLetters : Int32) (xNow : Int64) (xKept : Nat → Int64) (xIsKept : Nat → Int32) (xChance : Int64) (xScenes : Nat → Int64) (xASize : Int32) (xSKinds : Nat → Int32) (xSLifts : Nat → Int32) (xSFlights : Nat → Int32) (xSSize : Int32) (xTally : Nat → Int32) (xOut : Nat → Int64) (fPk : Nat → Int32) (fWn : Nat → Int32) (fGw : Nat → Int32) (fGk : Nat → Int32) (fOw : Nat → Int32) (fSt : Nat → Int32) (fPe : Int32) (fHo : Int32) (fGr : Int32) (fPa : Int32) (fFt : Int32) (dPk : Nat → Int32) (dWn : Nat → Int32) (dGw : Nat → Int32) (dGk : Nat → Int32) (dOw : Nat → Int32) (dSt : Nat → Int32) (dPe : Int32) (dHo : Int32) (dGr : Int32) (dPa : Int32) (dFt : Int32)  (H0 : Heap) (hP : va_P D vwCl (xW a g d cI cJ cZ (g 0) (d 0) xText xLetters xNow xKept xIsKept xChance xScenes xASize xSKinds xSLifts xSFlights xSSize xTally xOut fPk fWn fGw fGk fOw fSt fPe fHo fGr fPa fFt dPk dWn dGw dGk dOw dSt dPe dHo dGr dPa dFt) H0) (p1 : Int32) (p2 : Int32) (rv : Int32) (h : xx_best xNow fPk fWn fGw fGk fOw fPe fHo fGr p1 p2 = some rv) : Met l yX11_best wsX11_best ({ frames := 12, cells := 0, slots := 0, locals := 311 } : Room) (rPc D cI cJ cZ H0 [.ref (a 0), .int p1, .int p2]) (vp_Si (fun r => r = rv)) 0 0 (fun _ => False) := by
  unfold xx_best at h
  refine Met.ofW (cc := cX11_best) (maxL := 4) (ret := (some .int)) (by decide) rfl ?_
  intro p e s m args below meth c s₁ B hml hv
  obtain ⟨rfl, hH, hK⟩ := hv
  have hx := B.exec
  have hb := B.bytes
  have hr := B.returns
  have hts := atoms_spec (ws := wsX11_best) B.pre
  have hown : s.vm.findClass RX11 = some m.cls := findClass_of_methodNamed B.named
  have hlocks := B.notSynchronized
  subst hH
  have hl := lv_entry ([.ref (a 0), .int p1, .int p2]) (n := 4) (Nat.le_of_ble_eq_true rfl)
  rw [lg_entry_eq]
  generalize (lg_sl ([.ref (a 0), .int p1, .int p2]) ++ List.replicate (4 - (lg_sl ([.ref (a 0), .int p1, .int p2])).length) Slot.unset).toArray = ls at hl ⊢
  have hl : lv_has ls 4 [(0, .ref (a 0)), (1, .int p1), (2, .int p2)] := hl
  have hiX11 : ∀ w ∈ u_ws RX11 TX11 11, w ∈ wsX11_best := fun w hw => List.mem_cons_of_mem _ (List.mem_append_left _ (List.mem_append_right _ hw))
  refine lv_iload_n hx hb dX11_best_0 rfl (lv_at hl 1 rfl) ?_
  refine lv_iconst (v := 1) hx hb dX11_best_1 (by decide) ?_
  refine lv_icmp_lt (tgt := 10) hx hb dX11_best_2 (by decide) (fun c1 => ?_) (fun c1 => ?_)
  · have h := iT c1 h
    refine lv_bipush (v := (-2)) hx hb dX11_best_10 (by decide) ?_
    exact W.iret hx hb hr (fun t ht _ => ⟨_, rfl, Option.some.inj h, ht⟩) (fun _ q => absurd q List.not_mem_nil) dX11_best_12
  · have h := iF c1 h
    refine lv_iload_n hx hb dX11_best_5 rfl (lv_at hl 1 rfl) ?_
    refine lv_iconst (v := 4) hx hb dX11_best_6 (by decide) ?_
    refine lv_icmp_le (tgt := 13) hx hb dX11_best_7 (by decide) (fun c2 => ?_) (fun c2 => ?_)
    · have h := iT c2 h
      refine lv_aload_n hx hb dX11_best_13 rfl (lv_at hl 0 rfl) ?_
      refine va_get (D := D) (ci := 4) (v := .ref (g 0)) (C := RX11) (T := TX11) (N := 11) hx hb hts hiX11 hown hK.1 hP 0 rfl rfl 2 (by decide) (hts (.fieldLink RX11 16 "WinnowedGuilt" "ground" "LWinnowedGuilt$Floor;") (by decide +kernel)) (fun _ h9 => h9) rfl dX11_best_14 ?_
      refine lv_aload_n hx hb dX11_best_17 rfl (lv_at hl 0 rfl) ?_
      refine va_get (D := D) (ci := 4) (v := .long xNow) (C := RX11) (T := TX11) (N := 11) hx hb hts hiX11 hown hK.1 hP 0 rfl rfl 4 (by decide) (hts (.fieldLink RX11 27 "WinnowedGuilt" "now" "J") (by decide +kernel)) (fun _ h9 => h9) rfl dX11_best_18 ?_
      refine lv_iload_n hx hb dX11_best_21 rfl (lv_at hl 1 rfl) ?_
      refine lv_iconst (v := 1) hx hb dX11_best_22 (by decide) ?_
      have hG := hP.sub (ws' := (fW g cI fPk fWn fGw fGk fOw fSt fPe fHo fGr fPa fFt)) [13, 14, 15, 16, 17, 18, 19] rfl
      obtain ⟨q3, hq3, h⟩ := bS h
      refine rcI (va_runSN (As := [.ref (g 0), .long xNow, .int p1, .int 1]) (rest := []) ⟨hx, hb, hml, hown, hts⟩ (c_tu_mostRight l D cI cJ cZ g fPk fWn fGw fGk fOw fSt fPe fHo fGr fPa fFt s.heap hG 6 xNow p1 1 q3 hq3) ⟨va_cnB 4 hts gX11_best_X10_mostRight_n180 rfl rfl rfl (kN_11 hK.2) (hts (.initialized RX10) (by decide +kernel)) (by decide +kernel) ⟨Nat.le_of_ble_eq_true rfl, Nat.le_of_ble_eq_true rfl⟩, hts (.static yX10_mostRight) (by decide +kernel), trivial⟩ (rPreS hK) rfl rfl hl.1 rfl (lv_room (Nat.le_of_ble_eq_true rfl)) dX11_best_23 ⟨Nat.zero_le _, Nat.zero_le _⟩) ?_
      refine lv_istore_n (lv' := [(3, .int q3), (0, .ref (a 0)), (1, .int p1), (2, .int p2)]) hx hb dX11_best_26 rfl hl (by decide) rfl (fun ls hl => ?_)
      refine lv_iload_n hx hb dX11_best_27 rfl (lv_at hl 3 rfl) ?_
      refine lv_if_eq (tgt := 38) hx hb dX11_best_28 (by decide) (fun c4 => ?_) (fun c4 => ?_)
      · have h := iT c4 h
        refine lv_iload_n hx hb dX11_best_38 rfl (lv_at hl 0 rfl) ?_
        refine lv_ldc (own := RX11) (v := 100000) hx hb hown (hts (.constant RX11 186 (100000)) (by decide +kernel)) dX11_best_39 ?_
        refine lv_idiv hx hb dX11_best_41 (by decide) ?_
        exact W.iret hx hb hr (fun t ht _ => ⟨_, rfl, Option.some.inj h, ht⟩) (fun _ q => absurd q List.not_mem_nil) dX11_best_42
      · have h := iF c4 h
        refine lv_iload_n hx hb dX11_best_31 rfl (lv_at hl 0 rfl) ?_
        refine lv_ldc (own := RX11) (v := 100000) hx hb hown (hts (.constant RX11 186 (100000)) (by decide +kernel)) dX11_best_32 ?_
        refine lv_irem hx hb dX11_best_34 (by decide) ?_
        refine lv_goto (tgt := 42) hx hb dX11_best_35 (by decide) ?_
        exact W.iret hx hb hr (fun t ht _ => ⟨_, rfl, Option.some.inj h, ht⟩) (fun _ q => absurd q List.not_mem_nil) dX11_best_42
    · have h := iF c2 h
      refine lv_bipush (v := (-2)) hx hb dX11_best_10 (by decide) ?_
      exact W.iret hx hb hr (fun t ht _ => ⟨_, rfl, Option.some.inj h, ht⟩) (fun _ q => absurd q List.not_mem_nil) dX11_best_12

set_option maxHeartbeats 4000000 in
set_option maxRecDepth 100000 in
theorem c_tu_canBeClean (l : Launch) (D : va_G) (cI cJ cZ : ClassId) (g : Nat → Nat) (fPk : Nat → Int32) (fWn : Nat → Int32) (fGw : Nat → Int32) (fGk : Nat → Int32) (fOw : Nat → Int32) (fSt : Nat → Int32) (fPe : Int32) (fHo : Int32) (fGr : Int32) (fPa : Int32) (fFt : Int32)  (H0 : Heap) (hP : va_P D vwCl (fW g cI fPk fWn fGw fGk fOw fSt fPe fHo fGr fPa fFt) H0) : ∀ (dd : Nat) (p1 : Int64) (p3 : Int32) (p4 : Int32) (rv : Int32) (h : tu_canBeClean fPk fWn fGw fGk fOw fPe fHo fGr dd p1 p3 p4 = some rv), Met l yX10_canBeClean wsX10_canBeClean ({ frames := 5 + (dd), cells := 0, slots := 0, locals := 122 + 25 * (dd) } : Room) (rPc D cI cJ cZ H0 [.ref (g 0), .long p1, .int p3, .int p4]) (vp_Si (fun r => r = rv)) 0 0 (fun _ => False) := by
  intro dd
  induction dd with
  | zero => intro _ _ _ _ h; rw [tu_canBeClean.eq_1] at h; cases h
  | succ dd ihd =>
    intro p1 p3 p4 rv h
    rw [tu_canBeClean.eq_2] at h
    refine Met.ofW (cc := cX10_canBeClean) (maxL := 6) (ret := (some .boolean)) (by decide) rfl ?_
    intro p e s m args below meth c s₁ B hml hv
    obtain ⟨rfl, hH, hK⟩ := hv
    have hx := B.exec
    have hb := B.bytes
    have hr := B.returns
    have hts := atoms_spec (ws := wsX10_canBeClean) B.pre
    have hown : s.vm.findClass RX10 = some m.cls := findClass_of_methodNamed B.named
    have hlocks := B.notSynchronized
    subst hH
    have hl := lv_entry ([.ref (g 0), .long p1, .int p3, .int p4]) (n := 6) (Nat.le_of_ble_eq_true rfl)
    rw [lg_entry_eq]
    generalize (lg_sl ([.ref (g 0), .long p1, .int p3, .int p4]) ++ List.replicate (6 - (lg_sl ([.ref (g 0), .long p1, .int p3, .int p4])).length) Slot.unset).toArray = ls at hl ⊢
    have hl : lv_has ls 6 [(0, .ref (g 0)), (1, .long p1), (3, .int p3), (4, .int p4)] := hl
    refine lv_iload hx hb dX10_canBeClean_0 (lv_at hl 3 rfl) ?_
    refine lv_if_gt (tgt := 12) hx hb dX10_canBeClean_2 (by decide) (fun c1 => ?_) (fun c1 => ?_)
    · have h := iT c1 h
      refine lv_iconst (v := 0) hx hb dX10_canBeClean_12 (by decide) ?_
      refine lv_istore (lv' := [(5, .int 0), (0, .ref (g 0)), (1, .long p1), (3, .int p3), (4, .int p4)]) hx hb dX10_canBeClean_13 hl (by decide) rfl (fun ls hl => ?_)
      have L15 : ∀ (n : Nat) (x5_15 : Int32) (ls : Array Slot) (kx : Int32 → Option (Int32)), tu_canBeClean_L15 (tu_canBeClean fPk fWn fGw fGk fOw fPe fHo fGr dd) fPk fWn fGw fGk fOw fPe fHo fGr p1 p3 p4 kx n x5_15 = some rv → lv_has ls 6 [(5, .int x5_15), (0, .ref (g 0)), (1, .long p1), (3, .int p3), (4, .int p4)] → (∀ (y5_15 : Int32) (ls : Array Slot), kx y5_15 = some rv → lv_has ls 6 [(5, .int y5_15), (0, .ref (g 0)), (1, .long p1), (3, .int p3), (4, .int p4)] → W p l e (headSpec wsX10_canBeClean ({ frames := 5 + (dd + 1), cells := 0, slots := 0, locals := 122 + 25 * (dd + 1) } : Room)).room s m ([.ref (g 0), .long p1, .int p3, .int p4] : List Value).toArray below meth c s.heap [] 0 0 (MQ below (vp_Si (fun r => r = rv)) ([.ref (g 0), .long p1, .int p3, .int p4] : List Value).toArray s 0 0 (fun _ => False)) (F0 m 57 ls [])) → W p l e (headSpec wsX10_canBeClean ({ frames := 5 + (dd + 1), cells := 0, slots := 0, locals := 122 + 25 * (dd + 1) } : Room)).room s m ([.ref (g 0), .long p1, .int p3, .int p4] : List Value).toArray below meth c s.heap [] 0 0 (MQ below (vp_Si (fun r => r = rv)) ([.ref (g 0), .long p1, .int p3, .int p4] : List Value).toArray s 0 0 (fun _ => False)) (F0 m 15 ls []) := by
        intro n
        induction n with
        | zero => intro _ _ _ h; rw [tu_canBeClean_L15.eq_1] at h; cases h
        | succ n ih =>
          intro x5_15 ls kx h hl hk
          rw [tu_canBeClean_L15.eq_2] at h
          refine lv_iload hx hb dX10_canBeClean_15 (lv_at hl 0 rfl) ?_
          refine lv_iconst (v := 4) hx hb dX10_canBeClean_17 (by decide) ?_
          refine lv_icmp_gt (tgt := 57) hx hb dX10_canBeClean_18 (by decide) (fun c2 => ?_) (fun c2 => ?_)
          · have h := iT c2 h
            exact hk _ _ h (lv_sub hl [0, 1, 2, 3, 4] rfl)
          · have h := iF c2 h
            refine lv_aload_n hx hb dX10_canBeClean_21 rfl (lv_at hl 1 rfl) ?_
            refine lv_iload hx hb dX10_canBeClean_22 (lv_at hl 0 rfl) ?_
            obtain ⟨q3, hq3, h⟩ := bS h
            refine rcI (va_runV (As := [.int x5_15]) (rest := []) ⟨hx, hb, hml, hown, hts⟩ (c_fl_isTurn l D cI cJ cZ g fPk fWn fGw fGk fOw fSt fPe fHo fGr fPa fFt s.heap hP x5_15 q3 hq3) (cwV 1 hts gX10_canBeClean_X3_isTurn rfl rfl rfl (by decide +kernel) ⟨(show 1 + 1 ≤ 5 + (dd + 1) by omega), (show 8 + (2 + 11) + 21 ≤ 122 + 25 * (dd + 1) by omega)⟩) (rPreV hK hP (ci := 2) (q0 := 0) rfl rfl) rfl rfl hl.1 rfl (lv_room (Nat.le_of_ble_eq_true rfl)) dX10_canBeClean_24 ⟨Nat.zero_le _, Nat.zero_le _⟩) ?_
            refine lv_if_eq (tgt := 51) hx hb dX10_canBeClean_27 (by decide) (fun c4 => ?_) (fun c4 => ?_)
            · have h := iT c4 h
              refine lv_iinc (v := (x5_15 + 1)) (lv' := [(5, .int (x5_15 + 1)), (0, .ref (g 0)), (1, .long p1), (3, .int p3), (4, .int p4)]) hx hb dX10_canBeClean_51 hl (k := 0) rfl rfl (by decide) rfl (fun ls hl => ?_)
              refine lv_goto (tgt := 15) hx hb dX10_canBeClean_54 (by decide) ?_
              exact ih _ _ _ h (lv_sub hl [0, 1, 2, 3, 4] rfl) hk
            · have h := iF c4 h
              refine lv_aload_n hx hb dX10_canBeClean_30 rfl (lv_at hl 1 rfl) ?_
              refine lv_aload_n hx hb dX10_canBeClean_31 rfl (lv_at hl 1 rfl) ?_
              refine lv_lload_n hx hb dX10_canBeClean_32 rfl (lv_at hl 2 rfl) ?_
              refine lv_iload hx hb dX10_canBeClean_33 (lv_at hl 0 rfl) ?_
              obtain ⟨q5, hq5, h⟩ := bS h
              refine rcL (va_runV (As := [.long p1, .int x5_15]) (rest := [.ref (g 0)]) ⟨hx, hb, hml, hown, hts⟩ (c_fl_turned l D cI cJ cZ g fPk fWn fGw fGk fOw fSt fPe fHo fGr fPa fFt s.heap hP p1 x5_15 q5 hq5) (cwV 2 hts gX10_canBeClean_X3_turned rfl rfl rfl (by decide +kernel) ⟨(show 4 + 1 ≤ 5 + (dd + 1) by omega), (show 8 + (4 + 11) + 99 ≤ 122 + 25 * (dd + 1) by omega)⟩) (rPreV hK hP (ci := 2) (q0 := 0) rfl rfl) rfl rfl hl.1 rfl (lv_room (Nat.le_of_ble_eq_true rfl)) dX10_canBeClean_35 ⟨Nat.zero_le _, Nat.zero_le _⟩) ?_
              refine lv_iload_n hx hb dX10_canBeClean_38 rfl (lv_at hl 3 rfl) ?_
              refine lv_iload hx hb dX10_canBeClean_39 (lv_at hl 4 rfl) ?_
              refine lv_iconst (v := 1) hx hb dX10_canBeClean_41 (by decide) ?_
              refine lv_isub hx hb dX10_canBeClean_42 ?_
              obtain ⟨q6, hq6, h⟩ := bS h
              refine rcI (va_runS (As := [.ref (g 0), .long q5, .int p3, .int (p4 - 1)]) (rest := []) ⟨hx, hb, hml, hown, hts⟩ (ihd q5 p3 (p4 - 1) q6 hq6) (va_cwS 4 hts gX10_canBeClean_X10_canBeClean rfl rfl rfl (by decide +kernel) ⟨(show 5 + dd + 1 ≤ 5 + (dd + 1) by omega), (show 8 + (6 + 11) + (122 + 25 * dd) ≤ 122 + 25 * (dd + 1) by omega)⟩) (rPreS hK) rfl rfl hl.1 rfl (lv_room (Nat.le_of_ble_eq_true rfl)) dX10_canBeClean_43 ⟨Nat.zero_le _, Nat.zero_le _⟩) ?_
              refine lv_if_eq (tgt := 51) hx hb dX10_canBeClean_46 (by decide) (fun c7 => ?_) (fun c7 => ?_)
              · have h := iT c7 h
                refine lv_iinc (v := (x5_15 + 1)) (lv' := [(5, .int (x5_15 + 1)), (0, .ref (g 0)), (1, .long p1), (3, .int p3), (4, .int p4)]) hx hb dX10_canBeClean_51 hl (k := 0) rfl rfl (by decide) rfl (fun ls hl => ?_)
                refine lv_goto (tgt := 15) hx hb dX10_canBeClean_54 (by decide) ?_
                exact ih _ _ _ h (lv_sub hl [0, 1, 2, 3, 4] rfl) hk
              · have h := iF c7 h
                refine lv_iconst (v := 1) hx hb dX10_canBeClean_49 (by decide) ?_
                exact W.zret hx hb hr (by decide) (fun t ht _ => ⟨_, rfl, Option.some.inj h, ht⟩) (fun _ q => absurd q List.not_mem_nil) dX10_canBeClean_50
      refine L15 _ _ _ _ h hl (fun y5_15 ls h hl => ?_)
      refine lv_iconst (v := 0) hx hb dX10_canBeClean_57 (by decide) ?_
      exact W.zret hx hb hr (by decide) (fun t ht _ => ⟨_, rfl, Option.some.inj h, ht⟩) (fun _ q => absurd q List.not_mem_nil) dX10_canBeClean_58
    · have h := iF c1 h
      refine lv_aload_n hx hb dX10_canBeClean_5 rfl (lv_at hl 0 rfl) ?_
      refine lv_lload_n hx hb dX10_canBeClean_6 rfl (lv_at hl 1 rfl) ?_
      refine lv_iload_n hx hb dX10_canBeClean_7 rfl (lv_at hl 2 rfl) ?_
      obtain ⟨q2, hq2, h⟩ := bS h
      refine rcI (va_runV (As := [.long p1, .int p3]) (rest := []) ⟨hx, hb, hml, hown, hts⟩ (c_fl_isClean l D cI cJ cZ g fPk fWn fGw fGk fOw fSt fPe fHo fGr fPa fFt s.heap hP p1 p3 q2 hq2) (cwV 2 hts gX10_canBeClean_X3_isClean rfl rfl rfl (by decide +kernel) ⟨(show 3 + 1 ≤ 5 + (dd + 1) by omega), (show 8 + (4 + 11) + 69 ≤ 122 + 25 * (dd + 1) by omega)⟩) (rPreV hK hP (ci := 2) (q0 := 0) rfl rfl) rfl rfl hl.1 rfl (lv_room (Nat.le_of_ble_eq_true rfl)) dX10_canBeClean_8 ⟨Nat.zero_le _, Nat.zero_le _⟩) ?_
      obtain ⟨hz, h⟩ := gZ_some h
      exact W.zret hx hb hr hz (fun t ht _ => ⟨_, rfl, Option.some.inj h, ht⟩) (fun _ q => absurd q List.not_mem_nil) dX10_canBeClean_11

set_option maxHeartbeats 4000000 in
set_option maxRecDepth 100000 in
theorem c_xx_fewest (l : Launch) (D : va_G) (cI cJ cZ : ClassId) (a : Nat → Nat) (g : Nat → Nat) (d : Nat → Nat) (xText : Nat → Int32) (xLetters : Int32) (xNow : Int64) (xKept : Nat → Int64) (xIsKept : Nat → Int32) (xChance : Int64) (xScenes : Nat → Int64) (xASize : Int32) (xSKinds : Nat → Int32) (xSLifts : Nat → Int32) (xSFlights : Nat → Int32) (xSSize : Int32) (xTally : Nat → Int32) (xOut : Nat → Int64) (fPk : Nat → Int32) (fWn : Nat → Int32) (fGw : Nat → Int32) (fGk : Nat → Int32) (fOw : Nat → Int32) (fSt : Nat → Int32) (fPe : Int32) (fHo : Int32) (fGr : Int32) (fPa : Int32) (fFt : Int32) (dPk : Nat → Int32) (dWn : Nat → Int32) (dGw : Nat → Int32) (dGk : Nat → Int32) (dOw : Nat → Int32) (dSt : Nat → Int32) (dPe : Int32) (dHo : Int32) (dGr : Int32) (dPa : Int32) (dFt : Int32)  (H0 : Heap) (hP : va_P D vwCl (xW a g d cI cJ cZ (g 0) (d 0) xText xLetters xNow xKept xIsKept xChance xScenes xASize xSKinds xSLifts xSFlights xSSize xTally xOut fPk fWn fGw fGk fOw fSt fPe fHo fGr fPa fFt dPk dWn dGw dGk dOw dSt dPe dHo dGr dPa dFt) H0) (p1 : Int32) (rv : Int32) (h : xx_fewest xNow fPk fWn fGw fGk fOw fPe fHo fGr p1 = some rv) : Met l yX11_fewest wsX11_fewest ({ frames := 12, cells := 0, slots := 0, locals := 297 } : Room) (rPc D cI cJ cZ H0 [.ref (a 0), .int p1]) (vp_Si (fun r => r = rv)) 0 0 (fun _ => False) := by
  unfold xx_fewest at h
  refine Met.ofW (cc := cX11_fewest) (maxL := 3) (ret := (some .int)) (by decide) rfl ?_
  intro p e s m args below meth c s₁ B hml hv
  obtain ⟨rfl, hH, hK⟩ := hv
  have hx := B.exec
  have hb := B.bytes
  have hr := B.returns
  have hts := atoms_spec (ws := wsX11_fewest) B.pre
  have hown : s.vm.findClass RX11 = some m.cls := findClass_of_methodNamed B.named
  have hlocks := B.notSynchronized
  subst hH
  have hl := lv_entry ([.ref (a 0), .int p1]) (n := 3) (Nat.le_of_ble_eq_true rfl)
  rw [lg_entry_eq]
  generalize (lg_sl ([.ref (a 0), .int p1]) ++ List.replicate (3 - (lg_sl ([.ref (a 0), .int p1])).length) Slot.unset).toArray = ls at hl ⊢
  have hl : lv_has ls 3 [(0, .ref (a 0)), (1, .int p1)] := hl
  have hiX11 : ∀ w ∈ u_ws RX11 TX11 11, w ∈ wsX11_fewest := fun w hw => List.mem_cons_of_mem _ (List.mem_append_left _ (List.mem_append_right _ hw))
  refine lv_aload_n hx hb dX11_fewest_0 rfl (lv_at hl 0 rfl) ?_
  refine va_get (D := D) (ci := 4) (v := .ref (g 0)) (C := RX11) (T := TX11) (N := 11) hx hb hts hiX11 hown hK.1 hP 0 rfl rfl 2 (by decide) (hts (.fieldLink RX11 16 "WinnowedGuilt" "ground" "LWinnowedGuilt$Floor;") (by decide +kernel)) (fun _ h9 => h9) rfl dX11_fewest_1 ?_
  refine lv_iload_n hx hb dX11_fewest_4 rfl (lv_at hl 1 rfl) ?_
  have hG := hP.sub (ws' := (fW g cI fPk fWn fGw fGk fOw fSt fPe fHo fGr fPa fFt)) [13, 14, 15, 16, 17, 18, 19] rfl
  obtain ⟨q1, hq1, h⟩ := bS h
  refine rcI (va_runV (As := [.int p1]) (rest := []) ⟨hx, hb, hml, hown, hts⟩ (c_fl_isPerson l D cI cJ cZ g fPk fWn fGw fGk fOw fSt fPe fHo fGr fPa fFt s.heap hG p1 q1 hq1) (cwV 1 hts gX11_fewest_X3_isPerson rfl rfl rfl (by decide +kernel) ⟨Nat.le_of_ble_eq_true rfl, Nat.le_of_ble_eq_true rfl⟩) (rPreV hK hG (ci := 2) (q0 := 0) rfl rfl) rfl rfl hl.1 rfl (lv_room (Nat.le_of_ble_eq_true rfl)) dX11_fewest_5 ⟨Nat.zero_le _, Nat.zero_le _⟩) ?_
  refine lv_if_ne (tgt := 13) hx hb dX11_fewest_8 (by decide) (fun c2 => ?_) (fun c2 => ?_)
  · have h := iF c2 h
    refine lv_iconst (v := 0) hx hb dX11_fewest_13 (by decide) ?_
    refine lv_istore_n (lv' := [(2, .int 0), (0, .ref (a 0)), (1, .int p1)]) hx hb dX11_fewest_14 rfl hl (by decide) rfl (fun ls hl => ?_)
    have L15 : ∀ (n : Nat) (x2_15 : Int32) (ls : Array Slot) (kx : Int32 → Option (Int32)), xx_fewest_L15 xNow fPk fWn fGw fGk fOw fPe fHo fGr p1 kx n x2_15 = some rv → lv_has ls 3 [(2, .int x2_15), (0, .ref (a 0)), (1, .int p1)] → (∀ (y2_15 : Int32) (ls : Array Slot), kx y2_15 = some rv → lv_has ls 3 [(2, .int y2_15), (0, .ref (a 0)), (1, .int p1)] → W p l e (headSpec wsX11_fewest ({ frames := 12, cells := 0, slots := 0, locals := 297 } : Room)).room s m ([.ref (a 0), .int p1] : List Value).toArray below meth c s.heap [] 0 0 (MQ below (vp_Si (fun r => r = rv)) ([.ref (a 0), .int p1] : List Value).toArray s 0 0 (fun _ => False)) (F0 m 44 ls [])) → W p l e (headSpec wsX11_fewest ({ frames := 12, cells := 0, slots := 0, locals := 297 } : Room)).room s m ([.ref (a 0), .int p1] : List Value).toArray below meth c s.heap [] 0 0 (MQ below (vp_Si (fun r => r = rv)) ([.ref (a 0), .int p1] : List Value).toArray s 0 0 (fun _ => False)) (F0 m 15 ls []) := by
      intro n
      induction n with
      | zero => intro _ _ _ h; rw [xx_fewest_L15.eq_1] at h; cases h
      | succ n ih =>
        intro x2_15 ls kx h hl hk
        rw [xx_fewest_L15.eq_2] at h
        refine lv_iload_n hx hb dX11_fewest_15 rfl (lv_at hl 0 rfl) ?_
        refine lv_iconst (v := 4) hx hb dX11_fewest_16 (by decide) ?_
        refine lv_icmp_gt (tgt := 44) hx hb dX11_fewest_17 (by decide) (fun c3 => ?_) (fun c3 => ?_)
        · have h := iT c3 h
          exact hk _ _ h (lv_sub hl [0, 1, 2] rfl)
        · have h := iF c3 h
          refine lv_aload_n hx hb dX11_fewest_20 rfl (lv_at hl 1 rfl) ?_
          refine va_get (D := D) (ci := 4) (v := .ref (g 0)) (C := RX11) (T := TX11) (N := 11) hx hb hts hiX11 hown hK.1 hP 0 rfl rfl 2 (by decide) (hts (.fieldLink RX11 16 "WinnowedGuilt" "ground" "LWinnowedGuilt$Floor;") (by decide +kernel)) (fun _ h9 => h9) rfl dX11_fewest_21 ?_
          refine lv_aload_n hx hb dX11_fewest_24 rfl (lv_at hl 1 rfl) ?_
          refine va_get (D := D) (ci := 4) (v := .long xNow) (C := RX11) (T := TX11) (N := 11) hx hb hts hiX11 hown hK.1 hP 0 rfl rfl 4 (by decide) (hts (.fieldLink RX11 27 "WinnowedGuilt" "now" "J") (by decide +kernel)) (fun _ h9 => h9) rfl dX11_fewest_25 ?_
          refine lv_iload_n hx hb dX11_fewest_28 rfl (lv_at hl 2 rfl) ?_
          refine lv_iload_n hx hb dX11_fewest_29 rfl (lv_at hl 0 rfl) ?_
          have hG := hP.sub (ws' := (fW g cI fPk fWn fGw fGk fOw fSt fPe fHo fGr fPa fFt)) [13, 14, 15, 16, 17, 18, 19] rfl
          obtain ⟨q4, hq4, h⟩ := bS h
          refine rcI (va_runSN (As := [.ref (g 0), .long xNow, .int p1, .int x2_15]) (rest := []) ⟨hx, hb, hml, hown, hts⟩ (c_tu_canBeClean l D cI cJ cZ g fPk fWn fGw fGk fOw fSt fPe fHo fGr fPa fFt s.heap hG 6 xNow p1 x2_15 q4 hq4) ⟨va_cnB 4 hts gX11_fewest_X10_canBeClean_n187 rfl rfl rfl (kN_12 hK.2) (hts (.initialized RX10) (by decide +kernel)) (by decide +kernel) ⟨Nat.le_of_ble_eq_true rfl, Nat.le_of_ble_eq_true rfl⟩, hts (.static yX10_canBeClean) (by decide +kernel), trivial⟩ (rPreS hK) rfl rfl hl.1 rfl (lv_room (Nat.le_of_ble_eq_true rfl)) dX11_fewest_30 ⟨Nat.zero_le _, Nat.zero_le _⟩) ?_
          refine lv_if_eq (tgt := 38) hx hb dX11_fewest_33 (by decide) (fun c5 => ?_) (fun c5 => ?_)
          · have h := iT c5 h
            refine lv_iinc (v := (x2_15 + 1)) (lv' := [(2, .int (x2_15 + 1)), (0, .ref (a 0)), (1, .int p1)]) hx hb dX11_fewest_38 hl (k := 0) rfl rfl (by decide) rfl (fun ls hl => ?_)
            refine lv_goto (tgt := 15) hx hb dX11_fewest_41 (by decide) ?_
            exact ih _ _ _ h (lv_sub hl [0, 1, 2] rfl) hk
          · have h := iF c5 h
            refine lv_iload_n hx hb dX11_fewest_36 rfl (lv_at hl 0 rfl) ?_
            exact W.iret hx hb hr (fun t ht _ => ⟨_, rfl, Option.some.inj h, ht⟩) (fun _ q => absurd q List.not_mem_nil) dX11_fewest_37
    refine L15 _ _ _ _ h hl (fun y2_15 ls h hl => ?_)
    refine lv_bipush (v := (-9)) hx hb dX11_fewest_44 (by decide) ?_
    exact W.iret hx hb hr (fun t ht _ => ⟨_, rfl, Option.some.inj h, ht⟩) (fun _ q => absurd q List.not_mem_nil) dX11_fewest_46
  · have h := iT c2 h
    refine lv_iconst (v := (-1)) hx hb dX11_fewest_11 (by decide) ?_
    exact W.iret hx hb hr (fun t ht _ => ⟨_, rfl, Option.some.inj h, ht⟩) (fun _ q => absurd q List.not_mem_nil) dX11_fewest_12

set_option maxHeartbeats 4000000 in
set_option maxRecDepth 100000 in
theorem c_xx_when (l : Launch) (D : va_G) (cI cJ cZ : ClassId) (a : Nat → Nat) (g : Nat → Nat) (d : Nat → Nat) (xText : Nat → Int32) (xLetters : Int32) (xNow : Int64) (xKept : Nat → Int64) (xIsKept : Nat → Int32) (xChance : Int64) (xScenes : Nat → Int64) (xASize : Int32) (xSKinds : Nat → Int32) (xSLifts : Nat → Int32) (xSFlights : Nat → Int32) (xSSize : Int32) (xTally : Nat → Int32) (xOut : Nat → Int64) (fPk : Nat → Int32) (fWn : Nat → Int32) (fGw : Nat → Int32) (fGk : Nat → Int32) (fOw : Nat → Int32) (fSt : Nat → Int32) (fPe : Int32) (fHo : Int32) (fGr : Int32) (fPa : Int32) (fFt : Int32) (dPk : Nat → Int32) (dWn : Nat → Int32) (dGw : Nat → Int32) (dGk : Nat → Int32) (dOw : Nat → Int32) (dSt : Nat → Int32) (dPe : Int32) (dHo : Int32) (dGr : Int32) (dPa : Int32) (dFt : Int32)  (H0 : Heap) (hP : va_P D vwCl (xW a g d cI cJ cZ (g 0) (d 0) xText xLetters xNow xKept xIsKept xChance xScenes xASize xSKinds xSLifts xSFlights xSSize xTally xOut fPk fWn fGw fGk fOw fSt fPe fHo fGr fPa fFt dPk dWn dGw dGk dOw dSt dPe dHo dGr dPa dFt) H0) (p1 : Int32) (rv : Int32) (h : xx_when xNow fPk fWn fGw fGk fOw fPe fHo fGr p1 = some rv) : Met l yX11_when wsX11_when ({ frames := 3, cells := 0, slots := 0, locals := 68 } : Room) (rPc D cI cJ cZ H0 [.ref (a 0), .int p1]) (vp_Si (fun r => r = rv)) 0 0 (fun _ => False) := by
  unfold xx_when at h
  refine Met.ofW (cc := cX11_when) (maxL := 6) (ret := (some .int)) (by decide) rfl ?_
  intro p e s m args below meth c s₁ B hml hv
  obtain ⟨rfl, hH, hK⟩ := hv
  have hx := B.exec
  have hb := B.bytes
  have hr := B.returns
  have hts := atoms_spec (ws := wsX11_when) B.pre
  have hown : s.vm.findClass RX11 = some m.cls := findClass_of_methodNamed B.named
  have hlocks := B.notSynchronized
  subst hH
  have hl := lv_entry ([.ref (a 0), .int p1]) (n := 6) (Nat.le_of_ble_eq_true rfl)
  rw [lg_entry_eq]
  generalize (lg_sl ([.ref (a 0), .int p1]) ++ List.replicate (6 - (lg_sl ([.ref (a 0), .int p1])).length) Slot.unset).toArray = ls at hl ⊢
  have hl : lv_has ls 6 [(0, .ref (a 0)), (1, .int p1)] := hl
  have hiX11 : ∀ w ∈ u_ws RX11 TX11 11, w ∈ wsX11_when := fun w hw => List.mem_cons_of_mem _ (List.mem_append_left _ (List.mem_append_right _ hw))
  refine lv_aload_n hx hb dX11_when_0 rfl (lv_at hl 0 rfl) ?_
  refine va_get (D := D) (ci := 4) (v := .ref (g 0)) (C := RX11) (T := TX11) (N := 11) hx hb hts hiX11 hown hK.1 hP 0 rfl rfl 2 (by decide) (hts (.fieldLink RX11 16 "WinnowedGuilt" "ground" "LWinnowedGuilt$Floor;") (by decide +kernel)) (fun _ h9 => h9) rfl dX11_when_1 ?_
  refine lv_iload_n hx hb dX11_when_4 rfl (lv_at hl 1 rfl) ?_
  have hG := hP.sub (ws' := (fW g cI fPk fWn fGw fGk fOw fSt fPe fHo fGr fPa fFt)) [13, 14, 15, 16, 17, 18, 19] rfl
  obtain ⟨q1, hq1, h⟩ := bS h
  refine rcI (va_runV (As := [.int p1]) (rest := []) ⟨hx, hb, hml, hown, hts⟩ (c_fl_isGrain l D cI cJ cZ g fPk fWn fGw fGk fOw fSt fPe fHo fGr fPa fFt s.heap hG p1 q1 hq1) (cwV 1 hts gX11_when_X3_isGrain rfl rfl rfl (by decide +kernel) ⟨Nat.le_of_ble_eq_true rfl, Nat.le_of_ble_eq_true rfl⟩) (rPreV hK hG (ci := 2) (q0 := 0) rfl rfl) rfl rfl hl.1 rfl (lv_room (Nat.le_of_ble_eq_true rfl)) dX11_when_5 ⟨Nat.zero_le _, Nat.zero_le _⟩) ?_
  refine lv_if_ne (tgt := 13) hx hb dX11_when_8 (by decide) (fun c2 => ?_) (fun c2 => ?_)
  · have h := iF c2 h
    refine lv_aload_n hx hb dX11_when_13 rfl (lv_at hl 0 rfl) ?_
    refine va_get (D := D) (ci := 4) (v := .long xNow) (C := RX11) (T := TX11) (N := 11) hx hb hts hiX11 hown hK.1 hP 0 rfl rfl 4 (by decide) (hts (.fieldLink RX11 27 "WinnowedGuilt" "now" "J") (by decide +kernel)) (fun _ h9 => h9) rfl dX11_when_14 ?_
    refine lv_iload_n hx hb dX11_when_17 rfl (lv_at hl 1 rfl) ?_
    obtain ⟨q3, hq3, h⟩ := bS h
    refine rcI (va_runS (As := [.long xNow, .int p1]) (rest := []) ⟨hx, hb, hml, hown, hts⟩ (c_sc_placeOf l D cI cJ cZ   s.heap xNow p1 q3 hq3) (va_cwS 2 hts gX11_when_X7_placeOf rfl rfl rfl (by decide +kernel) ⟨Nat.le_of_ble_eq_true rfl, Nat.le_of_ble_eq_true rfl⟩) (rPreS hK) rfl rfl hl.1 rfl (lv_room (Nat.le_of_ble_eq_true rfl)) dX11_when_18 ⟨Nat.zero_le _, Nat.zero_le _⟩) ?_
    refine lv_istore_n (lv' := [(2, .int q3), (0, .ref (a 0)), (1, .int p1)]) hx hb dX11_when_21 rfl hl (by decide) rfl (fun ls hl => ?_)
    refine lv_aload_n hx hb dX11_when_22 rfl (lv_at hl 1 rfl) ?_
    refine va_get (D := D) (ci := 4) (v := .long xNow) (C := RX11) (T := TX11) (N := 11) hx hb hts hiX11 hown hK.1 hP 0 rfl rfl 4 (by decide) (hts (.fieldLink RX11 27 "WinnowedGuilt" "now" "J") (by decide +kernel)) (fun _ h9 => h9) rfl dX11_when_23 ?_
    refine lv_lstore_n (lv' := [(3, .long xNow), (2, .int q3), (0, .ref (a 0)), (1, .int p1)]) hx hb dX11_when_26 rfl hl (by decide) rfl (fun ls hl => ?_)
    refine lv_iconst (v := 0) hx hb dX11_when_27 (by decide) ?_
    refine lv_istore (lv' := [(5, .int 0), (3, .long xNow), (2, .int q3), (0, .ref (a 0)), (1, .int p1)]) hx hb dX11_when_28 hl (by decide) rfl (fun ls hl => ?_)
    have L30 : ∀ (n : Nat) (x5_30 : Int32) (x3_30 : Int64) (ls : Array Slot) (kx : Int32 → Int64 → Option (Int32)), xx_when_L30 fPk fWn fGw fGk fOw fPe fHo p1 q3 kx n x5_30 x3_30 = some rv → lv_has ls 6 [(5, .int x5_30), (3, .long x3_30), (2, .int q3), (0, .ref (a 0)), (1, .int p1)] → (∀ (y5_30 : Int32) (y3_30 : Int64) (ls : Array Slot), kx y5_30 y3_30 = some rv → lv_has ls 6 [(5, .int y5_30), (3, .long y3_30), (2, .int q3), (0, .ref (a 0)), (1, .int p1)] → W p l e (headSpec wsX11_when ({ frames := 3, cells := 0, slots := 0, locals := 68 } : Room)).room s m ([.ref (a 0), .int p1] : List Value).toArray below meth c s.heap [] 0 0 (MQ below (vp_Si (fun r => r = rv)) ([.ref (a 0), .int p1] : List Value).toArray s 0 0 (fun _ => False)) (F0 m 72 ls [])) → W p l e (headSpec wsX11_when ({ frames := 3, cells := 0, slots := 0, locals := 68 } : Room)).room s m ([.ref (a 0), .int p1] : List Value).toArray below meth c s.heap [] 0 0 (MQ below (vp_Si (fun r => r = rv)) ([.ref (a 0), .int p1] : List Value).toArray s 0 0 (fun _ => False)) (F0 m 30 ls []) := by
      intro n
      induction n with
      | zero => intro _ _ _ _ h; rw [xx_when_L30.eq_1] at h; cases h
      | succ n ih =>
        intro x5_30 x3_30 ls kx h hl hk
        rw [xx_when_L30.eq_2] at h
        refine lv_iload hx hb dX11_when_30 (lv_at hl 0 rfl) ?_
        refine lv_bipush (v := 20) hx hb dX11_when_32 (by decide) ?_
        refine lv_icmp_gt (tgt := 72) hx hb dX11_when_34 (by decide) (fun c4 => ?_) (fun c4 => ?_)
        · have h := iT c4 h
          exact hk _ _ _ h (lv_sub hl [0, 1, 2, 3, 4] rfl)
        · have h := iF c4 h
          refine lv_aload_n hx hb dX11_when_37 rfl (lv_at hl 3 rfl) ?_
          refine va_get (D := D) (ci := 4) (v := .ref (g 0)) (C := RX11) (T := TX11) (N := 11) hx hb hts hiX11 hown hK.1 hP 0 rfl rfl 2 (by decide) (hts (.fieldLink RX11 16 "WinnowedGuilt" "ground" "LWinnowedGuilt$Floor;") (by decide +kernel)) (fun _ h9 => h9) rfl dX11_when_38 ?_
          refine lv_iload_n hx hb dX11_when_41 rfl (lv_at hl 4 rfl) ?_
          refine lv_iload_n hx hb dX11_when_42 rfl (lv_at hl 2 rfl) ?_
          refine lv_aload_n hx hb dX11_when_43 rfl (lv_at hl 3 rfl) ?_
          refine va_get (D := D) (ci := 4) (v := .ref (g 0)) (C := RX11) (T := TX11) (N := 11) hx hb hts hiX11 hown hK.1 hP 0 rfl rfl 2 (by decide) (hts (.fieldLink RX11 16 "WinnowedGuilt" "ground" "LWinnowedGuilt$Floor;") (by decide +kernel)) (fun _ h9 => h9) rfl dX11_when_44 ?_
          refine lv_lload_n hx hb dX11_when_47 rfl (lv_at hl 1 rfl) ?_
          refine lv_iload_n hx hb dX11_when_48 rfl (lv_at hl 2 rfl) ?_
          have hG := hP.sub (ws' := (fW g cI fPk fWn fGw fGk fOw fSt fPe fHo fGr fPa fFt)) [13, 14, 15, 16, 17, 18, 19] rfl
          obtain ⟨q5, hq5, h⟩ := bS h
          refine rcI (va_runV (As := [.long x3_30, .int q3]) (rest := [.int q3, .int p1, .ref (g 0)]) ⟨hx, hb, hml, hown, hts⟩ (c_fl_liftAt l D cI cJ cZ g fPk fWn fGw fGk fOw fSt fPe fHo fGr fPa fFt s.heap hG x3_30 q3 q5 hq5) (cwV 2 hts gX11_when_X3_liftAt rfl rfl rfl (by decide +kernel) ⟨Nat.le_of_ble_eq_true rfl, Nat.le_of_ble_eq_true rfl⟩) (rPreV hK hG (ci := 2) (q0 := 0) rfl rfl) rfl rfl hl.1 rfl (lv_room (Nat.le_of_ble_eq_true rfl)) dX11_when_49 ⟨Nat.zero_le _, Nat.zero_le _⟩) ?_
          have hG := hP.sub (ws' := (fW g cI fPk fWn fGw fGk fOw fSt fPe fHo fGr fPa fFt)) [13, 14, 15, 16, 17, 18, 19] rfl
          obtain ⟨q6, hq6, h⟩ := bS h
          refine rcI (va_runV (As := [.int p1, .int q3, .int q5]) (rest := []) ⟨hx, hb, hml, hown, hts⟩ (c_fl_flight l D cI cJ cZ g fPk fWn fGw fGk fOw fSt fPe fHo fGr fPa fFt s.heap hG p1 q3 q5 q6 hq6) (cwV 3 hts gX11_when_X3_flight rfl rfl rfl (by decide +kernel) ⟨Nat.le_of_ble_eq_true rfl, Nat.le_of_ble_eq_true rfl⟩) (rPreV hK hG (ci := 2) (q0 := 0) rfl rfl) rfl rfl hl.1 rfl (lv_room (Nat.le_of_ble_eq_true rfl)) dX11_when_52 ⟨Nat.zero_le _, Nat.zero_le _⟩) ?_
          refine lv_if_le (tgt := 61) hx hb dX11_when_55 (by decide) (fun c7 => ?_) (fun c7 => ?_)
          · have h := iT c7 h
            refine lv_lload_n hx hb dX11_when_61 rfl (lv_at hl 1 rfl) ?_
            obtain ⟨q8, hq8, h⟩ := bS h
            refine rcL (va_runS (As := [.long x3_30]) (rest := []) ⟨hx, hb, hml, hown, hts⟩ (c_sc_later l D cI cJ cZ   s.heap x3_30 q8 hq8) (va_cwS 1 hts gX11_when_X7_later rfl rfl rfl (by decide +kernel) ⟨Nat.le_of_ble_eq_true rfl, Nat.le_of_ble_eq_true rfl⟩) (rPreS hK) rfl rfl hl.1 rfl (lv_room (Nat.le_of_ble_eq_true rfl)) dX11_when_62 ⟨Nat.zero_le _, Nat.zero_le _⟩) ?_
            refine lv_lstore_n (lv' := [(3, .long q8), (5, .int x5_30), (2, .int q3), (0, .ref (a 0)), (1, .int p1)]) hx hb dX11_when_65 rfl hl (by decide) rfl (fun ls hl => ?_)
            refine lv_iinc (v := (x5_30 + 1)) (lv' := [(5, .int (x5_30 + 1)), (3, .long q8), (2, .int q3), (0, .ref (a 0)), (1, .int p1)]) hx hb dX11_when_66 hl (k := 1) rfl rfl (by decide) rfl (fun ls hl => ?_)
            refine lv_goto (tgt := 30) hx hb dX11_when_69 (by decide) ?_
            exact ih _ _ _ _ h (lv_sub hl [0, 1, 2, 3, 4] rfl) hk
          · have h := iF c7 h
            refine lv_iload hx hb dX11_when_58 (lv_at hl 0 rfl) ?_
            exact W.iret hx hb hr (fun t ht _ => ⟨_, rfl, Option.some.inj h, ht⟩) (fun _ q => absurd q List.not_mem_nil) dX11_when_60
    refine L30 _ _ _ _ _ h hl (fun y5_30 y3_30 ls h hl => ?_)
    refine lv_bipush (v := (-9)) hx hb dX11_when_72 (by decide) ?_
    exact W.iret hx hb hr (fun t ht _ => ⟨_, rfl, Option.some.inj h, ht⟩) (fun _ q => absurd q List.not_mem_nil) dX11_when_74
  · have h := iT c2 h
    refine lv_iconst (v := (-1)) hx hb dX11_when_11 (by decide) ?_
    exact W.iret hx hb hr (fun t ht _ => ⟨_, rfl, Option.some.inj h, ht⟩) (fun _ q => absurd q List.not_mem_nil) dX11_when_12

set_option maxHeartbeats 4000000 in
set_option maxRecDepth 100000 in
theorem c_ba_choiceOf (l : Launch) (D : va_G) (cI cJ cZ : ClassId) (a : Nat → Nat) (g : Nat → Nat) (d : Nat → Nat) (xText : Nat → Int32) (xLetters : Int32) (xNow : Int64) (xKept : Nat → Int64) (xIsKept : Nat → Int32) (xChance : Int64) (xScenes : Nat → Int64) (xASize : Int32) (xSKinds : Nat → Int32) (xSLifts : Nat → Int32) (xSFlights : Nat → Int32) (xSSize : Int32) (xTally : Nat → Int32) (xOut : Nat → Int64) (fPk : Nat → Int32) (fWn : Nat → Int32) (fGw : Nat → Int32) (fGk : Nat → Int32) (fOw : Nat → Int32) (fSt : Nat → Int32) (fPe : Int32) (fHo : Int32) (fGr : Int32) (fPa : Int32) (fFt : Int32) (dPk : Nat → Int32) (dWn : Nat → Int32) (dGw : Nat → Int32) (dGk : Nat → Int32) (dOw : Nat → Int32) (dSt : Nat → Int32) (dPe : Int32) (dHo : Int32) (dGr : Int32) (dPa : Int32) (dFt : Int32)  (H0 : Heap) (hP : va_P D vwCl (xW a g d cI cJ cZ (g 0) (d 0) xText xLetters xNow xKept xIsKept xChance xScenes xASize xSKinds xSLifts xSFlights xSSize xTally xOut fPk fWn fGw fGk fOw fSt fPe fHo fGr fPa fFt dPk dWn dGw dGk dOw dSt dPe dHo dGr dPa dFt) H0) (p2 : Int32) (rv : Int32) (h : ba_choiceOf xOut fGw fGk fPe fGr p2 = some rv) : Met l yX1_choiceOf wsX1_choiceOf ({ frames := 4, cells := 0, slots := 0, locals := 90 } : Room) (rPc D cI cJ cZ H0 [.ref (a 6), .ref (g 0), .int p2]) (vp_Si (fun r => r = rv)) 0 0 (fun _ => False) := by
  unfold ba_choiceOf at h
  refine Met.ofW (cc := cX1_choiceOf) (maxL := 7) (ret := (some .int)) (by decide) rfl ?_
  intro p e s m args below meth c s₁ B hml hv
  obtain ⟨rfl, hH, hK⟩ := hv
  have hx := B.exec
  have hb := B.bytes
  have hr := B.returns
  have hts := atoms_spec (ws := wsX1_choiceOf) B.pre
  have hown : s.vm.findClass RX1 = some m.cls := findClass_of_methodNamed B.named
  have hlocks := B.notSynchronized
  subst hH
  have hl := lv_entry ([.ref (a 6), .ref (g 0), .int p2]) (n := 7) (Nat.le_of_ble_eq_true rfl)
  rw [lg_entry_eq]
  generalize (lg_sl ([.ref (a 6), .ref (g 0), .int p2]) ++ List.replicate (7 - (lg_sl ([.ref (a 6), .ref (g 0), .int p2])).length) Slot.unset).toArray = ls at hl ⊢
  have hl : lv_has ls 7 [(0, .ref (a 6)), (1, .ref (g 0)), (2, .int p2)] := hl
  have hiX1 : ∀ w ∈ u_ws RX1 TX1 2, w ∈ wsX1_choiceOf := fun w hw => List.mem_cons_of_mem _ (List.mem_append_right _ hw)
  have hiX3 : ∀ w ∈ u_ws RX3 TX3 11, w ∈ wsX1_choiceOf := fun w hw => List.mem_cons_of_mem _ (List.mem_append_left _ (List.mem_append_right _ hw))
  refine lv_bipush (v := (-9)) hx hb dX1_choiceOf_0 (by decide) ?_
  refine lv_istore_n (lv' := [(3, .int (-9)), (0, .ref (a 6)), (1, .ref (g 0)), (2, .int p2)]) hx hb dX1_choiceOf_2 rfl hl (by decide) rfl (fun ls hl => ?_)
  refine lv_iconst (v := 0) hx hb dX1_choiceOf_3 (by decide) ?_
  refine lv_istore (lv' := [(4, .int 0), (3, .int (-9)), (0, .ref (a 6)), (1, .ref (g 0)), (2, .int p2)]) hx hb dX1_choiceOf_4 hl (by decide) rfl (fun ls hl => ?_)
  refine lv_iconst (v := 0) hx hb dX1_choiceOf_6 (by decide) ?_
  refine lv_istore (lv' := [(5, .int 0), (4, .int 0), (3, .int (-9)), (0, .ref (a 6)), (1, .ref (g 0)), (2, .int p2)]) hx hb dX1_choiceOf_7 hl (by decide) rfl (fun ls hl => ?_)
  have L9 : ∀ (n : Nat) (x5_9 : Int32) (x4_9 : Int32) (x3_9 : Int32) (ls : Array Slot) (kx : Int32 → Int32 → Int32 → Option (Int32)), ba_choiceOf_L9 xOut fGw fGk fPe fGr p2 kx n x5_9 x4_9 x3_9 = some rv → lv_has ls 7 [(5, .int x5_9), (4, .int x4_9), (3, .int x3_9), (0, .ref (a 6)), (1, .ref (g 0)), (2, .int p2)] → (∀ (y5_9 : Int32) (y4_9 : Int32) (y3_9 : Int32) (ls : Array Slot), kx y5_9 y4_9 y3_9 = some rv → lv_has ls 7 [(5, .int y5_9), (4, .int y4_9), (3, .int y3_9), (0, .ref (a 6)), (1, .ref (g 0)), (2, .int p2)] → W p l e (headSpec wsX1_choiceOf ({ frames := 4, cells := 0, slots := 0, locals := 90 } : Room)).room s m ([.ref (a 6), .ref (g 0), .int p2] : List Value).toArray below meth c s.heap [] 0 0 (MQ below (vp_Si (fun r => r = rv)) ([.ref (a 6), .ref (g 0), .int p2] : List Value).toArray s 0 0 (fun _ => False)) (F0 m 68 ls [])) → W p l e (headSpec wsX1_choiceOf ({ frames := 4, cells := 0, slots := 0, locals := 90 } : Room)).room s m ([.ref (a 6), .ref (g 0), .int p2] : List Value).toArray below meth c s.heap [] 0 0 (MQ below (vp_Si (fun r => r = rv)) ([.ref (a 6), .ref (g 0), .int p2] : List Value).toArray s 0 0 (fun _ => False)) (F0 m 9 ls []) := by
    intro n
    induction n with
    | zero => intro _ _ _ _ _ h; rw [ba_choiceOf_L9.eq_1] at h; cases h
    | succ n ih =>
      intro x5_9 x4_9 x3_9 ls kx h hl hk
      rw [ba_choiceOf_L9.eq_2] at h
      refine lv_iload hx hb dX1_choiceOf_9 (lv_at hl 0 rfl) ?_
      refine lv_aload_n hx hb dX1_choiceOf_11 rfl (lv_at hl 4 rfl) ?_
      refine va_getN (D := D) (ci := 2) (v := .int fPe) (C := RX3) (T := TX3) (N := 11) hx hb hts hiX3 hown hK.1 hP 13 rfl rfl 6 (by decide) (va_Nw.use rfl (kN_0 hK.2)) (fun _ h9 => h9) rfl dX1_choiceOf_12 ?_
      refine lv_icmp_ge (tgt := 68) hx hb dX1_choiceOf_15 (by decide) (fun c1 => ?_) (fun c1 => ?_)
      · have h := iT c1 h
        exact hk _ _ _ _ h (lv_sub hl [0, 1, 2, 3, 4, 5] rfl)
      · have h := iF c1 h
        refine lv_iload hx hb dX1_choiceOf_18 (lv_at hl 0 rfl) ?_
        refine lv_aload_n hx hb dX1_choiceOf_20 rfl (lv_at hl 3 rfl) ?_
        refine va_get (D := D) (ci := 1) (v := .ref (a 12)) (C := RX1) (T := TX1) (N := 2) hx hb hts hiX1 hown hK.1 hP 10 rfl rfl 1 (by decide) (hts (.fieldLink RX1 15 "WinnowedGuilt$Ballot" "outcomes" "[J") (by decide +kernel)) (fun _ h9 => h9) rfl dX1_choiceOf_21 ?_
        refine va_alen (v := 4) hx hb hK.1 hP 12 1 rfl rfl rfl dX1_choiceOf_24 ?_
        refine lv_icmp_ge (tgt := 68) hx hb dX1_choiceOf_25 (by decide) (fun c2 => ?_) (fun c2 => ?_)
        · have h := iT c2 h
          exact hk _ _ _ _ h (lv_sub hl [0, 1, 2, 3, 4, 5] rfl)
        · have h := iF c2 h
          refine lv_aload_n hx hb dX1_choiceOf_28 rfl (lv_at hl 4 rfl) ?_
          refine lv_aload_n hx hb dX1_choiceOf_29 rfl (lv_at hl 3 rfl) ?_
          refine va_get (D := D) (ci := 1) (v := .ref (a 12)) (C := RX1) (T := TX1) (N := 2) hx hb hts hiX1 hown hK.1 hP 10 rfl rfl 1 (by decide) (hts (.fieldLink RX1 15 "WinnowedGuilt$Ballot" "outcomes" "[J") (by decide +kernel)) (fun _ h9 => h9) rfl dX1_choiceOf_30 ?_
          refine lv_iload hx hb dX1_choiceOf_33 (lv_at hl 0 rfl) ?_
          obtain ⟨hi3, h⟩ := gI_some h
          refine ldL (v := (xOut (Int32.toNatClampNeg x5_9))) hx hb hK.1 hP 12 rfl rfl hi3 rfl dX1_choiceOf_35 ?_
          refine lv_iload_n hx hb dX1_choiceOf_36 rfl (lv_at hl 5 rfl) ?_
          have hG := hP.sub (ws' := (fW g cI fPk fWn fGw fGk fOw fSt fPe fHo fGr fPa fFt)) [13, 14, 15, 16, 17, 18, 19] rfl
          obtain ⟨q4, hq4, h⟩ := bS h
          refine rcI (va_runV (As := [.long (xOut (Int32.toNatClampNeg x5_9)), .int p2]) (rest := []) ⟨hx, hb, hml, hown, hts⟩ (c_fl_guiltOf l D cI cJ cZ g fPk fWn fGw fGk fOw fSt fPe fHo fGr fPa fFt s.heap hG (xOut (Int32.toNatClampNeg x5_9)) p2 q4 hq4) (cwV 2 hts gX1_choiceOf_X3_guiltOf rfl rfl rfl (by decide +kernel) ⟨Nat.le_of_ble_eq_true rfl, Nat.le_of_ble_eq_true rfl⟩) (rPreV hK hG (ci := 2) (q0 := 0) rfl rfl) rfl rfl hl.1 rfl (lv_room (Nat.le_of_ble_eq_true rfl)) dX1_choiceOf_37 ⟨Nat.zero_le _, Nat.zero_le _⟩) ?_
          refine lv_istore (lv' := [(6, .int q4), (5, .int x5_9), (4, .int x4_9), (3, .int x3_9), (0, .ref (a 6)), (1, .ref (g 0)), (2, .int p2)]) hx hb dX1_choiceOf_40 hl (by decide) rfl (fun ls hl => ?_)
          refine lv_iload_n hx hb dX1_choiceOf_42 rfl (lv_at hl 3 rfl) ?_
          refine lv_bipush (v := (-9)) hx hb dX1_choiceOf_43 (by decide) ?_
          refine lv_icmp_eq (tgt := 55) hx hb dX1_choiceOf_45 (by decide) (fun c5 => ?_) (fun c5 => ?_)
          · have h := iT c5 h
            refine lv_iload hx hb dX1_choiceOf_55 (lv_at hl 1 rfl) ?_
            refine lv_istore_n (lv' := [(3, .int x5_9), (6, .int q4), (5, .int x5_9), (4, .int x4_9), (0, .ref (a 6)), (1, .ref (g 0)), (2, .int p2)]) hx hb dX1_choiceOf_57 rfl hl (by decide) rfl (fun ls hl => ?_)
            refine lv_iload hx hb dX1_choiceOf_58 (lv_at hl 1 rfl) ?_
            refine lv_istore (lv' := [(4, .int q4), (3, .int x5_9), (6, .int q4), (5, .int x5_9), (0, .ref (a 6)), (1, .ref (g 0)), (2, .int p2)]) hx hb dX1_choiceOf_60 hl (by decide) rfl (fun ls hl => ?_)
            refine lv_iinc (v := (x5_9 + 1)) (lv' := [(5, .int (x5_9 + 1)), (4, .int q4), (3, .int x5_9), (6, .int q4), (0, .ref (a 6)), (1, .ref (g 0)), (2, .int p2)]) hx hb dX1_choiceOf_62 hl (k := 3) rfl rfl (by decide) rfl (fun ls hl => ?_)
            refine lv_goto (tgt := 9) hx hb dX1_choiceOf_65 (by decide) ?_
            exact ih _ _ _ _ _ h (lv_sub hl [0, 1, 2, 4, 5, 6] rfl) hk
          · have h := iF c5 h
            refine lv_iload hx hb dX1_choiceOf_48 (lv_at hl 0 rfl) ?_
            refine lv_iload hx hb dX1_choiceOf_50 (lv_at hl 2 rfl) ?_
            refine lv_icmp_ge (tgt := 62) hx hb dX1_choiceOf_52 (by decide) (fun c6 => ?_) (fun c6 => ?_)
            · have h := iT c6 h
              refine lv_iinc (v := (x5_9 + 1)) (lv' := [(5, .int (x5_9 + 1)), (6, .int q4), (4, .int x4_9), (3, .int x3_9), (0, .ref (a 6)), (1, .ref (g 0)), (2, .int p2)]) hx hb dX1_choiceOf_62 hl (k := 1) rfl rfl (by decide) rfl (fun ls hl => ?_)
              refine lv_goto (tgt := 9) hx hb dX1_choiceOf_65 (by decide) ?_
              exact ih _ _ _ _ _ h (lv_sub hl [0, 2, 3, 4, 5, 6] rfl) hk
            · have h := iF c6 h
              refine lv_iload hx hb dX1_choiceOf_55 (lv_at hl 1 rfl) ?_
              refine lv_istore_n (lv' := [(3, .int x5_9), (6, .int q4), (5, .int x5_9), (4, .int x4_9), (0, .ref (a 6)), (1, .ref (g 0)), (2, .int p2)]) hx hb dX1_choiceOf_57 rfl hl (by decide) rfl (fun ls hl => ?_)
              refine lv_iload hx hb dX1_choiceOf_58 (lv_at hl 1 rfl) ?_
              refine lv_istore (lv' := [(4, .int q4), (3, .int x5_9), (6, .int q4), (5, .int x5_9), (0, .ref (a 6)), (1, .ref (g 0)), (2, .int p2)]) hx hb dX1_choiceOf_60 hl (by decide) rfl (fun ls hl => ?_)
              refine lv_iinc (v := (x5_9 + 1)) (lv' := [(5, .int (x5_9 + 1)), (4, .int q4), (3, .int x5_9), (6, .int q4), (0, .ref (a 6)), (1, .ref (g 0)), (2, .int p2)]) hx hb dX1_choiceOf_62 hl (k := 3) rfl rfl (by decide) rfl (fun ls hl => ?_)
              refine lv_goto (tgt := 9) hx hb dX1_choiceOf_65 (by decide) ?_
              exact ih _ _ _ _ _ h (lv_sub hl [0, 1, 2, 4, 5, 6] rfl) hk
  refine L9 _ _ _ _ _ _ h hl (fun y5_9 y4_9 y3_9 ls h hl => ?_)
  refine lv_iload_n hx hb dX1_choiceOf_68 rfl (lv_at hl 2 rfl) ?_
  exact W.iret hx hb hr (fun t ht _ => ⟨_, rfl, Option.some.inj h, ht⟩) (fun _ q => absurd q List.not_mem_nil) dX1_choiceOf_69

set_option maxHeartbeats 4000000 in
set_option maxRecDepth 100000 in
theorem c_ba_allTossed (l : Launch) (D : va_G) (cI cJ cZ : ClassId) (g : Nat → Nat) (fPk : Nat → Int32) (fWn : Nat → Int32) (fGw : Nat → Int32) (fGk : Nat → Int32) (fOw : Nat → Int32) (fSt : Nat → Int32) (fPe : Int32) (fHo : Int32) (fGr : Int32) (fPa : Int32) (fFt : Int32)  (H0 : Heap) (hP : va_P D vwCl (fW g cI fPk fWn fGw fGk fOw fSt fPe fHo fGr fPa fFt) H0) (p1 : Int64) (rv : Int64) (h : ba_allTossed fPk fWn fGw fGk fOw fPe fHo fGr p1 = some rv) : Met l yX1_allTossed wsX1_allTossed ({ frames := 4, cells := 0, slots := 0, locals := 99 } : Room) (rPc D cI cJ cZ H0 [.ref (g 0), .long p1]) (vp_Sl (fun r => r = rv)) 0 0 (fun _ => False) := by
  unfold ba_allTossed at h
  refine Met.ofW (cc := cX1_allTossed) (maxL := 6) (ret := (some .long)) (by decide) rfl ?_
  intro p e s m args below meth c s₁ B hml hv
  obtain ⟨rfl, hH, hK⟩ := hv
  have hx := B.exec
  have hb := B.bytes
  have hr := B.returns
  have hts := atoms_spec (ws := wsX1_allTossed) B.pre
  have hown : s.vm.findClass RX1 = some m.cls := findClass_of_methodNamed B.named
  have hlocks := B.notSynchronized
  subst hH
  have hl := lv_entry ([.ref (g 0), .long p1]) (n := 6) (Nat.le_of_ble_eq_true rfl)
  rw [lg_entry_eq]
  generalize (lg_sl ([.ref (g 0), .long p1]) ++ List.replicate (6 - (lg_sl ([.ref (g 0), .long p1])).length) Slot.unset).toArray = ls at hl ⊢
  have hl : lv_has ls 6 [(0, .ref (g 0)), (1, .long p1)] := hl
  have hiX3 : ∀ w ∈ u_ws RX3 TX3 11, w ∈ wsX1_allTossed := fun w hw => List.mem_cons_of_mem _ (List.mem_append_right _ hw)
  refine lv_lload_n hx hb dX1_allTossed_0 rfl (lv_at hl 1 rfl) ?_
  refine lv_lstore_n (lv' := [(3, .long p1), (0, .ref (g 0)), (1, .long p1)]) hx hb dX1_allTossed_1 rfl hl (by decide) rfl (fun ls hl => ?_)
  refine lv_iconst (v := 0) hx hb dX1_allTossed_2 (by decide) ?_
  refine lv_istore (lv' := [(5, .int 0), (3, .long p1), (0, .ref (g 0)), (1, .long p1)]) hx hb dX1_allTossed_3 hl (by decide) rfl (fun ls hl => ?_)
  have L5 : ∀ (n : Nat) (x5_5 : Int32) (x3_5 : Int64) (ls : Array Slot) (kx : Int32 → Int64 → Option (Int64)), ba_allTossed_L5 fPk fWn fGw fGk fOw fPe fHo fGr kx n x5_5 x3_5 = some rv → lv_has ls 6 [(5, .int x5_5), (3, .long x3_5), (0, .ref (g 0)), (1, .long p1)] → (∀ (y5_5 : Int32) (y3_5 : Int64) (ls : Array Slot), kx y5_5 y3_5 = some rv → lv_has ls 6 [(5, .int y5_5), (3, .long y3_5), (0, .ref (g 0)), (1, .long p1)] → W p l e (headSpec wsX1_allTossed ({ frames := 4, cells := 0, slots := 0, locals := 99 } : Room)).room s m ([.ref (g 0), .long p1] : List Value).toArray below meth c s.heap [] 0 0 (MQ below (vp_Sl (fun r => r = rv)) ([.ref (g 0), .long p1] : List Value).toArray s 0 0 (fun _ => False)) (F0 m 28 ls [])) → W p l e (headSpec wsX1_allTossed ({ frames := 4, cells := 0, slots := 0, locals := 99 } : Room)).room s m ([.ref (g 0), .long p1] : List Value).toArray below meth c s.heap [] 0 0 (MQ below (vp_Sl (fun r => r = rv)) ([.ref (g 0), .long p1] : List Value).toArray s 0 0 (fun _ => False)) (F0 m 5 ls []) := by
    intro n
    induction n with
    | zero => intro _ _ _ _ h; rw [ba_allTossed_L5.eq_1] at h; cases h
    | succ n ih =>
      intro x5_5 x3_5 ls kx h hl hk
      rw [ba_allTossed_L5.eq_2] at h
      refine lv_iload hx hb dX1_allTossed_5 (lv_at hl 0 rfl) ?_
      refine lv_aload_n hx hb dX1_allTossed_7 rfl (lv_at hl 2 rfl) ?_
      refine va_getN (D := D) (ci := 2) (v := .int fPe) (C := RX3) (T := TX3) (N := 11) hx hb hts hiX3 hown hK.1 hP 0 rfl rfl 6 (by decide) (va_Nw.use rfl (kN_0 hK.2)) (fun _ h9 => h9) rfl dX1_allTossed_8 ?_
      refine lv_icmp_ge (tgt := 28) hx hb dX1_allTossed_11 (by decide) (fun c1 => ?_) (fun c1 => ?_)
      · have h := iT c1 h
        exact hk _ _ _ h (lv_sub hl [0, 1, 2, 3] rfl)
      · have h := iF c1 h
        refine lv_aload_n hx hb dX1_allTossed_14 rfl (lv_at hl 2 rfl) ?_
        refine lv_lload_n hx hb dX1_allTossed_15 rfl (lv_at hl 1 rfl) ?_
        refine lv_iload hx hb dX1_allTossed_16 (lv_at hl 0 rfl) ?_
        obtain ⟨q2, hq2, h⟩ := bS h
        refine rcL (va_runV (As := [.long x3_5, .int x5_5]) (rest := []) ⟨hx, hb, hml, hown, hts⟩ (c_fl_tossed l D cI cJ cZ g fPk fWn fGw fGk fOw fSt fPe fHo fGr fPa fFt s.heap hP x3_5 x5_5 q2 hq2) (cwV 2 hts gX1_allTossed_X3_tossed rfl rfl rfl (by decide +kernel) ⟨Nat.le_of_ble_eq_true rfl, Nat.le_of_ble_eq_true rfl⟩) (rPreV hK hP (ci := 2) (q0 := 0) rfl rfl) rfl rfl hl.1 rfl (lv_room (Nat.le_of_ble_eq_true rfl)) dX1_allTossed_18 ⟨Nat.zero_le _, Nat.zero_le _⟩) ?_
        refine lv_lstore_n (lv' := [(3, .long q2), (5, .int x5_5), (0, .ref (g 0)), (1, .long p1)]) hx hb dX1_allTossed_21 rfl hl (by decide) rfl (fun ls hl => ?_)
        refine lv_iinc (v := (x5_5 + 1)) (lv' := [(5, .int (x5_5 + 1)), (3, .long q2), (0, .ref (g 0)), (1, .long p1)]) hx hb dX1_allTossed_22 hl (k := 1) rfl rfl (by decide) rfl (fun ls hl => ?_)
        refine lv_goto (tgt := 5) hx hb dX1_allTossed_25 (by decide) ?_
        exact ih _ _ _ _ h (lv_sub hl [0, 1, 2, 3] rfl) hk
  refine L5 _ _ _ _ _ h hl (fun y5_5 y3_5 ls h hl => ?_)
  refine lv_lload_n hx hb dX1_allTossed_28 rfl (lv_at hl 1 rfl) ?_
  exact W.lret hx hb hr (fun t ht _ => ⟨_, rfl, Option.some.inj h, ht⟩) (fun _ q => absurd q List.not_mem_nil) dX1_allTossed_29
