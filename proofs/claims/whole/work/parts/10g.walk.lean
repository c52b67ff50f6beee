set_option maxHeartbeats 4000000 in
set_option maxRecDepth 100000 in
theorem c_xx_see (l : Launch) (D : va_G) (cI cJ cZ : ClassId) (a : Nat → Nat) (g : Nat → Nat) (d : Nat → Nat) (xText : Nat → Int32) (xLetters : Int32) (xNow : Int64) (xKept : Nat → Int64) (xIsKept : Nat → Int32) (xChance : Int64) (xScenes : Nat → Int64) (xASize : Int32) (xSKinds : Nat → Int32) (xSLifts : Nat → Int32) (xSFlights : Nat → Int32) (xSSize : Int32) (xTally : Nat → Int32) (xOut : Nat → Int64) (fPk : Nat → Int32) (fWn : Nat → Int32) (fGw : Nat → Int32) (fGk : Nat → Int32) (fOw : Nat → Int32) (fSt : Nat → Int32) (fPe : Int32) (fHo : Int32) (fGr : Int32) (fPa : Int32) (fFt : Int32) (dPk : Nat → Int32) (dWn : Nat → Int32) (dGw : Nat → Int32) (dGk : Nat → Int32) (dOw : Nat → Int32) (dSt : Nat → Int32) (dPe : Int32) (dHo : Int32) (dGr : Int32) (dPa : Int32) (dFt : Int32)  (sz : Nat) (p1 : Int32) (p2 : Int32) (p3 : Int32) (rv : Int32) (xSKinds_r : Nat → Int32) (xSLifts_r : Nat → Int32) (xSFlights_r : Nat → Int32) (xSSize_r : Int32) (h : xx_see xSKinds xSLifts xSFlights xSSize p1 p2 p3 = some (rv, xSKinds_r, xSLifts_r, xSFlights_r, xSSize_r)) : Met l yX11_see wsX11_see ({ frames := 1, cells := 0, slots := 0, locals := 23 } : Room) (wPc D cI cJ cZ (xW a g d cI cJ cZ (g 0) (d 0) xText xLetters xNow xKept xIsKept xChance xScenes xASize xSKinds xSLifts xSFlights xSSize xTally xOut fPk fWn fGw fGk fOw fSt fPe fHo fGr fPa fFt dPk dWn dGw dGk dOw dSt dPe dHo dGr dPa dFt) sz [.ref (a 0), .int p1, .int p2, .int p3]) (wQi D (xW a g d cI cJ cZ (g 0) (d 0) xText xLetters xNow xKept xIsKept xChance xScenes xASize xSKinds xSLifts xSFlights xSSize xTally xOut fPk fWn fGw fGk fOw fSt fPe fHo fGr fPa fFt dPk dWn dGw dGk dOw dSt dPe dHo dGr dPa dFt) (xW a g d cI cJ cZ (g 0) (d 0) xText xLetters xNow xKept xIsKept xChance xScenes xASize xSKinds_r xSLifts_r xSFlights_r xSSize_r xTally xOut fPk fWn fGw fGk fOw fSt fPe fHo fGr fPa fFt dPk dWn dGw dGk dOw dSt dPe dHo dGr dPa dFt) sz rv) 0 0 (va_A (xW a g d cI cJ cZ (g 0) (d 0) xText xLetters xNow xKept xIsKept xChance xScenes xASize xSKinds xSLifts xSFlights xSSize xTally xOut fPk fWn fGw fGk fOw fSt fPe fHo fGr fPa fFt dPk dWn dGw dGk dOw dSt dPe dHo dGr dPa dFt) sz) := by
  unfold xx_see at h
  refine Met.ofW (cc := cX11_see) (maxL := 4) (ret := (some .int)) (by decide) rfl ?_
  intro p e s m args below meth c s₁ B hml hv
  obtain ⟨rfl, hsz, hP, hK, hD0⟩ := hv
  have hx := B.exec
  have hb := B.bytes
  have hr := B.returns
  have hts := atoms_spec (ws := wsX11_see) B.pre
  have hown : s.vm.findClass RX11 = some m.cls := findClass_of_methodNamed B.named
  have hlocks := B.notSynchronized
  subst hsz
  have hD := hD0.self (sz := s.heap.size)
  have hA : ∀ q : Nat, s.heap.size ≤ q → va_A (xW a g d cI cJ cZ (g 0) (d 0) xText xLetters xNow xKept xIsKept xChance xScenes xASize xSKinds xSLifts xSFlights xSSize xTally xOut fPk fWn fGw fGk fOw fSt fPe fHo fGr fPa fFt dPk dWn dGw dGk dOw dSt dPe dHo dGr dPa dFt) s.heap.size q := fun q h => Or.inr h
  have hS : va_S (va_A (xW a g d cI cJ cZ (g 0) (d 0) xText xLetters xNow xKept xIsKept xChance xScenes xASize xSKinds xSLifts xSFlights xSSize xTally xOut fPk fWn fGw fGk fOw fSt fPe fHo fGr fPa fFt dPk dWn dGw dGk dOw dSt dPe dHo dGr dPa dFt) s.heap.size) s.heap s.heap [] := va_S.rf
  obtain ⟨A, hAe⟩ : ∃ A, A = va_A (xW a g d cI cJ cZ (g 0) (d 0) xText xLetters xNow xKept xIsKept xChance xScenes xASize xSKinds xSLifts xSFlights xSSize xTally xOut fPk fWn fGw fGk fOw fSt fPe fHo fGr fPa fFt dPk dWn dGw dGk dOw dSt dPe dHo dGr dPa dFt) s.heap.size := ⟨_, rfl⟩
  rw [← hAe] at hD hA hS
  have hl := lv_entry ([.ref (a 0), .int p1, .int p2, .int p3]) (n := 4) (Nat.le_of_ble_eq_true rfl)
  rw [lg_entry_eq]
  generalize (lg_sl ([.ref (a 0), .int p1, .int p2, .int p3]) ++ List.replicate (4 - (lg_sl ([.ref (a 0), .int p1, .int p2, .int p3])).length) Slot.unset).toArray = ls at hl ⊢
  have hl : lv_has ls 4 [(0, .ref (a 0)), (1, .int p1), (2, .int p2), (3, .int p3)] := hl
  have hiX11 : ∀ w ∈ u_ws RX11 TX11 11, w ∈ wsX11_see := fun w hw => List.mem_cons_of_mem _ (List.mem_append_left _ (List.mem_append_right _ hw))
  have hiX8 : ∀ w ∈ u_ws RX8 TX8 4, w ∈ wsX11_see := fun w hw => List.mem_cons_of_mem _ (List.mem_append_right _ hw)
  refine lv_iload_n hx hb dX11_see_0 rfl (lv_at hl 1 rfl) ?_
  refine lv_if_lt (tgt := 28) hx hb dX11_see_1 (by decide) (fun c1 => ?_) (fun c1 => ?_)
  · have h := iT c1 h
    refine lv_bipush (v := (-2)) hx hb dX11_see_28 (by decide) ?_
    cases h
    subst hAe
    exact W.iret hx hb hr (fun t ht _ => ⟨⟨_, (), rfl, rfl, by rw [ht]; exact hP, hD⟩, hS.F ht⟩) hS.2.2 dX11_see_30
  · have h := iF c1 h
    refine lv_iload_n hx hb dX11_see_4 rfl (lv_at hl 1 rfl) ?_
    refine lv_iconst (v := 3) hx hb dX11_see_5 (by decide) ?_
    refine lv_icmp_gt (tgt := 28) hx hb dX11_see_6 (by decide) (fun c2 => ?_) (fun c2 => ?_)
    · have h := iT c2 h
      refine lv_bipush (v := (-2)) hx hb dX11_see_28 (by decide) ?_
      cases h
      subst hAe
      exact W.iret hx hb hr (fun t ht _ => ⟨⟨_, (), rfl, rfl, by rw [ht]; exact hP, hD⟩, hS.F ht⟩) hS.2.2 dX11_see_30
    · have h := iF c2 h
      refine lv_iload_n hx hb dX11_see_9 rfl (lv_at hl 2 rfl) ?_
      refine lv_if_lt (tgt := 28) hx hb dX11_see_10 (by decide) (fun c3 => ?_) (fun c3 => ?_)
      · have h := iT c3 h
        refine lv_bipush (v := (-2)) hx hb dX11_see_28 (by decide) ?_
        cases h
        subst hAe
        exact W.iret hx hb hr (fun t ht _ => ⟨⟨_, (), rfl, rfl, by rw [ht]; exact hP, hD⟩, hS.F ht⟩) hS.2.2 dX11_see_30
      · have h := iF c3 h
        refine lv_iload_n hx hb dX11_see_13 rfl (lv_at hl 2 rfl) ?_
        refine lv_bipush (v := 12) hx hb dX11_see_14 (by decide) ?_
        refine lv_icmp_gt (tgt := 28) hx hb dX11_see_16 (by decide) (fun c4 => ?_) (fun c4 => ?_)
        · have h := iT c4 h
          refine lv_bipush (v := (-2)) hx hb dX11_see_28 (by decide) ?_
          cases h
          subst hAe
          exact W.iret hx hb hr (fun t ht _ => ⟨⟨_, (), rfl, rfl, by rw [ht]; exact hP, hD⟩, hS.F ht⟩) hS.2.2 dX11_see_30
        · have h := iF c4 h
          refine lv_iload_n hx hb dX11_see_19 rfl (lv_at hl 3 rfl) ?_
          refine lv_if_lt (tgt := 28) hx hb dX11_see_20 (by decide) (fun c5 => ?_) (fun c5 => ?_)
          · have h := iT c5 h
            refine lv_bipush (v := (-2)) hx hb dX11_see_28 (by decide) ?_
            cases h
            subst hAe
            exact W.iret hx hb hr (fun t ht _ => ⟨⟨_, (), rfl, rfl, by rw [ht]; exact hP, hD⟩, hS.F ht⟩) hS.2.2 dX11_see_30
          · have h := iF c5 h
            refine lv_iload_n hx hb dX11_see_23 rfl (lv_at hl 3 rfl) ?_
            refine lv_iconst (v := 5) hx hb dX11_see_24 (by decide) ?_
            refine lv_icmp_le (tgt := 31) hx hb dX11_see_25 (by decide) (fun c6 => ?_) (fun c6 => ?_)
            · have h := iT c6 h
              refine lv_aload_n hx hb dX11_see_31 rfl (lv_at hl 0 rfl) ?_
              refine va_get (D := D) (ci := 4) (v := .ref (a 5)) (C := RX11) (T := TX11) (N := 11) hx hb hts hiX11 hown hK.1 hP 0 rfl rfl 8 (by decide) (hts (.fieldLink RX11 49 "WinnowedGuilt" "seen" "LWinnowedGuilt$Seen;") (by decide +kernel)) (fun _ h9 => h9) rfl dX11_see_32 ?_
              refine va_getN (D := D) (ci := 3) (v := .int xSSize) (C := RX8) (T := TX8) (N := 4) hx hb hts hiX8 hown hK.1 hP 6 rfl rfl 3 (by decide) (va_Nw.use rfl (kN_6 hK.2)) (fun _ h9 => h9) rfl dX11_see_35 ?_
              refine lv_bipush (v := 6) hx hb dX11_see_38 (by decide) ?_
              refine lv_icmp_lt (tgt := 46) hx hb dX11_see_40 (by decide) (fun c7 => ?_) (fun c7 => ?_)
              · have h := iT c7 h
                refine lv_aload_n hx hb dX11_see_46 rfl (lv_at hl 0 rfl) ?_
                refine va_get (D := D) (ci := 4) (v := .ref (a 5)) (C := RX11) (T := TX11) (N := 11) hx hb hts hiX11 hown hK.1 hP 0 rfl rfl 8 (by decide) (hts (.fieldLink RX11 49 "WinnowedGuilt" "seen" "LWinnowedGuilt$Seen;") (by decide +kernel)) (fun _ h9 => h9) rfl dX11_see_47 ?_
                refine lv_iload_n hx hb dX11_see_50 rfl (lv_at hl 1 rfl) ?_
                refine lv_iload_n hx hb dX11_see_51 rfl (lv_at hl 2 rfl) ?_
                refine lv_iload_n hx hb dX11_see_52 rfl (lv_at hl 3 rfl) ?_
                obtain ⟨q8, hq8, h⟩ := bS h
                refine wcV (va_runV (As := [.int p1, .int p2, .int p3]) (rest := []) ⟨hx, hb, hml, hown, hts⟩ (c_se_add l D cI cJ cZ a g d xText xLetters xNow xKept xIsKept xChance xScenes xASize xSKinds xSLifts xSFlights xSSize xTally xOut fPk fWn fGw fGk fOw fSt fPe fHo fGr fPa fFt dPk dWn dGw dGk dOw dSt dPe dHo dGr dPa dFt s.heap.size p1 p2 p3 q8.1 q8.2.1 q8.2.2.1 q8.2.2.2 hq8) (cwV 3 hts gX11_see_X8_add rfl rfl rfl (by decide +kernel) ⟨Nat.le_of_ble_eq_true rfl, Nat.le_of_ble_eq_true rfl⟩) (wPreV hK hP hD (ci := 3) (q0 := 6) rfl rfl) rfl rfl hl.1 rfl (lv_room (Nat.le_of_ble_eq_true rfl)) dX11_see_53 ⟨Nat.zero_le _, Nat.zero_le _⟩) hD hS hA (fun H locs hP hD hS => ?_)
                have hP : va_P D vwCl (xW a g d cI cJ cZ (g 0) (d 0) xText xLetters xNow xKept xIsKept xChance xScenes xASize q8.1 q8.2.1 q8.2.2.1 q8.2.2.2 xTally xOut fPk fWn fGw fGk fOw fSt fPe fHo fGr fPa fFt dPk dWn dGw dGk dOw dSt dPe dHo dGr dPa dFt) H := hP
                have hD : va_D A (xW a g d cI cJ cZ (g 0) (d 0) xText xLetters xNow xKept xIsKept xChance xScenes xASize q8.1 q8.2.1 q8.2.2.1 q8.2.2.2 xTally xOut fPk fWn fGw fGk fOw fSt fPe fHo fGr fPa fFt dPk dWn dGw dGk dOw dSt dPe dHo dGr dPa dFt) := hD
                refine lv_aload_n hx hb dX11_see_56 rfl (lv_at hl 0 rfl) ?_
                refine va_get (D := D) (ci := 4) (v := .ref (a 5)) (C := RX11) (T := TX11) (N := 11) hx hb hts hiX11 hown hK.1 hP 0 rfl rfl 8 (by decide) (hts (.fieldLink RX11 49 "WinnowedGuilt" "seen" "LWinnowedGuilt$Seen;") (by decide +kernel)) (fun _ h9 => h9) rfl dX11_see_57 ?_
                refine va_getN (D := D) (ci := 3) (v := .int q8.2.2.2) (C := RX8) (T := TX8) (N := 4) hx hb hts hiX8 hown hK.1 hP 6 rfl rfl 3 (by decide) (va_Nw.use rfl (kN_6 hK.2)) (fun _ h9 => h9) rfl dX11_see_60 ?_
                cases h
                subst hAe
                exact W.iret hx hb hr (fun t ht _ => ⟨⟨_, (), rfl, rfl, by rw [ht]; exact hP, hD⟩, hS.F ht⟩) hS.2.2 dX11_see_63
              · have h := iF c7 h
                refine lv_bipush (v := (-4)) hx hb dX11_see_43 (by decide) ?_
                cases h
                subst hAe
                exact W.iret hx hb hr (fun t ht _ => ⟨⟨_, (), rfl, rfl, by rw [ht]; exact hP, hD⟩, hS.F ht⟩) hS.2.2 dX11_see_45
            · have h := iF c6 h
              refine lv_bipush (v := (-2)) hx hb dX11_see_28 (by decide) ?_
              cases h
              subst hAe
              exact W.iret hx hb hr (fun t ht _ => ⟨⟨_, (), rfl, rfl, by rw [ht]; exact hP, hD⟩, hS.F ht⟩) hS.2.2 dX11_see_30

set_option maxHeartbeats 4000000 in
set_option maxRecDepth 100000 in
theorem c_xx_unsee (l : Launch) (D : va_G) (cI cJ cZ : ClassId) (a : Nat → Nat) (g : Nat → Nat) (d : Nat → Nat) (xText : Nat → Int32) (xLetters : Int32) (xNow : Int64) (xKept : Nat → Int64) (xIsKept : Nat → Int32) (xChance : Int64) (xScenes : Nat → Int64) (xASize : Int32) (xSKinds : Nat → Int32) (xSLifts : Nat → Int32) (xSFlights : Nat → Int32) (xSSize : Int32) (xTally : Nat → Int32) (xOut : Nat → Int64) (fPk : Nat → Int32) (fWn : Nat → Int32) (fGw : Nat → Int32) (fGk : Nat → Int32) (fOw : Nat → Int32) (fSt : Nat → Int32) (fPe : Int32) (fHo : Int32) (fGr : Int32) (fPa : Int32) (fFt : Int32) (dPk : Nat → Int32) (dWn : Nat → Int32) (dGw : Nat → Int32) (dGk : Nat → Int32) (dOw : Nat → Int32) (dSt : Nat → Int32) (dPe : Int32) (dHo : Int32) (dGr : Int32) (dPa : Int32) (dFt : Int32)  (sz : Nat)  (rv : Int32) (xSSize_r : Int32) (h : xx_unsee xSSize = some (rv, xSSize_r)) : Met l yX11_unsee wsX11_unsee ({ frames := 0, cells := 0, slots := 0, locals := 0 } : Room) (wPc D cI cJ cZ (xW a g d cI cJ cZ (g 0) (d 0) xText xLetters xNow xKept xIsKept xChance xScenes xASize xSKinds xSLifts xSFlights xSSize xTally xOut fPk fWn fGw fGk fOw fSt fPe fHo fGr fPa fFt dPk dWn dGw dGk dOw dSt dPe dHo dGr dPa dFt) sz [.ref (a 0)]) (wQi D (xW a g d cI cJ cZ (g 0) (d 0) xText xLetters xNow xKept xIsKept xChance xScenes xASize xSKinds xSLifts xSFlights xSSize xTally xOut fPk fWn fGw fGk fOw fSt fPe fHo fGr fPa fFt dPk dWn dGw dGk dOw dSt dPe dHo dGr dPa dFt) (xW a g d cI cJ cZ (g 0) (d 0) xText xLetters xNow xKept xIsKept xChance xScenes xASize xSKinds xSLifts xSFlights xSSize_r xTally xOut fPk fWn fGw fGk fOw fSt fPe fHo fGr fPa fFt dPk dWn dGw dGk dOw dSt dPe dHo dGr dPa dFt) sz rv) 0 0 (va_A (xW a g d cI cJ cZ (g 0) (d 0) xText xLetters xNow xKept xIsKept xChance xScenes xASize xSKinds xSLifts xSFlights xSSize xTally xOut fPk fWn fGw fGk fOw fSt fPe fHo fGr fPa fFt dPk dWn dGw dGk dOw dSt dPe dHo dGr dPa dFt) sz) := by
  unfold xx_unsee at h
  refine Met.ofW (cc := cX11_unsee) (maxL := 2) (ret := (some .int)) (by decide) rfl ?_
  intro p e s m args below meth c s₁ B hml hv
  obtain ⟨rfl, hsz, hP, hK, hD0⟩ := hv
  have hx := B.exec
  have hb := B.bytes
  have hr := B.returns
  have hts := atoms_spec (ws := wsX11_unsee) B.pre
  have hown : s.vm.findClass RX11 = some m.cls := findClass_of_methodNamed B.named
  have hlocks := B.notSynchronized
  subst hsz
  have hD := hD0.self (sz := s.heap.size)
  have hA : ∀ q : Nat, s.heap.size ≤ q → va_A (xW a g d cI cJ cZ (g 0) (d 0) xText xLetters xNow xKept xIsKept xChance xScenes xASize xSKinds xSLifts xSFlights xSSize xTally xOut fPk fWn fGw fGk fOw fSt fPe fHo fGr fPa fFt dPk dWn dGw dGk dOw dSt dPe dHo dGr dPa dFt) s.heap.size q := fun q h => Or.inr h
  have hS : va_S (va_A (xW a g d cI cJ cZ (g 0) (d 0) xText xLetters xNow xKept xIsKept xChance xScenes xASize xSKinds xSLifts xSFlights xSSize xTally xOut fPk fWn fGw fGk fOw fSt fPe fHo fGr fPa fFt dPk dWn dGw dGk dOw dSt dPe dHo dGr dPa dFt) s.heap.size) s.heap s.heap [] := va_S.rf
  obtain ⟨A, hAe⟩ : ∃ A, A = va_A (xW a g d cI cJ cZ (g 0) (d 0) xText xLetters xNow xKept xIsKept xChance xScenes xASize xSKinds xSLifts xSFlights xSSize xTally xOut fPk fWn fGw fGk fOw fSt fPe fHo fGr fPa fFt dPk dWn dGw dGk dOw dSt dPe dHo dGr dPa dFt) s.heap.size := ⟨_, rfl⟩
  rw [← hAe] at hD hA hS
  have hl := lv_entry ([.ref (a 0)]) (n := 2) (Nat.le_of_ble_eq_true rfl)
  rw [lg_entry_eq]
  generalize (lg_sl ([.ref (a 0)]) ++ List.replicate (2 - (lg_sl ([.ref (a 0)])).length) Slot.unset).toArray = ls at hl ⊢
  have hl : lv_has ls 2 [(0, .ref (a 0))] := hl
  have hiX11 : ∀ w ∈ u_ws RX11 TX11 11, w ∈ wsX11_unsee := fun w hw => List.mem_cons_of_mem _ (List.mem_append_left _ (List.mem_append_right _ hw))
  have hiX8 : ∀ w ∈ u_ws RX8 TX8 4, w ∈ wsX11_unsee := fun w hw => List.mem_cons_of_mem _ (List.mem_append_right _ hw)
  refine lv_aload_n hx hb dX11_unsee_0 rfl (lv_at hl 0 rfl) ?_
  refine va_get (D := D) (ci := 4) (v := .ref (a 5)) (C := RX11) (T := TX11) (N := 11) hx hb hts hiX11 hown hK.1 hP 0 rfl rfl 8 (by decide) (hts (.fieldLink RX11 49 "WinnowedGuilt" "seen" "LWinnowedGuilt$Seen;") (by decide +kernel)) (fun _ h9 => h9) rfl dX11_unsee_1 ?_
  refine va_getN (D := D) (ci := 3) (v := .int xSSize) (C := RX8) (T := TX8) (N := 4) hx hb hts hiX8 hown hK.1 hP 6 rfl rfl 3 (by decide) (va_Nw.use rfl (kN_6 hK.2)) (fun _ h9 => h9) rfl dX11_unsee_4 ?_
  refine lv_istore_n (lv' := [(1, .int xSSize), (0, .ref (a 0))]) hx hb dX11_unsee_7 rfl hl (by decide) rfl (fun ls hl => ?_)
  refine lv_aload_n hx hb dX11_unsee_8 rfl (lv_at hl 1 rfl) ?_
  refine va_get (D := D) (ci := 4) (v := .ref (a 5)) (C := RX11) (T := TX11) (N := 11) hx hb hts hiX11 hown hK.1 hP 0 rfl rfl 8 (by decide) (hts (.fieldLink RX11 49 "WinnowedGuilt" "seen" "LWinnowedGuilt$Seen;") (by decide +kernel)) (fun _ h9 => h9) rfl dX11_unsee_9 ?_
  refine lv_iconst (v := 0) hx hb dX11_unsee_12 (by decide) ?_
  refine va_putN (D := D) (ci := 3) (v := .int 0) (ty := .int) (C := RX8) (T := TX8) (N := 4) hx hb hts hiX8 tyX8 tyX8_ok nmX8 hown hK.1 hP hD hS 6 rfl rfl 3 (by decide) (va_Nw.use rfl (kN_6 hK.2)) (fun _ h9 => h9) rfl (by decide +kernel) rfl rfl (Nat.le_of_ble_eq_true rfl) dX11_unsee_13 (fun H locs hP hD hS => ?_)
  have hP : va_P D vwCl (xW a g d cI cJ cZ (g 0) (d 0) xText xLetters xNow xKept xIsKept xChance xScenes xASize xSKinds xSLifts xSFlights 0 xTally xOut fPk fWn fGw fGk fOw fSt fPe fHo fGr fPa fFt dPk dWn dGw dGk dOw dSt dPe dHo dGr dPa dFt) H := hP
  have hD : va_D A (xW a g d cI cJ cZ (g 0) (d 0) xText xLetters xNow xKept xIsKept xChance xScenes xASize xSKinds xSLifts xSFlights 0 xTally xOut fPk fWn fGw fGk fOw fSt fPe fHo fGr fPa fFt dPk dWn dGw dGk dOw dSt dPe dHo dGr dPa dFt) := hD
  refine lv_iload_n hx hb dX11_unsee_16 rfl (lv_at hl 0 rfl) ?_
  cases h
  subst hAe
  exact W.iret hx hb hr (fun t ht _ => ⟨⟨_, (), rfl, rfl, by rw [ht]; exact hP, hD⟩, hS.F ht⟩) hS.2.2 dX11_unsee_17

set_option maxHeartbeats 4000000 in
set_option maxRecDepth 100000 in
theorem c_se_fits (l : Launch) (D : va_G) (cI cJ cZ : ClassId) (a : Nat → Nat) (g : Nat → Nat) (d : Nat → Nat) (xText : Nat → Int32) (xLetters : Int32) (xNow : Int64) (xKept : Nat → Int64) (xIsKept : Nat → Int32) (xChance : Int64) (xScenes : Nat → Int64) (xASize : Int32) (xSKinds : Nat → Int32) (xSLifts : Nat → Int32) (xSFlights : Nat → Int32) (xSSize : Int32) (xTally : Nat → Int32) (xOut : Nat → Int64) (fPk : Nat → Int32) (fWn : Nat → Int32) (fGw : Nat → Int32) (fGk : Nat → Int32) (fOw : Nat → Int32) (fSt : Nat → Int32) (fPe : Int32) (fHo : Int32) (fGr : Int32) (fPa : Int32) (fFt : Int32) (dPk : Nat → Int32) (dWn : Nat → Int32) (dGw : Nat → Int32) (dGk : Nat → Int32) (dOw : Nat → Int32) (dSt : Nat → Int32) (dPe : Int32) (dHo : Int32) (dGr : Int32) (dPa : Int32) (dFt : Int32)  (H0 : Heap) (hP : va_P D vwCl (xW a g d cI cJ cZ (g 0) (d 0) xText xLetters xNow xKept xIsKept xChance xScenes xASize xSKinds xSLifts xSFlights xSSize xTally xOut fPk fWn fGw fGk fOw fSt fPe fHo fGr fPa fFt dPk dWn dGw dGk dOw dSt dPe dHo dGr dPa dFt) H0) (p1 : Int32) (p2 : Int32) (rv : Int32) (h : se_fits xSKinds xSLifts xSFlights xSSize p1 p2 = some rv) : Met l yX8_fits wsX8_fits ({ frames := 1, cells := 0, slots := 0, locals := 22 } : Room) (rPc D cI cJ cZ H0 [.ref (a 5), .int p1, .int p2]) (vp_Si (fun r => r = rv)) 0 0 (fun _ => False) := by
  unfold se_fits at h
  refine Met.ofW (cc := cX8_fits) (maxL := 4) (ret := (some .boolean)) (by decide) rfl ?_
  intro p e s m args below meth c s₁ B hml hv
  obtain ⟨rfl, hH, hK⟩ := hv
  have hx := B.exec
  have hb := B.bytes
  have hr := B.returns
  have hts := atoms_spec (ws := wsX8_fits) B.pre
  have hown : s.vm.findClass RX8 = some m.cls := findClass_of_methodNamed B.named
  have hlocks := B.notSynchronized
  subst hH
  have hl := lv_entry ([.ref (a 5), .int p1, .int p2]) (n := 4) (Nat.le_of_ble_eq_true rfl)
  rw [lg_entry_eq]
  generalize (lg_sl ([.ref (a 5), .int p1, .int p2]) ++ List.replicate (4 - (lg_sl ([.ref (a 5), .int p1, .int p2])).length) Slot.unset).toArray = ls at hl ⊢
  have hl : lv_has ls 4 [(0, .ref (a 5)), (1, .int p1), (2, .int p2)] := hl
  have hiX8 : ∀ w ∈ u_ws RX8 TX8 4, w ∈ wsX8_fits := fun w hw => List.mem_cons_of_mem _ (List.mem_append_right _ hw)
  refine lv_iconst (v := 0) hx hb dX8_fits_0 (by decide) ?_
  refine lv_istore_n (lv' := [(3, .int 0), (0, .ref (a 5)), (1, .int p1), (2, .int p2)]) hx hb dX8_fits_1 rfl hl (by decide) rfl (fun ls hl => ?_)
  have L2 : ∀ (n : Nat) (x3_2 : Int32) (ls : Array Slot) (kx : Int32 → Option (Int32)), se_fits_L2 xSKinds xSLifts xSFlights xSSize p1 p2 kx n x3_2 = some rv → lv_has ls 4 [(3, .int x3_2), (0, .ref (a 5)), (1, .int p1), (2, .int p2)] → (∀ (y3_2 : Int32) (ls : Array Slot), kx y3_2 = some rv → lv_has ls 4 [(3, .int y3_2), (0, .ref (a 5)), (1, .int p1), (2, .int p2)] → W p l e (headSpec wsX8_fits ({ frames := 1, cells := 0, slots := 0, locals := 22 } : Room)).room s m ([.ref (a 5), .int p1, .int p2] : List Value).toArray below meth c s.heap [] 0 0 (MQ below (vp_Si (fun r => r = rv)) ([.ref (a 5), .int p1, .int p2] : List Value).toArray s 0 0 (fun _ => False)) (F0 m 79 ls [])) → W p l e (headSpec wsX8_fits ({ frames := 1, cells := 0, slots := 0, locals := 22 } : Room)).room s m ([.ref (a 5), .int p1, .int p2] : List Value).toArray below meth c s.heap [] 0 0 (MQ below (vp_Si (fun r => r = rv)) ([.ref (a 5), .int p1, .int p2] : List Value).toArray s 0 0 (fun _ => False)) (F0 m 2 ls []) := by
    intro n
    induction n with
    | zero => intro _ _ _ h; rw [se_fits_L2.eq_1] at h; cases h
    | succ n ih =>
      intro x3_2 ls kx h hl hk
      rw [se_fits_L2.eq_2] at h
      refine lv_iload_n hx hb dX8_fits_2 rfl (lv_at hl 0 rfl) ?_
      refine lv_aload_n hx hb dX8_fits_3 rfl (lv_at hl 1 rfl) ?_
      refine va_get (D := D) (ci := 3) (v := .int xSSize) (C := RX8) (T := TX8) (N := 4) hx hb hts hiX8 hown hK.1 hP 6 rfl rfl 3 (by decide) (hts (.fieldLink RX8 21 "WinnowedGuilt$Seen" "size" "I") (by decide +kernel)) (fun _ h9 => h9) rfl dX8_fits_4 ?_
      refine lv_icmp_ge (tgt := 79) hx hb dX8_fits_7 (by decide) (fun c1 => ?_) (fun c1 => ?_)
      · have h := iT c1 h
        exact hk _ _ h (lv_sub hl [0, 1, 2, 3] rfl)
      · have h := iF c1 h
        refine lv_iload_n hx hb dX8_fits_10 rfl (lv_at hl 0 rfl) ?_
        refine lv_aload_n hx hb dX8_fits_11 rfl (lv_at hl 1 rfl) ?_
        refine va_get (D := D) (ci := 3) (v := .ref (a 8)) (C := RX8) (T := TX8) (N := 4) hx hb hts hiX8 hown hK.1 hP 6 rfl rfl 0 (by decide) (hts (.fieldLink RX8 9 "WinnowedGuilt$Seen" "kinds" "[I") (by decide +kernel)) (fun _ h9 => h9) rfl dX8_fits_12 ?_
        refine va_alen (v := 6) hx hb hK.1 hP 7 0 rfl rfl rfl dX8_fits_15 ?_
        refine lv_icmp_ge (tgt := 79) hx hb dX8_fits_16 (by decide) (fun c2 => ?_) (fun c2 => ?_)
        · have h := iT c2 h
          exact hk _ _ h (lv_sub hl [0, 1, 2, 3] rfl)
        · have h := iF c2 h
          refine lv_iload_n hx hb dX8_fits_19 rfl (lv_at hl 0 rfl) ?_
          refine lv_aload_n hx hb dX8_fits_20 rfl (lv_at hl 1 rfl) ?_
          refine va_get (D := D) (ci := 3) (v := .ref (a 9)) (C := RX8) (T := TX8) (N := 4) hx hb hts hiX8 hown hK.1 hP 6 rfl rfl 1 (by decide) (hts (.fieldLink RX8 15 "WinnowedGuilt$Seen" "lifts" "[I") (by decide +kernel)) (fun _ h9 => h9) rfl dX8_fits_21 ?_
          refine va_alen (v := 6) hx hb hK.1 hP 8 0 rfl rfl rfl dX8_fits_24 ?_
          refine lv_icmp_ge (tgt := 79) hx hb dX8_fits_25 (by decide) (fun c3 => ?_) (fun c3 => ?_)
          · have h := iT c3 h
            exact hk _ _ h (lv_sub hl [0, 1, 2, 3] rfl)
          · have h := iF c3 h
            refine lv_iload_n hx hb dX8_fits_28 rfl (lv_at hl 0 rfl) ?_
            refine lv_aload_n hx hb dX8_fits_29 rfl (lv_at hl 1 rfl) ?_
            refine va_get (D := D) (ci := 3) (v := .ref (a 10)) (C := RX8) (T := TX8) (N := 4) hx hb hts hiX8 hown hK.1 hP 6 rfl rfl 2 (by decide) (hts (.fieldLink RX8 18 "WinnowedGuilt$Seen" "flights" "[I") (by decide +kernel)) (fun _ h9 => h9) rfl dX8_fits_30 ?_
            refine va_alen (v := 6) hx hb hK.1 hP 9 0 rfl rfl rfl dX8_fits_33 ?_
            refine lv_icmp_ge (tgt := 79) hx hb dX8_fits_34 (by decide) (fun c4 => ?_) (fun c4 => ?_)
            · have h := iT c4 h
              exact hk _ _ h (lv_sub hl [0, 1, 2, 3] rfl)
            · have h := iF c4 h
              refine lv_aload_n hx hb dX8_fits_37 rfl (lv_at hl 1 rfl) ?_
              refine va_get (D := D) (ci := 3) (v := .ref (a 8)) (C := RX8) (T := TX8) (N := 4) hx hb hts hiX8 hown hK.1 hP 6 rfl rfl 0 (by decide) (hts (.fieldLink RX8 9 "WinnowedGuilt$Seen" "kinds" "[I") (by decide +kernel)) (fun _ h9 => h9) rfl dX8_fits_38 ?_
              refine lv_iload_n hx hb dX8_fits_41 rfl (lv_at hl 0 rfl) ?_
              obtain ⟨hi5, h⟩ := gI_some h
              refine ldI (v := (xSKinds (Int32.toNatClampNeg x3_2))) hx hb hK.1 hP 7 rfl rfl hi5 rfl dX8_fits_42 ?_
              refine lv_iload_n hx hb dX8_fits_43 rfl (lv_at hl 2 rfl) ?_
              refine lv_icmp_ne (tgt := 73) hx hb dX8_fits_44 (by decide) (fun c6 => ?_) (fun c6 => ?_)
              · have h := iF c6 h
                refine lv_iinc (v := (x3_2 + 1)) (lv' := [(3, .int (x3_2 + 1)), (0, .ref (a 5)), (1, .int p1), (2, .int p2)]) hx hb dX8_fits_73 hl (k := 0) rfl rfl (by decide) rfl (fun ls hl => ?_)
                refine lv_goto (tgt := 2) hx hb dX8_fits_76 (by decide) ?_
                exact ih _ _ _ h (lv_sub hl [0, 1, 2, 3] rfl) hk
              · have h := iT c6 h
                refine lv_iload_n hx hb dX8_fits_47 rfl (lv_at hl 2 rfl) ?_
                refine lv_iload_n hx hb dX8_fits_48 rfl (lv_at hl 3 rfl) ?_
                refine lv_iload_n hx hb dX8_fits_49 rfl (lv_at hl 2 rfl) ?_
                refine lv_aload_n hx hb dX8_fits_50 rfl (lv_at hl 1 rfl) ?_
                refine va_get (D := D) (ci := 3) (v := .ref (a 9)) (C := RX8) (T := TX8) (N := 4) hx hb hts hiX8 hown hK.1 hP 6 rfl rfl 1 (by decide) (hts (.fieldLink RX8 15 "WinnowedGuilt$Seen" "lifts" "[I") (by decide +kernel)) (fun _ h9 => h9) rfl dX8_fits_51 ?_
                refine lv_iload_n hx hb dX8_fits_54 rfl (lv_at hl 0 rfl) ?_
                obtain ⟨hi7, h⟩ := gI_some h
                refine ldI (v := (xSLifts (Int32.toNatClampNeg x3_2))) hx hb hK.1 hP 8 rfl rfl hi7 rfl dX8_fits_55 ?_
                obtain ⟨q8, hq8, h⟩ := bS h
                refine rcI (va_runS (As := [.int p1, .int (xSLifts (Int32.toNatClampNeg x3_2))]) (rest := [.int p2, .int p1]) ⟨hx, hb, hml, hown, hts⟩ (c_fl_ownLift l D cI cJ cZ   s.heap p1 (xSLifts (Int32.toNatClampNeg x3_2)) q8 hq8) (va_cwS 2 hts gX8_fits_X3_ownLift rfl rfl rfl (by decide +kernel) ⟨Nat.le_of_ble_eq_true rfl, Nat.le_of_ble_eq_true rfl⟩) (rPreS hK) rfl rfl hl.1 rfl (lv_room (Nat.le_of_ble_eq_true rfl)) dX8_fits_56 ⟨Nat.zero_le _, Nat.zero_le _⟩) ?_
                obtain ⟨q9, hq9, h⟩ := bS h
                refine rcI (va_runS (As := [.int p1, .int p2, .int q8]) (rest := []) ⟨hx, hb, hml, hown, hts⟩ (c_fl_flown l D cI cJ cZ   s.heap p1 p2 q8 q9 hq9) (va_cwS 3 hts gX8_fits_X3_flown rfl rfl rfl (by decide +kernel) ⟨Nat.le_of_ble_eq_true rfl, Nat.le_of_ble_eq_true rfl⟩) (rPreS hK) rfl rfl hl.1 rfl (lv_room (Nat.le_of_ble_eq_true rfl)) dX8_fits_59 ⟨Nat.zero_le _, Nat.zero_le _⟩) ?_
                refine lv_aload_n hx hb dX8_fits_62 rfl (lv_at hl 1 rfl) ?_
                refine va_get (D := D) (ci := 3) (v := .ref (a 10)) (C := RX8) (T := TX8) (N := 4) hx hb hts hiX8 hown hK.1 hP 6 rfl rfl 2 (by decide) (hts (.fieldLink RX8 18 "WinnowedGuilt$Seen" "flights" "[I") (by decide +kernel)) (fun _ h9 => h9) rfl dX8_fits_63 ?_
                refine lv_iload_n hx hb dX8_fits_66 rfl (lv_at hl 0 rfl) ?_
                obtain ⟨hi10, h⟩ := gI_some h
                refine ldI (v := (xSFlights (Int32.toNatClampNeg x3_2))) hx hb hK.1 hP 9 rfl rfl hi10 rfl dX8_fits_67 ?_
                refine lv_icmp_eq (tgt := 73) hx hb dX8_fits_68 (by decide) (fun c11 => ?_) (fun c11 => ?_)
                · have h := iT c11 h
                  refine lv_iinc (v := (x3_2 + 1)) (lv' := [(3, .int (x3_2 + 1)), (0, .ref (a 5)), (1, .int p1), (2, .int p2)]) hx hb dX8_fits_73 hl (k := 0) rfl rfl (by decide) rfl (fun ls hl => ?_)
                  refine lv_goto (tgt := 2) hx hb dX8_fits_76 (by decide) ?_
                  exact ih _ _ _ h (lv_sub hl [0, 1, 2, 3] rfl) hk
                · have h := iF c11 h
                  refine lv_iconst (v := 0) hx hb dX8_fits_71 (by decide) ?_
                  exact W.zret hx hb hr (by decide) (fun t ht _ => ⟨_, rfl, Option.some.inj h, ht⟩) (fun _ q => absurd q List.not_mem_nil) dX8_fits_72
  refine L2 _ _ _ _ h hl (fun y3_2 ls h hl => ?_)
  refine lv_iconst (v := 1) hx hb dX8_fits_79 (by decide) ?_
  exact W.zret hx hb hr (by decide) (fun t ht _ => ⟨_, rfl, Option.some.inj h, ht⟩) (fun _ q => absurd q List.not_mem_nil) dX8_fits_80

set_option maxHeartbeats 4000000 in
set_option maxRecDepth 100000 in
theorem c_se_weightBits (l : Launch) (D : va_G) (cI cJ cZ : ClassId) (a : Nat → Nat) (g : Nat → Nat) (d : Nat → Nat) (xText : Nat → Int32) (xLetters : Int32) (xNow : Int64) (xKept : Nat → Int64) (xIsKept : Nat → Int32) (xChance : Int64) (xScenes : Nat → Int64) (xASize : Int32) (xSKinds : Nat → Int32) (xSLifts : Nat → Int32) (xSFlights : Nat → Int32) (xSSize : Int32) (xTally : Nat → Int32) (xOut : Nat → Int64) (fPk : Nat → Int32) (fWn : Nat → Int32) (fGw : Nat → Int32) (fGk : Nat → Int32) (fOw : Nat → Int32) (fSt : Nat → Int32) (fPe : Int32) (fHo : Int32) (fGr : Int32) (fPa : Int32) (fFt : Int32) (dPk : Nat → Int32) (dWn : Nat → Int32) (dGw : Nat → Int32) (dGk : Nat → Int32) (dOw : Nat → Int32) (dSt : Nat → Int32) (dPe : Int32) (dHo : Int32) (dGr : Int32) (dPa : Int32) (dFt : Int32)  (H0 : Heap) (hP : va_P D vwCl (xW a g d cI cJ cZ (g 0) (d 0) xText xLetters xNow xKept xIsKept xChance xScenes xASize xSKinds xSLifts xSFlights xSSize xTally xOut fPk fWn fGw fGk fOw fSt fPe fHo fGr fPa fFt dPk dWn dGw dGk dOw dSt dPe dHo dGr dPa dFt) H0) (p1 : Int32) (rv : Int32) (h : se_weightBits xSKinds xSLifts xSFlights xSSize p1 = some rv) : Met l yX8_weightBits wsX8_weightBits ({ frames := 2, cells := 0, slots := 0, locals := 45 } : Room) (rPc D cI cJ cZ H0 [.ref (a 5), .int p1]) (vp_Si (fun r => r = rv)) 0 0 (fun _ => False) := by
  unfold se_weightBits at h
  refine Met.ofW (cc := cX8_weightBits) (maxL := 4) (ret := (some .int)) (by decide) rfl ?_
  intro p e s m args below meth c s₁ B hml hv
  obtain ⟨rfl, hH, hK⟩ := hv
  have hx := B.exec
  have hb := B.bytes
  have hr := B.returns
  have hts := atoms_spec (ws := wsX8_weightBits) B.pre
  have hown : s.vm.findClass RX8 = some m.cls := findClass_of_methodNamed B.named
  have hlocks := B.notSynchronized
  subst hH
  have hl := lv_entry ([.ref (a 5), .int p1]) (n := 4) (Nat.le_of_ble_eq_true rfl)
  rw [lg_entry_eq]
  generalize (lg_sl ([.ref (a 5), .int p1]) ++ List.replicate (4 - (lg_sl ([.ref (a 5), .int p1])).length) Slot.unset).toArray = ls at hl ⊢
  have hl : lv_has ls 4 [(0, .ref (a 5)), (1, .int p1)] := hl
  refine lv_iconst (v := 0) hx hb dX8_weightBits_0 (by decide) ?_
  refine lv_istore_n (lv' := [(2, .int 0), (0, .ref (a 5)), (1, .int p1)]) hx hb dX8_weightBits_1 rfl hl (by decide) rfl (fun ls hl => ?_)
  refine lv_iconst (v := 1) hx hb dX8_weightBits_2 (by decide) ?_
  refine lv_istore_n (lv' := [(3, .int 1), (2, .int 0), (0, .ref (a 5)), (1, .int p1)]) hx hb dX8_weightBits_3 rfl hl (by decide) rfl (fun ls hl => ?_)
  have L4 : ∀ (n : Nat) (x3_4 : Int32) (x2_4 : Int32) (ls : Array Slot) (kx : Int32 → Int32 → Option (Int32)), se_weightBits_L4 xSKinds xSLifts xSFlights xSSize p1 kx n x3_4 x2_4 = some rv → lv_has ls 4 [(3, .int x3_4), (2, .int x2_4), (0, .ref (a 5)), (1, .int p1)] → (∀ (y3_4 : Int32) (y2_4 : Int32) (ls : Array Slot), kx y3_4 y2_4 = some rv → lv_has ls 4 [(3, .int y3_4), (2, .int y2_4), (0, .ref (a 5)), (1, .int p1)] → W p l e (headSpec wsX8_weightBits ({ frames := 2, cells := 0, slots := 0, locals := 45 } : Room)).room s m ([.ref (a 5), .int p1] : List Value).toArray below meth c s.heap [] 0 0 (MQ below (vp_Si (fun r => r = rv)) ([.ref (a 5), .int p1] : List Value).toArray s 0 0 (fun _ => False)) (F0 m 31 ls [])) → W p l e (headSpec wsX8_weightBits ({ frames := 2, cells := 0, slots := 0, locals := 45 } : Room)).room s m ([.ref (a 5), .int p1] : List Value).toArray below meth c s.heap [] 0 0 (MQ below (vp_Si (fun r => r = rv)) ([.ref (a 5), .int p1] : List Value).toArray s 0 0 (fun _ => False)) (F0 m 4 ls []) := by
    intro n
    induction n with
    | zero => intro _ _ _ _ h; rw [se_weightBits_L4.eq_1] at h; cases h
    | succ n ih =>
      intro x3_4 x2_4 ls kx h hl hk
      rw [se_weightBits_L4.eq_2] at h
      refine lv_iload_n hx hb dX8_weightBits_4 rfl (lv_at hl 0 rfl) ?_
      refine lv_bipush (v := 9) hx hb dX8_weightBits_5 (by decide) ?_
      refine lv_icmp_gt (tgt := 31) hx hb dX8_weightBits_7 (by decide) (fun c1 => ?_) (fun c1 => ?_)
      · have h := iT c1 h
        exact hk _ _ _ h (lv_sub hl [0, 1, 2, 3] rfl)
      · have h := iF c1 h
        refine lv_aload_n hx hb dX8_weightBits_10 rfl (lv_at hl 2 rfl) ?_
        refine lv_iload_n hx hb dX8_weightBits_11 rfl (lv_at hl 3 rfl) ?_
        refine lv_iload_n hx hb dX8_weightBits_12 rfl (lv_at hl 0 rfl) ?_
        obtain ⟨q2, hq2, h⟩ := bS h
        refine rcI (va_runV (As := [.int p1, .int x3_4]) (rest := []) ⟨hx, hb, hml, hown, hts⟩ (c_se_fits l D cI cJ cZ a g d xText xLetters xNow xKept xIsKept xChance xScenes xASize xSKinds xSLifts xSFlights xSSize xTally xOut fPk fWn fGw fGk fOw fSt fPe fHo fGr fPa fFt dPk dWn dGw dGk dOw dSt dPe dHo dGr dPa dFt s.heap hP p1 x3_4 q2 hq2) (cwV 2 hts gX8_weightBits_X8_fits rfl rfl rfl (by decide +kernel) ⟨Nat.le_of_ble_eq_true rfl, Nat.le_of_ble_eq_true rfl⟩) (rPreV hK hP (ci := 3) (q0 := 6) rfl rfl) rfl rfl hl.1 rfl (lv_room (Nat.le_of_ble_eq_true rfl)) dX8_weightBits_13 ⟨Nat.zero_le _, Nat.zero_le _⟩) ?_
        refine lv_if_eq (tgt := 25) hx hb dX8_weightBits_16 (by decide) (fun c3 => ?_) (fun c3 => ?_)
        · have h := iT c3 h
          refine lv_iinc (v := (x3_4 + 1)) (lv' := [(3, .int (x3_4 + 1)), (2, .int x2_4), (0, .ref (a 5)), (1, .int p1)]) hx hb dX8_weightBits_25 hl (k := 0) rfl rfl (by decide) rfl (fun ls hl => ?_)
          refine lv_goto (tgt := 4) hx hb dX8_weightBits_28 (by decide) ?_
          exact ih _ _ _ _ h (lv_sub hl [0, 1, 2, 3] rfl) hk
        · have h := iF c3 h
          refine lv_iload_n hx hb dX8_weightBits_19 rfl (lv_at hl 1 rfl) ?_
          refine lv_iconst (v := 1) hx hb dX8_weightBits_20 (by decide) ?_
          refine lv_iload_n hx hb dX8_weightBits_21 rfl (lv_at hl 0 rfl) ?_
          refine lv_ishl hx hb dX8_weightBits_22 ?_
          refine lv_ior hx hb dX8_weightBits_23 ?_
          refine lv_istore_n (lv' := [(2, .int (x2_4 ||| (1 <<< (x3_4 &&& 31)))), (3, .int x3_4), (0, .ref (a 5)), (1, .int p1)]) hx hb dX8_weightBits_24 rfl hl (by decide) rfl (fun ls hl => ?_)
          refine lv_iinc (v := (x3_4 + 1)) (lv' := [(3, .int (x3_4 + 1)), (2, .int (x2_4 ||| (1 <<< (x3_4 &&& 31)))), (0, .ref (a 5)), (1, .int p1)]) hx hb dX8_weightBits_25 hl (k := 1) rfl rfl (by decide) rfl (fun ls hl => ?_)
          refine lv_goto (tgt := 4) hx hb dX8_weightBits_28 (by decide) ?_
          exact ih _ _ _ _ h (lv_sub hl [0, 1, 2, 3] rfl) hk
  refine L4 _ _ _ _ _ h hl (fun y3_4 y2_4 ls h hl => ?_)
  refine lv_iload_n hx hb dX8_weightBits_31 rfl (lv_at hl 1 rfl) ?_
  exact W.iret hx hb hr (fun t ht _ => ⟨_, rfl, Option.some.inj h, ht⟩) (fun _ q => absurd q List.not_mem_nil) dX8_weightBits_32

set_option maxHeartbeats 4000000 in
set_option maxRecDepth 100000 in
theorem c_xx_weights (l : Launch) (D : va_G) (cI cJ cZ : ClassId) (a : Nat → Nat) (g : Nat → Nat) (d : Nat → Nat) (xText : Nat → Int32) (xLetters : Int32) (xNow : Int64) (xKept : Nat → Int64) (xIsKept : Nat → Int32) (xChance : Int64) (xScenes : Nat → Int64) (xASize : Int32) (xSKinds : Nat → Int32) (xSLifts : Nat → Int32) (xSFlights : Nat → Int32) (xSSize : Int32) (xTally : Nat → Int32) (xOut : Nat → Int64) (fPk : Nat → Int32) (fWn : Nat → Int32) (fGw : Nat → Int32) (fGk : Nat → Int32) (fOw : Nat → Int32) (fSt : Nat → Int32) (fPe : Int32) (fHo : Int32) (fGr : Int32) (fPa : Int32) (fFt : Int32) (dPk : Nat → Int32) (dWn : Nat → Int32) (dGw : Nat → Int32) (dGk : Nat → Int32) (dOw : Nat → Int32) (dSt : Nat → Int32) (dPe : Int32) (dHo : Int32) (dGr : Int32) (dPa : Int32) (dFt : Int32)  (H0 : Heap) (hP : va_P D vwCl (xW a g d cI cJ cZ (g 0) (d 0) xText xLetters xNow xKept xIsKept xChance xScenes xASize xSKinds xSLifts xSFlights xSSize xTally xOut fPk fWn fGw fGk fOw fSt fPe fHo fGr fPa fFt dPk dWn dGw dGk dOw dSt dPe dHo dGr dPa dFt) H0) (p1 : Int32) (rv : Int32) (h : xx_weights xSKinds xSLifts xSFlights xSSize p1 = some rv) : Met l yX11_weights wsX11_weights ({ frames := 3, cells := 0, slots := 0, locals := 68 } : Room) (rPc D cI cJ cZ H0 [.ref (a 0), .int p1]) (vp_Si (fun r => r = rv)) 0 0 (fun _ => False) := by
  unfold xx_weights at h
  refine Met.ofW (cc := cX11_weights) (maxL := 2) (ret := (some .int)) (by decide) rfl ?_
  intro p e s m args below meth c s₁ B hml hv
  obtain ⟨rfl, hH, hK⟩ := hv
  have hx := B.exec
  have hb := B.bytes
  have hr := B.returns
  have hts := atoms_spec (ws := wsX11_weights) B.pre
  have hown : s.vm.findClass RX11 = some m.cls := findClass_of_methodNamed B.named
  have hlocks := B.notSynchronized
  subst hH
  have hl := lv_entry ([.ref (a 0), .int p1]) (n := 2) (Nat.le_of_ble_eq_true rfl)
  rw [lg_entry_eq]
  generalize (lg_sl ([.ref (a 0), .int p1]) ++ List.replicate (2 - (lg_sl ([.ref (a 0), .int p1])).length) Slot.unset).toArray = ls at hl ⊢
  have hl : lv_has ls 2 [(0, .ref (a 0)), (1, .int p1)] := hl
  have hiX11 : ∀ w ∈ u_ws RX11 TX11 11, w ∈ wsX11_weights := fun w hw => List.mem_cons_of_mem _ (List.mem_append_left _ (List.mem_append_right _ hw))
  refine lv_iload_n hx hb dX11_weights_0 rfl (lv_at hl 1 rfl) ?_
  refine lv_if_lt (tgt := 9) hx hb dX11_weights_1 (by decide) (fun c1 => ?_) (fun c1 => ?_)
  · have h := iT c1 h
    refine lv_bipush (v := (-2)) hx hb dX11_weights_9 (by decide) ?_
    exact W.iret hx hb hr (fun t ht _ => ⟨_, rfl, Option.some.inj h, ht⟩) (fun _ q => absurd q List.not_mem_nil) dX11_weights_11
  · have h := iF c1 h
    refine lv_iload_n hx hb dX11_weights_4 rfl (lv_at hl 1 rfl) ?_
    refine lv_iconst (v := 3) hx hb dX11_weights_5 (by decide) ?_
    refine lv_icmp_le (tgt := 12) hx hb dX11_weights_6 (by decide) (fun c2 => ?_) (fun c2 => ?_)
    · have h := iT c2 h
      refine lv_aload_n hx hb dX11_weights_12 rfl (lv_at hl 0 rfl) ?_
      refine va_get (D := D) (ci := 4) (v := .ref (a 5)) (C := RX11) (T := TX11) (N := 11) hx hb hts hiX11 hown hK.1 hP 0 rfl rfl 8 (by decide) (hts (.fieldLink RX11 49 "WinnowedGuilt" "seen" "LWinnowedGuilt$Seen;") (by decide +kernel)) (fun _ h9 => h9) rfl dX11_weights_13 ?_
      refine lv_iload_n hx hb dX11_weights_16 rfl (lv_at hl 1 rfl) ?_
      obtain ⟨q3, hq3, h⟩ := bS h
      refine rcI (va_runV (As := [.int p1]) (rest := []) ⟨hx, hb, hml, hown, hts⟩ (c_se_weightBits l D cI cJ cZ a g d xText xLetters xNow xKept xIsKept xChance xScenes xASize xSKinds xSLifts xSFlights xSSize xTally xOut fPk fWn fGw fGk fOw fSt fPe fHo fGr fPa fFt dPk dWn dGw dGk dOw dSt dPe dHo dGr dPa dFt s.heap hP p1 q3 hq3) (cwV 1 hts gX11_weights_X8_weightBits rfl rfl rfl (by decide +kernel) ⟨Nat.le_of_ble_eq_true rfl, Nat.le_of_ble_eq_true rfl⟩) (rPreV hK hP (ci := 3) (q0 := 6) rfl rfl) rfl rfl hl.1 rfl (lv_room (Nat.le_of_ble_eq_true rfl)) dX11_weights_17 ⟨Nat.zero_le _, Nat.zero_le _⟩) ?_
      exact W.iret hx hb hr (fun t ht _ => ⟨_, rfl, Option.some.inj h, ht⟩) (fun _ q => absurd q List.not_mem_nil) dX11_weights_20
    · have h := iF c2 h
      refine lv_bipush (v := (-2)) hx hb dX11_weights_9 (by decide) ?_
      exact W.iret hx hb hr (fun t ht _ => ⟨_, rfl, Option.some.inj h, ht⟩) (fun _ q => absurd q List.not_mem_nil) dX11_weights_11

set_option maxHeartbeats 4000000 in
set_option maxRecDepth 100000 in
theorem c_nu_factorial (l : Launch) (D : va_G) (cI cJ cZ : ClassId)  (H0 : Heap) (p0 : Int32) (rv : Int32) (h : nu_factorial p0 = some rv) : Met l yX6_factorial wsX6_factorial ({ frames := 0, cells := 0, slots := 0, locals := 0 } : Room) (rPc D cI cJ cZ H0 [.int p0]) (vp_Si (fun r => r = rv)) 0 0 (fun _ => False) := by
  unfold nu_factorial at h
  refine Met.ofW (cc := cX6_factorial) (maxL := 3) (ret := (some .int)) (by decide) rfl ?_
  intro p e s m args below meth c s₁ B hml hv
  obtain ⟨rfl, hH, hK⟩ := hv
  have hx := B.exec
  have hb := B.bytes
  have hr := B.returns
  have hts := atoms_spec (ws := wsX6_factorial) B.pre
  have hown : s.vm.findClass RX6 = some m.cls := findClass_of_methodNamed B.named
  have hlocks := B.notSynchronized
  subst hH
  have hl := lv_entry ([.int p0]) (n := 3) (Nat.le_of_ble_eq_true rfl)
  rw [lg_entry_eq]
  generalize (lg_sl ([.int p0]) ++ List.replicate (3 - (lg_sl ([.int p0])).length) Slot.unset).toArray = ls at hl ⊢
  have hl : lv_has ls 3 [(0, .int p0)] := hl
  refine lv_iconst (v := 1) hx hb dX6_factorial_0 (by decide) ?_
  refine lv_istore_n (lv' := [(1, .int 1), (0, .int p0)]) hx hb dX6_factorial_1 rfl hl (by decide) rfl (fun ls hl => ?_)
  refine lv_iconst (v := 2) hx hb dX6_factorial_2 (by decide) ?_
  refine lv_istore_n (lv' := [(2, .int 2), (1, .int 1), (0, .int p0)]) hx hb dX6_factorial_3 rfl hl (by decide) rfl (fun ls hl => ?_)
  have L4 : ∀ (n : Nat) (x2_4 : Int32) (x1_4 : Int32) (ls : Array Slot) (kx : Int32 → Int32 → Option (Int32)), nu_factorial_L4 p0 kx n x2_4 x1_4 = some rv → lv_has ls 3 [(2, .int x2_4), (1, .int x1_4), (0, .int p0)] → (∀ (y2_4 : Int32) (y1_4 : Int32) (ls : Array Slot), kx y2_4 y1_4 = some rv → lv_has ls 3 [(2, .int y2_4), (1, .int y1_4), (0, .int p0)] → W p l e (headSpec wsX6_factorial ({ frames := 0, cells := 0, slots := 0, locals := 0 } : Room)).room s m ([.int p0] : List Value).toArray below meth c s.heap [] 0 0 (MQ below (vp_Si (fun r => r = rv)) ([.int p0] : List Value).toArray s 0 0 (fun _ => False)) (F0 m 24 ls [])) → W p l e (headSpec wsX6_factorial ({ frames := 0, cells := 0, slots := 0, locals := 0 } : Room)).room s m ([.int p0] : List Value).toArray below meth c s.heap [] 0 0 (MQ below (vp_Si (fun r => r = rv)) ([.int p0] : List Value).toArray s 0 0 (fun _ => False)) (F0 m 4 ls []) := by
    intro n
    induction n with
    | zero => intro _ _ _ _ h; rw [nu_factorial_L4.eq_1] at h; cases h
    | succ n ih =>
      intro x2_4 x1_4 ls kx h hl hk
      rw [nu_factorial_L4.eq_2] at h
      refine lv_iload_n hx hb dX6_factorial_4 rfl (lv_at hl 0 rfl) ?_
      refine lv_iload_n hx hb dX6_factorial_5 rfl (lv_at hl 2 rfl) ?_
      refine lv_icmp_gt (tgt := 24) hx hb dX6_factorial_6 (by decide) (fun c1 => ?_) (fun c1 => ?_)
      · have h := iT c1 h
        exact hk _ _ _ h (lv_sub hl [0, 1, 2] rfl)
      · have h := iF c1 h
        refine lv_iload_n hx hb dX6_factorial_9 rfl (lv_at hl 0 rfl) ?_
        refine lv_iconst (v := 4) hx hb dX6_factorial_10 (by decide) ?_
        refine lv_icmp_gt (tgt := 24) hx hb dX6_factorial_11 (by decide) (fun c2 => ?_) (fun c2 => ?_)
        · have h := iT c2 h
          exact hk _ _ _ h (lv_sub hl [0, 1, 2] rfl)
        · have h := iF c2 h
          refine lv_iload_n hx hb dX6_factorial_14 rfl (lv_at hl 1 rfl) ?_
          refine lv_iload_n hx hb dX6_factorial_15 rfl (lv_at hl 0 rfl) ?_
          refine lv_imul hx hb dX6_factorial_16 ?_
          refine lv_istore_n (lv' := [(1, .int (x1_4 * x2_4)), (2, .int x2_4), (0, .int p0)]) hx hb dX6_factorial_17 rfl hl (by decide) rfl (fun ls hl => ?_)
          refine lv_iinc (v := (x2_4 + 1)) (lv' := [(2, .int (x2_4 + 1)), (1, .int (x1_4 * x2_4)), (0, .int p0)]) hx hb dX6_factorial_18 hl (k := 1) rfl rfl (by decide) rfl (fun ls hl => ?_)
          refine lv_goto (tgt := 4) hx hb dX6_factorial_21 (by decide) ?_
          exact ih _ _ _ _ h (lv_sub hl [0, 1, 2] rfl) hk
  refine L4 _ _ _ _ _ h hl (fun y2_4 y1_4 ls h hl => ?_)
  refine lv_iload_n hx hb dX6_factorial_24 rfl (lv_at hl 1 rfl) ?_
  exact W.iret hx hb hr (fun t ht _ => ⟨_, rfl, Option.some.inj h, ht⟩) (fun _ q => absurd q List.not_mem_nil) dX6_factorial_25

set_option maxHeartbeats 4000000 in
set_option maxRecDepth 100000 in
theorem c_sh_rightBehind (l : Launch) (D : va_G) (cI cJ cZ : ClassId) (g : Nat → Nat) (fPk : Nat → Int32) (fWn : Nat → Int32) (fGw : Nat → Int32) (fGk : Nat → Int32) (fOw : Nat → Int32) (fSt : Nat → Int32) (fPe : Int32) (fHo : Int32) (fGr : Int32) (fPa : Int32) (fFt : Int32)  (H0 : Heap) (hP : va_P D vwCl (fW g cI fPk fWn fGw fGk fOw fSt fPe fHo fGr fPa fFt) H0) (p1 : Int64) (p3 : Int32) (rv : Int32) (h : sh_rightBehind fPk fWn fGw fGk fOw fPe fHo fGr p1 p3 = some rv) : Met l yX9_rightBehind wsX9_rightBehind ({ frames := 4, cells := 0, slots := 0, locals := 99 } : Room) (rPc D cI cJ cZ H0 [.ref (g 0), .long p1, .int p3]) (vp_Si (fun r => r = rv)) 0 0 (fun _ => False) := by
  unfold sh_rightBehind at h
  refine Met.ofW (cc := cX9_rightBehind) (maxL := 7) (ret := (some .int)) (by decide) rfl ?_
  intro p e s m args below meth c s₁ B hml hv
  obtain ⟨rfl, hH, hK⟩ := hv
  have hx := B.exec
  have hb := B.bytes
  have hr := B.returns
  have hts := atoms_spec (ws := wsX9_rightBehind) B.pre
  have hown : s.vm.findClass RX9 = some m.cls := findClass_of_methodNamed B.named
  have hlocks := B.notSynchronized
  subst hH
  have hl := lv_entry ([.ref (g 0), .long p1, .int p3]) (n := 7) (Nat.le_of_ble_eq_true rfl)
  rw [lg_entry_eq]
  generalize (lg_sl ([.ref (g 0), .long p1, .int p3]) ++ List.replicate (7 - (lg_sl ([.ref (g 0), .long p1, .int p3])).length) Slot.unset).toArray = ls at hl ⊢
  have hl : lv_has ls 7 [(0, .ref (g 0)), (1, .long p1), (3, .int p3)] := hl
  have hiX3 : ∀ w ∈ u_ws RX3 TX3 11, w ∈ wsX9_rightBehind := fun w hw => List.mem_cons_of_mem _ (List.mem_append_right _ hw)
  refine lv_lload_n hx hb dX9_rightBehind_0 rfl (lv_at hl 1 rfl) ?_
  refine lv_lstore (lv' := [(4, .long p1), (0, .ref (g 0)), (1, .long p1), (3, .int p3)]) hx hb dX9_rightBehind_1 hl (by decide) rfl (fun ls hl => ?_)
  refine lv_iconst (v := 0) hx hb dX9_rightBehind_3 (by decide) ?_
  refine lv_istore (lv' := [(6, .int 0), (4, .long p1), (0, .ref (g 0)), (1, .long p1), (3, .int p3)]) hx hb dX9_rightBehind_4 hl (by decide) rfl (fun ls hl => ?_)
  have L6 : ∀ (n : Nat) (x6_6 : Int32) (x4_6 : Int64) (ls : Array Slot) (kx : Int32 → Int64 → Option (Int32)), sh_rightBehind_L6 fPk fWn fGw fGk fOw fPe fHo fGr p3 kx n x6_6 x4_6 = some rv → lv_has ls 7 [(6, .int x6_6), (4, .long x4_6), (0, .ref (g 0)), (1, .long p1), (3, .int p3)] → (∀ (y6_6 : Int32) (y4_6 : Int64) (ls : Array Slot), kx y6_6 y4_6 = some rv → lv_has ls 7 [(6, .int y6_6), (4, .long y4_6), (0, .ref (g 0)), (1, .long p1), (3, .int p3)] → W p l e (headSpec wsX9_rightBehind ({ frames := 4, cells := 0, slots := 0, locals := 99 } : Room)).room s m ([.ref (g 0), .long p1, .int p3] : List Value).toArray below meth c s.heap [] 0 0 (MQ below (vp_Si (fun r => r = rv)) ([.ref (g 0), .long p1, .int p3] : List Value).toArray s 0 0 (fun _ => False)) (F0 m 41 ls [])) → W p l e (headSpec wsX9_rightBehind ({ frames := 4, cells := 0, slots := 0, locals := 99 } : Room)).room s m ([.ref (g 0), .long p1, .int p3] : List Value).toArray below meth c s.heap [] 0 0 (MQ below (vp_Si (fun r => r = rv)) ([.ref (g 0), .long p1, .int p3] : List Value).toArray s 0 0 (fun _ => False)) (F0 m 6 ls []) := by
    intro n
    induction n with
    | zero => intro _ _ _ _ h; rw [sh_rightBehind_L6.eq_1] at h; cases h
    | succ n ih =>
      intro x6_6 x4_6 ls kx h hl hk
      rw [sh_rightBehind_L6.eq_2] at h
      refine lv_iload hx hb dX9_rightBehind_6 (lv_at hl 0 rfl) ?_
      refine lv_aload_n hx hb dX9_rightBehind_8 rfl (lv_at hl 2 rfl) ?_
      refine va_getN (D := D) (ci := 2) (v := .int fPe) (C := RX3) (T := TX3) (N := 11) hx hb hts hiX3 hown hK.1 hP 0 rfl rfl 6 (by decide) (va_Nw.use rfl (kN_1 hK.2)) (fun _ h9 => h9) rfl dX9_rightBehind_9 ?_
      refine lv_icmp_ge (tgt := 41) hx hb dX9_rightBehind_12 (by decide) (fun c1 => ?_) (fun c1 => ?_)
      · have h := iT c1 h
        exact hk _ _ _ h (lv_sub hl [0, 1, 2, 3, 4] rfl)
      · have h := iF c1 h
        refine lv_iload_n hx hb dX9_rightBehind_15 rfl (lv_at hl 4 rfl) ?_
        refine lv_iload hx hb dX9_rightBehind_16 (lv_at hl 0 rfl) ?_
        refine lv_ishr hx hb dX9_rightBehind_18 ?_
        refine lv_iconst (v := 1) hx hb dX9_rightBehind_19 (by decide) ?_
        refine lv_iand hx hb dX9_rightBehind_20 ?_
        refine lv_iconst (v := 1) hx hb dX9_rightBehind_21 (by decide) ?_
        refine lv_icmp_ne (tgt := 35) hx hb dX9_rightBehind_22 (by decide) (fun c2 => ?_) (fun c2 => ?_)
        · have h := iF c2 h
          refine lv_iinc (v := (x6_6 + 1)) (lv' := [(6, .int (x6_6 + 1)), (4, .long x4_6), (0, .ref (g 0)), (1, .long p1), (3, .int p3)]) hx hb dX9_rightBehind_35 hl (k := 0) rfl rfl (by decide) rfl (fun ls hl => ?_)
          refine lv_goto (tgt := 6) hx hb dX9_rightBehind_38 (by decide) ?_
          exact ih _ _ _ _ h (lv_sub hl [0, 1, 2, 3, 4] rfl) hk
        · have h := iT c2 h
          refine lv_aload_n hx hb dX9_rightBehind_25 rfl (lv_at hl 2 rfl) ?_
          refine lv_lload hx hb dX9_rightBehind_26 (lv_at hl 1 rfl) ?_
          refine lv_iload hx hb dX9_rightBehind_28 (lv_at hl 0 rfl) ?_
          obtain ⟨q3, hq3, h⟩ := bS h
          refine rcL (va_runV (As := [.long x4_6, .int x6_6]) (rest := []) ⟨hx, hb, hml, hown, hts⟩ (c_fl_tossed l D cI cJ cZ g fPk fWn fGw fGk fOw fSt fPe fHo fGr fPa fFt s.heap hP x4_6 x6_6 q3 hq3) (cwV 2 hts gX9_rightBehind_X3_tossed rfl rfl rfl (by decide +kernel) ⟨Nat.le_of_ble_eq_true rfl, Nat.le_of_ble_eq_true rfl⟩) (rPreV hK hP (ci := 2) (q0 := 0) rfl rfl) rfl rfl hl.1 rfl (lv_room (Nat.le_of_ble_eq_true rfl)) dX9_rightBehind_30 ⟨Nat.zero_le _, Nat.zero_le _⟩) ?_
          refine lv_lstore (lv' := [(4, .long q3), (6, .int x6_6), (0, .ref (g 0)), (1, .long p1), (3, .int p3)]) hx hb dX9_rightBehind_33 hl (by decide) rfl (fun ls hl => ?_)
          refine lv_iinc (v := (x6_6 + 1)) (lv' := [(6, .int (x6_6 + 1)), (4, .long q3), (0, .ref (g 0)), (1, .long p1), (3, .int p3)]) hx hb dX9_rightBehind_35 hl (k := 1) rfl rfl (by decide) rfl (fun ls hl => ?_)
          refine lv_goto (tgt := 6) hx hb dX9_rightBehind_38 (by decide) ?_
          exact ih _ _ _ _ h (lv_sub hl [0, 1, 2, 3, 4] rfl) hk
  refine L6 _ _ _ _ _ h hl (fun y6_6 y4_6 ls h hl => ?_)
  refine lv_aload_n hx hb dX9_rightBehind_41 rfl (lv_at hl 2 rfl) ?_
  refine lv_lload hx hb dX9_rightBehind_42 (lv_at hl 1 rfl) ?_
  obtain ⟨q1, hq1, h⟩ := bS h
  refine rcI (va_runV (As := [.long y4_6]) (rest := []) ⟨hx, hb, hml, hown, hts⟩ (c_fl_rightBits l D cI cJ cZ g fPk fWn fGw fGk fOw fSt fPe fHo fGr fPa fFt s.heap hP y4_6 q1 hq1) (cwV 1 hts gX9_rightBehind_X3_rightBits rfl rfl rfl (by decide +kernel) ⟨Nat.le_of_ble_eq_true rfl, Nat.le_of_ble_eq_true rfl⟩) (rPreV hK hP (ci := 2) (q0 := 0) rfl rfl) rfl rfl hl.1 rfl (lv_room (Nat.le_of_ble_eq_true rfl)) dX9_rightBehind_44 ⟨Nat.zero_le _, Nat.zero_le _⟩) ?_
  obtain ⟨q2, hq2, h⟩ := bS h
  refine rcI (va_runS (As := [.int q1]) (rest := []) ⟨hx, hb, hml, hown, hts⟩ (c_ji_bitCount l D cI cJ cZ   s.heap q1 q2 hq2) (va_cwS 1 hts gX9_rightBehind_J6_bitCount_0f7a4 rfl rfl rfl (by decide +kernel) ⟨Nat.le_of_ble_eq_true rfl, Nat.le_of_ble_eq_true rfl⟩) (rPreS hK) rfl rfl hl.1 rfl (lv_room (Nat.le_of_ble_eq_true rfl)) dX9_rightBehind_47 ⟨Nat.zero_le _, Nat.zero_le _⟩) ?_
  exact W.iret hx hb hr (fun t ht _ => ⟨_, rfl, Option.some.inj h, ht⟩) (fun _ q => absurd q List.not_mem_nil) dX9_rightBehind_50

set_option maxHeartbeats 4000000 in
set_option maxRecDepth 100000 in
theorem c_sh_gainInAllOrders (l : Launch) (D : va_G) (cI cJ cZ : ClassId) (g : Nat → Nat) (fPk : Nat → Int32) (fWn : Nat → Int32) (fGw : Nat → Int32) (fGk : Nat → Int32) (fOw : Nat → Int32) (fSt : Nat → Int32) (fPe : Int32) (fHo : Int32) (fGr : Int32) (fPa : Int32) (fFt : Int32)  (H0 : Heap) (hP : va_P D vwCl (fW g cI fPk fWn fGw fGk fOw fSt fPe fHo fGr fPa fFt) H0) (p1 : Int64) (p3 : Int32) (rv : Int32) (h : sh_gainInAllOrders fPk fWn fGw fGk fOw fPe fHo fGr p1 p3 = some rv) : Met l yX9_gainInAllOrders wsX9_gainInAllOrders ({ frames := 5, cells := 0, slots := 0, locals := 125 } : Room) (rPc D cI cJ cZ H0 [.ref (g 0), .long p1, .int p3]) (vp_Si (fun r => r = rv)) 0 0 (fun _ => False) := by
  unfold sh_gainInAllOrders at h
  refine Met.ofW (cc := cX9_gainInAllOrders) (maxL := 9) (ret := (some .int)) (by decide) rfl ?_
  intro p e s m args below meth c s₁ B hml hv
  obtain ⟨rfl, hH, hK⟩ := hv
  have hx := B.exec
  have hb := B.bytes
  have hr := B.returns
  have hts := atoms_spec (ws := wsX9_gainInAllOrders) B.pre
  have hown : s.vm.findClass RX9 = some m.cls := findClass_of_methodNamed B.named
  have hlocks := B.notSynchronized
  subst hH
  have hl := lv_entry ([.ref (g 0), .long p1, .int p3]) (n := 9) (Nat.le_of_ble_eq_true rfl)
  rw [lg_entry_eq]
  generalize (lg_sl ([.ref (g 0), .long p1, .int p3]) ++ List.replicate (9 - (lg_sl ([.ref (g 0), .long p1, .int p3])).length) Slot.unset).toArray = ls at hl ⊢
  have hl : lv_has ls 9 [(0, .ref (g 0)), (1, .long p1), (3, .int p3)] := hl
  have hiX3 : ∀ w ∈ u_ws RX3 TX3 11, w ∈ wsX9_gainInAllOrders := fun w hw => List.mem_cons_of_mem _ (List.mem_append_right _ hw)
  refine lv_iconst (v := 1) hx hb dX9_gainInAllOrders_0 (by decide) ?_
  refine lv_iload_n hx hb dX9_gainInAllOrders_1 rfl (lv_at hl 2 rfl) ?_
  refine lv_ishl hx hb dX9_gainInAllOrders_2 ?_
  refine lv_istore (lv' := [(4, .int (1 <<< (p3 &&& 31))), (0, .ref (g 0)), (1, .long p1), (3, .int p3)]) hx hb dX9_gainInAllOrders_3 hl (by decide) rfl (fun ls hl => ?_)
  refine lv_iconst (v := 0) hx hb dX9_gainInAllOrders_5 (by decide) ?_
  refine lv_istore (lv' := [(5, .int 0), (4, .int (1 <<< (p3 &&& 31))), (0, .ref (g 0)), (1, .long p1), (3, .int p3)]) hx hb dX9_gainInAllOrders_6 hl (by decide) rfl (fun ls hl => ?_)
  refine lv_iconst (v := 0) hx hb dX9_gainInAllOrders_8 (by decide) ?_
  refine lv_istore (lv' := [(6, .int 0), (5, .int 0), (4, .int (1 <<< (p3 &&& 31))), (0, .ref (g 0)), (1, .long p1), (3, .int p3)]) hx hb dX9_gainInAllOrders_9 hl (by decide) rfl (fun ls hl => ?_)
  have L11 : ∀ (n : Nat) (x6_11 : Int32) (x5_11 : Int32) (ls : Array Slot) (kx : Int32 → Int32 → Option (Int32)), sh_gainInAllOrders_L11 fPk fWn fGw fGk fOw fPe fHo fGr p1 (1 <<< (p3 &&& 31)) kx n x6_11 x5_11 = some rv → lv_has ls 9 [(6, .int x6_11), (5, .int x5_11), (4, .int (1 <<< (p3 &&& 31))), (0, .ref (g 0)), (1, .long p1), (3, .int p3)] → (∀ (y6_11 : Int32) (y5_11 : Int32) (ls : Array Slot), kx y6_11 y5_11 = some rv → lv_has ls 9 [(6, .int y6_11), (5, .int y5_11), (4, .int (1 <<< (p3 &&& 31))), (0, .ref (g 0)), (1, .long p1), (3, .int p3)] → W p l e (headSpec wsX9_gainInAllOrders ({ frames := 5, cells := 0, slots := 0, locals := 125 } : Room)).room s m ([.ref (g 0), .long p1, .int p3] : List Value).toArray below meth c s.heap [] 0 0 (MQ below (vp_Si (fun r => r = rv)) ([.ref (g 0), .long p1, .int p3] : List Value).toArray s 0 0 (fun _ => False)) (F0 m 89 ls [])) → W p l e (headSpec wsX9_gainInAllOrders ({ frames := 5, cells := 0, slots := 0, locals := 125 } : Room)).room s m ([.ref (g 0), .long p1, .int p3] : List Value).toArray below meth c s.heap [] 0 0 (MQ below (vp_Si (fun r => r = rv)) ([.ref (g 0), .long p1, .int p3] : List Value).toArray s 0 0 (fun _ => False)) (F0 m 11 ls []) := by
    intro n
    induction n with
    | zero => intro _ _ _ _ h; rw [sh_gainInAllOrders_L11.eq_1] at h; cases h
    | succ n ih =>
      intro x6_11 x5_11 ls kx h hl hk
      rw [sh_gainInAllOrders_L11.eq_2] at h
      refine lv_iload hx hb dX9_gainInAllOrders_11 (lv_at hl 0 rfl) ?_
      refine lv_iconst (v := 1) hx hb dX9_gainInAllOrders_13 (by decide) ?_
      refine lv_aload_n hx hb dX9_gainInAllOrders_14 rfl (lv_at hl 3 rfl) ?_
      refine va_getN (D := D) (ci := 2) (v := .int fPe) (C := RX3) (T := TX3) (N := 11) hx hb hts hiX3 hown hK.1 hP 0 rfl rfl 6 (by decide) (va_Nw.use rfl (kN_1 hK.2)) (fun _ h9 => h9) rfl dX9_gainInAllOrders_15 ?_
      refine lv_ishl hx hb dX9_gainInAllOrders_18 ?_
      refine lv_icmp_ge (tgt := 89) hx hb dX9_gainInAllOrders_19 (by decide) (fun c1 => ?_) (fun c1 => ?_)
      · have h := iT c1 h
        exact hk _ _ _ h (lv_sub hl [0, 1, 2, 3, 4, 5] rfl)
      · have h := iF c1 h
        refine lv_iload hx hb dX9_gainInAllOrders_22 (lv_at hl 0 rfl) ?_
        refine lv_iload hx hb dX9_gainInAllOrders_24 (lv_at hl 2 rfl) ?_
        refine lv_iand hx hb dX9_gainInAllOrders_26 ?_
        refine lv_if_ne (tgt := 83) hx hb dX9_gainInAllOrders_27 (by decide) (fun c2 => ?_) (fun c2 => ?_)
        · have h := iF c2 h
          refine lv_iinc (v := (x6_11 + 1)) (lv' := [(6, .int (x6_11 + 1)), (5, .int x5_11), (4, .int (1 <<< (p3 &&& 31))), (0, .ref (g 0)), (1, .long p1), (3, .int p3)]) hx hb dX9_gainInAllOrders_83 hl (k := 0) rfl rfl (by decide) rfl (fun ls hl => ?_)
          refine lv_goto (tgt := 11) hx hb dX9_gainInAllOrders_86 (by decide) ?_
          exact ih _ _ _ _ h (lv_sub hl [0, 1, 2, 3, 4, 5] rfl) hk
        · have h := iT c2 h
          refine lv_iload hx hb dX9_gainInAllOrders_30 (lv_at hl 0 rfl) ?_
          obtain ⟨q3, hq3, h⟩ := bS h
          refine rcI (va_runS (As := [.int x6_11]) (rest := []) ⟨hx, hb, hml, hown, hts⟩ (c_ji_bitCount l D cI cJ cZ   s.heap x6_11 q3 hq3) (va_cwS 1 hts gX9_gainInAllOrders_J6_bitCount_0f7a4 rfl rfl rfl (by decide +kernel) ⟨Nat.le_of_ble_eq_true rfl, Nat.le_of_ble_eq_true rfl⟩) (rPreS hK) rfl rfl hl.1 rfl (lv_room (Nat.le_of_ble_eq_true rfl)) dX9_gainInAllOrders_32 ⟨Nat.zero_le _, Nat.zero_le _⟩) ?_
          refine lv_istore (lv' := [(7, .int q3), (6, .int x6_11), (5, .int x5_11), (4, .int (1 <<< (p3 &&& 31))), (0, .ref (g 0)), (1, .long p1), (3, .int p3)]) hx hb dX9_gainInAllOrders_35 hl (by decide) rfl (fun ls hl => ?_)
          refine lv_iload hx hb dX9_gainInAllOrders_37 (lv_at hl 0 rfl) ?_
          obtain ⟨q4, hq4, h⟩ := bS h
          refine rcI (va_runS (As := [.int q3]) (rest := []) ⟨hx, hb, hml, hown, hts⟩ (c_nu_factorial l D cI cJ cZ   s.heap q3 q4 hq4) (va_cwS 1 hts gX9_gainInAllOrders_X6_factorial rfl rfl rfl (by decide +kernel) ⟨Nat.le_of_ble_eq_true rfl, Nat.le_of_ble_eq_true rfl⟩) (rPreS hK) rfl rfl hl.1 rfl (lv_room (Nat.le_of_ble_eq_true rfl)) dX9_gainInAllOrders_39 ⟨Nat.zero_le _, Nat.zero_le _⟩) ?_
          refine lv_aload_n hx hb dX9_gainInAllOrders_42 rfl (lv_at hl 4 rfl) ?_
          refine va_getN (D := D) (ci := 2) (v := .int fPe) (C := RX3) (T := TX3) (N := 11) hx hb hts hiX3 hown hK.1 hP 0 rfl rfl 6 (by decide) (va_Nw.use rfl (kN_1 hK.2)) (fun _ h9 => h9) rfl dX9_gainInAllOrders_43 ?_
          refine lv_iconst (v := 1) hx hb dX9_gainInAllOrders_46 (by decide) ?_
          refine lv_isub hx hb dX9_gainInAllOrders_47 ?_
          refine lv_iload hx hb dX9_gainInAllOrders_48 (lv_at hl 0 rfl) ?_
          refine lv_isub hx hb dX9_gainInAllOrders_50 ?_
          obtain ⟨q5, hq5, h⟩ := bS h
          refine rcI (va_runS (As := [.int ((fPe - 1) - q3)]) (rest := [.int q4]) ⟨hx, hb, hml, hown, hts⟩ (c_nu_factorial l D cI cJ cZ   s.heap ((fPe - 1) - q3) q5 hq5) (va_cwS 1 hts gX9_gainInAllOrders_X6_factorial rfl rfl rfl (by decide +kernel) ⟨Nat.le_of_ble_eq_true rfl, Nat.le_of_ble_eq_true rfl⟩) (rPreS hK) rfl rfl hl.1 rfl (lv_room (Nat.le_of_ble_eq_true rfl)) dX9_gainInAllOrders_51 ⟨Nat.zero_le _, Nat.zero_le _⟩) ?_
          refine lv_imul hx hb dX9_gainInAllOrders_54 ?_
          refine lv_istore (lv' := [(8, .int (q4 * q5)), (7, .int q3), (6, .int x6_11), (5, .int x5_11), (4, .int (1 <<< (p3 &&& 31))), (0, .ref (g 0)), (1, .long p1), (3, .int p3)]) hx hb dX9_gainInAllOrders_55 hl (by decide) rfl (fun ls hl => ?_)
          refine lv_iload hx hb dX9_gainInAllOrders_57 (lv_at hl 3 rfl) ?_
          refine lv_iload hx hb dX9_gainInAllOrders_59 (lv_at hl 0 rfl) ?_
          refine lv_aload_n hx hb dX9_gainInAllOrders_61 rfl (lv_at hl 5 rfl) ?_
          refine lv_lload_n hx hb dX9_gainInAllOrders_62 rfl (lv_at hl 6 rfl) ?_
          refine lv_iload hx hb dX9_gainInAllOrders_63 (lv_at hl 2 rfl) ?_
          refine lv_iload hx hb dX9_gainInAllOrders_65 (lv_at hl 4 rfl) ?_
          refine lv_ior hx hb dX9_gainInAllOrders_67 ?_
          obtain ⟨q6, hq6, h⟩ := bS h
          refine rcI (va_runS (As := [.ref (g 0), .long p1, .int (x6_11 ||| (1 <<< (p3 &&& 31)))]) (rest := [.int (q4 * q5), .int x5_11]) ⟨hx, hb, hml, hown, hts⟩ (c_sh_rightBehind l D cI cJ cZ g fPk fWn fGw fGk fOw fSt fPe fHo fGr fPa fFt s.heap hP p1 (x6_11 ||| (1 <<< (p3 &&& 31))) q6 hq6) (va_cwS 3 hts gX9_gainInAllOrders_X9_rightBehind rfl rfl rfl (by decide +kernel) ⟨Nat.le_of_ble_eq_true rfl, Nat.le_of_ble_eq_true rfl⟩) (rPreS hK) rfl rfl hl.1 rfl (lv_room (Nat.le_of_ble_eq_true rfl)) dX9_gainInAllOrders_68 ⟨Nat.zero_le _, Nat.zero_le _⟩) ?_
          refine lv_aload_n hx hb dX9_gainInAllOrders_71 rfl (lv_at hl 5 rfl) ?_
          refine lv_lload_n hx hb dX9_gainInAllOrders_72 rfl (lv_at hl 6 rfl) ?_
          refine lv_iload hx hb dX9_gainInAllOrders_73 (lv_at hl 2 rfl) ?_
          obtain ⟨q7, hq7, h⟩ := bS h
          refine rcI (va_runS (As := [.ref (g 0), .long p1, .int x6_11]) (rest := [.int q6, .int (q4 * q5), .int x5_11]) ⟨hx, hb, hml, hown, hts⟩ (c_sh_rightBehind l D cI cJ cZ g fPk fWn fGw fGk fOw fSt fPe fHo fGr fPa fFt s.heap hP p1 x6_11 q7 hq7) (va_cwS 3 hts gX9_gainInAllOrders_X9_rightBehind rfl rfl rfl (by decide +kernel) ⟨Nat.le_of_ble_eq_true rfl, Nat.le_of_ble_eq_true rfl⟩) (rPreS hK) rfl rfl hl.1 rfl (lv_room (Nat.le_of_ble_eq_true rfl)) dX9_gainInAllOrders_75 ⟨Nat.zero_le _, Nat.zero_le _⟩) ?_
          refine lv_isub hx hb dX9_gainInAllOrders_78 ?_
          refine lv_imul hx hb dX9_gainInAllOrders_79 ?_
          refine lv_iadd hx hb dX9_gainInAllOrders_80 ?_
          refine lv_istore (lv' := [(5, .int (x5_11 + ((q4 * q5) * (q6 - q7)))), (8, .int (q4 * q5)), (7, .int q3), (6, .int x6_11), (4, .int (1 <<< (p3 &&& 31))), (0, .ref (g 0)), (1, .long p1), (3, .int p3)]) hx hb dX9_gainInAllOrders_81 hl (by decide) rfl (fun ls hl => ?_)
          refine lv_iinc (v := (x6_11 + 1)) (lv' := [(6, .int (x6_11 + 1)), (5, .int (x5_11 + ((q4 * q5) * (q6 - q7)))), (8, .int (q4 * q5)), (7, .int q3), (4, .int (1 <<< (p3 &&& 31))), (0, .ref (g 0)), (1, .long p1), (3, .int p3)]) hx hb dX9_gainInAllOrders_83 hl (k := 3) rfl rfl (by decide) rfl (fun ls hl => ?_)
          refine lv_goto (tgt := 11) hx hb dX9_gainInAllOrders_86 (by decide) ?_
          exact ih _ _ _ _ h (lv_sub hl [0, 1, 4, 5, 6, 7] rfl) hk
  refine L11 _ _ _ _ _ h hl (fun y6_11 y5_11 ls h hl => ?_)
  refine lv_iload hx hb dX9_gainInAllOrders_89 (lv_at hl 1 rfl) ?_
  exact W.iret hx hb hr (fun t ht _ => ⟨_, rfl, Option.some.inj h, ht⟩) (fun _ q => absurd q List.not_mem_nil) dX9_gainInAllOrders_91

set_option maxHeartbeats 4000000 in
set_option maxRecDepth 100000 in
theorem c_nu_commonDivisor (l : Launch) (D : va_G) (cI cJ cZ : ClassId)  (H0 : Heap) (p0 : Int32) (p1 : Int32) (rv : Int32) (h : nu_commonDivisor p0 p1 = some rv) : Met l yX6_commonDivisor wsX6_commonDivisor ({ frames := 0, cells := 0, slots := 0, locals := 0 } : Room) (rPc D cI cJ cZ H0 [.int p0, .int p1]) (vp_Si (fun r => r = rv)) 0 0 (fun _ => False) := by
  unfold nu_commonDivisor at h
  refine Met.ofW (cc := cX6_commonDivisor) (maxL := 6) (ret := (some .int)) (by decide) rfl ?_
  intro p e s m args below meth c s₁ B hml hv
  obtain ⟨rfl, hH, hK⟩ := hv
  have hx := B.exec
  have hb := B.bytes
  have hr := B.returns
  have hts := atoms_spec (ws := wsX6_commonDivisor) B.pre
  have hown : s.vm.findClass RX6 = some m.cls := findClass_of_methodNamed B.named
  have hlocks := B.notSynchronized
  subst hH
  have hl := lv_entry ([.int p0, .int p1]) (n := 6) (Nat.le_of_ble_eq_true rfl)
  rw [lg_entry_eq]
  generalize (lg_sl ([.int p0, .int p1]) ++ List.replicate (6 - (lg_sl ([.int p0, .int p1])).length) Slot.unset).toArray = ls at hl ⊢
  have hl : lv_has ls 6 [(0, .int p0), (1, .int p1)] := hl
  refine lv_iload_n hx hb dX6_commonDivisor_0 rfl (lv_at hl 0 rfl) ?_
  refine lv_istore_n (lv' := [(2, .int p0), (0, .int p0), (1, .int p1)]) hx hb dX6_commonDivisor_1 rfl hl (by decide) rfl (fun ls hl => ?_)
  refine lv_iload_n hx hb dX6_commonDivisor_2 rfl (lv_at hl 2 rfl) ?_
  refine lv_istore_n (lv' := [(3, .int p1), (2, .int p0), (0, .int p0), (1, .int p1)]) hx hb dX6_commonDivisor_3 rfl hl (by decide) rfl (fun ls hl => ?_)
  refine lv_iconst (v := 0) hx hb dX6_commonDivisor_4 (by decide) ?_
  refine lv_istore (lv' := [(4, .int 0), (3, .int p1), (2, .int p0), (0, .int p0), (1, .int p1)]) hx hb dX6_commonDivisor_5 hl (by decide) rfl (fun ls hl => ?_)
  have L7 : ∀ (n : Nat) (x4_7 : Int32) (x3_7 : Int32) (x2_7 : Int32) (ls : Array Slot) (kx : Int32 → Int32 → Int32 → Option (Int32)), nu_commonDivisor_L7  kx n x4_7 x3_7 x2_7 = some rv → lv_has ls 6 [(4, .int x4_7), (3, .int x3_7), (2, .int x2_7), (0, .int p0), (1, .int p1)] → (∀ (y4_7 : Int32) (y3_7 : Int32) (y2_7 : Int32) (ls : Array Slot), kx y4_7 y3_7 y2_7 = some rv → lv_has ls 6 [(4, .int y4_7), (3, .int y3_7), (2, .int y2_7), (0, .int p0), (1, .int p1)] → W p l e (headSpec wsX6_commonDivisor ({ frames := 0, cells := 0, slots := 0, locals := 0 } : Room)).room s m ([.int p0, .int p1] : List Value).toArray below meth c s.heap [] 0 0 (MQ below (vp_Si (fun r => r = rv)) ([.int p0, .int p1] : List Value).toArray s 0 0 (fun _ => False)) (F0 m 34 ls [])) → W p l e (headSpec wsX6_commonDivisor ({ frames := 0, cells := 0, slots := 0, locals := 0 } : Room)).room s m ([.int p0, .int p1] : List Value).toArray below meth c s.heap [] 0 0 (MQ below (vp_Si (fun r => r = rv)) ([.int p0, .int p1] : List Value).toArray s 0 0 (fun _ => False)) (F0 m 7 ls []) := by
    intro n
    induction n with
    | zero => intro _ _ _ _ _ h; rw [nu_commonDivisor_L7.eq_1] at h; cases h
    | succ n ih =>
      intro x4_7 x3_7 x2_7 ls kx h hl hk
      rw [nu_commonDivisor_L7.eq_2] at h
      refine lv_iload hx hb dX6_commonDivisor_7 (lv_at hl 0 rfl) ?_
      refine lv_bipush (v := 64) hx hb dX6_commonDivisor_9 (by decide) ?_
      refine lv_icmp_ge (tgt := 34) hx hb dX6_commonDivisor_11 (by decide) (fun c1 => ?_) (fun c1 => ?_)
      · have h := iT c1 h
        exact hk _ _ _ _ h (lv_sub hl [0, 1, 2, 3, 4] rfl)
      · have h := iF c1 h
        refine lv_iload_n hx hb dX6_commonDivisor_14 rfl (lv_at hl 1 rfl) ?_
        refine lv_if_eq (tgt := 34) hx hb dX6_commonDivisor_15 (by decide) (fun c2 => ?_) (fun c2 => ?_)
        · have h := iT c2 h
          exact hk _ _ _ _ h (lv_sub hl [0, 1, 2, 3, 4] rfl)
        · have h := iF c2 h
          refine lv_iload_n hx hb dX6_commonDivisor_18 rfl (lv_at hl 2 rfl) ?_
          refine lv_iload_n hx hb dX6_commonDivisor_19 rfl (lv_at hl 1 rfl) ?_
          obtain ⟨hd3, h⟩ := gD_some h
          refine lv_irem hx hb dX6_commonDivisor_20 hd3 ?_
          refine lv_istore (lv' := [(5, .int (x2_7 - x2_7 / x3_7 * x3_7)), (4, .int x4_7), (3, .int x3_7), (2, .int x2_7), (0, .int p0), (1, .int p1)]) hx hb dX6_commonDivisor_21 hl (by decide) rfl (fun ls hl => ?_)
          refine lv_iload_n hx hb dX6_commonDivisor_23 rfl (lv_at hl 2 rfl) ?_
          refine lv_istore_n (lv' := [(2, .int x3_7), (5, .int (x2_7 - x2_7 / x3_7 * x3_7)), (4, .int x4_7), (3, .int x3_7), (0, .int p0), (1, .int p1)]) hx hb dX6_commonDivisor_24 rfl hl (by decide) rfl (fun ls hl => ?_)
          refine lv_iload hx hb dX6_commonDivisor_25 (lv_at hl 1 rfl) ?_
          refine lv_istore_n (lv' := [(3, .int (x2_7 - x2_7 / x3_7 * x3_7)), (2, .int x3_7), (5, .int (x2_7 - x2_7 / x3_7 * x3_7)), (4, .int x4_7), (0, .int p0), (1, .int p1)]) hx hb dX6_commonDivisor_27 rfl hl (by decide) rfl (fun ls hl => ?_)
          refine lv_iinc (v := (x4_7 + 1)) (lv' := [(4, .int (x4_7 + 1)), (3, .int (x2_7 - x2_7 / x3_7 * x3_7)), (2, .int x3_7), (5, .int (x2_7 - x2_7 / x3_7 * x3_7)), (0, .int p0), (1, .int p1)]) hx hb dX6_commonDivisor_28 hl (k := 3) rfl rfl (by decide) rfl (fun ls hl => ?_)
          refine lv_goto (tgt := 7) hx hb dX6_commonDivisor_31 (by decide) ?_
          exact ih _ _ _ _ _ h (lv_sub hl [0, 1, 2, 4, 5] rfl) hk
  refine L7 _ _ _ _ _ _ h hl (fun y4_7 y3_7 y2_7 ls h hl => ?_)
  refine lv_iload_n hx hb dX6_commonDivisor_34 rfl (lv_at hl 2 rfl) ?_
  exact W.iret hx hb hr (fun t ht _ => ⟨_, rfl, Option.some.inj h, ht⟩) (fun _ q => absurd q List.not_mem_nil) dX6_commonDivisor_35

set_option maxHeartbeats 4000000 in
set_option maxRecDepth 100000 in
theorem c_nu_leastTerms (l : Launch) (D : va_G) (cI cJ cZ : ClassId)  (H0 : Heap) (p0 : Int32) (p1 : Int32) (p2 : Int32) (rv : Int32) (h : nu_leastTerms p0 p1 p2 = some rv) : Met l yX6_leastTerms wsX6_leastTerms ({ frames := 1, cells := 0, slots := 0, locals := 25 } : Room) (rPc D cI cJ cZ H0 [.int p0, .int p1, .int p2]) (vp_Si (fun r => r = rv)) 0 0 (fun _ => False) := by
  unfold nu_leastTerms at h
  refine Met.ofW (cc := cX6_leastTerms) (maxL := 4) (ret := (some .int)) (by decide) rfl ?_
  intro p e s m args below meth c s₁ B hml hv
  obtain ⟨rfl, hH, hK⟩ := hv
  have hx := B.exec
  have hb := B.bytes
  have hr := B.returns
  have hts := atoms_spec (ws := wsX6_leastTerms) B.pre
  have hown : s.vm.findClass RX6 = some m.cls := findClass_of_methodNamed B.named
  have hlocks := B.notSynchronized
  subst hH
  have hl := lv_entry ([.int p0, .int p1, .int p2]) (n := 4) (Nat.le_of_ble_eq_true rfl)
  rw [lg_entry_eq]
  generalize (lg_sl ([.int p0, .int p1, .int p2]) ++ List.replicate (4 - (lg_sl ([.int p0, .int p1, .int p2])).length) Slot.unset).toArray = ls at hl ⊢
  have hl : lv_has ls 4 [(0, .int p0), (1, .int p1), (2, .int p2)] := hl
  refine lv_iconst (v := 1) hx hb dX6_leastTerms_0 (by decide) ?_
  refine lv_iload_n hx hb dX6_leastTerms_1 rfl (lv_at hl 0 rfl) ?_
  refine va_mabs hx hb (hml.trans hl.1.symm) hown (hts (.methodLink RX6 9 Lib.Math.abs.name) (by decide +kernel)) (hts (.static Lib.Math.abs.name) (by decide +kernel)) (hts (.initialized "java/lang/Math") (by decide +kernel)) (hts (.code Lib.Math.abs.name Lib.Math.abs.code 1 (some .int)) (by decide +kernel)) (Nat.le_of_ble_eq_true rfl) (Nat.le_of_ble_eq_true rfl) (Nat.zero_le _) (Nat.zero_le _) dX6_leastTerms_2 ?_
  refine lv_iload_n hx hb dX6_leastTerms_5 rfl (lv_at hl 1 rfl) ?_
  refine va_mabs hx hb (hml.trans hl.1.symm) hown (hts (.methodLink RX6 9 Lib.Math.abs.name) (by decide +kernel)) (hts (.static Lib.Math.abs.name) (by decide +kernel)) (hts (.initialized "java/lang/Math") (by decide +kernel)) (hts (.code Lib.Math.abs.name Lib.Math.abs.code 1 (some .int)) (by decide +kernel)) (Nat.le_of_ble_eq_true rfl) (Nat.le_of_ble_eq_true rfl) (Nat.zero_le _) (Nat.zero_le _) dX6_leastTerms_6 ?_
  obtain ⟨q1, hq1, h⟩ := bS h
  refine rcI (va_runS (As := [.int (if 0 ≤ p0 then p0 else 0 - p0), .int (if 0 ≤ p1 then p1 else 0 - p1)]) (rest := [.int 1]) ⟨hx, hb, hml, hown, hts⟩ (c_nu_commonDivisor l D cI cJ cZ   s.heap (if 0 ≤ p0 then p0 else 0 - p0) (if 0 ≤ p1 then p1 else 0 - p1) q1 hq1) (va_cwS 2 hts gX6_leastTerms_X6_commonDivisor rfl rfl rfl (by decide +kernel) ⟨Nat.le_of_ble_eq_true rfl, Nat.le_of_ble_eq_true rfl⟩) (rPreS hK) rfl rfl hl.1 rfl (lv_room (Nat.le_of_ble_eq_true rfl)) dX6_leastTerms_9 ⟨Nat.zero_le _, Nat.zero_le _⟩) ?_
  refine va_mmax hx hb (hml.trans hl.1.symm) hown (hts (.methodLink RX6 21 Lib.Math.max.name) (by decide +kernel)) (hts (.static Lib.Math.max.name) (by decide +kernel)) (hts (.initialized "java/lang/Math") (by decide +kernel)) (hts (.code Lib.Math.max.name Lib.Math.max.code 2 (some .int)) (by decide +kernel)) (Nat.le_of_ble_eq_true rfl) (Nat.le_of_ble_eq_true rfl) (Nat.zero_le _) (Nat.zero_le _) dX6_leastTerms_12 ?_
  refine lv_istore_n (lv' := [(3, .int (if 1 < q1 then q1 else 1)), (0, .int p0), (1, .int p1), (2, .int p2)]) hx hb dX6_leastTerms_15 rfl hl (by decide) rfl (fun ls hl => ?_)
  refine lv_iload_n hx hb dX6_leastTerms_16 rfl (lv_at hl 3 rfl) ?_
  refine lv_if_eq (tgt := 24) hx hb dX6_leastTerms_17 (by decide) (fun c2 => ?_) (fun c2 => ?_)
  · have h := iT c2 h
    refine lv_iload_n hx hb dX6_leastTerms_24 rfl (lv_at hl 2 rfl) ?_
    refine lv_iload_n hx hb dX6_leastTerms_25 rfl (lv_at hl 0 rfl) ?_
    obtain ⟨hd3, h⟩ := gD_some h
    refine lv_idiv hx hb dX6_leastTerms_26 hd3 ?_
    exact W.iret hx hb hr (fun t ht _ => ⟨_, rfl, Option.some.inj h, ht⟩) (fun _ q => absurd q List.not_mem_nil) dX6_leastTerms_27
  · have h := iF c2 h
    refine lv_iload_n hx hb dX6_leastTerms_20 rfl (lv_at hl 1 rfl) ?_
    refine lv_goto (tgt := 25) hx hb dX6_leastTerms_21 (by decide) ?_
    refine lv_iload_n hx hb dX6_leastTerms_25 rfl (lv_at hl 0 rfl) ?_
    obtain ⟨hd3, h⟩ := gD_some h
    refine lv_idiv hx hb dX6_leastTerms_26 hd3 ?_
    exact W.iret hx hb hr (fun t ht _ => ⟨_, rfl, Option.some.inj h, ht⟩) (fun _ q => absurd q List.not_mem_nil) dX6_leastTerms_27

set_option maxHeartbeats 4000000 in
set_option maxRecDepth 100000 in
theorem c_xx_share (l : Launch) (D : va_G) (cI cJ cZ : ClassId) (a : Nat → Nat) (g : Nat → Nat) (d : Nat → Nat) (xText : Nat → Int32) (xLetters : Int32) (xNow : Int64) (xKept : Nat → Int64) (xIsKept : Nat → Int32) (xChance : Int64) (xScenes : Nat → Int64) (xASize : Int32) (xSKinds : Nat → Int32) (xSLifts : Nat → Int32) (xSFlights : Nat → Int32) (xSSize : Int32) (xTally : Nat → Int32) (xOut : Nat → Int64) (fPk : Nat → Int32) (fWn : Nat → Int32) (fGw : Nat → Int32) (fGk : Nat → Int32) (fOw : Nat → Int32) (fSt : Nat → Int32) (fPe : Int32) (fHo : Int32) (fGr : Int32) (fPa : Int32) (fFt : Int32) (dPk : Nat → Int32) (dWn : Nat → Int32) (dGw : Nat → Int32) (dGk : Nat → Int32) (dOw : Nat → Int32) (dSt : Nat → Int32) (dPe : Int32) (dHo : Int32) (dGr : Int32) (dPa : Int32) (dFt : Int32)  (H0 : Heap) (hP : va_P D vwCl (xW a g d cI cJ cZ (g 0) (d 0) xText xLetters xNow xKept xIsKept xChance xScenes xASize xSKinds xSLifts xSFlights xSSize xTally xOut fPk fWn fGw fGk fOw fSt fPe fHo fGr fPa fFt dPk dWn dGw dGk dOw dSt dPe dHo dGr dPa dFt) H0) (p1 : Int32) (p2 : Int32) (rv : Int32) (h : xx_share xNow fPk fWn fGw fGk fOw fPe fHo fGr p1 p2 = some rv) : Met l yX11_share wsX11_share ({ frames := 6, cells := 0, slots := 0, locals := 153 } : Room) (rPc D cI cJ cZ H0 [.ref (a 0), .int p1, .int p2]) (vp_Si (fun r => r = rv)) 0 0 (fun _ => False) := by
  unfold xx_share at h
  refine Met.ofW (cc := cX11_share) (maxL := 3) (ret := (some .int)) (by decide) rfl ?_
  intro p e s m args below meth c s₁ B hml hv
  obtain ⟨rfl, hH, hK⟩ := hv
  have hx := B.exec
  have hb := B.bytes
  have hr := B.returns
  have hts := atoms_spec (ws := wsX11_share) B.pre
  have hown : s.vm.findClass RX11 = some m.cls := findClass_of_methodNamed B.named
  have hlocks := B.notSynchronized
  subst hH
  have hl := lv_entry ([.ref (a 0), .int p1, .int p2]) (n := 3) (Nat.le_of_ble_eq_true rfl)
  rw [lg_entry_eq]
  generalize (lg_sl ([.ref (a 0), .int p1, .int p2]) ++ List.replicate (3 - (lg_sl ([.ref (a 0), .int p1, .int p2])).length) Slot.unset).toArray = ls at hl ⊢
  have hl : lv_has ls 3 [(0, .ref (a 0)), (1, .int p1), (2, .int p2)] := hl
  have hiX11 : ∀ w ∈ u_ws RX11 TX11 11, w ∈ wsX11_share := fun w hw => List.mem_cons_of_mem _ (List.mem_append_left _ (List.mem_append_right _ hw))
  have hiX3 : ∀ w ∈ u_ws RX3 TX3 11, w ∈ wsX11_share := fun w hw => List.mem_cons_of_mem _ (List.mem_append_right _ hw)
  refine lv_aload_n hx hb dX11_share_0 rfl (lv_at hl 0 rfl) ?_
  refine va_get (D := D) (ci := 4) (v := .ref (g 0)) (C := RX11) (T := TX11) (N := 11) hx hb hts hiX11 hown hK.1 hP 0 rfl rfl 2 (by decide) (hts (.fieldLink RX11 16 "WinnowedGuilt" "ground" "LWinnowedGuilt$Floor;") (by decide +kernel)) (fun _ h9 => h9) rfl dX11_share_1 ?_
  refine lv_iload_n hx hb dX11_share_4 rfl (lv_at hl 1 rfl) ?_
  have hG := hP.sub (ws' := (fW g cI fPk fWn fGw fGk fOw fSt fPe fHo fGr fPa fFt)) [13, 14, 15, 16, 17, 18, 19] rfl
  obtain ⟨q1, hq1, h⟩ := bS h
  refine rcI (va_runV (As := [.int p1]) (rest := []) ⟨hx, hb, hml, hown, hts⟩ (c_fl_isPerson l D cI cJ cZ g fPk fWn fGw fGk fOw fSt fPe fHo fGr fPa fFt s.heap hG p1 q1 hq1) (cwV 1 hts gX11_share_X3_isPerson rfl rfl rfl (by decide +kernel) ⟨Nat.le_of_ble_eq_true rfl, Nat.le_of_ble_eq_true rfl⟩) (rPreV hK hG (ci := 2) (q0 := 0) rfl rfl) rfl rfl hl.1 rfl (lv_room (Nat.le_of_ble_eq_true rfl)) dX11_share_5 ⟨Nat.zero_le _, Nat.zero_le _⟩) ?_
  refine lv_if_ne (tgt := 13) hx hb dX11_share_8 (by decide) (fun c2 => ?_) (fun c2 => ?_)
  · have h := iF c2 h
    refine lv_aload_n hx hb dX11_share_13 rfl (lv_at hl 0 rfl) ?_
    refine va_get (D := D) (ci := 4) (v := .ref (g 0)) (C := RX11) (T := TX11) (N := 11) hx hb hts hiX11 hown hK.1 hP 0 rfl rfl 2 (by decide) (hts (.fieldLink RX11 16 "WinnowedGuilt" "ground" "LWinnowedGuilt$Floor;") (by decide +kernel)) (fun _ h9 => h9) rfl dX11_share_14 ?_
    refine lv_aload_n hx hb dX11_share_17 rfl (lv_at hl 0 rfl) ?_
    refine va_get (D := D) (ci := 4) (v := .long xNow) (C := RX11) (T := TX11) (N := 11) hx hb hts hiX11 hown hK.1 hP 0 rfl rfl 4 (by decide) (hts (.fieldLink RX11 27 "WinnowedGuilt" "now" "J") (by decide +kernel)) (fun _ h9 => h9) rfl dX11_share_18 ?_
    refine lv_iload_n hx hb dX11_share_21 rfl (lv_at hl 1 rfl) ?_
    have hG := hP.sub (ws' := (fW g cI fPk fWn fGw fGk fOw fSt fPe fHo fGr fPa fFt)) [13, 14, 15, 16, 17, 18, 19] rfl
    obtain ⟨q3, hq3, h⟩ := bS h
    refine rcI (va_runS (As := [.ref (g 0), .long xNow, .int p1]) (rest := []) ⟨hx, hb, hml, hown, hts⟩ (c_sh_gainInAllOrders l D cI cJ cZ g fPk fWn fGw fGk fOw fSt fPe fHo fGr fPa fFt s.heap hG xNow p1 q3 hq3) (va_cwS 3 hts gX11_share_X9_gainInAllOrders rfl rfl rfl (by decide +kernel) ⟨Nat.le_of_ble_eq_true rfl, Nat.le_of_ble_eq_true rfl⟩) (rPreS hK) rfl rfl hl.1 rfl (lv_room (Nat.le_of_ble_eq_true rfl)) dX11_share_22 ⟨Nat.zero_le _, Nat.zero_le _⟩) ?_
    refine lv_aload_n hx hb dX11_share_25 rfl (lv_at hl 0 rfl) ?_
    refine va_get (D := D) (ci := 4) (v := .ref (g 0)) (C := RX11) (T := TX11) (N := 11) hx hb hts hiX11 hown hK.1 hP 0 rfl rfl 2 (by decide) (hts (.fieldLink RX11 16 "WinnowedGuilt" "ground" "LWinnowedGuilt$Floor;") (by decide +kernel)) (fun _ h9 => h9) rfl dX11_share_26 ?_
    refine va_getN (D := D) (ci := 2) (v := .int fPe) (C := RX3) (T := TX3) (N := 11) hx hb hts hiX3 hown hK.1 hP 13 rfl rfl 6 (by decide) (va_Nw.use rfl (kN_2 hK.2)) (fun _ h9 => h9) rfl dX11_share_29 ?_
    obtain ⟨q4, hq4, h⟩ := bS h
    refine rcI (va_runS (As := [.int fPe]) (rest := [.int q3]) ⟨hx, hb, hml, hown, hts⟩ (c_nu_factorial l D cI cJ cZ   s.heap fPe q4 hq4) (va_cwS 1 hts gX11_share_X6_factorial rfl rfl rfl (by decide +kernel) ⟨Nat.le_of_ble_eq_true rfl, Nat.le_of_ble_eq_true rfl⟩) (rPreS hK) rfl rfl hl.1 rfl (lv_room (Nat.le_of_ble_eq_true rfl)) dX11_share_32 ⟨Nat.zero_le _, Nat.zero_le _⟩) ?_
    refine lv_iload_n hx hb dX11_share_35 rfl (lv_at hl 2 rfl) ?_
    obtain ⟨q5, hq5, h⟩ := bS h
    refine rcI (va_runS (As := [.int q3, .int q4, .int p2]) (rest := []) ⟨hx, hb, hml, hown, hts⟩ (c_nu_leastTerms l D cI cJ cZ   s.heap q3 q4 p2 q5 hq5) (va_cwS 3 hts gX11_share_X6_leastTerms rfl rfl rfl (by decide +kernel) ⟨Nat.le_of_ble_eq_true rfl, Nat.le_of_ble_eq_true rfl⟩) (rPreS hK) rfl rfl hl.1 rfl (lv_room (Nat.le_of_ble_eq_true rfl)) dX11_share_36 ⟨Nat.zero_le _, Nat.zero_le _⟩) ?_
    exact W.iret hx hb hr (fun t ht _ => ⟨_, rfl, Option.some.inj h, ht⟩) (fun _ q => absurd q List.not_mem_nil) dX11_share_39
  · have h := iT c2 h
    refine lv_iconst (v := (-1)) hx hb dX11_share_11 (by decide) ?_
    exact W.iret hx hb hr (fun t ht _ => ⟨_, rfl, Option.some.inj h, ht⟩) (fun _ q => absurd q List.not_mem_nil) dX11_share_12

set_option maxHeartbeats 4000000 in
set_option maxRecDepth 100000 in
theorem c_gb_gain (l : Launch) (D : va_G) (cI cJ cZ : ClassId) (g : Nat → Nat) (fPk : Nat → Int32) (fWn : Nat → Int32) (fGw : Nat → Int32) (fGk : Nat → Int32) (fOw : Nat → Int32) (fSt : Nat → Int32) (fPe : Int32) (fHo : Int32) (fGr : Int32) (fPa : Int32) (fFt : Int32)  (H0 : Heap) (hP : va_P D vwCl (fW g cI fPk fWn fGw fGk fOw fSt fPe fHo fGr fPa fFt) H0) (p1 : Int64) (p3 : Int32) (p4 : Int32) (p5 : Int32) (rv : Int32) (h : gb_gain fPk fWn fGw fGk fOw fPe fHo fGr p1 p3 p4 p5 = some rv) : Met l yX4_gain wsX4_gain ({ frames := 4, cells := 0, slots := 0, locals := 94 } : Room) (rPc D cI cJ cZ H0 [.ref (g 0), .long p1, .int p3, .int p4, .int p5]) (vp_Si (fun r => r = rv)) 0 0 (fun _ => False) := by
  unfold gb_gain at h
  refine Met.ofW (cc := cX4_gain) (maxL := 8) (ret := (some .int)) (by decide) rfl ?_
  intro p e s m args below meth c s₁ B hml hv
  obtain ⟨rfl, hH, hK⟩ := hv
  have hx := B.exec
  have hb := B.bytes
  have hr := B.returns
  have hts := atoms_spec (ws := wsX4_gain) B.pre
  have hown : s.vm.findClass RX4 = some m.cls := findClass_of_methodNamed B.named
  have hlocks := B.notSynchronized
  subst hH
  have hl := lv_entry ([.ref (g 0), .long p1, .int p3, .int p4, .int p5]) (n := 8) (Nat.le_of_ble_eq_true rfl)
  rw [lg_entry_eq]
  generalize (lg_sl ([.ref (g 0), .long p1, .int p3, .int p4, .int p5]) ++ List.replicate (8 - (lg_sl ([.ref (g 0), .long p1, .int p3, .int p4, .int p5])).length) Slot.unset).toArray = ls at hl ⊢
  have hl : lv_has ls 8 [(0, .ref (g 0)), (1, .long p1), (3, .int p3), (4, .int p4), (5, .int p5)] := hl
  refine lv_iload hx hb dX4_gain_0 (lv_at hl 3 rfl) ?_
  refine lv_iconst (v := 1) hx hb dX4_gain_2 (by decide) ?_
  refine lv_icmp_ne (tgt := 15) hx hb dX4_gain_3 (by decide) (fun c1 => ?_) (fun c1 => ?_)
  · have h := iF c1 h
    refine lv_iload hx hb dX4_gain_15 (lv_at hl 3 rfl) ?_
    refine lv_iconst (v := 1) hx hb dX4_gain_17 (by decide) ?_
    refine lv_icmp_ne (tgt := 29) hx hb dX4_gain_18 (by decide) (fun c2 => ?_) (fun c2 => ?_)
    · have h := iF c2 h
      refine lv_lload_n hx hb dX4_gain_29 rfl (lv_at hl 1 rfl) ?_
      refine lv_lstore (lv' := [(6, .long p1), (0, .ref (g 0)), (1, .long p1), (3, .int p3), (4, .int p4), (5, .int p5)]) hx hb dX4_gain_30 hl (by decide) rfl (fun ls hl => ?_)
      refine lv_aload_n hx hb dX4_gain_32 rfl (lv_at hl 1 rfl) ?_
      refine lv_aload_n hx hb dX4_gain_33 rfl (lv_at hl 1 rfl) ?_
      refine lv_lload hx hb dX4_gain_34 (lv_at hl 0 rfl) ?_
      refine lv_iload_n hx hb dX4_gain_36 rfl (lv_at hl 3 rfl) ?_
      obtain ⟨q3, hq3, h⟩ := bS h
      refine rcI (va_runV (As := [.long p1, .int p3]) (rest := [.ref (g 0)]) ⟨hx, hb, hml, hown, hts⟩ (c_fl_flyingBits l D cI cJ cZ g fPk fWn fGw fGk fOw fSt fPe fHo fGr fPa fFt s.heap hP p1 p3 q3 hq3) (cwV 2 hts gX4_gain_X3_flyingBits rfl rfl rfl (by decide +kernel) ⟨Nat.le_of_ble_eq_true rfl, Nat.le_of_ble_eq_true rfl⟩) (rPreV hK hP (ci := 2) (q0 := 0) rfl rfl) rfl rfl hl.1 rfl (lv_room (Nat.le_of_ble_eq_true rfl)) dX4_gain_37 ⟨Nat.zero_le _, Nat.zero_le _⟩) ?_
      obtain ⟨q4, hq4, h⟩ := bS h
      refine rcI (va_runV (As := [.int q3]) (rest := []) ⟨hx, hb, hml, hown, hts⟩ (c_fl_guiltOfBits l D cI cJ cZ g fPk fWn fGw fGk fOw fSt fPe fHo fGr fPa fFt s.heap hP q3 q4 hq4) (cwV 1 hts gX4_gain_X3_guiltOfBits rfl rfl rfl (by decide +kernel) ⟨Nat.le_of_ble_eq_true rfl, Nat.le_of_ble_eq_true rfl⟩) (rPreV hK hP (ci := 2) (q0 := 0) rfl rfl) rfl rfl hl.1 rfl (lv_room (Nat.le_of_ble_eq_true rfl)) dX4_gain_40 ⟨Nat.zero_le _, Nat.zero_le _⟩) ?_
      exact W.iret hx hb hr (fun t ht _ => ⟨_, rfl, Option.some.inj h, ht⟩) (fun _ q => absurd q List.not_mem_nil) dX4_gain_43
    · have h := iT c2 h
      refine lv_lload_n hx hb dX4_gain_21 rfl (lv_at hl 1 rfl) ?_
      refine lv_iload_n hx hb dX4_gain_22 rfl (lv_at hl 2 rfl) ?_
      obtain ⟨q3, hq3, h⟩ := bS h
      refine rcL (va_runS (As := [.long p1, .int p3]) (rest := []) ⟨hx, hb, hml, hown, hts⟩ (c_sc_withHolder l D cI cJ cZ   s.heap p1 p3 q3 hq3) (va_cwS 2 hts gX4_gain_X7_withHolder rfl rfl rfl (by decide +kernel) ⟨Nat.le_of_ble_eq_true rfl, Nat.le_of_ble_eq_true rfl⟩) (rPreS hK) rfl rfl hl.1 rfl (lv_room (Nat.le_of_ble_eq_true rfl)) dX4_gain_23 ⟨Nat.zero_le _, Nat.zero_le _⟩) ?_
      refine lv_goto (tgt := 30) hx hb dX4_gain_26 (by decide) ?_
      refine lv_lstore (lv' := [(6, .long q3), (0, .ref (g 0)), (1, .long p1), (3, .int p3), (4, .int p4), (5, .int p5)]) hx hb dX4_gain_30 hl (by decide) rfl (fun ls hl => ?_)
      refine lv_aload_n hx hb dX4_gain_32 rfl (lv_at hl 1 rfl) ?_
      refine lv_aload_n hx hb dX4_gain_33 rfl (lv_at hl 1 rfl) ?_
      refine lv_lload hx hb dX4_gain_34 (lv_at hl 0 rfl) ?_
      refine lv_iload_n hx hb dX4_gain_36 rfl (lv_at hl 3 rfl) ?_
      obtain ⟨q4, hq4, h⟩ := bS h
      refine rcI (va_runV (As := [.long q3, .int p3]) (rest := [.ref (g 0)]) ⟨hx, hb, hml, hown, hts⟩ (c_fl_flyingBits l D cI cJ cZ g fPk fWn fGw fGk fOw fSt fPe fHo fGr fPa fFt s.heap hP q3 p3 q4 hq4) (cwV 2 hts gX4_gain_X3_flyingBits rfl rfl rfl (by decide +kernel) ⟨Nat.le_of_ble_eq_true rfl, Nat.le_of_ble_eq_true rfl⟩) (rPreV hK hP (ci := 2) (q0 := 0) rfl rfl) rfl rfl hl.1 rfl (lv_room (Nat.le_of_ble_eq_true rfl)) dX4_gain_37 ⟨Nat.zero_le _, Nat.zero_le _⟩) ?_
      obtain ⟨q5, hq5, h⟩ := bS h
      refine rcI (va_runV (As := [.int q4]) (rest := []) ⟨hx, hb, hml, hown, hts⟩ (c_fl_guiltOfBits l D cI cJ cZ g fPk fWn fGw fGk fOw fSt fPe fHo fGr fPa fFt s.heap hP q4 q5 hq5) (cwV 1 hts gX4_gain_X3_guiltOfBits rfl rfl rfl (by decide +kernel) ⟨Nat.le_of_ble_eq_true rfl, Nat.le_of_ble_eq_true rfl⟩) (rPreV hK hP (ci := 2) (q0 := 0) rfl rfl) rfl rfl hl.1 rfl (lv_room (Nat.le_of_ble_eq_true rfl)) dX4_gain_40 ⟨Nat.zero_le _, Nat.zero_le _⟩) ?_
      exact W.iret hx hb hr (fun t ht _ => ⟨_, rfl, Option.some.inj h, ht⟩) (fun _ q => absurd q List.not_mem_nil) dX4_gain_43
  · have h := iT c1 h
    refine lv_iload hx hb dX4_gain_6 (lv_at hl 4 rfl) ?_
    refine lv_iconst (v := 1) hx hb dX4_gain_8 (by decide) ?_
    refine lv_icmp_ne (tgt := 15) hx hb dX4_gain_9 (by decide) (fun c2 => ?_) (fun c2 => ?_)
    · have h := iF c2 h
      refine lv_iload hx hb dX4_gain_15 (lv_at hl 3 rfl) ?_
      refine lv_iconst (v := 1) hx hb dX4_gain_17 (by decide) ?_
      refine lv_icmp_ne (tgt := 29) hx hb dX4_gain_18 (by decide) (fun c => absurd c (by rw [c1]; decide)) (fun _ => ?_)
      refine lv_lload_n hx hb dX4_gain_21 rfl (lv_at hl 1 rfl) ?_
      refine lv_iload_n hx hb dX4_gain_22 rfl (lv_at hl 2 rfl) ?_
      obtain ⟨q3, hq3, h⟩ := bS h
      refine rcL (va_runS (As := [.long p1, .int p3]) (rest := []) ⟨hx, hb, hml, hown, hts⟩ (c_sc_withHolder l D cI cJ cZ   s.heap p1 p3 q3 hq3) (va_cwS 2 hts gX4_gain_X7_withHolder rfl rfl rfl (by decide +kernel) ⟨Nat.le_of_ble_eq_true rfl, Nat.le_of_ble_eq_true rfl⟩) (rPreS hK) rfl rfl hl.1 rfl (lv_room (Nat.le_of_ble_eq_true rfl)) dX4_gain_23 ⟨Nat.zero_le _, Nat.zero_le _⟩) ?_
      refine lv_goto (tgt := 30) hx hb dX4_gain_26 (by decide) ?_
      refine lv_lstore (lv' := [(6, .long q3), (0, .ref (g 0)), (1, .long p1), (3, .int p3), (4, .int p4), (5, .int p5)]) hx hb dX4_gain_30 hl (by decide) rfl (fun ls hl => ?_)
      refine lv_aload_n hx hb dX4_gain_32 rfl (lv_at hl 1 rfl) ?_
      refine lv_aload_n hx hb dX4_gain_33 rfl (lv_at hl 1 rfl) ?_
      refine lv_lload hx hb dX4_gain_34 (lv_at hl 0 rfl) ?_
      refine lv_iload_n hx hb dX4_gain_36 rfl (lv_at hl 3 rfl) ?_
      obtain ⟨q4, hq4, h⟩ := bS h
      refine rcI (va_runV (As := [.long q3, .int p3]) (rest := [.ref (g 0)]) ⟨hx, hb, hml, hown, hts⟩ (c_fl_flyingBits l D cI cJ cZ g fPk fWn fGw fGk fOw fSt fPe fHo fGr fPa fFt s.heap hP q3 p3 q4 hq4) (cwV 2 hts gX4_gain_X3_flyingBits rfl rfl rfl (by decide +kernel) ⟨Nat.le_of_ble_eq_true rfl, Nat.le_of_ble_eq_true rfl⟩) (rPreV hK hP (ci := 2) (q0 := 0) rfl rfl) rfl rfl hl.1 rfl (lv_room (Nat.le_of_ble_eq_true rfl)) dX4_gain_37 ⟨Nat.zero_le _, Nat.zero_le _⟩) ?_
      obtain ⟨q5, hq5, h⟩ := bS h
      refine rcI (va_runV (As := [.int q4]) (rest := []) ⟨hx, hb, hml, hown, hts⟩ (c_fl_guiltOfBits l D cI cJ cZ g fPk fWn fGw fGk fOw fSt fPe fHo fGr fPa fFt s.heap hP q4 q5 hq5) (cwV 1 hts gX4_gain_X3_guiltOfBits rfl rfl rfl (by decide +kernel) ⟨Nat.le_of_ble_eq_true rfl, Nat.le_of_ble_eq_true rfl⟩) (rPreV hK hP (ci := 2) (q0 := 0) rfl rfl) rfl rfl hl.1 rfl (lv_room (Nat.le_of_ble_eq_true rfl)) dX4_gain_40 ⟨Nat.zero_le _, Nat.zero_le _⟩) ?_
      exact W.iret hx hb hr (fun t ht _ => ⟨_, rfl, Option.some.inj h, ht⟩) (fun _ q => absurd q List.not_mem_nil) dX4_gain_43
    · have h := iT c2 h
      refine lv_bipush (v := (-2)) hx hb dX4_gain_12 (by decide) ?_
      exact W.iret hx hb hr (fun t ht _ => ⟨_, rfl, Option.some.inj h, ht⟩) (fun _ q => absurd q List.not_mem_nil) dX4_gain_14

set_option maxHeartbeats 4000000 in
set_option maxRecDepth 100000 in
theorem c_gb_isContent (l : Launch) (D : va_G) (cI cJ cZ : ClassId) (g : Nat → Nat) (fPk : Nat → Int32) (fWn : Nat → Int32) (fGw : Nat → Int32) (fGk : Nat → Int32) (fOw : Nat → Int32) (fSt : Nat → Int32) (fPe : Int32) (fHo : Int32) (fGr : Int32) (fPa : Int32) (fFt : Int32)  (H0 : Heap) (hP : va_P D vwCl (fW g cI fPk fWn fGw fGk fOw fSt fPe fHo fGr fPa fFt) H0) (p1 : Int64) (p3 : Int32) (p4 : Int32) (p5 : Int32) (rv : Int32) (h : gb_isContent fPk fWn fGw fGk fOw fPe fHo fGr p1 p3 p4 p5 = some rv) : Met l yX4_isContent wsX4_isContent ({ frames := 5, cells := 0, slots := 0, locals := 121 } : Room) (rPc D cI cJ cZ H0 [.ref (g 0), .long p1, .int p3, .int p4, .int p5]) (vp_Si (fun r => r = rv)) 0 0 (fun _ => False) := by
  unfold gb_isContent at h
  refine Met.ofW (cc := cX4_isContent) (maxL := 6) (ret := (some .boolean)) (by decide) rfl ?_
  intro p e s m args below meth c s₁ B hml hv
  obtain ⟨rfl, hH, hK⟩ := hv
  have hx := B.exec
  have hb := B.bytes
  have hr := B.returns
  have hts := atoms_spec (ws := wsX4_isContent) B.pre
  have hown : s.vm.findClass RX4 = some m.cls := findClass_of_methodNamed B.named
  have hlocks := B.notSynchronized
  subst hH
  have hl := lv_entry ([.ref (g 0), .long p1, .int p3, .int p4, .int p5]) (n := 6) (Nat.le_of_ble_eq_true rfl)
  rw [lg_entry_eq]
  generalize (lg_sl ([.ref (g 0), .long p1, .int p3, .int p4, .int p5]) ++ List.replicate (6 - (lg_sl ([.ref (g 0), .long p1, .int p3, .int p4, .int p5])).length) Slot.unset).toArray = ls at hl ⊢
  have hl : lv_has ls 6 [(0, .ref (g 0)), (1, .long p1), (3, .int p3), (4, .int p4), (5, .int p5)] := hl
  refine lv_aload_n hx hb dX4_isContent_0 rfl (lv_at hl 0 rfl) ?_
  refine lv_lload_n hx hb dX4_isContent_1 rfl (lv_at hl 1 rfl) ?_
  refine lv_iload_n hx hb dX4_isContent_2 rfl (lv_at hl 2 rfl) ?_
  refine lv_iload hx hb dX4_isContent_3 (lv_at hl 3 rfl) ?_
  refine lv_iload hx hb dX4_isContent_5 (lv_at hl 4 rfl) ?_
  obtain ⟨q1, hq1, h⟩ := bS h
  refine rcI (va_runS (As := [.ref (g 0), .long p1, .int p3, .int p4, .int p5]) (rest := []) ⟨hx, hb, hml, hown, hts⟩ (c_gb_gain l D cI cJ cZ g fPk fWn fGw fGk fOw fSt fPe fHo fGr fPa fFt s.heap hP p1 p3 p4 p5 q1 hq1) (va_cwS 5 hts gX4_isContent_X4_gain rfl rfl rfl (by decide +kernel) ⟨Nat.le_of_ble_eq_true rfl, Nat.le_of_ble_eq_true rfl⟩) (rPreS hK) rfl rfl hl.1 rfl (lv_room (Nat.le_of_ble_eq_true rfl)) dX4_isContent_7 ⟨Nat.zero_le _, Nat.zero_le _⟩) ?_
  refine lv_aload_n hx hb dX4_isContent_10 rfl (lv_at hl 0 rfl) ?_
  refine lv_lload_n hx hb dX4_isContent_11 rfl (lv_at hl 1 rfl) ?_
  refine lv_iload_n hx hb dX4_isContent_12 rfl (lv_at hl 2 rfl) ?_
  refine lv_iconst (v := 1) hx hb dX4_isContent_13 (by decide) ?_
  refine lv_iload hx hb dX4_isContent_14 (lv_at hl 3 rfl) ?_
  refine lv_isub hx hb dX4_isContent_16 ?_
  refine lv_iload hx hb dX4_isContent_17 (lv_at hl 4 rfl) ?_
  obtain ⟨q2, hq2, h⟩ := bS h
  refine rcI (va_runS (As := [.ref (g 0), .long p1, .int p3, .int (1 - p4), .int p5]) (rest := [.int q1]) ⟨hx, hb, hml, hown, hts⟩ (c_gb_gain l D cI cJ cZ g fPk fWn fGw fGk fOw fSt fPe fHo fGr fPa fFt s.heap hP p1 p3 (1 - p4) p5 q2 hq2) (va_cwS 5 hts gX4_isContent_X4_gain rfl rfl rfl (by decide +kernel) ⟨Nat.le_of_ble_eq_true rfl, Nat.le_of_ble_eq_true rfl⟩) (rPreS hK) rfl rfl hl.1 rfl (lv_room (Nat.le_of_ble_eq_true rfl)) dX4_isContent_19 ⟨Nat.zero_le _, Nat.zero_le _⟩) ?_
  refine lv_icmp_lt (tgt := 29) hx hb dX4_isContent_22 (by decide) (fun c3 => ?_) (fun c3 => ?_)
  · have h := iT c3 h
    refine lv_iconst (v := 0) hx hb dX4_isContent_29 (by decide) ?_
    exact W.zret hx hb hr (by decide) (fun t ht _ => ⟨_, rfl, Option.some.inj h, ht⟩) (fun _ q => absurd q List.not_mem_nil) dX4_isContent_30
  · have h := iF c3 h
    refine lv_iconst (v := 1) hx hb dX4_isContent_25 (by decide) ?_
    refine lv_goto (tgt := 30) hx hb dX4_isContent_26 (by decide) ?_
    exact W.zret hx hb hr (by decide) (fun t ht _ => ⟨_, rfl, Option.some.inj h, ht⟩) (fun _ q => absurd q List.not_mem_nil) dX4_isContent_30

set_option maxHeartbeats 4000000 in
set_option maxRecDepth 100000 in
theorem c_xx_rests (l : Launch) (D : va_G) (cI cJ cZ : ClassId) (a : Nat → Nat) (g : Nat → Nat) (d : Nat → Nat) (xText : Nat → Int32) (xLetters : Int32) (xNow : Int64) (xKept : Nat → Int64) (xIsKept : Nat → Int32) (xChance : Int64) (xScenes : Nat → Int64) (xASize : Int32) (xSKinds : Nat → Int32) (xSLifts : Nat → Int32) (xSFlights : Nat → Int32) (xSSize : Int32) (xTally : Nat → Int32) (xOut : Nat → Int64) (fPk : Nat → Int32) (fWn : Nat → Int32) (fGw : Nat → Int32) (fGk : Nat → Int32) (fOw : Nat → Int32) (fSt : Nat → Int32) (fPe : Int32) (fHo : Int32) (fGr : Int32) (fPa : Int32) (fFt : Int32) (dPk : Nat → Int32) (dWn : Nat → Int32) (dGw : Nat → Int32) (dGk : Nat → Int32) (dOw : Nat → Int32) (dSt : Nat → Int32) (dPe : Int32) (dHo : Int32) (dGr : Int32) (dPa : Int32) (dFt : Int32)  (H0 : Heap) (hP : va_P D vwCl (xW a g d cI cJ cZ (g 0) (d 0) xText xLetters xNow xKept xIsKept xChance xScenes xASize xSKinds xSLifts xSFlights xSSize xTally xOut fPk fWn fGw fGk fOw fSt fPe fHo fGr fPa fFt dPk dWn dGw dGk dOw dSt dPe dHo dGr dPa dFt) H0) (p1 : Int32) (p2 : Int32) (p3 : Int32) (rv : Int32) (h : xx_rests xNow fPk fWn fGw fGk fOw fPe fHo fGr p1 p2 p3 = some rv) : Met l yX11_rests wsX11_rests ({ frames := 6, cells := 0, slots := 0, locals := 146 } : Room) (rPc D cI cJ cZ H0 [.ref (a 0), .int p1, .int p2, .int p3]) (vp_Si (fun r => r = rv)) 0 0 (fun _ => False) := by
  unfold xx_rests at h
  refine Met.ofW (cc := cX11_rests) (maxL := 9) (ret := (some .int)) (by decide) rfl ?_
  intro p e s m args below meth c s₁ B hml hv
  obtain ⟨rfl, hH, hK⟩ := hv
  have hx := B.exec
  have hb := B.bytes
  have hr := B.returns
  have hts := atoms_spec (ws := wsX11_rests) B.pre
  have hown : s.vm.findClass RX11 = some m.cls := findClass_of_methodNamed B.named
  have hlocks := B.notSynchronized
  subst hH
  have hl := lv_entry ([.ref (a 0), .int p1, .int p2, .int p3]) (n := 9) (Nat.le_of_ble_eq_true rfl)
  rw [lg_entry_eq]
  generalize (lg_sl ([.ref (a 0), .int p1, .int p2, .int p3]) ++ List.replicate (9 - (lg_sl ([.ref (a 0), .int p1, .int p2, .int p3])).length) Slot.unset).toArray = ls at hl ⊢
  have hl : lv_has ls 9 [(0, .ref (a 0)), (1, .int p1), (2, .int p2), (3, .int p3)] := hl
  have hiX11 : ∀ w ∈ u_ws RX11 TX11 11, w ∈ wsX11_rests := fun w hw => List.mem_cons_of_mem _ (List.mem_append_left _ (List.mem_append_right _ hw))
  refine lv_aload_n hx hb dX11_rests_0 rfl (lv_at hl 0 rfl) ?_
  refine va_get (D := D) (ci := 4) (v := .ref (g 0)) (C := RX11) (T := TX11) (N := 11) hx hb hts hiX11 hown hK.1 hP 0 rfl rfl 2 (by decide) (hts (.fieldLink RX11 16 "WinnowedGuilt" "ground" "LWinnowedGuilt$Floor;") (by decide +kernel)) (fun _ h9 => h9) rfl dX11_rests_1 ?_
  refine lv_iload_n hx hb dX11_rests_4 rfl (lv_at hl 1 rfl) ?_
  have hG := hP.sub (ws' := (fW g cI fPk fWn fGw fGk fOw fSt fPe fHo fGr fPa fFt)) [13, 14, 15, 16, 17, 18, 19] rfl
  obtain ⟨q1, hq1, h⟩ := bS h
  refine rcI (va_runV (As := [.int p1]) (rest := []) ⟨hx, hb, hml, hown, hts⟩ (c_fl_isPerson l D cI cJ cZ g fPk fWn fGw fGk fOw fSt fPe fHo fGr fPa fFt s.heap hG p1 q1 hq1) (cwV 1 hts gX11_rests_X3_isPerson rfl rfl rfl (by decide +kernel) ⟨Nat.le_of_ble_eq_true rfl, Nat.le_of_ble_eq_true rfl⟩) (rPreV hK hG (ci := 2) (q0 := 0) rfl rfl) rfl rfl hl.1 rfl (lv_room (Nat.le_of_ble_eq_true rfl)) dX11_rests_5 ⟨Nat.zero_le _, Nat.zero_le _⟩) ?_
  refine lv_if_eq (tgt := 22) hx hb dX11_rests_8 (by decide) (fun c2 => ?_) (fun c2 => ?_)
  · have h := iT c2 h
    refine lv_iconst (v := (-1)) hx hb dX11_rests_22 (by decide) ?_
    exact W.iret hx hb hr (fun t ht _ => ⟨_, rfl, Option.some.inj h, ht⟩) (fun _ q => absurd q List.not_mem_nil) dX11_rests_23
  · have h := iF c2 h
    refine lv_aload_n hx hb dX11_rests_11 rfl (lv_at hl 0 rfl) ?_
    refine va_get (D := D) (ci := 4) (v := .ref (g 0)) (C := RX11) (T := TX11) (N := 11) hx hb hts hiX11 hown hK.1 hP 0 rfl rfl 2 (by decide) (hts (.fieldLink RX11 16 "WinnowedGuilt" "ground" "LWinnowedGuilt$Floor;") (by decide +kernel)) (fun _ h9 => h9) rfl dX11_rests_12 ?_
    refine lv_iload_n hx hb dX11_rests_15 rfl (lv_at hl 2 rfl) ?_
    have hG := hP.sub (ws' := (fW g cI fPk fWn fGw fGk fOw fSt fPe fHo fGr fPa fFt)) [13, 14, 15, 16, 17, 18, 19] rfl
    obtain ⟨q3, hq3, h⟩ := bS h
    refine rcI (va_runV (As := [.int p2]) (rest := []) ⟨hx, hb, hml, hown, hts⟩ (c_fl_isPerson l D cI cJ cZ g fPk fWn fGw fGk fOw fSt fPe fHo fGr fPa fFt s.heap hG p2 q3 hq3) (cwV 1 hts gX11_rests_X3_isPerson rfl rfl rfl (by decide +kernel) ⟨Nat.le_of_ble_eq_true rfl, Nat.le_of_ble_eq_true rfl⟩) (rPreV hK hG (ci := 2) (q0 := 0) rfl rfl) rfl rfl hl.1 rfl (lv_room (Nat.le_of_ble_eq_true rfl)) dX11_rests_16 ⟨Nat.zero_le _, Nat.zero_le _⟩) ?_
    refine lv_if_ne (tgt := 24) hx hb dX11_rests_19 (by decide) (fun c4 => ?_) (fun c4 => ?_)
    · have h := iF c4 h
      refine lv_iload_n hx hb dX11_rests_24 rfl (lv_at hl 1 rfl) ?_
      refine lv_iload_n hx hb dX11_rests_25 rfl (lv_at hl 2 rfl) ?_
      refine lv_icmp_eq (tgt := 38) hx hb dX11_rests_26 (by decide) (fun c5 => ?_) (fun c5 => ?_)
      · have h := iT c5 h
        refine lv_bipush (v := (-2)) hx hb dX11_rests_38 (by decide) ?_
        exact W.iret hx hb hr (fun t ht _ => ⟨_, rfl, Option.some.inj h, ht⟩) (fun _ q => absurd q List.not_mem_nil) dX11_rests_40
      · have h := iF c5 h
        refine lv_iload_n hx hb dX11_rests_29 rfl (lv_at hl 3 rfl) ?_
        refine lv_if_lt (tgt := 38) hx hb dX11_rests_30 (by decide) (fun c6 => ?_) (fun c6 => ?_)
        · have h := iT c6 h
          refine lv_bipush (v := (-2)) hx hb dX11_rests_38 (by decide) ?_
          exact W.iret hx hb hr (fun t ht _ => ⟨_, rfl, Option.some.inj h, ht⟩) (fun _ q => absurd q List.not_mem_nil) dX11_rests_40
        · have h := iF c6 h
          refine lv_iload_n hx hb dX11_rests_33 rfl (lv_at hl 3 rfl) ?_
          refine lv_iconst (v := 1) hx hb dX11_rests_34 (by decide) ?_
          refine lv_icmp_le (tgt := 41) hx hb dX11_rests_35 (by decide) (fun c7 => ?_) (fun c7 => ?_)
          · have h := iT c7 h
            refine lv_iconst (v := 0) hx hb dX11_rests_41 (by decide) ?_
            refine lv_istore (lv' := [(4, .int 0), (0, .ref (a 0)), (1, .int p1), (2, .int p2), (3, .int p3)]) hx hb dX11_rests_42 hl (by decide) rfl (fun ls hl => ?_)
            refine lv_bipush (v := (-9)) hx hb dX11_rests_44 (by decide) ?_
            refine lv_istore (lv' := [(5, .int (-9)), (4, .int 0), (0, .ref (a 0)), (1, .int p1), (2, .int p2), (3, .int p3)]) hx hb dX11_rests_46 hl (by decide) rfl (fun ls hl => ?_)
            refine lv_iconst (v := 0) hx hb dX11_rests_48 (by decide) ?_
            refine lv_istore (lv' := [(6, .int 0), (5, .int (-9)), (4, .int 0), (0, .ref (a 0)), (1, .int p1), (2, .int p2), (3, .int p3)]) hx hb dX11_rests_49 hl (by decide) rfl (fun ls hl => ?_)
            have L51 : ∀ (n : Nat) (x6_51 : Int32) (x5_51 : Int32) (x4_51 : Int32) (ls : Array Slot) (kx : Int32 → Int32 → Int32 → Option (Int32)), xx_rests_L51 xNow fPk fWn fGw fGk fOw fPe fHo fGr p1 p2 kx n x6_51 x5_51 x4_51 = some rv → lv_has ls 9 [(6, .int x6_51), (5, .int x5_51), (4, .int x4_51), (0, .ref (a 0)), (1, .int p1), (2, .int p2), (3, .int p3)] → (∀ (y6_51 : Int32) (y5_51 : Int32) (y4_51 : Int32) (ls : Array Slot), kx y6_51 y5_51 y4_51 = some rv → lv_has ls 9 [(6, .int y6_51), (5, .int y5_51), (4, .int y4_51), (0, .ref (a 0)), (1, .int p1), (2, .int p2), (3, .int p3)] → W p l e (headSpec wsX11_rests ({ frames := 6, cells := 0, slots := 0, locals := 146 } : Room)).room s m ([.ref (a 0), .int p1, .int p2, .int p3] : List Value).toArray below meth c s.heap [] 0 0 (MQ below (vp_Si (fun r => r = rv)) ([.ref (a 0), .int p1, .int p2, .int p3] : List Value).toArray s 0 0 (fun _ => False)) (F0 m 136 ls [])) → W p l e (headSpec wsX11_rests ({ frames := 6, cells := 0, slots := 0, locals := 146 } : Room)).room s m ([.ref (a 0), .int p1, .int p2, .int p3] : List Value).toArray below meth c s.heap [] 0 0 (MQ below (vp_Si (fun r => r = rv)) ([.ref (a 0), .int p1, .int p2, .int p3] : List Value).toArray s 0 0 (fun _ => False)) (F0 m 51 ls []) := by
              intro n
              induction n with
              | zero => intro _ _ _ _ _ h; rw [xx_rests_L51.eq_1] at h; cases h
              | succ n ih =>
                intro x6_51 x5_51 x4_51 ls kx h hl hk
                rw [xx_rests_L51.eq_2] at h
                refine lv_iload hx hb dX11_rests_51 (lv_at hl 0 rfl) ?_
                refine lv_iconst (v := 4) hx hb dX11_rests_53 (by decide) ?_
                refine lv_icmp_ge (tgt := 136) hx hb dX11_rests_54 (by decide) (fun c8 => ?_) (fun c8 => ?_)
                · have h := iT c8 h
                  exact hk _ _ _ _ h (lv_sub hl [0, 1, 2, 3, 4, 5, 6] rfl)
                · have h := iF c8 h
                  refine lv_iload hx hb dX11_rests_57 (lv_at hl 0 rfl) ?_
                  refine lv_iconst (v := 2) hx hb dX11_rests_59 (by decide) ?_
                  refine lv_idiv hx hb dX11_rests_60 (by decide) ?_
                  refine lv_istore (lv' := [(7, .int (x6_51 / 2)), (6, .int x6_51), (5, .int x5_51), (4, .int x4_51), (0, .ref (a 0)), (1, .int p1), (2, .int p2), (3, .int p3)]) hx hb dX11_rests_61 hl (by decide) rfl (fun ls hl => ?_)
                  refine lv_iload hx hb dX11_rests_63 (lv_at hl 1 rfl) ?_
                  refine lv_iconst (v := 2) hx hb dX11_rests_65 (by decide) ?_
                  refine lv_irem hx hb dX11_rests_66 (by decide) ?_
                  refine lv_istore (lv' := [(8, .int (x6_51 - x6_51 / 2 * 2)), (7, .int (x6_51 / 2)), (6, .int x6_51), (5, .int x5_51), (4, .int x4_51), (0, .ref (a 0)), (1, .int p1), (2, .int p2), (3, .int p3)]) hx hb dX11_rests_67 hl (by decide) rfl (fun ls hl => ?_)
                  refine lv_aload_n hx hb dX11_rests_69 rfl (lv_at hl 5 rfl) ?_
                  refine va_get (D := D) (ci := 4) (v := .ref (g 0)) (C := RX11) (T := TX11) (N := 11) hx hb hts hiX11 hown hK.1 hP 0 rfl rfl 2 (by decide) (hts (.fieldLink RX11 16 "WinnowedGuilt" "ground" "LWinnowedGuilt$Floor;") (by decide +kernel)) (fun _ h9 => h9) rfl dX11_rests_70 ?_
                  refine lv_aload_n hx hb dX11_rests_73 rfl (lv_at hl 5 rfl) ?_
                  refine va_get (D := D) (ci := 4) (v := .long xNow) (C := RX11) (T := TX11) (N := 11) hx hb hts hiX11 hown hK.1 hP 0 rfl rfl 4 (by decide) (hts (.fieldLink RX11 27 "WinnowedGuilt" "now" "J") (by decide +kernel)) (fun _ h9 => h9) rfl dX11_rests_74 ?_
                  refine lv_iload_n hx hb dX11_rests_77 rfl (lv_at hl 6 rfl) ?_
                  refine lv_iload hx hb dX11_rests_78 (lv_at hl 1 rfl) ?_
                  refine lv_iload hx hb dX11_rests_80 (lv_at hl 0 rfl) ?_
                  have hG := hP.sub (ws' := (fW g cI fPk fWn fGw fGk fOw fSt fPe fHo fGr fPa fFt)) [13, 14, 15, 16, 17, 18, 19] rfl
                  obtain ⟨q9, hq9, h⟩ := bS h
                  refine rcI (va_runS (As := [.ref (g 0), .long xNow, .int p1, .int (x6_51 / 2), .int (x6_51 - x6_51 / 2 * 2)]) (rest := []) ⟨hx, hb, hml, hown, hts⟩ (c_gb_isContent l D cI cJ cZ g fPk fWn fGw fGk fOw fSt fPe fHo fGr fPa fFt s.heap hG xNow p1 (x6_51 / 2) (x6_51 - x6_51 / 2 * 2) q9 hq9) (va_cwS 5 hts gX11_rests_X4_isContent rfl rfl rfl (by decide +kernel) ⟨Nat.le_of_ble_eq_true rfl, Nat.le_of_ble_eq_true rfl⟩) (rPreS hK) rfl rfl hl.1 rfl (lv_room (Nat.le_of_ble_eq_true rfl)) dX11_rests_82 ⟨Nat.zero_le _, Nat.zero_le _⟩) ?_
                  refine lv_if_eq (tgt := 130) hx hb dX11_rests_85 (by decide) (fun c10 => ?_) (fun c10 => ?_)
                  · have h := iT c10 h
                    refine lv_iinc (v := (x6_51 + 1)) (lv' := [(6, .int (x6_51 + 1)), (8, .int (x6_51 - x6_51 / 2 * 2)), (7, .int (x6_51 / 2)), (5, .int x5_51), (4, .int x4_51), (0, .ref (a 0)), (1, .int p1), (2, .int p2), (3, .int p3)]) hx hb dX11_rests_130 hl (k := 2) rfl rfl (by decide) rfl (fun ls hl => ?_)
                    refine lv_goto (tgt := 51) hx hb dX11_rests_133 (by decide) ?_
                    exact ih _ _ _ _ _ h (lv_sub hl [0, 3, 4, 5, 6, 7, 8] rfl) hk
                  · have h := iF c10 h
                    refine lv_aload_n hx hb dX11_rests_88 rfl (lv_at hl 5 rfl) ?_
                    refine va_get (D := D) (ci := 4) (v := .ref (g 0)) (C := RX11) (T := TX11) (N := 11) hx hb hts hiX11 hown hK.1 hP 0 rfl rfl 2 (by decide) (hts (.fieldLink RX11 16 "WinnowedGuilt" "ground" "LWinnowedGuilt$Floor;") (by decide +kernel)) (fun _ h9 => h9) rfl dX11_rests_89 ?_
                    refine lv_aload_n hx hb dX11_rests_92 rfl (lv_at hl 5 rfl) ?_
                    refine va_get (D := D) (ci := 4) (v := .long xNow) (C := RX11) (T := TX11) (N := 11) hx hb hts hiX11 hown hK.1 hP 0 rfl rfl 4 (by decide) (hts (.fieldLink RX11 27 "WinnowedGuilt" "now" "J") (by decide +kernel)) (fun _ h9 => h9) rfl dX11_rests_93 ?_
                    refine lv_iload_n hx hb dX11_rests_96 rfl (lv_at hl 7 rfl) ?_
                    refine lv_iload hx hb dX11_rests_97 (lv_at hl 0 rfl) ?_
                    refine lv_iload hx hb dX11_rests_99 (lv_at hl 1 rfl) ?_
                    have hG := hP.sub (ws' := (fW g cI fPk fWn fGw fGk fOw fSt fPe fHo fGr fPa fFt)) [13, 14, 15, 16, 17, 18, 19] rfl
                    obtain ⟨q11, hq11, h⟩ := bS h
                    refine rcI (va_runS (As := [.ref (g 0), .long xNow, .int p2, .int (x6_51 - x6_51 / 2 * 2), .int (x6_51 / 2)]) (rest := []) ⟨hx, hb, hml, hown, hts⟩ (c_gb_isContent l D cI cJ cZ g fPk fWn fGw fGk fOw fSt fPe fHo fGr fPa fFt s.heap hG xNow p2 (x6_51 - x6_51 / 2 * 2) (x6_51 / 2) q11 hq11) (va_cwS 5 hts gX11_rests_X4_isContent rfl rfl rfl (by decide +kernel) ⟨Nat.le_of_ble_eq_true rfl, Nat.le_of_ble_eq_true rfl⟩) (rPreS hK) rfl rfl hl.1 rfl (lv_room (Nat.le_of_ble_eq_true rfl)) dX11_rests_101 ⟨Nat.zero_le _, Nat.zero_le _⟩) ?_
                    refine lv_if_eq (tgt := 130) hx hb dX11_rests_104 (by decide) (fun c12 => ?_) (fun c12 => ?_)
                    · have h := iT c12 h
                      refine lv_iinc (v := (x6_51 + 1)) (lv' := [(6, .int (x6_51 + 1)), (8, .int (x6_51 - x6_51 / 2 * 2)), (7, .int (x6_51 / 2)), (5, .int x5_51), (4, .int x4_51), (0, .ref (a 0)), (1, .int p1), (2, .int p2), (3, .int p3)]) hx hb dX11_rests_130 hl (k := 2) rfl rfl (by decide) rfl (fun ls hl => ?_)
                      refine lv_goto (tgt := 51) hx hb dX11_rests_133 (by decide) ?_
                      exact ih _ _ _ _ _ h (lv_sub hl [0, 3, 4, 5, 6, 7, 8] rfl) hk
                    · have h := iF c12 h
                      refine lv_iload hx hb dX11_rests_107 (lv_at hl 4 rfl) ?_
                      refine lv_if_ne (tgt := 123) hx hb dX11_rests_109 (by decide) (fun c13 => ?_) (fun c13 => ?_)
                      · have h := iF c13 h
                        refine lv_iload hx hb dX11_rests_123 (lv_at hl 3 rfl) ?_
                        refine lv_istore (lv' := [(5, .int x5_51), (8, .int (x6_51 - x6_51 / 2 * 2)), (7, .int (x6_51 / 2)), (6, .int x6_51), (4, .int x4_51), (0, .ref (a 0)), (1, .int p1), (2, .int p2), (3, .int p3)]) hx hb dX11_rests_125 hl (by decide) rfl (fun ls hl => ?_)
                        refine lv_iinc (v := (x4_51 + 1)) (lv' := [(4, .int (x4_51 + 1)), (5, .int x5_51), (8, .int (x6_51 - x6_51 / 2 * 2)), (7, .int (x6_51 / 2)), (6, .int x6_51), (0, .ref (a 0)), (1, .int p1), (2, .int p2), (3, .int p3)]) hx hb dX11_rests_127 hl (k := 4) rfl rfl (by decide) rfl (fun ls hl => ?_)
                        refine lv_iinc (v := (x6_51 + 1)) (lv' := [(6, .int (x6_51 + 1)), (4, .int (x4_51 + 1)), (5, .int x5_51), (8, .int (x6_51 - x6_51 / 2 * 2)), (7, .int (x6_51 / 2)), (0, .ref (a 0)), (1, .int p1), (2, .int p2), (3, .int p3)]) hx hb dX11_rests_130 hl (k := 4) rfl rfl (by decide) rfl (fun ls hl => ?_)
                        refine lv_goto (tgt := 51) hx hb dX11_rests_133 (by decide) ?_
                        exact ih _ _ _ _ _ h (lv_sub hl [0, 2, 1, 5, 6, 7, 8] rfl) hk
                      · have h := iT c13 h
                        refine lv_bipush (v := 10) hx hb dX11_rests_112 (by decide) ?_
                        refine lv_iload hx hb dX11_rests_114 (lv_at hl 1 rfl) ?_
                        refine lv_imul hx hb dX11_rests_116 ?_
                        refine lv_iload hx hb dX11_rests_117 (lv_at hl 0 rfl) ?_
                        refine lv_iadd hx hb dX11_rests_119 ?_
                        refine lv_goto (tgt := 125) hx hb dX11_rests_120 (by decide) ?_
                        refine lv_istore (lv' := [(5, .int ((10 * (x6_51 / 2)) + (x6_51 - x6_51 / 2 * 2))), (8, .int (x6_51 - x6_51 / 2 * 2)), (7, .int (x6_51 / 2)), (6, .int x6_51), (4, .int x4_51), (0, .ref (a 0)), (1, .int p1), (2, .int p2), (3, .int p3)]) hx hb dX11_rests_125 hl (by decide) rfl (fun ls hl => ?_)
                        refine lv_iinc (v := (x4_51 + 1)) (lv' := [(4, .int (x4_51 + 1)), (5, .int ((10 * (x6_51 / 2)) + (x6_51 - x6_51 / 2 * 2))), (8, .int (x6_51 - x6_51 / 2 * 2)), (7, .int (x6_51 / 2)), (6, .int x6_51), (0, .ref (a 0)), (1, .int p1), (2, .int p2), (3, .int p3)]) hx hb dX11_rests_127 hl (k := 4) rfl rfl (by decide) rfl (fun ls hl => ?_)
                        refine lv_iinc (v := (x6_51 + 1)) (lv' := [(6, .int (x6_51 + 1)), (4, .int (x4_51 + 1)), (5, .int ((10 * (x6_51 / 2)) + (x6_51 - x6_51 / 2 * 2))), (8, .int (x6_51 - x6_51 / 2 * 2)), (7, .int (x6_51 / 2)), (0, .ref (a 0)), (1, .int p1), (2, .int p2), (3, .int p3)]) hx hb dX11_rests_130 hl (k := 4) rfl rfl (by decide) rfl (fun ls hl => ?_)
                        refine lv_goto (tgt := 51) hx hb dX11_rests_133 (by decide) ?_
                        exact ih _ _ _ _ _ h (lv_sub hl [0, 2, 1, 5, 6, 7, 8] rfl) hk
            refine L51 _ _ _ _ _ _ h hl (fun y6_51 y5_51 y4_51 ls h hl => ?_)
            refine lv_iload_n hx hb dX11_rests_136 rfl (lv_at hl 6 rfl) ?_
            refine lv_if_ne (tgt := 145) hx hb dX11_rests_137 (by decide) (fun c8 => ?_) (fun c8 => ?_)
            · have h := iF c8 h
              refine lv_iload hx hb dX11_rests_145 (lv_at hl 1 rfl) ?_
              exact W.iret hx hb hr (fun t ht _ => ⟨_, rfl, Option.some.inj h, ht⟩) (fun _ q => absurd q List.not_mem_nil) dX11_rests_147
            · have h := iT c8 h
              refine lv_iload hx hb dX11_rests_140 (lv_at hl 2 rfl) ?_
              refine lv_goto (tgt := 147) hx hb dX11_rests_142 (by decide) ?_
              exact W.iret hx hb hr (fun t ht _ => ⟨_, rfl, Option.some.inj h, ht⟩) (fun _ q => absurd q List.not_mem_nil) dX11_rests_147
          · have h := iF c7 h
            refine lv_bipush (v := (-2)) hx hb dX11_rests_38 (by decide) ?_
            exact W.iret hx hb hr (fun t ht _ => ⟨_, rfl, Option.some.inj h, ht⟩) (fun _ q => absurd q List.not_mem_nil) dX11_rests_40
    · have h := iT c4 h
      refine lv_iconst (v := (-1)) hx hb dX11_rests_22 (by decide) ?_
      exact W.iret hx hb hr (fun t ht _ => ⟨_, rfl, Option.some.inj h, ht⟩) (fun _ q => absurd q List.not_mem_nil) dX11_rests_23
