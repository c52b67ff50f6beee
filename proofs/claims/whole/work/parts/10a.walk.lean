set_option maxHeartbeats 4000000 in
set_option maxRecDepth 100000 in
theorem c_xx_write (l : Launch) (D : va_G) (cI cJ cZ : ClassId) (a : Nat → Nat) (g : Nat → Nat) (d : Nat → Nat) (xText : Nat → Int32) (xLetters : Int32) (xNow : Int64) (xKept : Nat → Int64) (xIsKept : Nat → Int32) (xChance : Int64) (xScenes : Nat → Int64) (xASize : Int32) (xSKinds : Nat → Int32) (xSLifts : Nat → Int32) (xSFlights : Nat → Int32) (xSSize : Int32) (xTally : Nat → Int32) (xOut : Nat → Int64) (fPk : Nat → Int32) (fWn : Nat → Int32) (fGw : Nat → Int32) (fGk : Nat → Int32) (fOw : Nat → Int32) (fSt : Nat → Int32) (fPe : Int32) (fHo : Int32) (fGr : Int32) (fPa : Int32) (fFt : Int32) (dPk : Nat → Int32) (dWn : Nat → Int32) (dGw : Nat → Int32) (dGk : Nat → Int32) (dOw : Nat → Int32) (dSt : Nat → Int32) (dPe : Int32) (dHo : Int32) (dGr : Int32) (dPa : Int32) (dFt : Int32)  (sz : Nat) (p1 : Int32) (rv : Int32) (xText_r : Nat → Int32) (xLetters_r : Int32) (h : xx_write xText xLetters p1 = some (rv, xText_r, xLetters_r)) : Met l yX11_write wsX11_write ({ frames := 0, cells := 0, slots := 0, locals := 0 } : Room) (wPc D cI cJ cZ (xW a g d cI cJ cZ (g 0) (d 0) xText xLetters xNow xKept xIsKept xChance xScenes xASize xSKinds xSLifts xSFlights xSSize xTally xOut fPk fWn fGw fGk fOw fSt fPe fHo fGr fPa fFt dPk dWn dGw dGk dOw dSt dPe dHo dGr dPa dFt) sz [.ref (a 0), .int p1]) (wQi D (xW a g d cI cJ cZ (g 0) (d 0) xText xLetters xNow xKept xIsKept xChance xScenes xASize xSKinds xSLifts xSFlights xSSize xTally xOut fPk fWn fGw fGk fOw fSt fPe fHo fGr fPa fFt dPk dWn dGw dGk dOw dSt dPe dHo dGr dPa dFt) (xW a g d cI cJ cZ (g 0) (d 0) xText_r xLetters_r xNow xKept xIsKept xChance xScenes xASize xSKinds xSLifts xSFlights xSSize xTally xOut fPk fWn fGw fGk fOw fSt fPe fHo fGr fPa fFt dPk dWn dGw dGk dOw dSt dPe dHo dGr dPa dFt) sz rv) 0 0 (va_A (xW a g d cI cJ cZ (g 0) (d 0) xText xLetters xNow xKept xIsKept xChance xScenes xASize xSKinds xSLifts xSFlights xSSize xTally xOut fPk fWn fGw fGk fOw fSt fPe fHo fGr fPa fFt dPk dWn dGw dGk dOw dSt dPe dHo dGr dPa dFt) sz) := by
  unfold xx_write at h
  refine Met.ofW (cc := cX11_write) (maxL := 2) (ret := (some .int)) (by decide) rfl ?_
  intro p e s m args below meth c s₁ B hml hv
  obtain ⟨rfl, hsz, hP, hK, hD0⟩ := hv
  have hx := B.exec
  have hb := B.bytes
  have hr := B.returns
  have hts := atoms_spec (ws := wsX11_write) B.pre
  have hown : s.vm.findClass RX11 = some m.cls := findClass_of_methodNamed B.named
  have hlocks := B.notSynchronized
  subst hsz
  have hD := hD0.self (sz := s.heap.size)
  have hA : ∀ q : Nat, s.heap.size ≤ q → va_A (xW a g d cI cJ cZ (g 0) (d 0) xText xLetters xNow xKept xIsKept xChance xScenes xASize xSKinds xSLifts xSFlights xSSize xTally xOut fPk fWn fGw fGk fOw fSt fPe fHo fGr fPa fFt dPk dWn dGw dGk dOw dSt dPe dHo dGr dPa dFt) s.heap.size q := fun q h => Or.inr h
  have hS : va_S (va_A (xW a g d cI cJ cZ (g 0) (d 0) xText xLetters xNow xKept xIsKept xChance xScenes xASize xSKinds xSLifts xSFlights xSSize xTally xOut fPk fWn fGw fGk fOw fSt fPe fHo fGr fPa fFt dPk dWn dGw dGk dOw dSt dPe dHo dGr dPa dFt) s.heap.size) s.heap s.heap [] := va_S.rf
  obtain ⟨A, hAe⟩ : ∃ A, A = va_A (xW a g d cI cJ cZ (g 0) (d 0) xText xLetters xNow xKept xIsKept xChance xScenes xASize xSKinds xSLifts xSFlights xSSize xTally xOut fPk fWn fGw fGk fOw fSt fPe fHo fGr fPa fFt dPk dWn dGw dGk dOw dSt dPe dHo dGr dPa dFt) s.heap.size := ⟨_, rfl⟩
  rw [← hAe] at hD hA hS
  have hl := lv_entry ([.ref (a 0), .int p1]) (n := 2) (Nat.le_of_ble_eq_true rfl)
  rw [lg_entry_eq]
  generalize (lg_sl ([.ref (a 0), .int p1]) ++ List.replicate (2 - (lg_sl ([.ref (a 0), .int p1])).length) Slot.unset).toArray = ls at hl ⊢
  have hl : lv_has ls 2 [(0, .ref (a 0)), (1, .int p1)] := hl
  have hiX11 : ∀ w ∈ u_ws RX11 TX11 11, w ∈ wsX11_write := fun w hw => List.mem_cons_of_mem _ (List.mem_append_right _ hw)
  refine lv_iload_n hx hb dX11_write_0 rfl (lv_at hl 1 rfl) ?_
  refine lv_if_lt (tgt := 11) hx hb dX11_write_1 (by decide) (fun c1 => ?_) (fun c1 => ?_)
  · have h := iT c1 h
    refine lv_bipush (v := (-2)) hx hb dX11_write_11 (by decide) ?_
    cases h
    subst hAe
    exact W.iret hx hb hr (fun t ht _ => ⟨⟨_, (), rfl, rfl, by rw [ht]; exact hP, hD⟩, hS.F ht⟩) hS.2.2 dX11_write_13
  · have h := iF c1 h
    refine lv_iload_n hx hb dX11_write_4 rfl (lv_at hl 1 rfl) ?_
    refine lv_sipush (v := 255) hx hb dX11_write_5 (by decide) ?_
    refine lv_icmp_le (tgt := 14) hx hb dX11_write_8 (by decide) (fun c2 => ?_) (fun c2 => ?_)
    · have h := iT c2 h
      refine lv_aload_n hx hb dX11_write_14 rfl (lv_at hl 0 rfl) ?_
      refine va_get (D := D) (ci := 4) (v := .int xLetters) (C := RX11) (T := TX11) (N := 11) hx hb hts hiX11 hown hK.1 hP 0 rfl rfl 1 (by decide) (hts (.fieldLink RX11 60 "WinnowedGuilt" "letters" "I") (by decide +kernel)) (fun _ h9 => h9) rfl dX11_write_15 ?_
      refine lv_if_lt (tgt := 33) hx hb dX11_write_18 (by decide) (fun c3 => ?_) (fun c3 => ?_)
      · have h := iT c3 h
        refine lv_bipush (v := (-4)) hx hb dX11_write_33 (by decide) ?_
        cases h
        subst hAe
        exact W.iret hx hb hr (fun t ht _ => ⟨⟨_, (), rfl, rfl, by rw [ht]; exact hP, hD⟩, hS.F ht⟩) hS.2.2 dX11_write_35
      · have h := iF c3 h
        refine lv_aload_n hx hb dX11_write_21 rfl (lv_at hl 0 rfl) ?_
        refine va_get (D := D) (ci := 4) (v := .int xLetters) (C := RX11) (T := TX11) (N := 11) hx hb hts hiX11 hown hK.1 hP 0 rfl rfl 1 (by decide) (hts (.fieldLink RX11 60 "WinnowedGuilt" "letters" "I") (by decide +kernel)) (fun _ h9 => h9) rfl dX11_write_22 ?_
        refine lv_aload_n hx hb dX11_write_25 rfl (lv_at hl 0 rfl) ?_
        refine va_get (D := D) (ci := 4) (v := .ref (a 1)) (C := RX11) (T := TX11) (N := 11) hx hb hts hiX11 hown hK.1 hP 0 rfl rfl 0 (by decide) (hts (.fieldLink RX11 9 "WinnowedGuilt" "text" "[I") (by decide +kernel)) (fun _ h9 => h9) rfl dX11_write_26 ?_
        refine va_alen (v := 56) hx hb hK.1 hP 1 0 rfl rfl rfl dX11_write_29 ?_
        refine lv_icmp_lt (tgt := 36) hx hb dX11_write_30 (by decide) (fun c4 => ?_) (fun c4 => ?_)
        · have h := iT c4 h
          refine lv_aload_n hx hb dX11_write_36 rfl (lv_at hl 0 rfl) ?_
          refine va_get (D := D) (ci := 4) (v := .ref (a 1)) (C := RX11) (T := TX11) (N := 11) hx hb hts hiX11 hown hK.1 hP 0 rfl rfl 0 (by decide) (hts (.fieldLink RX11 9 "WinnowedGuilt" "text" "[I") (by decide +kernel)) (fun _ h9 => h9) rfl dX11_write_37 ?_
          refine lv_aload_n hx hb dX11_write_40 rfl (lv_at hl 0 rfl) ?_
          refine va_get (D := D) (ci := 4) (v := .int xLetters) (C := RX11) (T := TX11) (N := 11) hx hb hts hiX11 hown hK.1 hP 0 rfl rfl 1 (by decide) (hts (.fieldLink RX11 60 "WinnowedGuilt" "letters" "I") (by decide +kernel)) (fun _ h9 => h9) rfl dX11_write_41 ?_
          refine lv_iload_n hx hb dX11_write_44 rfl (lv_at hl 1 rfl) ?_
          obtain ⟨hi5, h⟩ := gI_some h
          refine va_iast hx hb hK.1 hP hD hS 1 0 rfl rfl hi5 dX11_write_45 (fun H locs hP hD hS => ?_)
          have hP : va_P D vwCl (xW a g d cI cJ cZ (g 0) (d 0) (upd xText (Int32.toNatClampNeg xLetters) p1) xLetters xNow xKept xIsKept xChance xScenes xASize xSKinds xSLifts xSFlights xSSize xTally xOut fPk fWn fGw fGk fOw fSt fPe fHo fGr fPa fFt dPk dWn dGw dGk dOw dSt dPe dHo dGr dPa dFt) H := hP
          have hD : va_D A (xW a g d cI cJ cZ (g 0) (d 0) (upd xText (Int32.toNatClampNeg xLetters) p1) xLetters xNow xKept xIsKept xChance xScenes xASize xSKinds xSLifts xSFlights xSSize xTally xOut fPk fWn fGw fGk fOw fSt fPe fHo fGr fPa fFt dPk dWn dGw dGk dOw dSt dPe dHo dGr dPa dFt) := hD
          refine lv_aload_n hx hb dX11_write_46 rfl (lv_at hl 0 rfl) ?_
          refine lv_dup hx hb dX11_write_47 rfl ?_
          refine va_get (D := D) (ci := 4) (v := .int xLetters) (C := RX11) (T := TX11) (N := 11) hx hb hts hiX11 hown hK.1 hP 0 rfl rfl 1 (by decide) (hts (.fieldLink RX11 60 "WinnowedGuilt" "letters" "I") (by decide +kernel)) (fun _ h9 => h9) rfl dX11_write_48 ?_
          refine lv_iconst (v := 1) hx hb dX11_write_51 (by decide) ?_
          refine lv_iadd hx hb dX11_write_52 ?_
          refine va_put (D := D) (ci := 4) (v := .int (xLetters + 1)) (ty := .int) (C := RX11) (T := TX11) (N := 11) hx hb hts hiX11 tyX11 tyX11_ok nmX11 hown hK.1 hP hD hS 0 rfl rfl 1 (by decide) (hts (.fieldLink RX11 60 "WinnowedGuilt" "letters" "I") (by decide +kernel)) (fun _ h9 => h9) rfl (by decide +kernel) rfl rfl (Nat.le_of_ble_eq_true rfl) dX11_write_53 (fun H locs hP hD hS => ?_)
          have hP : va_P D vwCl (xW a g d cI cJ cZ (g 0) (d 0) (upd xText (Int32.toNatClampNeg xLetters) p1) (xLetters + 1) xNow xKept xIsKept xChance xScenes xASize xSKinds xSLifts xSFlights xSSize xTally xOut fPk fWn fGw fGk fOw fSt fPe fHo fGr fPa fFt dPk dWn dGw dGk dOw dSt dPe dHo dGr dPa dFt) H := hP
          have hD : va_D A (xW a g d cI cJ cZ (g 0) (d 0) (upd xText (Int32.toNatClampNeg xLetters) p1) (xLetters + 1) xNow xKept xIsKept xChance xScenes xASize xSKinds xSLifts xSFlights xSSize xTally xOut fPk fWn fGw fGk fOw fSt fPe fHo fGr fPa fFt dPk dWn dGw dGk dOw dSt dPe dHo dGr dPa dFt) := hD
          refine lv_aload_n hx hb dX11_write_56 rfl (lv_at hl 0 rfl) ?_
          refine va_get (D := D) (ci := 4) (v := .int (xLetters + 1)) (C := RX11) (T := TX11) (N := 11) hx hb hts hiX11 hown hK.1 hP 0 rfl rfl 1 (by decide) (hts (.fieldLink RX11 60 "WinnowedGuilt" "letters" "I") (by decide +kernel)) (fun _ h9 => h9) rfl dX11_write_57 ?_
          cases h
          subst hAe
          exact W.iret hx hb hr (fun t ht _ => ⟨⟨_, (), rfl, rfl, by rw [ht]; exact hP, hD⟩, hS.F ht⟩) hS.2.2 dX11_write_60
        · have h := iF c4 h
          refine lv_bipush (v := (-4)) hx hb dX11_write_33 (by decide) ?_
          cases h
          subst hAe
          exact W.iret hx hb hr (fun t ht _ => ⟨⟨_, (), rfl, rfl, by rw [ht]; exact hP, hD⟩, hS.F ht⟩) hS.2.2 dX11_write_35
    · have h := iF c2 h
      refine lv_bipush (v := (-2)) hx hb dX11_write_11 (by decide) ?_
      cases h
      subst hAe
      exact W.iret hx hb hr (fun t ht _ => ⟨⟨_, (), rfl, rfl, by rw [ht]; exact hP, hD⟩, hS.F ht⟩) hS.2.2 dX11_write_13

set_option maxHeartbeats 4000000 in
set_option maxRecDepth 100000 in
theorem c_xx_wipe (l : Launch) (D : va_G) (cI cJ cZ : ClassId) (a : Nat → Nat) (g : Nat → Nat) (d : Nat → Nat) (xText : Nat → Int32) (xLetters : Int32) (xNow : Int64) (xKept : Nat → Int64) (xIsKept : Nat → Int32) (xChance : Int64) (xScenes : Nat → Int64) (xASize : Int32) (xSKinds : Nat → Int32) (xSLifts : Nat → Int32) (xSFlights : Nat → Int32) (xSSize : Int32) (xTally : Nat → Int32) (xOut : Nat → Int64) (fPk : Nat → Int32) (fWn : Nat → Int32) (fGw : Nat → Int32) (fGk : Nat → Int32) (fOw : Nat → Int32) (fSt : Nat → Int32) (fPe : Int32) (fHo : Int32) (fGr : Int32) (fPa : Int32) (fFt : Int32) (dPk : Nat → Int32) (dWn : Nat → Int32) (dGw : Nat → Int32) (dGk : Nat → Int32) (dOw : Nat → Int32) (dSt : Nat → Int32) (dPe : Int32) (dHo : Int32) (dGr : Int32) (dPa : Int32) (dFt : Int32)  (sz : Nat)  (rv : Int32) (xLetters_r : Int32) (h : xx_wipe xLetters = some (rv, xLetters_r)) : Met l yX11_wipe wsX11_wipe ({ frames := 0, cells := 0, slots := 0, locals := 0 } : Room) (wPc D cI cJ cZ (xW a g d cI cJ cZ (g 0) (d 0) xText xLetters xNow xKept xIsKept xChance xScenes xASize xSKinds xSLifts xSFlights xSSize xTally xOut fPk fWn fGw fGk fOw fSt fPe fHo fGr fPa fFt dPk dWn dGw dGk dOw dSt dPe dHo dGr dPa dFt) sz [.ref (a 0)]) (wQi D (xW a g d cI cJ cZ (g 0) (d 0) xText xLetters xNow xKept xIsKept xChance xScenes xASize xSKinds xSLifts xSFlights xSSize xTally xOut fPk fWn fGw fGk fOw fSt fPe fHo fGr fPa fFt dPk dWn dGw dGk dOw dSt dPe dHo dGr dPa dFt) (xW a g d cI cJ cZ (g 0) (d 0) xText xLetters_r xNow xKept xIsKept xChance xScenes xASize xSKinds xSLifts xSFlights xSSize xTally xOut fPk fWn fGw fGk fOw fSt fPe fHo fGr fPa fFt dPk dWn dGw dGk dOw dSt dPe dHo dGr dPa dFt) sz rv) 0 0 (va_A (xW a g d cI cJ cZ (g 0) (d 0) xText xLetters xNow xKept xIsKept xChance xScenes xASize xSKinds xSLifts xSFlights xSSize xTally xOut fPk fWn fGw fGk fOw fSt fPe fHo fGr fPa fFt dPk dWn dGw dGk dOw dSt dPe dHo dGr dPa dFt) sz) := by
  unfold xx_wipe at h
  refine Met.ofW (cc := cX11_wipe) (maxL := 2) (ret := (some .int)) (by decide) rfl ?_
  intro p e s m args below meth c s₁ B hml hv
  obtain ⟨rfl, hsz, hP, hK, hD0⟩ := hv
  have hx := B.exec
  have hb := B.bytes
  have hr := B.returns
  have hts := atoms_spec (ws := wsX11_wipe) B.pre
  have hown : s.vm.findClass RX11 = some m.cls := findClass_of_methodNamed B.named
  have hlocks := B.notSynchronized
  subst hsz
  have hD := hD0.self (sz := s.heap.size)
  have hA : ∀ q : Nat, s.heap.size ≤ q → va_A (xW a g d cI cJ cZ (g 0) (d 0) xText xLetters xNow xKept xIsKept xChance xScenes xASize xSKinds xSLifts xSFlights xSSize xTally xOut fPk fWn fGw fGk fOw fSt fPe fHo fGr fPa fFt dPk dWn dGw dGk dOw dSt dPe dHo dGr dPa dFt) s.heap.size q := fun q h => Or.inr h
  have hS : va_S (va_A (xW a g d cI cJ cZ (g 0) (d 0) xText xLetters xNow xKept xIsKept xChance xScenes xASize xSKinds xSLifts xSFlights xSSize xTally xOut fPk fWn fGw fGk fOw fSt fPe fHo fGr fPa fFt dPk dWn dGw dGk dOw dSt dPe dHo dGr dPa dFt) s.heap.size) s.heap s.heap [] := va_S.rf
  obtain ⟨A, hAe⟩ : ∃ A, A = va_A (xW a g d cI cJ cZ (g 0) (d 0) xText xLetters xNow xKept xIsKept xChance xScenes xASize xSKinds xSLifts xSFlights xSSize xTally xOut fPk fWn fGw fGk fOw fSt fPe fHo fGr fPa fFt dPk dWn dGw dGk dOw dSt dPe dHo dGr dPa dFt) s.heap.size := ⟨_, rfl⟩
  rw [← hAe] at hD hA hS
  have hl := lv_entry ([.ref (a 0)]) (n := 2) (Nat.le_of_ble_eq_true rfl)
  rw [lg_entry_eq]
  generalize (lg_sl ([.ref (a 0)]) ++ List.replicate (2 - (lg_sl ([.ref (a 0)])).length) Slot.unset).toArray = ls at hl ⊢
  have hl : lv_has ls 2 [(0, .ref (a 0))] := hl
  have hiX11 : ∀ w ∈ u_ws RX11 TX11 11, w ∈ wsX11_wipe := fun w hw => List.mem_cons_of_mem _ (List.mem_append_right _ hw)
  refine lv_aload_n hx hb dX11_wipe_0 rfl (lv_at hl 0 rfl) ?_
  refine va_get (D := D) (ci := 4) (v := .int xLetters) (C := RX11) (T := TX11) (N := 11) hx hb hts hiX11 hown hK.1 hP 0 rfl rfl 1 (by decide) (hts (.fieldLink RX11 60 "WinnowedGuilt" "letters" "I") (by decide +kernel)) (fun _ h9 => h9) rfl dX11_wipe_1 ?_
  refine lv_istore_n (lv' := [(1, .int xLetters), (0, .ref (a 0))]) hx hb dX11_wipe_4 rfl hl (by decide) rfl (fun ls hl => ?_)
  refine lv_aload_n hx hb dX11_wipe_5 rfl (lv_at hl 1 rfl) ?_
  refine lv_iconst (v := 0) hx hb dX11_wipe_6 (by decide) ?_
  refine va_put (D := D) (ci := 4) (v := .int 0) (ty := .int) (C := RX11) (T := TX11) (N := 11) hx hb hts hiX11 tyX11 tyX11_ok nmX11 hown hK.1 hP hD hS 0 rfl rfl 1 (by decide) (hts (.fieldLink RX11 60 "WinnowedGuilt" "letters" "I") (by decide +kernel)) (fun _ h9 => h9) rfl (by decide +kernel) rfl rfl (Nat.le_of_ble_eq_true rfl) dX11_wipe_7 (fun H locs hP hD hS => ?_)
  have hP : va_P D vwCl (xW a g d cI cJ cZ (g 0) (d 0) xText 0 xNow xKept xIsKept xChance xScenes xASize xSKinds xSLifts xSFlights xSSize xTally xOut fPk fWn fGw fGk fOw fSt fPe fHo fGr fPa fFt dPk dWn dGw dGk dOw dSt dPe dHo dGr dPa dFt) H := hP
  have hD : va_D A (xW a g d cI cJ cZ (g 0) (d 0) xText 0 xNow xKept xIsKept xChance xScenes xASize xSKinds xSLifts xSFlights xSSize xTally xOut fPk fWn fGw fGk fOw fSt fPe fHo fGr fPa fFt dPk dWn dGw dGk dOw dSt dPe dHo dGr dPa dFt) := hD
  refine lv_iload_n hx hb dX11_wipe_10 rfl (lv_at hl 0 rfl) ?_
  cases h
  subst hAe
  exact W.iret hx hb hr (fun t ht _ => ⟨⟨_, (), rfl, rfl, by rw [ht]; exact hP, hD⟩, hS.F ht⟩) hS.2.2 dX11_wipe_11

set_option maxHeartbeats 4000000 in
set_option maxRecDepth 100000 in
theorem c_fl_puts_3 (l : Launch) (D : va_G) (cI cJ cZ : ClassId) (a : Nat → Nat) (g : Nat → Nat) (d : Nat → Nat) (xText : Nat → Int32) (xLetters : Int32) (xNow : Int64) (xKept : Nat → Int64) (xIsKept : Nat → Int32) (xChance : Int64) (xScenes : Nat → Int64) (xASize : Int32) (xSKinds : Nat → Int32) (xSLifts : Nat → Int32) (xSFlights : Nat → Int32) (xSSize : Int32) (xTally : Nat → Int32) (xOut : Nat → Int64) (fPk : Nat → Int32) (fWn : Nat → Int32) (fGw : Nat → Int32) (fGk : Nat → Int32) (fOw : Nat → Int32) (fSt : Nat → Int32) (fPe : Int32) (fHo : Int32) (fGr : Int32) (fPa : Int32) (fFt : Int32) (dPk : Nat → Int32) (dWn : Nat → Int32) (dGw : Nat → Int32) (dGk : Nat → Int32) (dOw : Nat → Int32) (dSt : Nat → Int32) (dPe : Int32) (dHo : Int32) (dGr : Int32) (dPa : Int32) (dFt : Int32)  (sz : Nat) (p2 : Int32) (rv : Int32) (dGw_r : Nat → Int32) (h : fl_puts_3 dGw dGr p2 = some (rv, dGw_r)) : Met l yX3_puts wsX3_puts ({ frames := 0, cells := 0, slots := 0, locals := 0 } : Room) (wPc D cI cJ cZ (xW a g d cI cJ cZ (g 0) (d 0) xText xLetters xNow xKept xIsKept xChance xScenes xASize xSKinds xSLifts xSFlights xSSize xTally xOut fPk fWn fGw fGk fOw fSt fPe fHo fGr fPa fFt dPk dWn dGw dGk dOw dSt dPe dHo dGr dPa dFt) sz [.ref (d 0), .ref (d 3), .int p2]) (wQi D (xW a g d cI cJ cZ (g 0) (d 0) xText xLetters xNow xKept xIsKept xChance xScenes xASize xSKinds xSLifts xSFlights xSSize xTally xOut fPk fWn fGw fGk fOw fSt fPe fHo fGr fPa fFt dPk dWn dGw dGk dOw dSt dPe dHo dGr dPa dFt) (xW a g d cI cJ cZ (g 0) (d 0) xText xLetters xNow xKept xIsKept xChance xScenes xASize xSKinds xSLifts xSFlights xSSize xTally xOut fPk fWn fGw fGk fOw fSt fPe fHo fGr fPa fFt dPk dWn dGw_r dGk dOw dSt dPe dHo dGr dPa dFt) sz rv) 0 0 (va_A (xW a g d cI cJ cZ (g 0) (d 0) xText xLetters xNow xKept xIsKept xChance xScenes xASize xSKinds xSLifts xSFlights xSSize xTally xOut fPk fWn fGw fGk fOw fSt fPe fHo fGr fPa fFt dPk dWn dGw dGk dOw dSt dPe dHo dGr dPa dFt) sz) := by
  unfold fl_puts_3 at h
  refine Met.ofW (cc := cX3_puts) (maxL := 3) (ret := (some .boolean)) (by decide) rfl ?_
  intro p e s m args below meth c s₁ B hml hv
  obtain ⟨rfl, hsz, hP, hK, hD0⟩ := hv
  have hx := B.exec
  have hb := B.bytes
  have hr := B.returns
  have hts := atoms_spec (ws := wsX3_puts) B.pre
  have hown : s.vm.findClass RX3 = some m.cls := findClass_of_methodNamed B.named
  have hlocks := B.notSynchronized
  subst hsz
  have hD := hD0.self (sz := s.heap.size)
  have hA : ∀ q : Nat, s.heap.size ≤ q → va_A (xW a g d cI cJ cZ (g 0) (d 0) xText xLetters xNow xKept xIsKept xChance xScenes xASize xSKinds xSLifts xSFlights xSSize xTally xOut fPk fWn fGw fGk fOw fSt fPe fHo fGr fPa fFt dPk dWn dGw dGk dOw dSt dPe dHo dGr dPa dFt) s.heap.size q := fun q h => Or.inr h
  have hS : va_S (va_A (xW a g d cI cJ cZ (g 0) (d 0) xText xLetters xNow xKept xIsKept xChance xScenes xASize xSKinds xSLifts xSFlights xSSize xTally xOut fPk fWn fGw fGk fOw fSt fPe fHo fGr fPa fFt dPk dWn dGw dGk dOw dSt dPe dHo dGr dPa dFt) s.heap.size) s.heap s.heap [] := va_S.rf
  obtain ⟨A, hAe⟩ : ∃ A, A = va_A (xW a g d cI cJ cZ (g 0) (d 0) xText xLetters xNow xKept xIsKept xChance xScenes xASize xSKinds xSLifts xSFlights xSSize xTally xOut fPk fWn fGw fGk fOw fSt fPe fHo fGr fPa fFt dPk dWn dGw dGk dOw dSt dPe dHo dGr dPa dFt) s.heap.size := ⟨_, rfl⟩
  rw [← hAe] at hD hA hS
  have hl := lv_entry ([.ref (d 0), .ref (d 3), .int p2]) (n := 3) (Nat.le_of_ble_eq_true rfl)
  rw [lg_entry_eq]
  generalize (lg_sl ([.ref (d 0), .ref (d 3), .int p2]) ++ List.replicate (3 - (lg_sl ([.ref (d 0), .ref (d 3), .int p2])).length) Slot.unset).toArray = ls at hl ⊢
  have hl : lv_has ls 3 [(0, .ref (d 0)), (1, .ref (d 3)), (2, .int p2)] := hl
  have hiX3 : ∀ w ∈ u_ws RX3 TX3 11, w ∈ wsX3_puts := fun w hw => List.mem_cons_of_mem _ (List.mem_append_right _ hw)
  refine lv_aload_n hx hb dX3_puts_0 rfl (lv_at hl 0 rfl) ?_
  refine va_get (D := D) (ci := 2) (v := .int dGr) (C := RX3) (T := TX3) (N := 11) hx hb hts hiX3 hown hK.1 hP 20 rfl rfl 8 (by decide) (hts (.fieldLink RX3 37 "WinnowedGuilt$Floor" "grains" "I") (by decide +kernel)) (fun _ h9 => h9) rfl dX3_puts_1 ?_
  refine lv_if_lt (tgt := 16) hx hb dX3_puts_4 (by decide) (fun c1 => ?_) (fun c1 => ?_)
  · have h := iT c1 h
    refine lv_iconst (v := 0) hx hb dX3_puts_16 (by decide) ?_
    cases h
    subst hAe
    exact W.zret hx hb hr (by decide) (fun t ht _ => ⟨⟨_, (), rfl, rfl, by rw [ht]; exact hP, hD⟩, hS.F ht⟩) hS.2.2 dX3_puts_17
  · have h := iF c1 h
    refine lv_aload_n hx hb dX3_puts_7 rfl (lv_at hl 0 rfl) ?_
    refine va_get (D := D) (ci := 2) (v := .int dGr) (C := RX3) (T := TX3) (N := 11) hx hb hts hiX3 hown hK.1 hP 20 rfl rfl 8 (by decide) (hts (.fieldLink RX3 37 "WinnowedGuilt$Floor" "grains" "I") (by decide +kernel)) (fun _ h9 => h9) rfl dX3_puts_8 ?_
    refine lv_aload_n hx hb dX3_puts_11 rfl (lv_at hl 1 rfl) ?_
    refine va_alen (v := 7) hx hb hK.1 hP 23 0 rfl rfl rfl dX3_puts_12 ?_
    refine lv_icmp_lt (tgt := 18) hx hb dX3_puts_13 (by decide) (fun c2 => ?_) (fun c2 => ?_)
    · have h := iT c2 h
      refine lv_aload_n hx hb dX3_puts_18 rfl (lv_at hl 1 rfl) ?_
      refine lv_aload_n hx hb dX3_puts_19 rfl (lv_at hl 0 rfl) ?_
      refine va_get (D := D) (ci := 2) (v := .int dGr) (C := RX3) (T := TX3) (N := 11) hx hb hts hiX3 hown hK.1 hP 20 rfl rfl 8 (by decide) (hts (.fieldLink RX3 37 "WinnowedGuilt$Floor" "grains" "I") (by decide +kernel)) (fun _ h9 => h9) rfl dX3_puts_20 ?_
      refine lv_iload_n hx hb dX3_puts_23 rfl (lv_at hl 2 rfl) ?_
      obtain ⟨hi3, h⟩ := gI_some h
      refine va_iast hx hb hK.1 hP hD hS 23 0 rfl rfl hi3 dX3_puts_24 (fun H locs hP hD hS => ?_)
      have hP : va_P D vwCl (xW a g d cI cJ cZ (g 0) (d 0) xText xLetters xNow xKept xIsKept xChance xScenes xASize xSKinds xSLifts xSFlights xSSize xTally xOut fPk fWn fGw fGk fOw fSt fPe fHo fGr fPa fFt dPk dWn (upd dGw (Int32.toNatClampNeg dGr) p2) dGk dOw dSt dPe dHo dGr dPa dFt) H := hP
      have hD : va_D A (xW a g d cI cJ cZ (g 0) (d 0) xText xLetters xNow xKept xIsKept xChance xScenes xASize xSKinds xSLifts xSFlights xSSize xTally xOut fPk fWn fGw fGk fOw fSt fPe fHo fGr fPa fFt dPk dWn (upd dGw (Int32.toNatClampNeg dGr) p2) dGk dOw dSt dPe dHo dGr dPa dFt) := hD
      refine lv_iconst (v := 1) hx hb dX3_puts_25 (by decide) ?_
      cases h
      subst hAe
      exact W.zret hx hb hr (by decide) (fun t ht _ => ⟨⟨_, (), rfl, rfl, by rw [ht]; exact hP, hD⟩, hS.F ht⟩) hS.2.2 dX3_puts_26
    · have h := iF c2 h
      refine lv_iconst (v := 0) hx hb dX3_puts_16 (by decide) ?_
      cases h
      subst hAe
      exact W.zret hx hb hr (by decide) (fun t ht _ => ⟨⟨_, (), rfl, rfl, by rw [ht]; exact hP, hD⟩, hS.F ht⟩) hS.2.2 dX3_puts_17

set_option maxHeartbeats 4000000 in
set_option maxRecDepth 100000 in
theorem c_fl_puts_4 (l : Launch) (D : va_G) (cI cJ cZ : ClassId) (a : Nat → Nat) (g : Nat → Nat) (d : Nat → Nat) (xText : Nat → Int32) (xLetters : Int32) (xNow : Int64) (xKept : Nat → Int64) (xIsKept : Nat → Int32) (xChance : Int64) (xScenes : Nat → Int64) (xASize : Int32) (xSKinds : Nat → Int32) (xSLifts : Nat → Int32) (xSFlights : Nat → Int32) (xSSize : Int32) (xTally : Nat → Int32) (xOut : Nat → Int64) (fPk : Nat → Int32) (fWn : Nat → Int32) (fGw : Nat → Int32) (fGk : Nat → Int32) (fOw : Nat → Int32) (fSt : Nat → Int32) (fPe : Int32) (fHo : Int32) (fGr : Int32) (fPa : Int32) (fFt : Int32) (dPk : Nat → Int32) (dWn : Nat → Int32) (dGw : Nat → Int32) (dGk : Nat → Int32) (dOw : Nat → Int32) (dSt : Nat → Int32) (dPe : Int32) (dHo : Int32) (dGr : Int32) (dPa : Int32) (dFt : Int32)  (sz : Nat) (p2 : Int32) (rv : Int32) (dGk_r : Nat → Int32) (h : fl_puts_4 dGk dGr p2 = some (rv, dGk_r)) : Met l yX3_puts wsX3_puts ({ frames := 0, cells := 0, slots := 0, locals := 0 } : Room) (wPc D cI cJ cZ (xW a g d cI cJ cZ (g 0) (d 0) xText xLetters xNow xKept xIsKept xChance xScenes xASize xSKinds xSLifts xSFlights xSSize xTally xOut fPk fWn fGw fGk fOw fSt fPe fHo fGr fPa fFt dPk dWn dGw dGk dOw dSt dPe dHo dGr dPa dFt) sz [.ref (d 0), .ref (d 4), .int p2]) (wQi D (xW a g d cI cJ cZ (g 0) (d 0) xText xLetters xNow xKept xIsKept xChance xScenes xASize xSKinds xSLifts xSFlights xSSize xTally xOut fPk fWn fGw fGk fOw fSt fPe fHo fGr fPa fFt dPk dWn dGw dGk dOw dSt dPe dHo dGr dPa dFt) (xW a g d cI cJ cZ (g 0) (d 0) xText xLetters xNow xKept xIsKept xChance xScenes xASize xSKinds xSLifts xSFlights xSSize xTally xOut fPk fWn fGw fGk fOw fSt fPe fHo fGr fPa fFt dPk dWn dGw dGk_r dOw dSt dPe dHo dGr dPa dFt) sz rv) 0 0 (va_A (xW a g d cI cJ cZ (g 0) (d 0) xText xLetters xNow xKept xIsKept xChance xScenes xASize xSKinds xSLifts xSFlights xSSize xTally xOut fPk fWn fGw fGk fOw fSt fPe fHo fGr fPa fFt dPk dWn dGw dGk dOw dSt dPe dHo dGr dPa dFt) sz) := by
  unfold fl_puts_4 at h
  refine Met.ofW (cc := cX3_puts) (maxL := 3) (ret := (some .boolean)) (by decide) rfl ?_
  intro p e s m args below meth c s₁ B hml hv
  obtain ⟨rfl, hsz, hP, hK, hD0⟩ := hv
  have hx := B.exec
  have hb := B.bytes
  have hr := B.returns
  have hts := atoms_spec (ws := wsX3_puts) B.pre
  have hown : s.vm.findClass RX3 = some m.cls := findClass_of_methodNamed B.named
  have hlocks := B.notSynchronized
  subst hsz
  have hD := hD0.self (sz := s.heap.size)
  have hA : ∀ q : Nat, s.heap.size ≤ q → va_A (xW a g d cI cJ cZ (g 0) (d 0) xText xLetters xNow xKept xIsKept xChance xScenes xASize xSKinds xSLifts xSFlights xSSize xTally xOut fPk fWn fGw fGk fOw fSt fPe fHo fGr fPa fFt dPk dWn dGw dGk dOw dSt dPe dHo dGr dPa dFt) s.heap.size q := fun q h => Or.inr h
  have hS : va_S (va_A (xW a g d cI cJ cZ (g 0) (d 0) xText xLetters xNow xKept xIsKept xChance xScenes xASize xSKinds xSLifts xSFlights xSSize xTally xOut fPk fWn fGw fGk fOw fSt fPe fHo fGr fPa fFt dPk dWn dGw dGk dOw dSt dPe dHo dGr dPa dFt) s.heap.size) s.heap s.heap [] := va_S.rf
  obtain ⟨A, hAe⟩ : ∃ A, A = va_A (xW a g d cI cJ cZ (g 0) (d 0) xText xLetters xNow xKept xIsKept xChance xScenes xASize xSKinds xSLifts xSFlights xSSize xTally xOut fPk fWn fGw fGk fOw fSt fPe fHo fGr fPa fFt dPk dWn dGw dGk dOw dSt dPe dHo dGr dPa dFt) s.heap.size := ⟨_, rfl⟩
  rw [← hAe] at hD hA hS
  have hl := lv_entry ([.ref (d 0), .ref (d 4), .int p2]) (n := 3) (Nat.le_of_ble_eq_true rfl)
  rw [lg_entry_eq]
  generalize (lg_sl ([.ref (d 0), .ref (d 4), .int p2]) ++ List.replicate (3 - (lg_sl ([.ref (d 0), .ref (d 4), .int p2])).length) Slot.unset).toArray = ls at hl ⊢
  have hl : lv_has ls 3 [(0, .ref (d 0)), (1, .ref (d 4)), (2, .int p2)] := hl
  have hiX3 : ∀ w ∈ u_ws RX3 TX3 11, w ∈ wsX3_puts := fun w hw => List.mem_cons_of_mem _ (List.mem_append_right _ hw)
  refine lv_aload_n hx hb dX3_puts_0 rfl (lv_at hl 0 rfl) ?_
  refine va_get (D := D) (ci := 2) (v := .int dGr) (C := RX3) (T := TX3) (N := 11) hx hb hts hiX3 hown hK.1 hP 20 rfl rfl 8 (by decide) (hts (.fieldLink RX3 37 "WinnowedGuilt$Floor" "grains" "I") (by decide +kernel)) (fun _ h9 => h9) rfl dX3_puts_1 ?_
  refine lv_if_lt (tgt := 16) hx hb dX3_puts_4 (by decide) (fun c1 => ?_) (fun c1 => ?_)
  · have h := iT c1 h
    refine lv_iconst (v := 0) hx hb dX3_puts_16 (by decide) ?_
    cases h
    subst hAe
    exact W.zret hx hb hr (by decide) (fun t ht _ => ⟨⟨_, (), rfl, rfl, by rw [ht]; exact hP, hD⟩, hS.F ht⟩) hS.2.2 dX3_puts_17
  · have h := iF c1 h
    refine lv_aload_n hx hb dX3_puts_7 rfl (lv_at hl 0 rfl) ?_
    refine va_get (D := D) (ci := 2) (v := .int dGr) (C := RX3) (T := TX3) (N := 11) hx hb hts hiX3 hown hK.1 hP 20 rfl rfl 8 (by decide) (hts (.fieldLink RX3 37 "WinnowedGuilt$Floor" "grains" "I") (by decide +kernel)) (fun _ h9 => h9) rfl dX3_puts_8 ?_
    refine lv_aload_n hx hb dX3_puts_11 rfl (lv_at hl 1 rfl) ?_
    refine va_alen (v := 7) hx hb hK.1 hP 24 0 rfl rfl rfl dX3_puts_12 ?_
    refine lv_icmp_lt (tgt := 18) hx hb dX3_puts_13 (by decide) (fun c2 => ?_) (fun c2 => ?_)
    · have h := iT c2 h
      refine lv_aload_n hx hb dX3_puts_18 rfl (lv_at hl 1 rfl) ?_
      refine lv_aload_n hx hb dX3_puts_19 rfl (lv_at hl 0 rfl) ?_
      refine va_get (D := D) (ci := 2) (v := .int dGr) (C := RX3) (T := TX3) (N := 11) hx hb hts hiX3 hown hK.1 hP 20 rfl rfl 8 (by decide) (hts (.fieldLink RX3 37 "WinnowedGuilt$Floor" "grains" "I") (by decide +kernel)) (fun _ h9 => h9) rfl dX3_puts_20 ?_
      refine lv_iload_n hx hb dX3_puts_23 rfl (lv_at hl 2 rfl) ?_
      obtain ⟨hi3, h⟩ := gI_some h
      refine va_iast hx hb hK.1 hP hD hS 24 0 rfl rfl hi3 dX3_puts_24 (fun H locs hP hD hS => ?_)
      have hP : va_P D vwCl (xW a g d cI cJ cZ (g 0) (d 0) xText xLetters xNow xKept xIsKept xChance xScenes xASize xSKinds xSLifts xSFlights xSSize xTally xOut fPk fWn fGw fGk fOw fSt fPe fHo fGr fPa fFt dPk dWn dGw (upd dGk (Int32.toNatClampNeg dGr) p2) dOw dSt dPe dHo dGr dPa dFt) H := hP
      have hD : va_D A (xW a g d cI cJ cZ (g 0) (d 0) xText xLetters xNow xKept xIsKept xChance xScenes xASize xSKinds xSLifts xSFlights xSSize xTally xOut fPk fWn fGw fGk fOw fSt fPe fHo fGr fPa fFt dPk dWn dGw (upd dGk (Int32.toNatClampNeg dGr) p2) dOw dSt dPe dHo dGr dPa dFt) := hD
      refine lv_iconst (v := 1) hx hb dX3_puts_25 (by decide) ?_
      cases h
      subst hAe
      exact W.zret hx hb hr (by decide) (fun t ht _ => ⟨⟨_, (), rfl, rfl, by rw [ht]; exact hP, hD⟩, hS.F ht⟩) hS.2.2 dX3_puts_26
    · have h := iF c2 h
      refine lv_iconst (v := 0) hx hb dX3_puts_16 (by decide) ?_
      cases h
      subst hAe
      exact W.zret hx hb hr (by decide) (fun t ht _ => ⟨⟨_, (), rfl, rfl, by rw [ht]; exact hP, hD⟩, hS.F ht⟩) hS.2.2 dX3_puts_17

set_option maxHeartbeats 4000000 in
set_option maxRecDepth 100000 in
theorem c_fl_isPerson (l : Launch) (D : va_G) (cI cJ cZ : ClassId) (g : Nat → Nat) (fPk : Nat → Int32) (fWn : Nat → Int32) (fGw : Nat → Int32) (fGk : Nat → Int32) (fOw : Nat → Int32) (fSt : Nat → Int32) (fPe : Int32) (fHo : Int32) (fGr : Int32) (fPa : Int32) (fFt : Int32)  (H0 : Heap) (hP : va_P D vwCl (fW g cI fPk fWn fGw fGk fOw fSt fPe fHo fGr fPa fFt) H0) (p1 : Int32) (rv : Int32) (h : fl_isPerson fPe p1 = some rv) : Met l yX3_isPerson wsX3_isPerson ({ frames := 0, cells := 0, slots := 0, locals := 0 } : Room) (rPc D cI cJ cZ H0 [.ref (g 0), .int p1]) (vp_Si (fun r => r = rv)) 0 0 (fun _ => False) := by
  unfold fl_isPerson at h
  refine Met.ofW (cc := cX3_isPerson) (maxL := 2) (ret := (some .boolean)) (by decide) rfl ?_
  intro p e s m args below meth c s₁ B hml hv
  obtain ⟨rfl, hH, hK⟩ := hv
  have hx := B.exec
  have hb := B.bytes
  have hr := B.returns
  have hts := atoms_spec (ws := wsX3_isPerson) B.pre
  have hown : s.vm.findClass RX3 = some m.cls := findClass_of_methodNamed B.named
  have hlocks := B.notSynchronized
  subst hH
  have hl := lv_entry ([.ref (g 0), .int p1]) (n := 2) (Nat.le_of_ble_eq_true rfl)
  rw [lg_entry_eq]
  generalize (lg_sl ([.ref (g 0), .int p1]) ++ List.replicate (2 - (lg_sl ([.ref (g 0), .int p1])).length) Slot.unset).toArray = ls at hl ⊢
  have hl : lv_has ls 2 [(0, .ref (g 0)), (1, .int p1)] := hl
  have hiX3 : ∀ w ∈ u_ws RX3 TX3 11, w ∈ wsX3_isPerson := fun w hw => List.mem_cons_of_mem _ (List.mem_append_right _ hw)
  refine lv_iload_n hx hb dX3_isPerson_0 rfl (lv_at hl 1 rfl) ?_
  refine lv_if_lt (tgt := 16) hx hb dX3_isPerson_1 (by decide) (fun c1 => ?_) (fun c1 => ?_)
  · have h := iT c1 h
    refine lv_iconst (v := 0) hx hb dX3_isPerson_16 (by decide) ?_
    exact W.zret hx hb hr (by decide) (fun t ht _ => ⟨_, rfl, Option.some.inj h, ht⟩) (fun _ q => absurd q List.not_mem_nil) dX3_isPerson_17
  · have h := iF c1 h
    refine lv_iload_n hx hb dX3_isPerson_4 rfl (lv_at hl 1 rfl) ?_
    refine lv_aload_n hx hb dX3_isPerson_5 rfl (lv_at hl 0 rfl) ?_
    refine va_get (D := D) (ci := 2) (v := .int fPe) (C := RX3) (T := TX3) (N := 11) hx hb hts hiX3 hown hK.1 hP 0 rfl rfl 6 (by decide) (hts (.fieldLink RX3 30 "WinnowedGuilt$Floor" "people" "I") (by decide +kernel)) (fun _ h9 => h9) rfl dX3_isPerson_6 ?_
    refine lv_icmp_ge (tgt := 16) hx hb dX3_isPerson_9 (by decide) (fun c2 => ?_) (fun c2 => ?_)
    · have h := iT c2 h
      refine lv_iconst (v := 0) hx hb dX3_isPerson_16 (by decide) ?_
      exact W.zret hx hb hr (by decide) (fun t ht _ => ⟨_, rfl, Option.some.inj h, ht⟩) (fun _ q => absurd q List.not_mem_nil) dX3_isPerson_17
    · have h := iF c2 h
      refine lv_iconst (v := 1) hx hb dX3_isPerson_12 (by decide) ?_
      refine lv_goto (tgt := 17) hx hb dX3_isPerson_13 (by decide) ?_
      exact W.zret hx hb hr (by decide) (fun t ht _ => ⟨_, rfl, Option.some.inj h, ht⟩) (fun _ q => absurd q List.not_mem_nil) dX3_isPerson_17

set_option maxHeartbeats 4000000 in
set_option maxRecDepth 100000 in
theorem c_fl_puts_5 (l : Launch) (D : va_G) (cI cJ cZ : ClassId) (a : Nat → Nat) (g : Nat → Nat) (d : Nat → Nat) (xText : Nat → Int32) (xLetters : Int32) (xNow : Int64) (xKept : Nat → Int64) (xIsKept : Nat → Int32) (xChance : Int64) (xScenes : Nat → Int64) (xASize : Int32) (xSKinds : Nat → Int32) (xSLifts : Nat → Int32) (xSFlights : Nat → Int32) (xSSize : Int32) (xTally : Nat → Int32) (xOut : Nat → Int64) (fPk : Nat → Int32) (fWn : Nat → Int32) (fGw : Nat → Int32) (fGk : Nat → Int32) (fOw : Nat → Int32) (fSt : Nat → Int32) (fPe : Int32) (fHo : Int32) (fGr : Int32) (fPa : Int32) (fFt : Int32) (dPk : Nat → Int32) (dWn : Nat → Int32) (dGw : Nat → Int32) (dGk : Nat → Int32) (dOw : Nat → Int32) (dSt : Nat → Int32) (dPe : Int32) (dHo : Int32) (dGr : Int32) (dPa : Int32) (dFt : Int32)  (sz : Nat) (p2 : Int32) (rv : Int32) (dOw_r : Nat → Int32) (h : fl_puts_5 dOw dGr p2 = some (rv, dOw_r)) : Met l yX3_puts wsX3_puts ({ frames := 0, cells := 0, slots := 0, locals := 0 } : Room) (wPc D cI cJ cZ (xW a g d cI cJ cZ (g 0) (d 0) xText xLetters xNow xKept xIsKept xChance xScenes xASize xSKinds xSLifts xSFlights xSSize xTally xOut fPk fWn fGw fGk fOw fSt fPe fHo fGr fPa fFt dPk dWn dGw dGk dOw dSt dPe dHo dGr dPa dFt) sz [.ref (d 0), .ref (d 5), .int p2]) (wQi D (xW a g d cI cJ cZ (g 0) (d 0) xText xLetters xNow xKept xIsKept xChance xScenes xASize xSKinds xSLifts xSFlights xSSize xTally xOut fPk fWn fGw fGk fOw fSt fPe fHo fGr fPa fFt dPk dWn dGw dGk dOw dSt dPe dHo dGr dPa dFt) (xW a g d cI cJ cZ (g 0) (d 0) xText xLetters xNow xKept xIsKept xChance xScenes xASize xSKinds xSLifts xSFlights xSSize xTally xOut fPk fWn fGw fGk fOw fSt fPe fHo fGr fPa fFt dPk dWn dGw dGk dOw_r dSt dPe dHo dGr dPa dFt) sz rv) 0 0 (va_A (xW a g d cI cJ cZ (g 0) (d 0) xText xLetters xNow xKept xIsKept xChance xScenes xASize xSKinds xSLifts xSFlights xSSize xTally xOut fPk fWn fGw fGk fOw fSt fPe fHo fGr fPa fFt dPk dWn dGw dGk dOw dSt dPe dHo dGr dPa dFt) sz) := by
  unfold fl_puts_5 at h
  refine Met.ofW (cc := cX3_puts) (maxL := 3) (ret := (some .boolean)) (by decide) rfl ?_
  intro p e s m args below meth c s₁ B hml hv
  obtain ⟨rfl, hsz, hP, hK, hD0⟩ := hv
  have hx := B.exec
  have hb := B.bytes
  have hr := B.returns
  have hts := atoms_spec (ws := wsX3_puts) B.pre
  have hown : s.vm.findClass RX3 = some m.cls := findClass_of_methodNamed B.named
  have hlocks := B.notSynchronized
  subst hsz
  have hD := hD0.self (sz := s.heap.size)
  have hA : ∀ q : Nat, s.heap.size ≤ q → va_A (xW a g d cI cJ cZ (g 0) (d 0) xText xLetters xNow xKept xIsKept xChance xScenes xASize xSKinds xSLifts xSFlights xSSize xTally xOut fPk fWn fGw fGk fOw fSt fPe fHo fGr fPa fFt dPk dWn dGw dGk dOw dSt dPe dHo dGr dPa dFt) s.heap.size q := fun q h => Or.inr h
  have hS : va_S (va_A (xW a g d cI cJ cZ (g 0) (d 0) xText xLetters xNow xKept xIsKept xChance xScenes xASize xSKinds xSLifts xSFlights xSSize xTally xOut fPk fWn fGw fGk fOw fSt fPe fHo fGr fPa fFt dPk dWn dGw dGk dOw dSt dPe dHo dGr dPa dFt) s.heap.size) s.heap s.heap [] := va_S.rf
  obtain ⟨A, hAe⟩ : ∃ A, A = va_A (xW a g d cI cJ cZ (g 0) (d 0) xText xLetters xNow xKept xIsKept xChance xScenes xASize xSKinds xSLifts xSFlights xSSize xTally xOut fPk fWn fGw fGk fOw fSt fPe fHo fGr fPa fFt dPk dWn dGw dGk dOw dSt dPe dHo dGr dPa dFt) s.heap.size := ⟨_, rfl⟩
  rw [← hAe] at hD hA hS
  have hl := lv_entry ([.ref (d 0), .ref (d 5), .int p2]) (n := 3) (Nat.le_of_ble_eq_true rfl)
  rw [lg_entry_eq]
  generalize (lg_sl ([.ref (d 0), .ref (d 5), .int p2]) ++ List.replicate (3 - (lg_sl ([.ref (d 0), .ref (d 5), .int p2])).length) Slot.unset).toArray = ls at hl ⊢
  have hl : lv_has ls 3 [(0, .ref (d 0)), (1, .ref (d 5)), (2, .int p2)] := hl
  have hiX3 : ∀ w ∈ u_ws RX3 TX3 11, w ∈ wsX3_puts := fun w hw => List.mem_cons_of_mem _ (List.mem_append_right _ hw)
  refine lv_aload_n hx hb dX3_puts_0 rfl (lv_at hl 0 rfl) ?_
  refine va_get (D := D) (ci := 2) (v := .int dGr) (C := RX3) (T := TX3) (N := 11) hx hb hts hiX3 hown hK.1 hP 20 rfl rfl 8 (by decide) (hts (.fieldLink RX3 37 "WinnowedGuilt$Floor" "grains" "I") (by decide +kernel)) (fun _ h9 => h9) rfl dX3_puts_1 ?_
  refine lv_if_lt (tgt := 16) hx hb dX3_puts_4 (by decide) (fun c1 => ?_) (fun c1 => ?_)
  · have h := iT c1 h
    refine lv_iconst (v := 0) hx hb dX3_puts_16 (by decide) ?_
    cases h
    subst hAe
    exact W.zret hx hb hr (by decide) (fun t ht _ => ⟨⟨_, (), rfl, rfl, by rw [ht]; exact hP, hD⟩, hS.F ht⟩) hS.2.2 dX3_puts_17
  · have h := iF c1 h
    refine lv_aload_n hx hb dX3_puts_7 rfl (lv_at hl 0 rfl) ?_
    refine va_get (D := D) (ci := 2) (v := .int dGr) (C := RX3) (T := TX3) (N := 11) hx hb hts hiX3 hown hK.1 hP 20 rfl rfl 8 (by decide) (hts (.fieldLink RX3 37 "WinnowedGuilt$Floor" "grains" "I") (by decide +kernel)) (fun _ h9 => h9) rfl dX3_puts_8 ?_
    refine lv_aload_n hx hb dX3_puts_11 rfl (lv_at hl 1 rfl) ?_
    refine va_alen (v := 7) hx hb hK.1 hP 25 0 rfl rfl rfl dX3_puts_12 ?_
    refine lv_icmp_lt (tgt := 18) hx hb dX3_puts_13 (by decide) (fun c2 => ?_) (fun c2 => ?_)
    · have h := iT c2 h
      refine lv_aload_n hx hb dX3_puts_18 rfl (lv_at hl 1 rfl) ?_
      refine lv_aload_n hx hb dX3_puts_19 rfl (lv_at hl 0 rfl) ?_
      refine va_get (D := D) (ci := 2) (v := .int dGr) (C := RX3) (T := TX3) (N := 11) hx hb hts hiX3 hown hK.1 hP 20 rfl rfl 8 (by decide) (hts (.fieldLink RX3 37 "WinnowedGuilt$Floor" "grains" "I") (by decide +kernel)) (fun _ h9 => h9) rfl dX3_puts_20 ?_
      refine lv_iload_n hx hb dX3_puts_23 rfl (lv_at hl 2 rfl) ?_
      obtain ⟨hi3, h⟩ := gI_some h
      refine va_iast hx hb hK.1 hP hD hS 25 0 rfl rfl hi3 dX3_puts_24 (fun H locs hP hD hS => ?_)
      have hP : va_P D vwCl (xW a g d cI cJ cZ (g 0) (d 0) xText xLetters xNow xKept xIsKept xChance xScenes xASize xSKinds xSLifts xSFlights xSSize xTally xOut fPk fWn fGw fGk fOw fSt fPe fHo fGr fPa fFt dPk dWn dGw dGk (upd dOw (Int32.toNatClampNeg dGr) p2) dSt dPe dHo dGr dPa dFt) H := hP
      have hD : va_D A (xW a g d cI cJ cZ (g 0) (d 0) xText xLetters xNow xKept xIsKept xChance xScenes xASize xSKinds xSLifts xSFlights xSSize xTally xOut fPk fWn fGw fGk fOw fSt fPe fHo fGr fPa fFt dPk dWn dGw dGk (upd dOw (Int32.toNatClampNeg dGr) p2) dSt dPe dHo dGr dPa dFt) := hD
      refine lv_iconst (v := 1) hx hb dX3_puts_25 (by decide) ?_
      cases h
      subst hAe
      exact W.zret hx hb hr (by decide) (fun t ht _ => ⟨⟨_, (), rfl, rfl, by rw [ht]; exact hP, hD⟩, hS.F ht⟩) hS.2.2 dX3_puts_26
    · have h := iF c2 h
      refine lv_iconst (v := 0) hx hb dX3_puts_16 (by decide) ?_
      cases h
      subst hAe
      exact W.zret hx hb hr (by decide) (fun t ht _ => ⟨⟨_, (), rfl, rfl, by rw [ht]; exact hP, hD⟩, hS.F ht⟩) hS.2.2 dX3_puts_17

set_option maxHeartbeats 4000000 in
set_option maxRecDepth 100000 in
theorem c_fl_puts_6 (l : Launch) (D : va_G) (cI cJ cZ : ClassId) (a : Nat → Nat) (g : Nat → Nat) (d : Nat → Nat) (xText : Nat → Int32) (xLetters : Int32) (xNow : Int64) (xKept : Nat → Int64) (xIsKept : Nat → Int32) (xChance : Int64) (xScenes : Nat → Int64) (xASize : Int32) (xSKinds : Nat → Int32) (xSLifts : Nat → Int32) (xSFlights : Nat → Int32) (xSSize : Int32) (xTally : Nat → Int32) (xOut : Nat → Int64) (fPk : Nat → Int32) (fWn : Nat → Int32) (fGw : Nat → Int32) (fGk : Nat → Int32) (fOw : Nat → Int32) (fSt : Nat → Int32) (fPe : Int32) (fHo : Int32) (fGr : Int32) (fPa : Int32) (fFt : Int32) (dPk : Nat → Int32) (dWn : Nat → Int32) (dGw : Nat → Int32) (dGk : Nat → Int32) (dOw : Nat → Int32) (dSt : Nat → Int32) (dPe : Int32) (dHo : Int32) (dGr : Int32) (dPa : Int32) (dFt : Int32)  (sz : Nat) (p2 : Int32) (rv : Int32) (dSt_r : Nat → Int32) (h : fl_puts_6 dSt dGr p2 = some (rv, dSt_r)) : Met l yX3_puts wsX3_puts ({ frames := 0, cells := 0, slots := 0, locals := 0 } : Room) (wPc D cI cJ cZ (xW a g d cI cJ cZ (g 0) (d 0) xText xLetters xNow xKept xIsKept xChance xScenes xASize xSKinds xSLifts xSFlights xSSize xTally xOut fPk fWn fGw fGk fOw fSt fPe fHo fGr fPa fFt dPk dWn dGw dGk dOw dSt dPe dHo dGr dPa dFt) sz [.ref (d 0), .ref (d 6), .int p2]) (wQi D (xW a g d cI cJ cZ (g 0) (d 0) xText xLetters xNow xKept xIsKept xChance xScenes xASize xSKinds xSLifts xSFlights xSSize xTally xOut fPk fWn fGw fGk fOw fSt fPe fHo fGr fPa fFt dPk dWn dGw dGk dOw dSt dPe dHo dGr dPa dFt) (xW a g d cI cJ cZ (g 0) (d 0) xText xLetters xNow xKept xIsKept xChance xScenes xASize xSKinds xSLifts xSFlights xSSize xTally xOut fPk fWn fGw fGk fOw fSt fPe fHo fGr fPa fFt dPk dWn dGw dGk dOw dSt_r dPe dHo dGr dPa dFt) sz rv) 0 0 (va_A (xW a g d cI cJ cZ (g 0) (d 0) xText xLetters xNow xKept xIsKept xChance xScenes xASize xSKinds xSLifts xSFlights xSSize xTally xOut fPk fWn fGw fGk fOw fSt fPe fHo fGr fPa fFt dPk dWn dGw dGk dOw dSt dPe dHo dGr dPa dFt) sz) := by
  unfold fl_puts_6 at h
  refine Met.ofW (cc := cX3_puts) (maxL := 3) (ret := (some .boolean)) (by decide) rfl ?_
  intro p e s m args below meth c s₁ B hml hv
  obtain ⟨rfl, hsz, hP, hK, hD0⟩ := hv
  have hx := B.exec
  have hb := B.bytes
  have hr := B.returns
  have hts := atoms_spec (ws := wsX3_puts) B.pre
  have hown : s.vm.findClass RX3 = some m.cls := findClass_of_methodNamed B.named
  have hlocks := B.notSynchronized
  subst hsz
  have hD := hD0.self (sz := s.heap.size)
  have hA : ∀ q : Nat, s.heap.size ≤ q → va_A (xW a g d cI cJ cZ (g 0) (d 0) xText xLetters xNow xKept xIsKept xChance xScenes xASize xSKinds xSLifts xSFlights xSSize xTally xOut fPk fWn fGw fGk fOw fSt fPe fHo fGr fPa fFt dPk dWn dGw dGk dOw dSt dPe dHo dGr dPa dFt) s.heap.size q := fun q h => Or.inr h
  have hS : va_S (va_A (xW a g d cI cJ cZ (g 0) (d 0) xText xLetters xNow xKept xIsKept xChance xScenes xASize xSKinds xSLifts xSFlights xSSize xTally xOut fPk fWn fGw fGk fOw fSt fPe fHo fGr fPa fFt dPk dWn dGw dGk dOw dSt dPe dHo dGr dPa dFt) s.heap.size) s.heap s.heap [] := va_S.rf
  obtain ⟨A, hAe⟩ : ∃ A, A = va_A (xW a g d cI cJ cZ (g 0) (d 0) xText xLetters xNow xKept xIsKept xChance xScenes xASize xSKinds xSLifts xSFlights xSSize xTally xOut fPk fWn fGw fGk fOw fSt fPe fHo fGr fPa fFt dPk dWn dGw dGk dOw dSt dPe dHo dGr dPa dFt) s.heap.size := ⟨_, rfl⟩
  rw [← hAe] at hD hA hS
  have hl := lv_entry ([.ref (d 0), .ref (d 6), .int p2]) (n := 3) (Nat.le_of_ble_eq_true rfl)
  rw [lg_entry_eq]
  generalize (lg_sl ([.ref (d 0), .ref (d 6), .int p2]) ++ List.replicate (3 - (lg_sl ([.ref (d 0), .ref (d 6), .int p2])).length) Slot.unset).toArray = ls at hl ⊢
  have hl : lv_has ls 3 [(0, .ref (d 0)), (1, .ref (d 6)), (2, .int p2)] := hl
  have hiX3 : ∀ w ∈ u_ws RX3 TX3 11, w ∈ wsX3_puts := fun w hw => List.mem_cons_of_mem _ (List.mem_append_right _ hw)
  refine lv_aload_n hx hb dX3_puts_0 rfl (lv_at hl 0 rfl) ?_
  refine va_get (D := D) (ci := 2) (v := .int dGr) (C := RX3) (T := TX3) (N := 11) hx hb hts hiX3 hown hK.1 hP 20 rfl rfl 8 (by decide) (hts (.fieldLink RX3 37 "WinnowedGuilt$Floor" "grains" "I") (by decide +kernel)) (fun _ h9 => h9) rfl dX3_puts_1 ?_
  refine lv_if_lt (tgt := 16) hx hb dX3_puts_4 (by decide) (fun c1 => ?_) (fun c1 => ?_)
  · have h := iT c1 h
    refine lv_iconst (v := 0) hx hb dX3_puts_16 (by decide) ?_
    cases h
    subst hAe
    exact W.zret hx hb hr (by decide) (fun t ht _ => ⟨⟨_, (), rfl, rfl, by rw [ht]; exact hP, hD⟩, hS.F ht⟩) hS.2.2 dX3_puts_17
  · have h := iF c1 h
    refine lv_aload_n hx hb dX3_puts_7 rfl (lv_at hl 0 rfl) ?_
    refine va_get (D := D) (ci := 2) (v := .int dGr) (C := RX3) (T := TX3) (N := 11) hx hb hts hiX3 hown hK.1 hP 20 rfl rfl 8 (by decide) (hts (.fieldLink RX3 37 "WinnowedGuilt$Floor" "grains" "I") (by decide +kernel)) (fun _ h9 => h9) rfl dX3_puts_8 ?_
    refine lv_aload_n hx hb dX3_puts_11 rfl (lv_at hl 1 rfl) ?_
    refine va_alen (v := 7) hx hb hK.1 hP 26 0 rfl rfl rfl dX3_puts_12 ?_
    refine lv_icmp_lt (tgt := 18) hx hb dX3_puts_13 (by decide) (fun c2 => ?_) (fun c2 => ?_)
    · have h := iT c2 h
      refine lv_aload_n hx hb dX3_puts_18 rfl (lv_at hl 1 rfl) ?_
      refine lv_aload_n hx hb dX3_puts_19 rfl (lv_at hl 0 rfl) ?_
      refine va_get (D := D) (ci := 2) (v := .int dGr) (C := RX3) (T := TX3) (N := 11) hx hb hts hiX3 hown hK.1 hP 20 rfl rfl 8 (by decide) (hts (.fieldLink RX3 37 "WinnowedGuilt$Floor" "grains" "I") (by decide +kernel)) (fun _ h9 => h9) rfl dX3_puts_20 ?_
      refine lv_iload_n hx hb dX3_puts_23 rfl (lv_at hl 2 rfl) ?_
      obtain ⟨hi3, h⟩ := gI_some h
      refine va_iast hx hb hK.1 hP hD hS 26 0 rfl rfl hi3 dX3_puts_24 (fun H locs hP hD hS => ?_)
      have hP : va_P D vwCl (xW a g d cI cJ cZ (g 0) (d 0) xText xLetters xNow xKept xIsKept xChance xScenes xASize xSKinds xSLifts xSFlights xSSize xTally xOut fPk fWn fGw fGk fOw fSt fPe fHo fGr fPa fFt dPk dWn dGw dGk dOw (upd dSt (Int32.toNatClampNeg dGr) p2) dPe dHo dGr dPa dFt) H := hP
      have hD : va_D A (xW a g d cI cJ cZ (g 0) (d 0) xText xLetters xNow xKept xIsKept xChance xScenes xASize xSKinds xSLifts xSFlights xSSize xTally xOut fPk fWn fGw fGk fOw fSt fPe fHo fGr fPa fFt dPk dWn dGw dGk dOw (upd dSt (Int32.toNatClampNeg dGr) p2) dPe dHo dGr dPa dFt) := hD
      refine lv_iconst (v := 1) hx hb dX3_puts_25 (by decide) ?_
      cases h
      subst hAe
      exact W.zret hx hb hr (by decide) (fun t ht _ => ⟨⟨_, (), rfl, rfl, by rw [ht]; exact hP, hD⟩, hS.F ht⟩) hS.2.2 dX3_puts_26
    · have h := iF c2 h
      refine lv_iconst (v := 0) hx hb dX3_puts_16 (by decide) ?_
      cases h
      subst hAe
      exact W.zret hx hb hr (by decide) (fun t ht _ => ⟨⟨_, (), rfl, rfl, by rw [ht]; exact hP, hD⟩, hS.F ht⟩) hS.2.2 dX3_puts_17

set_option maxHeartbeats 4000000 in
set_option maxRecDepth 100000 in
theorem c_fl_tellsGrain (l : Launch) (D : va_G) (cI cJ cZ : ClassId) (a : Nat → Nat) (g : Nat → Nat) (d : Nat → Nat) (xText : Nat → Int32) (xLetters : Int32) (xNow : Int64) (xKept : Nat → Int64) (xIsKept : Nat → Int32) (xChance : Int64) (xScenes : Nat → Int64) (xASize : Int32) (xSKinds : Nat → Int32) (xSLifts : Nat → Int32) (xSFlights : Nat → Int32) (xSSize : Int32) (xTally : Nat → Int32) (xOut : Nat → Int64) (fPk : Nat → Int32) (fWn : Nat → Int32) (fGw : Nat → Int32) (fGk : Nat → Int32) (fOw : Nat → Int32) (fSt : Nat → Int32) (fPe : Int32) (fHo : Int32) (fGr : Int32) (fPa : Int32) (fFt : Int32) (dPk : Nat → Int32) (dWn : Nat → Int32) (dGw : Nat → Int32) (dGk : Nat → Int32) (dOw : Nat → Int32) (dSt : Nat → Int32) (dPe : Int32) (dHo : Int32) (dGr : Int32) (dPa : Int32) (dFt : Int32)  (sz : Nat) (p1 : Int32) (rv : Int32) (dGw_r : Nat → Int32) (dGk_r : Nat → Int32) (dOw_r : Nat → Int32) (dSt_r : Nat → Int32) (dGr_r : Int32) (dPa_r : Int32) (dFt_r : Int32) (h : fl_tellsGrain dGw dGk dOw dSt dPe dGr dPa dFt p1 = some (rv, dGw_r, dGk_r, dOw_r, dSt_r, dGr_r, dPa_r, dFt_r)) : Met l yX3_tellsGrain wsX3_tellsGrain ({ frames := 1, cells := 0, slots := 0, locals := 22 } : Room) (wPc D cI cJ cZ (xW a g d cI cJ cZ (g 0) (d 0) xText xLetters xNow xKept xIsKept xChance xScenes xASize xSKinds xSLifts xSFlights xSSize xTally xOut fPk fWn fGw fGk fOw fSt fPe fHo fGr fPa fFt dPk dWn dGw dGk dOw dSt dPe dHo dGr dPa dFt) sz [.ref (d 0), .int p1]) (wQi D (xW a g d cI cJ cZ (g 0) (d 0) xText xLetters xNow xKept xIsKept xChance xScenes xASize xSKinds xSLifts xSFlights xSSize xTally xOut fPk fWn fGw fGk fOw fSt fPe fHo fGr fPa fFt dPk dWn dGw dGk dOw dSt dPe dHo dGr dPa dFt) (xW a g d cI cJ cZ (g 0) (d 0) xText xLetters xNow xKept xIsKept xChance xScenes xASize xSKinds xSLifts xSFlights xSSize xTally xOut fPk fWn fGw fGk fOw fSt fPe fHo fGr fPa fFt dPk dWn dGw_r dGk_r dOw_r dSt_r dPe dHo dGr_r dPa_r dFt_r) sz rv) 0 0 (va_A (xW a g d cI cJ cZ (g 0) (d 0) xText xLetters xNow xKept xIsKept xChance xScenes xASize xSKinds xSLifts xSFlights xSSize xTally xOut fPk fWn fGw fGk fOw fSt fPe fHo fGr fPa fFt dPk dWn dGw dGk dOw dSt dPe dHo dGr dPa dFt) sz) := by
  unfold fl_tellsGrain at h
  refine Met.ofW (cc := cX3_tellsGrain) (maxL := 2) (ret := (some .boolean)) (by decide) rfl ?_
  intro p e s m args below meth c s₁ B hml hv
  obtain ⟨rfl, hsz, hP, hK, hD0⟩ := hv
  have hx := B.exec
  have hb := B.bytes
  have hr := B.returns
  have hts := atoms_spec (ws := wsX3_tellsGrain) B.pre
  have hown : s.vm.findClass RX3 = some m.cls := findClass_of_methodNamed B.named
  have hlocks := B.notSynchronized
  subst hsz
  have hD := hD0.self (sz := s.heap.size)
  have hA : ∀ q : Nat, s.heap.size ≤ q → va_A (xW a g d cI cJ cZ (g 0) (d 0) xText xLetters xNow xKept xIsKept xChance xScenes xASize xSKinds xSLifts xSFlights xSSize xTally xOut fPk fWn fGw fGk fOw fSt fPe fHo fGr fPa fFt dPk dWn dGw dGk dOw dSt dPe dHo dGr dPa dFt) s.heap.size q := fun q h => Or.inr h
  have hS : va_S (va_A (xW a g d cI cJ cZ (g 0) (d 0) xText xLetters xNow xKept xIsKept xChance xScenes xASize xSKinds xSLifts xSFlights xSSize xTally xOut fPk fWn fGw fGk fOw fSt fPe fHo fGr fPa fFt dPk dWn dGw dGk dOw dSt dPe dHo dGr dPa dFt) s.heap.size) s.heap s.heap [] := va_S.rf
  obtain ⟨A, hAe⟩ : ∃ A, A = va_A (xW a g d cI cJ cZ (g 0) (d 0) xText xLetters xNow xKept xIsKept xChance xScenes xASize xSKinds xSLifts xSFlights xSSize xTally xOut fPk fWn fGw fGk fOw fSt fPe fHo fGr fPa fFt dPk dWn dGw dGk dOw dSt dPe dHo dGr dPa dFt) s.heap.size := ⟨_, rfl⟩
  rw [← hAe] at hD hA hS
  have hl := lv_entry ([.ref (d 0), .int p1]) (n := 2) (Nat.le_of_ble_eq_true rfl)
  rw [lg_entry_eq]
  generalize (lg_sl ([.ref (d 0), .int p1]) ++ List.replicate (2 - (lg_sl ([.ref (d 0), .int p1])).length) Slot.unset).toArray = ls at hl ⊢
  have hl : lv_has ls 2 [(0, .ref (d 0)), (1, .int p1)] := hl
  have hiX3 : ∀ w ∈ u_ws RX3 TX3 11, w ∈ wsX3_tellsGrain := fun w hw => List.mem_cons_of_mem _ (List.mem_append_right _ hw)
  refine lv_aload_n hx hb dX3_tellsGrain_0 rfl (lv_at hl 0 rfl) ?_
  refine lv_dup hx hb dX3_tellsGrain_1 rfl ?_
  refine va_get (D := D) (ci := 2) (v := .int dFt) (C := RX3) (T := TX3) (N := 11) hx hb hts hiX3 hown hK.1 hP 20 rfl rfl 10 (by decide) (hts (.fieldLink RX3 43 "WinnowedGuilt$Floor" "figuresTold" "I") (by decide +kernel)) (fun _ h9 => h9) rfl dX3_tellsGrain_2 ?_
  refine lv_iconst (v := 1) hx hb dX3_tellsGrain_5 (by decide) ?_
  refine lv_iadd hx hb dX3_tellsGrain_6 ?_
  refine va_put (D := D) (ci := 2) (v := .int (dFt + 1)) (ty := .int) (C := RX3) (T := TX3) (N := 11) hx hb hts hiX3 tyX3 tyX3_ok nmX3 hown hK.1 hP hD hS 20 rfl rfl 10 (by decide) (hts (.fieldLink RX3 43 "WinnowedGuilt$Floor" "figuresTold" "I") (by decide +kernel)) (fun _ h9 => h9) rfl (by decide +kernel) rfl rfl (Nat.le_of_ble_eq_true rfl) dX3_tellsGrain_7 (fun H locs hP hD hS => ?_)
  have hP : va_P D vwCl (xW a g d cI cJ cZ (g 0) (d 0) xText xLetters xNow xKept xIsKept xChance xScenes xASize xSKinds xSLifts xSFlights xSSize xTally xOut fPk fWn fGw fGk fOw fSt fPe fHo fGr fPa fFt dPk dWn dGw dGk dOw dSt dPe dHo dGr dPa (dFt + 1)) H := hP
  have hD : va_D A (xW a g d cI cJ cZ (g 0) (d 0) xText xLetters xNow xKept xIsKept xChance xScenes xASize xSKinds xSLifts xSFlights xSSize xTally xOut fPk fWn fGw fGk fOw fSt fPe fHo fGr fPa fFt dPk dWn dGw dGk dOw dSt dPe dHo dGr dPa (dFt + 1)) := hD
  refine lv_aload_n hx hb dX3_tellsGrain_10 rfl (lv_at hl 0 rfl) ?_
  refine va_get (D := D) (ci := 2) (v := .int (dFt + 1)) (C := RX3) (T := TX3) (N := 11) hx hb hts hiX3 hown hK.1 hP 20 rfl rfl 10 (by decide) (hts (.fieldLink RX3 43 "WinnowedGuilt$Floor" "figuresTold" "I") (by decide +kernel)) (fun _ h9 => h9) rfl dX3_tellsGrain_11 ?_
  by_cases w0_0 : (dFt + 1) = 1
  · have h := iT w0_0 h
    refine lv_tableIn (tgt := 40) hx hb dX3_tellsGrain_14 (by rw [w0_0]; decide) (by rw [w0_0]; decide) (by rw [w0_0]; rfl) (by decide) ?_
    refine lv_iload_n hx hb dX3_tellsGrain_40 rfl (lv_at hl 1 rfl) ?_
    refine lv_iconst (v := 1) hx hb dX3_tellsGrain_41 (by decide) ?_
    refine lv_icmp_lt (tgt := 67) hx hb dX3_tellsGrain_42 (by decide) (fun c2 => ?_) (fun c2 => ?_)
    · have h := iT c2 h
      refine lv_iconst (v := 0) hx hb dX3_tellsGrain_67 (by decide) ?_
      cases h
      subst hAe
      exact W.zret hx hb hr (by decide) (fun t ht _ => ⟨⟨_, (), rfl, rfl, by rw [ht]; exact hP, hD⟩, hS.F ht⟩) hS.2.2 dX3_tellsGrain_68
    · have h := iF c2 h
      refine lv_iload_n hx hb dX3_tellsGrain_45 rfl (lv_at hl 1 rfl) ?_
      refine lv_bipush (v := 9) hx hb dX3_tellsGrain_46 (by decide) ?_
      refine lv_icmp_gt (tgt := 67) hx hb dX3_tellsGrain_48 (by decide) (fun c3 => ?_) (fun c3 => ?_)
      · have h := iT c3 h
        refine lv_iconst (v := 0) hx hb dX3_tellsGrain_67 (by decide) ?_
        cases h
        subst hAe
        exact W.zret hx hb hr (by decide) (fun t ht _ => ⟨⟨_, (), rfl, rfl, by rw [ht]; exact hP, hD⟩, hS.F ht⟩) hS.2.2 dX3_tellsGrain_68
      · have h := iF c3 h
        refine lv_aload_n hx hb dX3_tellsGrain_51 rfl (lv_at hl 0 rfl) ?_
        refine lv_aload_n hx hb dX3_tellsGrain_52 rfl (lv_at hl 0 rfl) ?_
        refine va_get (D := D) (ci := 2) (v := .ref (d 3)) (C := RX3) (T := TX3) (N := 11) hx hb hts hiX3 hown hK.1 hP 20 rfl rfl 2 (by decide) (hts (.fieldLink RX3 18 "WinnowedGuilt$Floor" "grainWeights" "[I") (by decide +kernel)) (fun _ h9 => h9) rfl dX3_tellsGrain_53 ?_
        refine lv_iload_n hx hb dX3_tellsGrain_56 rfl (lv_at hl 1 rfl) ?_
        obtain ⟨q4, hq4, h⟩ := bS h
        refine wcI (va_runV (As := [.ref (d 3), .int p1]) (rest := []) ⟨hx, hb, hml, hown, hts⟩ (c_fl_puts_3 l D cI cJ cZ a g d xText xLetters xNow xKept xIsKept xChance xScenes xASize xSKinds xSLifts xSFlights xSSize xTally xOut fPk fWn fGw fGk fOw fSt fPe fHo fGr fPa fFt dPk dWn dGw dGk dOw dSt dPe dHo dGr dPa (dFt + 1) H.size p1 q4.1 q4.2 hq4) (cwV 2 hts gX3_tellsGrain_X3_puts rfl rfl rfl (by decide +kernel) ⟨Nat.le_of_ble_eq_true rfl, Nat.le_of_ble_eq_true rfl⟩) (wPreV hK hP hD (ci := 2) (q0 := 20) rfl rfl) rfl rfl hl.1 rfl (lv_room (Nat.le_of_ble_eq_true rfl)) dX3_tellsGrain_57 ⟨Nat.zero_le _, Nat.zero_le _⟩) hD hS hA (fun H locs hP hD hS => ?_)
        have hP : va_P D vwCl (xW a g d cI cJ cZ (g 0) (d 0) xText xLetters xNow xKept xIsKept xChance xScenes xASize xSKinds xSLifts xSFlights xSSize xTally xOut fPk fWn fGw fGk fOw fSt fPe fHo fGr fPa fFt dPk dWn q4.2 dGk dOw dSt dPe dHo dGr dPa (dFt + 1)) H := hP
        have hD : va_D A (xW a g d cI cJ cZ (g 0) (d 0) xText xLetters xNow xKept xIsKept xChance xScenes xASize xSKinds xSLifts xSFlights xSSize xTally xOut fPk fWn fGw fGk fOw fSt fPe fHo fGr fPa fFt dPk dWn q4.2 dGk dOw dSt dPe dHo dGr dPa (dFt + 1)) := hD
        refine lv_if_eq (tgt := 67) hx hb dX3_tellsGrain_60 (by decide) (fun c5 => ?_) (fun c5 => ?_)
        · have h := iT c5 h
          refine lv_iconst (v := 0) hx hb dX3_tellsGrain_67 (by decide) ?_
          cases h
          subst hAe
          exact W.zret hx hb hr (by decide) (fun t ht _ => ⟨⟨_, (), rfl, rfl, by rw [ht]; exact hP, hD⟩, hS.F ht⟩) hS.2.2 dX3_tellsGrain_68
        · have h := iF c5 h
          refine lv_iconst (v := 1) hx hb dX3_tellsGrain_63 (by decide) ?_
          refine lv_goto (tgt := 68) hx hb dX3_tellsGrain_64 (by decide) ?_
          cases h
          subst hAe
          exact W.zret hx hb hr (by decide) (fun t ht _ => ⟨⟨_, (), rfl, rfl, by rw [ht]; exact hP, hD⟩, hS.F ht⟩) hS.2.2 dX3_tellsGrain_68
  have h := iF w0_0 h
  by_cases w0_1 : (dFt + 1) = 2
  · have h := iT w0_1 h
    refine lv_tableIn (tgt := 69) hx hb dX3_tellsGrain_14 (by rw [w0_1]; decide) (by rw [w0_1]; decide) (by rw [w0_1]; rfl) (by decide) ?_
    refine lv_iload_n hx hb dX3_tellsGrain_69 rfl (lv_at hl 1 rfl) ?_
    refine lv_if_lt (tgt := 94) hx hb dX3_tellsGrain_70 (by decide) (fun c2 => ?_) (fun c2 => ?_)
    · have h := iT c2 h
      refine lv_iconst (v := 0) hx hb dX3_tellsGrain_94 (by decide) ?_
      cases h
      subst hAe
      exact W.zret hx hb hr (by decide) (fun t ht _ => ⟨⟨_, (), rfl, rfl, by rw [ht]; exact hP, hD⟩, hS.F ht⟩) hS.2.2 dX3_tellsGrain_95
    · have h := iF c2 h
      refine lv_iload_n hx hb dX3_tellsGrain_73 rfl (lv_at hl 1 rfl) ?_
      refine lv_iconst (v := 3) hx hb dX3_tellsGrain_74 (by decide) ?_
      refine lv_icmp_gt (tgt := 94) hx hb dX3_tellsGrain_75 (by decide) (fun c3 => ?_) (fun c3 => ?_)
      · have h := iT c3 h
        refine lv_iconst (v := 0) hx hb dX3_tellsGrain_94 (by decide) ?_
        cases h
        subst hAe
        exact W.zret hx hb hr (by decide) (fun t ht _ => ⟨⟨_, (), rfl, rfl, by rw [ht]; exact hP, hD⟩, hS.F ht⟩) hS.2.2 dX3_tellsGrain_95
      · have h := iF c3 h
        refine lv_aload_n hx hb dX3_tellsGrain_78 rfl (lv_at hl 0 rfl) ?_
        refine lv_aload_n hx hb dX3_tellsGrain_79 rfl (lv_at hl 0 rfl) ?_
        refine va_get (D := D) (ci := 2) (v := .ref (d 4)) (C := RX3) (T := TX3) (N := 11) hx hb hts hiX3 hown hK.1 hP 20 rfl rfl 3 (by decide) (hts (.fieldLink RX3 21 "WinnowedGuilt$Floor" "grainKinds" "[I") (by decide +kernel)) (fun _ h9 => h9) rfl dX3_tellsGrain_80 ?_
        refine lv_iload_n hx hb dX3_tellsGrain_83 rfl (lv_at hl 1 rfl) ?_
        obtain ⟨q4, hq4, h⟩ := bS h
        refine wcI (va_runV (As := [.ref (d 4), .int p1]) (rest := []) ⟨hx, hb, hml, hown, hts⟩ (c_fl_puts_4 l D cI cJ cZ a g d xText xLetters xNow xKept xIsKept xChance xScenes xASize xSKinds xSLifts xSFlights xSSize xTally xOut fPk fWn fGw fGk fOw fSt fPe fHo fGr fPa fFt dPk dWn dGw dGk dOw dSt dPe dHo dGr dPa (dFt + 1) H.size p1 q4.1 q4.2 hq4) (cwV 2 hts gX3_tellsGrain_X3_puts rfl rfl rfl (by decide +kernel) ⟨Nat.le_of_ble_eq_true rfl, Nat.le_of_ble_eq_true rfl⟩) (wPreV hK hP hD (ci := 2) (q0 := 20) rfl rfl) rfl rfl hl.1 rfl (lv_room (Nat.le_of_ble_eq_true rfl)) dX3_tellsGrain_84 ⟨Nat.zero_le _, Nat.zero_le _⟩) hD hS hA (fun H locs hP hD hS => ?_)
        have hP : va_P D vwCl (xW a g d cI cJ cZ (g 0) (d 0) xText xLetters xNow xKept xIsKept xChance xScenes xASize xSKinds xSLifts xSFlights xSSize xTally xOut fPk fWn fGw fGk fOw fSt fPe fHo fGr fPa fFt dPk dWn dGw q4.2 dOw dSt dPe dHo dGr dPa (dFt + 1)) H := hP
        have hD : va_D A (xW a g d cI cJ cZ (g 0) (d 0) xText xLetters xNow xKept xIsKept xChance xScenes xASize xSKinds xSLifts xSFlights xSSize xTally xOut fPk fWn fGw fGk fOw fSt fPe fHo fGr fPa fFt dPk dWn dGw q4.2 dOw dSt dPe dHo dGr dPa (dFt + 1)) := hD
        refine lv_if_eq (tgt := 94) hx hb dX3_tellsGrain_87 (by decide) (fun c5 => ?_) (fun c5 => ?_)
        · have h := iT c5 h
          refine lv_iconst (v := 0) hx hb dX3_tellsGrain_94 (by decide) ?_
          cases h
          subst hAe
          exact W.zret hx hb hr (by decide) (fun t ht _ => ⟨⟨_, (), rfl, rfl, by rw [ht]; exact hP, hD⟩, hS.F ht⟩) hS.2.2 dX3_tellsGrain_95
        · have h := iF c5 h
          refine lv_iconst (v := 1) hx hb dX3_tellsGrain_90 (by decide) ?_
          refine lv_goto (tgt := 95) hx hb dX3_tellsGrain_91 (by decide) ?_
          cases h
          subst hAe
          exact W.zret hx hb hr (by decide) (fun t ht _ => ⟨⟨_, (), rfl, rfl, by rw [ht]; exact hP, hD⟩, hS.F ht⟩) hS.2.2 dX3_tellsGrain_95
  have h := iF w0_1 h
  by_cases w0_2 : (dFt + 1) = 3
  · have h := iT w0_2 h
    refine lv_tableIn (tgt := 96) hx hb dX3_tellsGrain_14 (by rw [w0_2]; decide) (by rw [w0_2]; decide) (by rw [w0_2]; rfl) (by decide) ?_
    refine lv_aload_n hx hb dX3_tellsGrain_96 rfl (lv_at hl 0 rfl) ?_
    refine lv_iload_n hx hb dX3_tellsGrain_97 rfl (lv_at hl 1 rfl) ?_
    have hG := hP.sub (ws' := (fW d cI dPk dWn dGw dGk dOw dSt dPe dHo dGr dPa (dFt + 1))) [20, 21, 22, 23, 24, 25, 26] rfl
    obtain ⟨q2, hq2, h⟩ := bS h
    refine rcI (va_runV (As := [.int p1]) (rest := []) ⟨hx, hb, hml, hown, hts⟩ (c_fl_isPerson l D cI cJ cZ d dPk dWn dGw dGk dOw dSt dPe dHo dGr dPa (dFt + 1) H hG p1 q2 hq2) (cwV 1 hts gX3_tellsGrain_X3_isPerson rfl rfl rfl (by decide +kernel) ⟨Nat.le_of_ble_eq_true rfl, Nat.le_of_ble_eq_true rfl⟩) (rPreV hK hG (ci := 2) (q0 := 0) rfl rfl) rfl rfl hl.1 rfl (lv_room (Nat.le_of_ble_eq_true rfl)) dX3_tellsGrain_98 ⟨Nat.zero_le _, Nat.zero_le _⟩) ?_
    refine lv_if_eq (tgt := 120) hx hb dX3_tellsGrain_101 (by decide) (fun c3 => ?_) (fun c3 => ?_)
    · have h := iT c3 h
      refine lv_iconst (v := 0) hx hb dX3_tellsGrain_120 (by decide) ?_
      cases h
      subst hAe
      exact W.zret hx hb hr (by decide) (fun t ht _ => ⟨⟨_, (), rfl, rfl, by rw [ht]; exact hP, hD⟩, hS.F ht⟩) hS.2.2 dX3_tellsGrain_121
    · have h := iF c3 h
      refine lv_aload_n hx hb dX3_tellsGrain_104 rfl (lv_at hl 0 rfl) ?_
      refine lv_aload_n hx hb dX3_tellsGrain_105 rfl (lv_at hl 0 rfl) ?_
      refine va_get (D := D) (ci := 2) (v := .ref (d 5)) (C := RX3) (T := TX3) (N := 11) hx hb hts hiX3 hown hK.1 hP 20 rfl rfl 4 (by decide) (hts (.fieldLink RX3 24 "WinnowedGuilt$Floor" "owners" "[I") (by decide +kernel)) (fun _ h9 => h9) rfl dX3_tellsGrain_106 ?_
      refine lv_iload_n hx hb dX3_tellsGrain_109 rfl (lv_at hl 1 rfl) ?_
      obtain ⟨q4, hq4, h⟩ := bS h
      refine wcI (va_runV (As := [.ref (d 5), .int p1]) (rest := []) ⟨hx, hb, hml, hown, hts⟩ (c_fl_puts_5 l D cI cJ cZ a g d xText xLetters xNow xKept xIsKept xChance xScenes xASize xSKinds xSLifts xSFlights xSSize xTally xOut fPk fWn fGw fGk fOw fSt fPe fHo fGr fPa fFt dPk dWn dGw dGk dOw dSt dPe dHo dGr dPa (dFt + 1) H.size p1 q4.1 q4.2 hq4) (cwV 2 hts gX3_tellsGrain_X3_puts rfl rfl rfl (by decide +kernel) ⟨Nat.le_of_ble_eq_true rfl, Nat.le_of_ble_eq_true rfl⟩) (wPreV hK hP hD (ci := 2) (q0 := 20) rfl rfl) rfl rfl hl.1 rfl (lv_room (Nat.le_of_ble_eq_true rfl)) dX3_tellsGrain_110 ⟨Nat.zero_le _, Nat.zero_le _⟩) hD hS hA (fun H locs hP hD hS => ?_)
      have hP : va_P D vwCl (xW a g d cI cJ cZ (g 0) (d 0) xText xLetters xNow xKept xIsKept xChance xScenes xASize xSKinds xSLifts xSFlights xSSize xTally xOut fPk fWn fGw fGk fOw fSt fPe fHo fGr fPa fFt dPk dWn dGw dGk q4.2 dSt dPe dHo dGr dPa (dFt + 1)) H := hP
      have hD : va_D A (xW a g d cI cJ cZ (g 0) (d 0) xText xLetters xNow xKept xIsKept xChance xScenes xASize xSKinds xSLifts xSFlights xSSize xTally xOut fPk fWn fGw fGk fOw fSt fPe fHo fGr fPa fFt dPk dWn dGw dGk q4.2 dSt dPe dHo dGr dPa (dFt + 1)) := hD
      refine lv_if_eq (tgt := 120) hx hb dX3_tellsGrain_113 (by decide) (fun c5 => ?_) (fun c5 => ?_)
      · have h := iT c5 h
        refine lv_iconst (v := 0) hx hb dX3_tellsGrain_120 (by decide) ?_
        cases h
        subst hAe
        exact W.zret hx hb hr (by decide) (fun t ht _ => ⟨⟨_, (), rfl, rfl, by rw [ht]; exact hP, hD⟩, hS.F ht⟩) hS.2.2 dX3_tellsGrain_121
      · have h := iF c5 h
        refine lv_iconst (v := 1) hx hb dX3_tellsGrain_116 (by decide) ?_
        refine lv_goto (tgt := 121) hx hb dX3_tellsGrain_117 (by decide) ?_
        cases h
        subst hAe
        exact W.zret hx hb hr (by decide) (fun t ht _ => ⟨⟨_, (), rfl, rfl, by rw [ht]; exact hP, hD⟩, hS.F ht⟩) hS.2.2 dX3_tellsGrain_121
  have h := iF w0_2 h
  refine lv_tableOut (tgt := 122) hx hb dX3_tellsGrain_14 (by have := lv_neT (a := 1) w0_0 (by decide); have := lv_neT (a := 2) w0_1 (by decide); have := lv_neT (a := 3) w0_2 (by decide); omega) (by decide) ?_
  refine lv_aload_n hx hb dX3_tellsGrain_122 rfl (lv_at hl 0 rfl) ?_
  refine lv_iload_n hx hb dX3_tellsGrain_123 rfl (lv_at hl 1 rfl) ?_
  have hG := hP.sub (ws' := (fW d cI dPk dWn dGw dGk dOw dSt dPe dHo dGr dPa (dFt + 1))) [20, 21, 22, 23, 24, 25, 26] rfl
  obtain ⟨q2, hq2, h⟩ := bS h
  refine rcI (va_runV (As := [.int p1]) (rest := []) ⟨hx, hb, hml, hown, hts⟩ (c_fl_isPerson l D cI cJ cZ d dPk dWn dGw dGk dOw dSt dPe dHo dGr dPa (dFt + 1) H hG p1 q2 hq2) (cwV 1 hts gX3_tellsGrain_X3_isPerson rfl rfl rfl (by decide +kernel) ⟨Nat.le_of_ble_eq_true rfl, Nat.le_of_ble_eq_true rfl⟩) (rPreV hK hG (ci := 2) (q0 := 0) rfl rfl) rfl rfl hl.1 rfl (lv_room (Nat.le_of_ble_eq_true rfl)) dX3_tellsGrain_124 ⟨Nat.zero_le _, Nat.zero_le _⟩) ?_
  refine lv_if_eq (tgt := 142) hx hb dX3_tellsGrain_127 (by decide) (fun c3 => ?_) (fun c3 => ?_)
  · have h := iT c3 h
    refine lv_iconst (v := 0) hx hb dX3_tellsGrain_142 (by decide) ?_
    cases h
    subst hAe
    exact W.zret hx hb hr (by decide) (fun t ht _ => ⟨⟨_, (), rfl, rfl, by rw [ht]; exact hP, hD⟩, hS.F ht⟩) hS.2.2 dX3_tellsGrain_143
  · have h := iF c3 h
    refine lv_aload_n hx hb dX3_tellsGrain_130 rfl (lv_at hl 0 rfl) ?_
    refine lv_aload_n hx hb dX3_tellsGrain_131 rfl (lv_at hl 0 rfl) ?_
    refine va_get (D := D) (ci := 2) (v := .ref (d 6)) (C := RX3) (T := TX3) (N := 11) hx hb hts hiX3 hown hK.1 hP 20 rfl rfl 5 (by decide) (hts (.fieldLink RX3 27 "WinnowedGuilt$Floor" "starts" "[I") (by decide +kernel)) (fun _ h9 => h9) rfl dX3_tellsGrain_132 ?_
    refine lv_iload_n hx hb dX3_tellsGrain_135 rfl (lv_at hl 1 rfl) ?_
    obtain ⟨q4, hq4, h⟩ := bS h
    refine wcI (va_runV (As := [.ref (d 6), .int p1]) (rest := []) ⟨hx, hb, hml, hown, hts⟩ (c_fl_puts_6 l D cI cJ cZ a g d xText xLetters xNow xKept xIsKept xChance xScenes xASize xSKinds xSLifts xSFlights xSSize xTally xOut fPk fWn fGw fGk fOw fSt fPe fHo fGr fPa fFt dPk dWn dGw dGk dOw dSt dPe dHo dGr dPa (dFt + 1) H.size p1 q4.1 q4.2 hq4) (cwV 2 hts gX3_tellsGrain_X3_puts rfl rfl rfl (by decide +kernel) ⟨Nat.le_of_ble_eq_true rfl, Nat.le_of_ble_eq_true rfl⟩) (wPreV hK hP hD (ci := 2) (q0 := 20) rfl rfl) rfl rfl hl.1 rfl (lv_room (Nat.le_of_ble_eq_true rfl)) dX3_tellsGrain_136 ⟨Nat.zero_le _, Nat.zero_le _⟩) hD hS hA (fun H locs hP hD hS => ?_)
    have hP : va_P D vwCl (xW a g d cI cJ cZ (g 0) (d 0) xText xLetters xNow xKept xIsKept xChance xScenes xASize xSKinds xSLifts xSFlights xSSize xTally xOut fPk fWn fGw fGk fOw fSt fPe fHo fGr fPa fFt dPk dWn dGw dGk dOw q4.2 dPe dHo dGr dPa (dFt + 1)) H := hP
    have hD : va_D A (xW a g d cI cJ cZ (g 0) (d 0) xText xLetters xNow xKept xIsKept xChance xScenes xASize xSKinds xSLifts xSFlights xSSize xTally xOut fPk fWn fGw fGk fOw fSt fPe fHo fGr fPa fFt dPk dWn dGw dGk dOw q4.2 dPe dHo dGr dPa (dFt + 1)) := hD
    refine lv_if_ne (tgt := 144) hx hb dX3_tellsGrain_139 (by decide) (fun c5 => ?_) (fun c5 => ?_)
    · have h := iF c5 h
      refine lv_aload_n hx hb dX3_tellsGrain_144 rfl (lv_at hl 0 rfl) ?_
      refine lv_dup hx hb dX3_tellsGrain_145 rfl ?_
      refine va_get (D := D) (ci := 2) (v := .int dGr) (C := RX3) (T := TX3) (N := 11) hx hb hts hiX3 hown hK.1 hP 20 rfl rfl 8 (by decide) (hts (.fieldLink RX3 37 "WinnowedGuilt$Floor" "grains" "I") (by decide +kernel)) (fun _ h9 => h9) rfl dX3_tellsGrain_146 ?_
      refine lv_iconst (v := 1) hx hb dX3_tellsGrain_149 (by decide) ?_
      refine lv_iadd hx hb dX3_tellsGrain_150 ?_
      refine va_put (D := D) (ci := 2) (v := .int (dGr + 1)) (ty := .int) (C := RX3) (T := TX3) (N := 11) hx hb hts hiX3 tyX3 tyX3_ok nmX3 hown hK.1 hP hD hS 20 rfl rfl 8 (by decide) (hts (.fieldLink RX3 37 "WinnowedGuilt$Floor" "grains" "I") (by decide +kernel)) (fun _ h9 => h9) rfl (by decide +kernel) rfl rfl (Nat.le_of_ble_eq_true rfl) dX3_tellsGrain_151 (fun H locs hP hD hS => ?_)
      have hP : va_P D vwCl (xW a g d cI cJ cZ (g 0) (d 0) xText xLetters xNow xKept xIsKept xChance xScenes xASize xSKinds xSLifts xSFlights xSSize xTally xOut fPk fWn fGw fGk fOw fSt fPe fHo fGr fPa fFt dPk dWn dGw dGk dOw q4.2 dPe dHo (dGr + 1) dPa (dFt + 1)) H := hP
      have hD : va_D A (xW a g d cI cJ cZ (g 0) (d 0) xText xLetters xNow xKept xIsKept xChance xScenes xASize xSKinds xSLifts xSFlights xSSize xTally xOut fPk fWn fGw fGk fOw fSt fPe fHo fGr fPa fFt dPk dWn dGw dGk dOw q4.2 dPe dHo (dGr + 1) dPa (dFt + 1)) := hD
      refine lv_aload_n hx hb dX3_tellsGrain_154 rfl (lv_at hl 0 rfl) ?_
      refine lv_bipush (v := 87) hx hb dX3_tellsGrain_155 (by decide) ?_
      refine va_put (D := D) (ci := 2) (v := .int 87) (ty := .int) (C := RX3) (T := TX3) (N := 11) hx hb hts hiX3 tyX3 tyX3_ok nmX3 hown hK.1 hP hD hS 20 rfl rfl 9 (by decide) (hts (.fieldLink RX3 40 "WinnowedGuilt$Floor" "part" "I") (by decide +kernel)) (fun _ h9 => h9) rfl (by decide +kernel) rfl rfl (Nat.le_of_ble_eq_true rfl) dX3_tellsGrain_157 (fun H locs hP hD hS => ?_)
      have hP : va_P D vwCl (xW a g d cI cJ cZ (g 0) (d 0) xText xLetters xNow xKept xIsKept xChance xScenes xASize xSKinds xSLifts xSFlights xSSize xTally xOut fPk fWn fGw fGk fOw fSt fPe fHo fGr fPa fFt dPk dWn dGw dGk dOw q4.2 dPe dHo (dGr + 1) 87 (dFt + 1)) H := hP
      have hD : va_D A (xW a g d cI cJ cZ (g 0) (d 0) xText xLetters xNow xKept xIsKept xChance xScenes xASize xSKinds xSLifts xSFlights xSSize xTally xOut fPk fWn fGw fGk fOw fSt fPe fHo fGr fPa fFt dPk dWn dGw dGk dOw q4.2 dPe dHo (dGr + 1) 87 (dFt + 1)) := hD
      refine lv_iconst (v := 1) hx hb dX3_tellsGrain_160 (by decide) ?_
      cases h
      subst hAe
      exact W.zret hx hb hr (by decide) (fun t ht _ => ⟨⟨_, (), rfl, rfl, by rw [ht]; exact hP, hD⟩, hS.F ht⟩) hS.2.2 dX3_tellsGrain_161
    · have h := iT c5 h
      refine lv_iconst (v := 0) hx hb dX3_tellsGrain_142 (by decide) ?_
      cases h
      subst hAe
      exact W.zret hx hb hr (by decide) (fun t ht _ => ⟨⟨_, (), rfl, rfl, by rw [ht]; exact hP, hD⟩, hS.F ht⟩) hS.2.2 dX3_tellsGrain_143

set_option maxHeartbeats 4000000 in
set_option maxRecDepth 100000 in
theorem c_fl_tellsHour (l : Launch) (D : va_G) (cI cJ cZ : ClassId) (a : Nat → Nat) (g : Nat → Nat) (d : Nat → Nat) (xText : Nat → Int32) (xLetters : Int32) (xNow : Int64) (xKept : Nat → Int64) (xIsKept : Nat → Int32) (xChance : Int64) (xScenes : Nat → Int64) (xASize : Int32) (xSKinds : Nat → Int32) (xSLifts : Nat → Int32) (xSFlights : Nat → Int32) (xSSize : Int32) (xTally : Nat → Int32) (xOut : Nat → Int64) (fPk : Nat → Int32) (fWn : Nat → Int32) (fGw : Nat → Int32) (fGk : Nat → Int32) (fOw : Nat → Int32) (fSt : Nat → Int32) (fPe : Int32) (fHo : Int32) (fGr : Int32) (fPa : Int32) (fFt : Int32) (dPk : Nat → Int32) (dWn : Nat → Int32) (dGw : Nat → Int32) (dGk : Nat → Int32) (dOw : Nat → Int32) (dSt : Nat → Int32) (dPe : Int32) (dHo : Int32) (dGr : Int32) (dPa : Int32) (dFt : Int32)  (sz : Nat) (p1 : Int32) (rv : Int32) (dWn_r : Nat → Int32) (dHo_r : Int32) (dPa_r : Int32) (h : fl_tellsHour dWn dHo dPa p1 = some (rv, dWn_r, dHo_r, dPa_r)) : Met l yX3_tellsHour wsX3_tellsHour ({ frames := 0, cells := 0, slots := 0, locals := 0 } : Room) (wPc D cI cJ cZ (xW a g d cI cJ cZ (g 0) (d 0) xText xLetters xNow xKept xIsKept xChance xScenes xASize xSKinds xSLifts xSFlights xSSize xTally xOut fPk fWn fGw fGk fOw fSt fPe fHo fGr fPa fFt dPk dWn dGw dGk dOw dSt dPe dHo dGr dPa dFt) sz [.ref (d 0), .int p1]) (wQi D (xW a g d cI cJ cZ (g 0) (d 0) xText xLetters xNow xKept xIsKept xChance xScenes xASize xSKinds xSLifts xSFlights xSSize xTally xOut fPk fWn fGw fGk fOw fSt fPe fHo fGr fPa fFt dPk dWn dGw dGk dOw dSt dPe dHo dGr dPa dFt) (xW a g d cI cJ cZ (g 0) (d 0) xText xLetters xNow xKept xIsKept xChance xScenes xASize xSKinds xSLifts xSFlights xSSize xTally xOut fPk fWn fGw fGk fOw fSt fPe fHo fGr fPa fFt dPk dWn_r dGw dGk dOw dSt dPe dHo_r dGr dPa_r dFt) sz rv) 0 0 (va_A (xW a g d cI cJ cZ (g 0) (d 0) xText xLetters xNow xKept xIsKept xChance xScenes xASize xSKinds xSLifts xSFlights xSSize xTally xOut fPk fWn fGw fGk fOw fSt fPe fHo fGr fPa fFt dPk dWn dGw dGk dOw dSt dPe dHo dGr dPa dFt) sz) := by
  unfold fl_tellsHour at h
  refine Met.ofW (cc := cX3_tellsHour) (maxL := 2) (ret := (some .boolean)) (by decide) rfl ?_
  intro p e s m args below meth c s₁ B hml hv
  obtain ⟨rfl, hsz, hP, hK, hD0⟩ := hv
  have hx := B.exec
  have hb := B.bytes
  have hr := B.returns
  have hts := atoms_spec (ws := wsX3_tellsHour) B.pre
  have hown : s.vm.findClass RX3 = some m.cls := findClass_of_methodNamed B.named
  have hlocks := B.notSynchronized
  subst hsz
  have hD := hD0.self (sz := s.heap.size)
  have hA : ∀ q : Nat, s.heap.size ≤ q → va_A (xW a g d cI cJ cZ (g 0) (d 0) xText xLetters xNow xKept xIsKept xChance xScenes xASize xSKinds xSLifts xSFlights xSSize xTally xOut fPk fWn fGw fGk fOw fSt fPe fHo fGr fPa fFt dPk dWn dGw dGk dOw dSt dPe dHo dGr dPa dFt) s.heap.size q := fun q h => Or.inr h
  have hS : va_S (va_A (xW a g d cI cJ cZ (g 0) (d 0) xText xLetters xNow xKept xIsKept xChance xScenes xASize xSKinds xSLifts xSFlights xSSize xTally xOut fPk fWn fGw fGk fOw fSt fPe fHo fGr fPa fFt dPk dWn dGw dGk dOw dSt dPe dHo dGr dPa dFt) s.heap.size) s.heap s.heap [] := va_S.rf
  obtain ⟨A, hAe⟩ : ∃ A, A = va_A (xW a g d cI cJ cZ (g 0) (d 0) xText xLetters xNow xKept xIsKept xChance xScenes xASize xSKinds xSLifts xSFlights xSSize xTally xOut fPk fWn fGw fGk fOw fSt fPe fHo fGr fPa fFt dPk dWn dGw dGk dOw dSt dPe dHo dGr dPa dFt) s.heap.size := ⟨_, rfl⟩
  rw [← hAe] at hD hA hS
  have hl := lv_entry ([.ref (d 0), .int p1]) (n := 2) (Nat.le_of_ble_eq_true rfl)
  rw [lg_entry_eq]
  generalize (lg_sl ([.ref (d 0), .int p1]) ++ List.replicate (2 - (lg_sl ([.ref (d 0), .int p1])).length) Slot.unset).toArray = ls at hl ⊢
  have hl : lv_has ls 2 [(0, .ref (d 0)), (1, .int p1)] := hl
  have hiX3 : ∀ w ∈ u_ws RX3 TX3 11, w ∈ wsX3_tellsHour := fun w hw => List.mem_cons_of_mem _ (List.mem_append_right _ hw)
  refine lv_iload_n hx hb dX3_tellsHour_0 rfl (lv_at hl 1 rfl) ?_
  refine lv_if_lt (tgt := 29) hx hb dX3_tellsHour_1 (by decide) (fun c1 => ?_) (fun c1 => ?_)
  · have h := iT c1 h
    refine lv_iconst (v := 0) hx hb dX3_tellsHour_29 (by decide) ?_
    cases h
    subst hAe
    exact W.zret hx hb hr (by decide) (fun t ht _ => ⟨⟨_, (), rfl, rfl, by rw [ht]; exact hP, hD⟩, hS.F ht⟩) hS.2.2 dX3_tellsHour_30
  · have h := iF c1 h
    refine lv_iload_n hx hb dX3_tellsHour_4 rfl (lv_at hl 1 rfl) ?_
    refine lv_bipush (v := 9) hx hb dX3_tellsHour_5 (by decide) ?_
    refine lv_icmp_gt (tgt := 29) hx hb dX3_tellsHour_7 (by decide) (fun c2 => ?_) (fun c2 => ?_)
    · have h := iT c2 h
      refine lv_iconst (v := 0) hx hb dX3_tellsHour_29 (by decide) ?_
      cases h
      subst hAe
      exact W.zret hx hb hr (by decide) (fun t ht _ => ⟨⟨_, (), rfl, rfl, by rw [ht]; exact hP, hD⟩, hS.F ht⟩) hS.2.2 dX3_tellsHour_30
    · have h := iF c2 h
      refine lv_aload_n hx hb dX3_tellsHour_10 rfl (lv_at hl 0 rfl) ?_
      refine va_get (D := D) (ci := 2) (v := .int dHo) (C := RX3) (T := TX3) (N := 11) hx hb hts hiX3 hown hK.1 hP 20 rfl rfl 7 (by decide) (hts (.fieldLink RX3 34 "WinnowedGuilt$Floor" "hours" "I") (by decide +kernel)) (fun _ h9 => h9) rfl dX3_tellsHour_11 ?_
      refine lv_if_lt (tgt := 29) hx hb dX3_tellsHour_14 (by decide) (fun c3 => ?_) (fun c3 => ?_)
      · have h := iT c3 h
        refine lv_iconst (v := 0) hx hb dX3_tellsHour_29 (by decide) ?_
        cases h
        subst hAe
        exact W.zret hx hb hr (by decide) (fun t ht _ => ⟨⟨_, (), rfl, rfl, by rw [ht]; exact hP, hD⟩, hS.F ht⟩) hS.2.2 dX3_tellsHour_30
      · have h := iF c3 h
        refine lv_aload_n hx hb dX3_tellsHour_17 rfl (lv_at hl 0 rfl) ?_
        refine va_get (D := D) (ci := 2) (v := .int dHo) (C := RX3) (T := TX3) (N := 11) hx hb hts hiX3 hown hK.1 hP 20 rfl rfl 7 (by decide) (hts (.fieldLink RX3 34 "WinnowedGuilt$Floor" "hours" "I") (by decide +kernel)) (fun _ h9 => h9) rfl dX3_tellsHour_18 ?_
        refine lv_aload_n hx hb dX3_tellsHour_21 rfl (lv_at hl 0 rfl) ?_
        refine va_get (D := D) (ci := 2) (v := .ref (d 2)) (C := RX3) (T := TX3) (N := 11) hx hb hts hiX3 hown hK.1 hP 20 rfl rfl 1 (by decide) (hts (.fieldLink RX3 15 "WinnowedGuilt$Floor" "winds" "[I") (by decide +kernel)) (fun _ h9 => h9) rfl dX3_tellsHour_22 ?_
        refine va_alen (v := 6) hx hb hK.1 hP 22 0 rfl rfl rfl dX3_tellsHour_25 ?_
        refine lv_icmp_lt (tgt := 31) hx hb dX3_tellsHour_26 (by decide) (fun c4 => ?_) (fun c4 => ?_)
        · have h := iT c4 h
          refine lv_aload_n hx hb dX3_tellsHour_31 rfl (lv_at hl 0 rfl) ?_
          refine va_get (D := D) (ci := 2) (v := .ref (d 2)) (C := RX3) (T := TX3) (N := 11) hx hb hts hiX3 hown hK.1 hP 20 rfl rfl 1 (by decide) (hts (.fieldLink RX3 15 "WinnowedGuilt$Floor" "winds" "[I") (by decide +kernel)) (fun _ h9 => h9) rfl dX3_tellsHour_32 ?_
          refine lv_aload_n hx hb dX3_tellsHour_35 rfl (lv_at hl 0 rfl) ?_
          refine va_get (D := D) (ci := 2) (v := .int dHo) (C := RX3) (T := TX3) (N := 11) hx hb hts hiX3 hown hK.1 hP 20 rfl rfl 7 (by decide) (hts (.fieldLink RX3 34 "WinnowedGuilt$Floor" "hours" "I") (by decide +kernel)) (fun _ h9 => h9) rfl dX3_tellsHour_36 ?_
          refine lv_iload_n hx hb dX3_tellsHour_39 rfl (lv_at hl 1 rfl) ?_
          obtain ⟨hi5, h⟩ := gI_some h
          refine va_iast hx hb hK.1 hP hD hS 22 0 rfl rfl hi5 dX3_tellsHour_40 (fun H locs hP hD hS => ?_)
          have hP : va_P D vwCl (xW a g d cI cJ cZ (g 0) (d 0) xText xLetters xNow xKept xIsKept xChance xScenes xASize xSKinds xSLifts xSFlights xSSize xTally xOut fPk fWn fGw fGk fOw fSt fPe fHo fGr fPa fFt dPk (upd dWn (Int32.toNatClampNeg dHo) p1) dGw dGk dOw dSt dPe dHo dGr dPa dFt) H := hP
          have hD : va_D A (xW a g d cI cJ cZ (g 0) (d 0) xText xLetters xNow xKept xIsKept xChance xScenes xASize xSKinds xSLifts xSFlights xSSize xTally xOut fPk fWn fGw fGk fOw fSt fPe fHo fGr fPa fFt dPk (upd dWn (Int32.toNatClampNeg dHo) p1) dGw dGk dOw dSt dPe dHo dGr dPa dFt) := hD
          refine lv_aload_n hx hb dX3_tellsHour_41 rfl (lv_at hl 0 rfl) ?_
          refine lv_dup hx hb dX3_tellsHour_42 rfl ?_
          refine va_get (D := D) (ci := 2) (v := .int dHo) (C := RX3) (T := TX3) (N := 11) hx hb hts hiX3 hown hK.1 hP 20 rfl rfl 7 (by decide) (hts (.fieldLink RX3 34 "WinnowedGuilt$Floor" "hours" "I") (by decide +kernel)) (fun _ h9 => h9) rfl dX3_tellsHour_43 ?_
          refine lv_iconst (v := 1) hx hb dX3_tellsHour_46 (by decide) ?_
          refine lv_iadd hx hb dX3_tellsHour_47 ?_
          refine va_put (D := D) (ci := 2) (v := .int (dHo + 1)) (ty := .int) (C := RX3) (T := TX3) (N := 11) hx hb hts hiX3 tyX3 tyX3_ok nmX3 hown hK.1 hP hD hS 20 rfl rfl 7 (by decide) (hts (.fieldLink RX3 34 "WinnowedGuilt$Floor" "hours" "I") (by decide +kernel)) (fun _ h9 => h9) rfl (by decide +kernel) rfl rfl (Nat.le_of_ble_eq_true rfl) dX3_tellsHour_48 (fun H locs hP hD hS => ?_)
          have hP : va_P D vwCl (xW a g d cI cJ cZ (g 0) (d 0) xText xLetters xNow xKept xIsKept xChance xScenes xASize xSKinds xSLifts xSFlights xSSize xTally xOut fPk fWn fGw fGk fOw fSt fPe fHo fGr fPa fFt dPk (upd dWn (Int32.toNatClampNeg dHo) p1) dGw dGk dOw dSt dPe (dHo + 1) dGr dPa dFt) H := hP
          have hD : va_D A (xW a g d cI cJ cZ (g 0) (d 0) xText xLetters xNow xKept xIsKept xChance xScenes xASize xSKinds xSLifts xSFlights xSSize xTally xOut fPk fWn fGw fGk fOw fSt fPe fHo fGr fPa fFt dPk (upd dWn (Int32.toNatClampNeg dHo) p1) dGw dGk dOw dSt dPe (dHo + 1) dGr dPa dFt) := hD
          refine lv_aload_n hx hb dX3_tellsHour_51 rfl (lv_at hl 0 rfl) ?_
          refine lv_bipush (v := 87) hx hb dX3_tellsHour_52 (by decide) ?_
          refine va_put (D := D) (ci := 2) (v := .int 87) (ty := .int) (C := RX3) (T := TX3) (N := 11) hx hb hts hiX3 tyX3 tyX3_ok nmX3 hown hK.1 hP hD hS 20 rfl rfl 9 (by decide) (hts (.fieldLink RX3 40 "WinnowedGuilt$Floor" "part" "I") (by decide +kernel)) (fun _ h9 => h9) rfl (by decide +kernel) rfl rfl (Nat.le_of_ble_eq_true rfl) dX3_tellsHour_54 (fun H locs hP hD hS => ?_)
          have hP : va_P D vwCl (xW a g d cI cJ cZ (g 0) (d 0) xText xLetters xNow xKept xIsKept xChance xScenes xASize xSKinds xSLifts xSFlights xSSize xTally xOut fPk fWn fGw fGk fOw fSt fPe fHo fGr fPa fFt dPk (upd dWn (Int32.toNatClampNeg dHo) p1) dGw dGk dOw dSt dPe (dHo + 1) dGr 87 dFt) H := hP
          have hD : va_D A (xW a g d cI cJ cZ (g 0) (d 0) xText xLetters xNow xKept xIsKept xChance xScenes xASize xSKinds xSLifts xSFlights xSSize xTally xOut fPk fWn fGw fGk fOw fSt fPe fHo fGr fPa fFt dPk (upd dWn (Int32.toNatClampNeg dHo) p1) dGw dGk dOw dSt dPe (dHo + 1) dGr 87 dFt) := hD
          refine lv_iconst (v := 1) hx hb dX3_tellsHour_57 (by decide) ?_
          cases h
          subst hAe
          exact W.zret hx hb hr (by decide) (fun t ht _ => ⟨⟨_, (), rfl, rfl, by rw [ht]; exact hP, hD⟩, hS.F ht⟩) hS.2.2 dX3_tellsHour_58
        · have h := iF c4 h
          refine lv_iconst (v := 0) hx hb dX3_tellsHour_29 (by decide) ?_
          cases h
          subst hAe
          exact W.zret hx hb hr (by decide) (fun t ht _ => ⟨⟨_, (), rfl, rfl, by rw [ht]; exact hP, hD⟩, hS.F ht⟩) hS.2.2 dX3_tellsHour_30

set_option maxHeartbeats 4000000 in
set_option maxRecDepth 100000 in
theorem c_fl_tellsPerson (l : Launch) (D : va_G) (cI cJ cZ : ClassId) (a : Nat → Nat) (g : Nat → Nat) (d : Nat → Nat) (xText : Nat → Int32) (xLetters : Int32) (xNow : Int64) (xKept : Nat → Int64) (xIsKept : Nat → Int32) (xChance : Int64) (xScenes : Nat → Int64) (xASize : Int32) (xSKinds : Nat → Int32) (xSLifts : Nat → Int32) (xSFlights : Nat → Int32) (xSSize : Int32) (xTally : Nat → Int32) (xOut : Nat → Int64) (fPk : Nat → Int32) (fWn : Nat → Int32) (fGw : Nat → Int32) (fGk : Nat → Int32) (fOw : Nat → Int32) (fSt : Nat → Int32) (fPe : Int32) (fHo : Int32) (fGr : Int32) (fPa : Int32) (fFt : Int32) (dPk : Nat → Int32) (dWn : Nat → Int32) (dGw : Nat → Int32) (dGk : Nat → Int32) (dOw : Nat → Int32) (dSt : Nat → Int32) (dPe : Int32) (dHo : Int32) (dGr : Int32) (dPa : Int32) (dFt : Int32)  (sz : Nat) (p1 : Int32) (rv : Int32) (dPk_r : Nat → Int32) (dPe_r : Int32) (dPa_r : Int32) (h : fl_tellsPerson dPk dPe dPa p1 = some (rv, dPk_r, dPe_r, dPa_r)) : Met l yX3_tellsPerson wsX3_tellsPerson ({ frames := 0, cells := 0, slots := 0, locals := 0 } : Room) (wPc D cI cJ cZ (xW a g d cI cJ cZ (g 0) (d 0) xText xLetters xNow xKept xIsKept xChance xScenes xASize xSKinds xSLifts xSFlights xSSize xTally xOut fPk fWn fGw fGk fOw fSt fPe fHo fGr fPa fFt dPk dWn dGw dGk dOw dSt dPe dHo dGr dPa dFt) sz [.ref (d 0), .int p1]) (wQi D (xW a g d cI cJ cZ (g 0) (d 0) xText xLetters xNow xKept xIsKept xChance xScenes xASize xSKinds xSLifts xSFlights xSSize xTally xOut fPk fWn fGw fGk fOw fSt fPe fHo fGr fPa fFt dPk dWn dGw dGk dOw dSt dPe dHo dGr dPa dFt) (xW a g d cI cJ cZ (g 0) (d 0) xText xLetters xNow xKept xIsKept xChance xScenes xASize xSKinds xSLifts xSFlights xSSize xTally xOut fPk fWn fGw fGk fOw fSt fPe fHo fGr fPa fFt dPk_r dWn dGw dGk dOw dSt dPe_r dHo dGr dPa_r dFt) sz rv) 0 0 (va_A (xW a g d cI cJ cZ (g 0) (d 0) xText xLetters xNow xKept xIsKept xChance xScenes xASize xSKinds xSLifts xSFlights xSSize xTally xOut fPk fWn fGw fGk fOw fSt fPe fHo fGr fPa fFt dPk dWn dGw dGk dOw dSt dPe dHo dGr dPa dFt) sz) := by
  unfold fl_tellsPerson at h
  refine Met.ofW (cc := cX3_tellsPerson) (maxL := 2) (ret := (some .boolean)) (by decide) rfl ?_
  intro p e s m args below meth c s₁ B hml hv
  obtain ⟨rfl, hsz, hP, hK, hD0⟩ := hv
  have hx := B.exec
  have hb := B.bytes
  have hr := B.returns
  have hts := atoms_spec (ws := wsX3_tellsPerson) B.pre
  have hown : s.vm.findClass RX3 = some m.cls := findClass_of_methodNamed B.named
  have hlocks := B.notSynchronized
  subst hsz
  have hD := hD0.self (sz := s.heap.size)
  have hA : ∀ q : Nat, s.heap.size ≤ q → va_A (xW a g d cI cJ cZ (g 0) (d 0) xText xLetters xNow xKept xIsKept xChance xScenes xASize xSKinds xSLifts xSFlights xSSize xTally xOut fPk fWn fGw fGk fOw fSt fPe fHo fGr fPa fFt dPk dWn dGw dGk dOw dSt dPe dHo dGr dPa dFt) s.heap.size q := fun q h => Or.inr h
  have hS : va_S (va_A (xW a g d cI cJ cZ (g 0) (d 0) xText xLetters xNow xKept xIsKept xChance xScenes xASize xSKinds xSLifts xSFlights xSSize xTally xOut fPk fWn fGw fGk fOw fSt fPe fHo fGr fPa fFt dPk dWn dGw dGk dOw dSt dPe dHo dGr dPa dFt) s.heap.size) s.heap s.heap [] := va_S.rf
  obtain ⟨A, hAe⟩ : ∃ A, A = va_A (xW a g d cI cJ cZ (g 0) (d 0) xText xLetters xNow xKept xIsKept xChance xScenes xASize xSKinds xSLifts xSFlights xSSize xTally xOut fPk fWn fGw fGk fOw fSt fPe fHo fGr fPa fFt dPk dWn dGw dGk dOw dSt dPe dHo dGr dPa dFt) s.heap.size := ⟨_, rfl⟩
  rw [← hAe] at hD hA hS
  have hl := lv_entry ([.ref (d 0), .int p1]) (n := 2) (Nat.le_of_ble_eq_true rfl)
  rw [lg_entry_eq]
  generalize (lg_sl ([.ref (d 0), .int p1]) ++ List.replicate (2 - (lg_sl ([.ref (d 0), .int p1])).length) Slot.unset).toArray = ls at hl ⊢
  have hl : lv_has ls 2 [(0, .ref (d 0)), (1, .int p1)] := hl
  have hiX3 : ∀ w ∈ u_ws RX3 TX3 11, w ∈ wsX3_tellsPerson := fun w hw => List.mem_cons_of_mem _ (List.mem_append_right _ hw)
  refine lv_iload_n hx hb dX3_tellsPerson_0 rfl (lv_at hl 1 rfl) ?_
  refine lv_if_lt (tgt := 28) hx hb dX3_tellsPerson_1 (by decide) (fun c1 => ?_) (fun c1 => ?_)
  · have h := iT c1 h
    refine lv_iconst (v := 0) hx hb dX3_tellsPerson_28 (by decide) ?_
    cases h
    subst hAe
    exact W.zret hx hb hr (by decide) (fun t ht _ => ⟨⟨_, (), rfl, rfl, by rw [ht]; exact hP, hD⟩, hS.F ht⟩) hS.2.2 dX3_tellsPerson_29
  · have h := iF c1 h
    refine lv_iload_n hx hb dX3_tellsPerson_4 rfl (lv_at hl 1 rfl) ?_
    refine lv_iconst (v := 3) hx hb dX3_tellsPerson_5 (by decide) ?_
    refine lv_icmp_gt (tgt := 28) hx hb dX3_tellsPerson_6 (by decide) (fun c2 => ?_) (fun c2 => ?_)
    · have h := iT c2 h
      refine lv_iconst (v := 0) hx hb dX3_tellsPerson_28 (by decide) ?_
      cases h
      subst hAe
      exact W.zret hx hb hr (by decide) (fun t ht _ => ⟨⟨_, (), rfl, rfl, by rw [ht]; exact hP, hD⟩, hS.F ht⟩) hS.2.2 dX3_tellsPerson_29
    · have h := iF c2 h
      refine lv_aload_n hx hb dX3_tellsPerson_9 rfl (lv_at hl 0 rfl) ?_
      refine va_get (D := D) (ci := 2) (v := .int dPe) (C := RX3) (T := TX3) (N := 11) hx hb hts hiX3 hown hK.1 hP 20 rfl rfl 6 (by decide) (hts (.fieldLink RX3 30 "WinnowedGuilt$Floor" "people" "I") (by decide +kernel)) (fun _ h9 => h9) rfl dX3_tellsPerson_10 ?_
      refine lv_if_lt (tgt := 28) hx hb dX3_tellsPerson_13 (by decide) (fun c3 => ?_) (fun c3 => ?_)
      · have h := iT c3 h
        refine lv_iconst (v := 0) hx hb dX3_tellsPerson_28 (by decide) ?_
        cases h
        subst hAe
        exact W.zret hx hb hr (by decide) (fun t ht _ => ⟨⟨_, (), rfl, rfl, by rw [ht]; exact hP, hD⟩, hS.F ht⟩) hS.2.2 dX3_tellsPerson_29
      · have h := iF c3 h
        refine lv_aload_n hx hb dX3_tellsPerson_16 rfl (lv_at hl 0 rfl) ?_
        refine va_get (D := D) (ci := 2) (v := .int dPe) (C := RX3) (T := TX3) (N := 11) hx hb hts hiX3 hown hK.1 hP 20 rfl rfl 6 (by decide) (hts (.fieldLink RX3 30 "WinnowedGuilt$Floor" "people" "I") (by decide +kernel)) (fun _ h9 => h9) rfl dX3_tellsPerson_17 ?_
        refine lv_aload_n hx hb dX3_tellsPerson_20 rfl (lv_at hl 0 rfl) ?_
        refine va_get (D := D) (ci := 2) (v := .ref (d 1)) (C := RX3) (T := TX3) (N := 11) hx hb hts hiX3 hown hK.1 hP 20 rfl rfl 0 (by decide) (hts (.fieldLink RX3 9 "WinnowedGuilt$Floor" "personKinds" "[I") (by decide +kernel)) (fun _ h9 => h9) rfl dX3_tellsPerson_21 ?_
        refine va_alen (v := 4) hx hb hK.1 hP 21 0 rfl rfl rfl dX3_tellsPerson_24 ?_
        refine lv_icmp_lt (tgt := 30) hx hb dX3_tellsPerson_25 (by decide) (fun c4 => ?_) (fun c4 => ?_)
        · have h := iT c4 h
          refine lv_aload_n hx hb dX3_tellsPerson_30 rfl (lv_at hl 0 rfl) ?_
          refine va_get (D := D) (ci := 2) (v := .ref (d 1)) (C := RX3) (T := TX3) (N := 11) hx hb hts hiX3 hown hK.1 hP 20 rfl rfl 0 (by decide) (hts (.fieldLink RX3 9 "WinnowedGuilt$Floor" "personKinds" "[I") (by decide +kernel)) (fun _ h9 => h9) rfl dX3_tellsPerson_31 ?_
          refine lv_aload_n hx hb dX3_tellsPerson_34 rfl (lv_at hl 0 rfl) ?_
          refine va_get (D := D) (ci := 2) (v := .int dPe) (C := RX3) (T := TX3) (N := 11) hx hb hts hiX3 hown hK.1 hP 20 rfl rfl 6 (by decide) (hts (.fieldLink RX3 30 "WinnowedGuilt$Floor" "people" "I") (by decide +kernel)) (fun _ h9 => h9) rfl dX3_tellsPerson_35 ?_
          refine lv_iload_n hx hb dX3_tellsPerson_38 rfl (lv_at hl 1 rfl) ?_
          obtain ⟨hi5, h⟩ := gI_some h
          refine va_iast hx hb hK.1 hP hD hS 21 0 rfl rfl hi5 dX3_tellsPerson_39 (fun H locs hP hD hS => ?_)
          have hP : va_P D vwCl (xW a g d cI cJ cZ (g 0) (d 0) xText xLetters xNow xKept xIsKept xChance xScenes xASize xSKinds xSLifts xSFlights xSSize xTally xOut fPk fWn fGw fGk fOw fSt fPe fHo fGr fPa fFt (upd dPk (Int32.toNatClampNeg dPe) p1) dWn dGw dGk dOw dSt dPe dHo dGr dPa dFt) H := hP
          have hD : va_D A (xW a g d cI cJ cZ (g 0) (d 0) xText xLetters xNow xKept xIsKept xChance xScenes xASize xSKinds xSLifts xSFlights xSSize xTally xOut fPk fWn fGw fGk fOw fSt fPe fHo fGr fPa fFt (upd dPk (Int32.toNatClampNeg dPe) p1) dWn dGw dGk dOw dSt dPe dHo dGr dPa dFt) := hD
          refine lv_aload_n hx hb dX3_tellsPerson_40 rfl (lv_at hl 0 rfl) ?_
          refine lv_dup hx hb dX3_tellsPerson_41 rfl ?_
          refine va_get (D := D) (ci := 2) (v := .int dPe) (C := RX3) (T := TX3) (N := 11) hx hb hts hiX3 hown hK.1 hP 20 rfl rfl 6 (by decide) (hts (.fieldLink RX3 30 "WinnowedGuilt$Floor" "people" "I") (by decide +kernel)) (fun _ h9 => h9) rfl dX3_tellsPerson_42 ?_
          refine lv_iconst (v := 1) hx hb dX3_tellsPerson_45 (by decide) ?_
          refine lv_iadd hx hb dX3_tellsPerson_46 ?_
          refine va_put (D := D) (ci := 2) (v := .int (dPe + 1)) (ty := .int) (C := RX3) (T := TX3) (N := 11) hx hb hts hiX3 tyX3 tyX3_ok nmX3 hown hK.1 hP hD hS 20 rfl rfl 6 (by decide) (hts (.fieldLink RX3 30 "WinnowedGuilt$Floor" "people" "I") (by decide +kernel)) (fun _ h9 => h9) rfl (by decide +kernel) rfl rfl (Nat.le_of_ble_eq_true rfl) dX3_tellsPerson_47 (fun H locs hP hD hS => ?_)
          have hP : va_P D vwCl (xW a g d cI cJ cZ (g 0) (d 0) xText xLetters xNow xKept xIsKept xChance xScenes xASize xSKinds xSLifts xSFlights xSSize xTally xOut fPk fWn fGw fGk fOw fSt fPe fHo fGr fPa fFt (upd dPk (Int32.toNatClampNeg dPe) p1) dWn dGw dGk dOw dSt (dPe + 1) dHo dGr dPa dFt) H := hP
          have hD : va_D A (xW a g d cI cJ cZ (g 0) (d 0) xText xLetters xNow xKept xIsKept xChance xScenes xASize xSKinds xSLifts xSFlights xSSize xTally xOut fPk fWn fGw fGk fOw fSt fPe fHo fGr fPa fFt (upd dPk (Int32.toNatClampNeg dPe) p1) dWn dGw dGk dOw dSt (dPe + 1) dHo dGr dPa dFt) := hD
          refine lv_aload_n hx hb dX3_tellsPerson_50 rfl (lv_at hl 0 rfl) ?_
          refine lv_bipush (v := 87) hx hb dX3_tellsPerson_51 (by decide) ?_
          refine va_put (D := D) (ci := 2) (v := .int 87) (ty := .int) (C := RX3) (T := TX3) (N := 11) hx hb hts hiX3 tyX3 tyX3_ok nmX3 hown hK.1 hP hD hS 20 rfl rfl 9 (by decide) (hts (.fieldLink RX3 40 "WinnowedGuilt$Floor" "part" "I") (by decide +kernel)) (fun _ h9 => h9) rfl (by decide +kernel) rfl rfl (Nat.le_of_ble_eq_true rfl) dX3_tellsPerson_53 (fun H locs hP hD hS => ?_)
          have hP : va_P D vwCl (xW a g d cI cJ cZ (g 0) (d 0) xText xLetters xNow xKept xIsKept xChance xScenes xASize xSKinds xSLifts xSFlights xSSize xTally xOut fPk fWn fGw fGk fOw fSt fPe fHo fGr fPa fFt (upd dPk (Int32.toNatClampNeg dPe) p1) dWn dGw dGk dOw dSt (dPe + 1) dHo dGr 87 dFt) H := hP
          have hD : va_D A (xW a g d cI cJ cZ (g 0) (d 0) xText xLetters xNow xKept xIsKept xChance xScenes xASize xSKinds xSLifts xSFlights xSSize xTally xOut fPk fWn fGw fGk fOw fSt fPe fHo fGr fPa fFt (upd dPk (Int32.toNatClampNeg dPe) p1) dWn dGw dGk dOw dSt (dPe + 1) dHo dGr 87 dFt) := hD
          refine lv_iconst (v := 1) hx hb dX3_tellsPerson_56 (by decide) ?_
          cases h
          subst hAe
          exact W.zret hx hb hr (by decide) (fun t ht _ => ⟨⟨_, (), rfl, rfl, by rw [ht]; exact hP, hD⟩, hS.F ht⟩) hS.2.2 dX3_tellsPerson_57
        · have h := iF c4 h
          refine lv_iconst (v := 0) hx hb dX3_tellsPerson_28 (by decide) ?_
          cases h
          subst hAe
          exact W.zret hx hb hr (by decide) (fun t ht _ => ⟨⟨_, (), rfl, rfl, by rw [ht]; exact hP, hD⟩, hS.F ht⟩) hS.2.2 dX3_tellsPerson_29

set_option maxHeartbeats 4000000 in
set_option maxRecDepth 100000 in
theorem c_fl_begins (l : Launch) (D : va_G) (cI cJ cZ : ClassId) (a : Nat → Nat) (g : Nat → Nat) (d : Nat → Nat) (xText : Nat → Int32) (xLetters : Int32) (xNow : Int64) (xKept : Nat → Int64) (xIsKept : Nat → Int32) (xChance : Int64) (xScenes : Nat → Int64) (xASize : Int32) (xSKinds : Nat → Int32) (xSLifts : Nat → Int32) (xSFlights : Nat → Int32) (xSSize : Int32) (xTally : Nat → Int32) (xOut : Nat → Int64) (fPk : Nat → Int32) (fWn : Nat → Int32) (fGw : Nat → Int32) (fGk : Nat → Int32) (fOw : Nat → Int32) (fSt : Nat → Int32) (fPe : Int32) (fHo : Int32) (fGr : Int32) (fPa : Int32) (fFt : Int32) (dPk : Nat → Int32) (dWn : Nat → Int32) (dGw : Nat → Int32) (dGk : Nat → Int32) (dOw : Nat → Int32) (dSt : Nat → Int32) (dPe : Int32) (dHo : Int32) (dGr : Int32) (dPa : Int32) (dFt : Int32)  (sz : Nat) (p1 : Int32) (rv : Int32) (dPa_r : Int32) (dFt_r : Int32) (h : fl_begins dPe dHo dGr p1 = some (rv, dPa_r, dFt_r)) : Met l yX3_begins wsX3_begins ({ frames := 0, cells := 0, slots := 0, locals := 0 } : Room) (wPc D cI cJ cZ (xW a g d cI cJ cZ (g 0) (d 0) xText xLetters xNow xKept xIsKept xChance xScenes xASize xSKinds xSLifts xSFlights xSSize xTally xOut fPk fWn fGw fGk fOw fSt fPe fHo fGr fPa fFt dPk dWn dGw dGk dOw dSt dPe dHo dGr dPa dFt) sz [.ref (d 0), .int p1]) (wQi D (xW a g d cI cJ cZ (g 0) (d 0) xText xLetters xNow xKept xIsKept xChance xScenes xASize xSKinds xSLifts xSFlights xSSize xTally xOut fPk fWn fGw fGk fOw fSt fPe fHo fGr fPa fFt dPk dWn dGw dGk dOw dSt dPe dHo dGr dPa dFt) (xW a g d cI cJ cZ (g 0) (d 0) xText xLetters xNow xKept xIsKept xChance xScenes xASize xSKinds xSLifts xSFlights xSSize xTally xOut fPk fWn fGw fGk fOw fSt fPe fHo fGr fPa fFt dPk dWn dGw dGk dOw dSt dPe dHo dGr dPa_r dFt_r) sz rv) 0 0 (va_A (xW a g d cI cJ cZ (g 0) (d 0) xText xLetters xNow xKept xIsKept xChance xScenes xASize xSKinds xSLifts xSFlights xSSize xTally xOut fPk fWn fGw fGk fOw fSt fPe fHo fGr fPa fFt dPk dWn dGw dGk dOw dSt dPe dHo dGr dPa dFt) sz) := by
  unfold fl_begins at h
  refine Met.ofW (cc := cX3_begins) (maxL := 2) (ret := (some .boolean)) (by decide) rfl ?_
  intro p e s m args below meth c s₁ B hml hv
  obtain ⟨rfl, hsz, hP, hK, hD0⟩ := hv
  have hx := B.exec
  have hb := B.bytes
  have hr := B.returns
  have hts := atoms_spec (ws := wsX3_begins) B.pre
  have hown : s.vm.findClass RX3 = some m.cls := findClass_of_methodNamed B.named
  have hlocks := B.notSynchronized
  subst hsz
  have hD := hD0.self (sz := s.heap.size)
  have hA : ∀ q : Nat, s.heap.size ≤ q → va_A (xW a g d cI cJ cZ (g 0) (d 0) xText xLetters xNow xKept xIsKept xChance xScenes xASize xSKinds xSLifts xSFlights xSSize xTally xOut fPk fWn fGw fGk fOw fSt fPe fHo fGr fPa fFt dPk dWn dGw dGk dOw dSt dPe dHo dGr dPa dFt) s.heap.size q := fun q h => Or.inr h
  have hS : va_S (va_A (xW a g d cI cJ cZ (g 0) (d 0) xText xLetters xNow xKept xIsKept xChance xScenes xASize xSKinds xSLifts xSFlights xSSize xTally xOut fPk fWn fGw fGk fOw fSt fPe fHo fGr fPa fFt dPk dWn dGw dGk dOw dSt dPe dHo dGr dPa dFt) s.heap.size) s.heap s.heap [] := va_S.rf
  obtain ⟨A, hAe⟩ : ∃ A, A = va_A (xW a g d cI cJ cZ (g 0) (d 0) xText xLetters xNow xKept xIsKept xChance xScenes xASize xSKinds xSLifts xSFlights xSSize xTally xOut fPk fWn fGw fGk fOw fSt fPe fHo fGr fPa fFt dPk dWn dGw dGk dOw dSt dPe dHo dGr dPa dFt) s.heap.size := ⟨_, rfl⟩
  rw [← hAe] at hD hA hS
  have hl := lv_entry ([.ref (d 0), .int p1]) (n := 2) (Nat.le_of_ble_eq_true rfl)
  rw [lg_entry_eq]
  generalize (lg_sl ([.ref (d 0), .int p1]) ++ List.replicate (2 - (lg_sl ([.ref (d 0), .int p1])).length) Slot.unset).toArray = ls at hl ⊢
  have hl : lv_has ls 2 [(0, .ref (d 0)), (1, .int p1)] := hl
  have hiX3 : ∀ w ∈ u_ws RX3 TX3 11, w ∈ wsX3_begins := fun w hw => List.mem_cons_of_mem _ (List.mem_append_right _ hw)
  refine lv_aload_n hx hb dX3_begins_0 rfl (lv_at hl 0 rfl) ?_
  refine lv_iload_n hx hb dX3_begins_1 rfl (lv_at hl 1 rfl) ?_
  refine va_put (D := D) (ci := 2) (v := .int p1) (ty := .int) (C := RX3) (T := TX3) (N := 11) hx hb hts hiX3 tyX3 tyX3_ok nmX3 hown hK.1 hP hD hS 20 rfl rfl 9 (by decide) (hts (.fieldLink RX3 40 "WinnowedGuilt$Floor" "part" "I") (by decide +kernel)) (fun _ h9 => h9) rfl (by decide +kernel) rfl rfl (Nat.le_of_ble_eq_true rfl) dX3_begins_2 (fun H locs hP hD hS => ?_)
  have hP : va_P D vwCl (xW a g d cI cJ cZ (g 0) (d 0) xText xLetters xNow xKept xIsKept xChance xScenes xASize xSKinds xSLifts xSFlights xSSize xTally xOut fPk fWn fGw fGk fOw fSt fPe fHo fGr fPa fFt dPk dWn dGw dGk dOw dSt dPe dHo dGr p1 dFt) H := hP
  have hD : va_D A (xW a g d cI cJ cZ (g 0) (d 0) xText xLetters xNow xKept xIsKept xChance xScenes xASize xSKinds xSLifts xSFlights xSSize xTally xOut fPk fWn fGw fGk fOw fSt fPe fHo fGr fPa fFt dPk dWn dGw dGk dOw dSt dPe dHo dGr p1 dFt) := hD
  refine lv_aload_n hx hb dX3_begins_5 rfl (lv_at hl 0 rfl) ?_
  refine lv_iconst (v := 0) hx hb dX3_begins_6 (by decide) ?_
  refine va_put (D := D) (ci := 2) (v := .int 0) (ty := .int) (C := RX3) (T := TX3) (N := 11) hx hb hts hiX3 tyX3 tyX3_ok nmX3 hown hK.1 hP hD hS 20 rfl rfl 10 (by decide) (hts (.fieldLink RX3 43 "WinnowedGuilt$Floor" "figuresTold" "I") (by decide +kernel)) (fun _ h9 => h9) rfl (by decide +kernel) rfl rfl (Nat.le_of_ble_eq_true rfl) dX3_begins_7 (fun H locs hP hD hS => ?_)
  have hP : va_P D vwCl (xW a g d cI cJ cZ (g 0) (d 0) xText xLetters xNow xKept xIsKept xChance xScenes xASize xSKinds xSLifts xSFlights xSSize xTally xOut fPk fWn fGw fGk fOw fSt fPe fHo fGr fPa fFt dPk dWn dGw dGk dOw dSt dPe dHo dGr p1 0) H := hP
  have hD : va_D A (xW a g d cI cJ cZ (g 0) (d 0) xText xLetters xNow xKept xIsKept xChance xScenes xASize xSKinds xSLifts xSFlights xSSize xTally xOut fPk fWn fGw fGk fOw fSt fPe fHo fGr fPa fFt dPk dWn dGw dGk dOw dSt dPe dHo dGr p1 0) := hD
  refine lv_iload_n hx hb dX3_begins_10 rfl (lv_at hl 1 rfl) ?_
  by_cases w0_0 : p1 = 71
  · have h := iT w0_0 h
    refine lv_lookup (tgt := 73) hx hb dX3_begins_11 (by decide) (by rw [w0_0] <;> rfl) (by decide) ?_
    refine lv_aload_n hx hb dX3_begins_73 rfl (lv_at hl 0 rfl) ?_
    refine va_get (D := D) (ci := 2) (v := .int dGr) (C := RX3) (T := TX3) (N := 11) hx hb hts hiX3 hown hK.1 hP 20 rfl rfl 8 (by decide) (hts (.fieldLink RX3 37 "WinnowedGuilt$Floor" "grains" "I") (by decide +kernel)) (fun _ h9 => h9) rfl dX3_begins_74 ?_
    refine lv_bipush (v := 7) hx hb dX3_begins_77 (by decide) ?_
    refine lv_icmp_ge (tgt := 93) hx hb dX3_begins_79 (by decide) (fun c2 => ?_) (fun c2 => ?_)
    · have h := iT c2 h
      refine lv_iconst (v := 0) hx hb dX3_begins_93 (by decide) ?_
      cases h
      subst hAe
      exact W.zret hx hb hr (by decide) (fun t ht _ => ⟨⟨_, (), rfl, rfl, by rw [ht]; exact hP, hD⟩, hS.F ht⟩) hS.2.2 dX3_begins_94
    · have h := iF c2 h
      refine lv_aload_n hx hb dX3_begins_82 rfl (lv_at hl 0 rfl) ?_
      refine va_get (D := D) (ci := 2) (v := .int dPe) (C := RX3) (T := TX3) (N := 11) hx hb hts hiX3 hown hK.1 hP 20 rfl rfl 6 (by decide) (hts (.fieldLink RX3 30 "WinnowedGuilt$Floor" "people" "I") (by decide +kernel)) (fun _ h9 => h9) rfl dX3_begins_83 ?_
      refine lv_if_le (tgt := 93) hx hb dX3_begins_86 (by decide) (fun c3 => ?_) (fun c3 => ?_)
      · have h := iT c3 h
        refine lv_iconst (v := 0) hx hb dX3_begins_93 (by decide) ?_
        cases h
        subst hAe
        exact W.zret hx hb hr (by decide) (fun t ht _ => ⟨⟨_, (), rfl, rfl, by rw [ht]; exact hP, hD⟩, hS.F ht⟩) hS.2.2 dX3_begins_94
      · have h := iF c3 h
        refine lv_iconst (v := 1) hx hb dX3_begins_89 (by decide) ?_
        refine lv_goto (tgt := 94) hx hb dX3_begins_90 (by decide) ?_
        cases h
        subst hAe
        exact W.zret hx hb hr (by decide) (fun t ht _ => ⟨⟨_, (), rfl, rfl, by rw [ht]; exact hP, hD⟩, hS.F ht⟩) hS.2.2 dX3_begins_94
  have h := iF w0_0 h
  by_cases w0_1 : p1 = 72
  · have h := iT w0_1 h
    refine lv_lookup (tgt := 58) hx hb dX3_begins_11 (by decide) (by rw [w0_1] <;> rfl) (by decide) ?_
    refine lv_aload_n hx hb dX3_begins_58 rfl (lv_at hl 0 rfl) ?_
    refine va_get (D := D) (ci := 2) (v := .int dHo) (C := RX3) (T := TX3) (N := 11) hx hb hts hiX3 hown hK.1 hP 20 rfl rfl 7 (by decide) (hts (.fieldLink RX3 34 "WinnowedGuilt$Floor" "hours" "I") (by decide +kernel)) (fun _ h9 => h9) rfl dX3_begins_59 ?_
    refine lv_bipush (v := 6) hx hb dX3_begins_62 (by decide) ?_
    refine lv_icmp_ge (tgt := 71) hx hb dX3_begins_64 (by decide) (fun c2 => ?_) (fun c2 => ?_)
    · have h := iT c2 h
      refine lv_iconst (v := 0) hx hb dX3_begins_71 (by decide) ?_
      cases h
      subst hAe
      exact W.zret hx hb hr (by decide) (fun t ht _ => ⟨⟨_, (), rfl, rfl, by rw [ht]; exact hP, hD⟩, hS.F ht⟩) hS.2.2 dX3_begins_72
    · have h := iF c2 h
      refine lv_iconst (v := 1) hx hb dX3_begins_67 (by decide) ?_
      refine lv_goto (tgt := 72) hx hb dX3_begins_68 (by decide) ?_
      cases h
      subst hAe
      exact W.zret hx hb hr (by decide) (fun t ht _ => ⟨⟨_, (), rfl, rfl, by rw [ht]; exact hP, hD⟩, hS.F ht⟩) hS.2.2 dX3_begins_72
  have h := iF w0_1 h
  by_cases w0_2 : p1 = 80
  · have h := iT w0_2 h
    refine lv_lookup (tgt := 44) hx hb dX3_begins_11 (by decide) (by rw [w0_2] <;> rfl) (by decide) ?_
    refine lv_aload_n hx hb dX3_begins_44 rfl (lv_at hl 0 rfl) ?_
    refine va_get (D := D) (ci := 2) (v := .int dPe) (C := RX3) (T := TX3) (N := 11) hx hb hts hiX3 hown hK.1 hP 20 rfl rfl 6 (by decide) (hts (.fieldLink RX3 30 "WinnowedGuilt$Floor" "people" "I") (by decide +kernel)) (fun _ h9 => h9) rfl dX3_begins_45 ?_
    refine lv_iconst (v := 4) hx hb dX3_begins_48 (by decide) ?_
    refine lv_icmp_ge (tgt := 56) hx hb dX3_begins_49 (by decide) (fun c2 => ?_) (fun c2 => ?_)
    · have h := iT c2 h
      refine lv_iconst (v := 0) hx hb dX3_begins_56 (by decide) ?_
      cases h
      subst hAe
      exact W.zret hx hb hr (by decide) (fun t ht _ => ⟨⟨_, (), rfl, rfl, by rw [ht]; exact hP, hD⟩, hS.F ht⟩) hS.2.2 dX3_begins_57
    · have h := iF c2 h
      refine lv_iconst (v := 1) hx hb dX3_begins_52 (by decide) ?_
      refine lv_goto (tgt := 57) hx hb dX3_begins_53 (by decide) ?_
      cases h
      subst hAe
      exact W.zret hx hb hr (by decide) (fun t ht _ => ⟨⟨_, (), rfl, rfl, by rw [ht]; exact hP, hD⟩, hS.F ht⟩) hS.2.2 dX3_begins_57
  have h := iF w0_2 h
  refine lv_lookup (off := 84) (tgt := 95) hx hb dX3_begins_11 (by decide) ((lv_osw (k := 71) w0_0 (by decide)).trans ((lv_osw (k := 72) w0_1 (by decide)).trans ((lv_osw (k := 80) w0_2 (by decide)).trans (rfl)))) (by decide) ?_
  refine lv_iconst (v := 0) hx hb dX3_begins_95 (by decide) ?_
  cases h
  subst hAe
  exact W.zret hx hb hr (by decide) (fun t ht _ => ⟨⟨_, (), rfl, rfl, by rw [ht]; exact hP, hD⟩, hS.F ht⟩) hS.2.2 dX3_begins_96
