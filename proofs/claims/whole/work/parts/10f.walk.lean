set_option maxHeartbeats 4000000 in
set_option maxRecDepth 100000 in
theorem c_ba_hold (l : Launch) (D : va_G) (cI cJ cZ : ClassId) (a : Nat → Nat) (g : Nat → Nat) (d : Nat → Nat) (xText : Nat → Int32) (xLetters : Int32) (xNow : Int64) (xKept : Nat → Int64) (xIsKept : Nat → Int32) (xChance : Int64) (xScenes : Nat → Int64) (xASize : Int32) (xSKinds : Nat → Int32) (xSLifts : Nat → Int32) (xSFlights : Nat → Int32) (xSSize : Int32) (xTally : Nat → Int32) (xOut : Nat → Int64) (fPk : Nat → Int32) (fWn : Nat → Int32) (fGw : Nat → Int32) (fGk : Nat → Int32) (fOw : Nat → Int32) (fSt : Nat → Int32) (fPe : Int32) (fHo : Int32) (fGr : Int32) (fPa : Int32) (fFt : Int32) (dPk : Nat → Int32) (dWn : Nat → Int32) (dGw : Nat → Int32) (dGk : Nat → Int32) (dOw : Nat → Int32) (dSt : Nat → Int32) (dPe : Int32) (dHo : Int32) (dGr : Int32) (dPa : Int32) (dFt : Int32)  (sz : Nat) (p2 : Int64) (xTally_r : Nat → Int32) (xOut_r : Nat → Int64) (h : ba_hold xTally xOut fPk fWn fGw fGk fOw fPe fHo fGr p2 = some (xTally_r, xOut_r)) : Met l yX1_hold wsX1_hold ({ frames := 5, cells := 0, slots := 0, locals := 124 } : Room) (wPc D cI cJ cZ (xW a g d cI cJ cZ (g 0) (d 0) xText xLetters xNow xKept xIsKept xChance xScenes xASize xSKinds xSLifts xSFlights xSSize xTally xOut fPk fWn fGw fGk fOw fSt fPe fHo fGr fPa fFt dPk dWn dGw dGk dOw dSt dPe dHo dGr dPa dFt) sz [.ref (a 6), .ref (g 0), .long p2]) (wQv D (xW a g d cI cJ cZ (g 0) (d 0) xText xLetters xNow xKept xIsKept xChance xScenes xASize xSKinds xSLifts xSFlights xSSize xTally xOut fPk fWn fGw fGk fOw fSt fPe fHo fGr fPa fFt dPk dWn dGw dGk dOw dSt dPe dHo dGr dPa dFt) (xW a g d cI cJ cZ (g 0) (d 0) xText xLetters xNow xKept xIsKept xChance xScenes xASize xSKinds xSLifts xSFlights xSSize xTally_r xOut_r fPk fWn fGw fGk fOw fSt fPe fHo fGr fPa fFt dPk dWn dGw dGk dOw dSt dPe dHo dGr dPa dFt) sz) 0 0 (va_A (xW a g d cI cJ cZ (g 0) (d 0) xText xLetters xNow xKept xIsKept xChance xScenes xASize xSKinds xSLifts xSFlights xSSize xTally xOut fPk fWn fGw fGk fOw fSt fPe fHo fGr fPa fFt dPk dWn dGw dGk dOw dSt dPe dHo dGr dPa dFt) sz) := by
  unfold ba_hold at h
  refine Met.ofW (cc := cX1_hold) (maxL := 6) (ret := none) (by decide) rfl ?_
  intro p e s m args below meth c s₁ B hml hv
  obtain ⟨rfl, hsz, hP, hK, hD0⟩ := hv
  have hx := B.exec
  have hb := B.bytes
  have hr := B.returns
  have hts := atoms_spec (ws := wsX1_hold) B.pre
  have hown : s.vm.findClass RX1 = some m.cls := findClass_of_methodNamed B.named
  have hlocks := B.notSynchronized
  subst hsz
  have hD := hD0.self (sz := s.heap.size)
  have hA : ∀ q : Nat, s.heap.size ≤ q → va_A (xW a g d cI cJ cZ (g 0) (d 0) xText xLetters xNow xKept xIsKept xChance xScenes xASize xSKinds xSLifts xSFlights xSSize xTally xOut fPk fWn fGw fGk fOw fSt fPe fHo fGr fPa fFt dPk dWn dGw dGk dOw dSt dPe dHo dGr dPa dFt) s.heap.size q := fun q h => Or.inr h
  have hS : va_S (va_A (xW a g d cI cJ cZ (g 0) (d 0) xText xLetters xNow xKept xIsKept xChance xScenes xASize xSKinds xSLifts xSFlights xSSize xTally xOut fPk fWn fGw fGk fOw fSt fPe fHo fGr fPa fFt dPk dWn dGw dGk dOw dSt dPe dHo dGr dPa dFt) s.heap.size) s.heap s.heap [] := va_S.rf
  obtain ⟨A, hAe⟩ : ∃ A, A = va_A (xW a g d cI cJ cZ (g 0) (d 0) xText xLetters xNow xKept xIsKept xChance xScenes xASize xSKinds xSLifts xSFlights xSSize xTally xOut fPk fWn fGw fGk fOw fSt fPe fHo fGr fPa fFt dPk dWn dGw dGk dOw dSt dPe dHo dGr dPa dFt) s.heap.size := ⟨_, rfl⟩
  rw [← hAe] at hD hA hS
  have hl := lv_entry ([.ref (a 6), .ref (g 0), .long p2]) (n := 6) (Nat.le_of_ble_eq_true rfl)
  rw [lg_entry_eq]
  generalize (lg_sl ([.ref (a 6), .ref (g 0), .long p2]) ++ List.replicate (6 - (lg_sl ([.ref (a 6), .ref (g 0), .long p2])).length) Slot.unset).toArray = ls at hl ⊢
  have hl : lv_has ls 6 [(0, .ref (a 6)), (1, .ref (g 0)), (2, .long p2)] := hl
  have hiX1 : ∀ w ∈ u_ws RX1 TX1 2, w ∈ wsX1_hold := fun w hw => List.mem_cons_of_mem _ (List.mem_append_right _ hw)
  have hiX3 : ∀ w ∈ u_ws RX3 TX3 11, w ∈ wsX1_hold := fun w hw => List.mem_cons_of_mem _ (List.mem_append_left _ (List.mem_append_right _ hw))
  refine lv_iconst (v := 0) hx hb dX1_hold_0 (by decide) ?_
  refine lv_istore (lv' := [(4, .int 0), (0, .ref (a 6)), (1, .ref (g 0)), (2, .long p2)]) hx hb dX1_hold_1 hl (by decide) rfl (fun ls hl => ?_)
  have L3 : ∀ (n : Nat) (x4_3 : Int32) (xTally_3x : (Nat → Int32)) (xOut_3x : (Nat → Int64)) (H : Heap) (locs : List Loc) (ls : Array Slot) (kx : Int32 → (Nat → Int32) → (Nat → Int64) → Option ((Nat → Int32) × (Nat → Int64))), ba_hold_L3 fPk fWn fGw fGk fOw fPe fHo fGr p2 kx n x4_3 xTally_3x xOut_3x = some (xTally_r, xOut_r) → va_P D vwCl (xW a g d cI cJ cZ (g 0) (d 0) xText xLetters xNow xKept xIsKept xChance xScenes xASize xSKinds xSLifts xSFlights xSSize xTally_3x xOut_3x fPk fWn fGw fGk fOw fSt fPe fHo fGr fPa fFt dPk dWn dGw dGk dOw dSt dPe dHo dGr dPa dFt) H → va_D A (xW a g d cI cJ cZ (g 0) (d 0) xText xLetters xNow xKept xIsKept xChance xScenes xASize xSKinds xSLifts xSFlights xSSize xTally_3x xOut_3x fPk fWn fGw fGk fOw fSt fPe fHo fGr fPa fFt dPk dWn dGw dGk dOw dSt dPe dHo dGr dPa dFt) → va_S A s.heap H locs → lv_has ls 6 [(4, .int x4_3), (0, .ref (a 6)), (1, .ref (g 0)), (2, .long p2)] → (∀ (y4_3 : Int32) (xTally_3 : (Nat → Int32)) (xOut_3 : (Nat → Int64)) (H : Heap) (locs : List Loc) (ls : Array Slot), kx y4_3 xTally_3 xOut_3 = some (xTally_r, xOut_r) → va_P D vwCl (xW a g d cI cJ cZ (g 0) (d 0) xText xLetters xNow xKept xIsKept xChance xScenes xASize xSKinds xSLifts xSFlights xSSize xTally_3 xOut_3 fPk fWn fGw fGk fOw fSt fPe fHo fGr fPa fFt dPk dWn dGw dGk dOw dSt dPe dHo dGr dPa dFt) H → va_D A (xW a g d cI cJ cZ (g 0) (d 0) xText xLetters xNow xKept xIsKept xChance xScenes xASize xSKinds xSLifts xSFlights xSSize xTally_3 xOut_3 fPk fWn fGw fGk fOw fSt fPe fHo fGr fPa fFt dPk dWn dGw dGk dOw dSt dPe dHo dGr dPa dFt) → va_S A s.heap H locs → lv_has ls 6 [(4, .int y4_3), (0, .ref (a 6)), (1, .ref (g 0)), (2, .long p2)] → W p l e (headSpec wsX1_hold ({ frames := 5, cells := 0, slots := 0, locals := 124 } : Room)).room s m ([.ref (a 6), .ref (g 0), .long p2] : List Value).toArray below meth c H locs 0 0 (MQ below (wQv D (xW a g d cI cJ cZ (g 0) (d 0) xText xLetters xNow xKept xIsKept xChance xScenes xASize xSKinds xSLifts xSFlights xSSize xTally xOut fPk fWn fGw fGk fOw fSt fPe fHo fGr fPa fFt dPk dWn dGw dGk dOw dSt dPe dHo dGr dPa dFt) (xW a g d cI cJ cZ (g 0) (d 0) xText xLetters xNow xKept xIsKept xChance xScenes xASize xSKinds xSLifts xSFlights xSSize xTally_r xOut_r fPk fWn fGw fGk fOw fSt fPe fHo fGr fPa fFt dPk dWn dGw dGk dOw dSt dPe dHo dGr dPa dFt) s.heap.size) ([.ref (a 6), .ref (g 0), .long p2] : List Value).toArray s 0 0 (va_A (xW a g d cI cJ cZ (g 0) (d 0) xText xLetters xNow xKept xIsKept xChance xScenes xASize xSKinds xSLifts xSFlights xSSize xTally xOut fPk fWn fGw fGk fOw fSt fPe fHo fGr fPa fFt dPk dWn dGw dGk dOw dSt dPe dHo dGr dPa dFt) s.heap.size)) (F0 m 63 ls [])) → W p l e (headSpec wsX1_hold ({ frames := 5, cells := 0, slots := 0, locals := 124 } : Room)).room s m ([.ref (a 6), .ref (g 0), .long p2] : List Value).toArray below meth c H locs 0 0 (MQ below (wQv D (xW a g d cI cJ cZ (g 0) (d 0) xText xLetters xNow xKept xIsKept xChance xScenes xASize xSKinds xSLifts xSFlights xSSize xTally xOut fPk fWn fGw fGk fOw fSt fPe fHo fGr fPa fFt dPk dWn dGw dGk dOw dSt dPe dHo dGr dPa dFt) (xW a g d cI cJ cZ (g 0) (d 0) xText xLetters xNow xKept xIsKept xChance xScenes xASize xSKinds xSLifts xSFlights xSSize xTally_r xOut_r fPk fWn fGw fGk fOw fSt fPe fHo fGr fPa fFt dPk dWn dGw dGk dOw dSt dPe dHo dGr dPa dFt) s.heap.size) ([.ref (a 6), .ref (g 0), .long p2] : List Value).toArray s 0 0 (va_A (xW a g d cI cJ cZ (g 0) (d 0) xText xLetters xNow xKept xIsKept xChance xScenes xASize xSKinds xSLifts xSFlights xSSize xTally xOut fPk fWn fGw fGk fOw fSt fPe fHo fGr fPa fFt dPk dWn dGw dGk dOw dSt dPe dHo dGr dPa dFt) s.heap.size)) (F0 m 3 ls []) := by
    intro n
    induction n with
    | zero => intro _ _ _ _ _ _ _ h; rw [ba_hold_L3.eq_1] at h; cases h
    | succ n ih =>
      intro x4_3 xTally_3x xOut_3x H locs ls kx h hP hD hS hl hk
      rw [ba_hold_L3.eq_2] at h
      refine lv_iload hx hb dX1_hold_3 (lv_at hl 0 rfl) ?_
      refine lv_aload_n hx hb dX1_hold_5 rfl (lv_at hl 2 rfl) ?_
      refine va_getN (D := D) (ci := 2) (v := .int fPe) (C := RX3) (T := TX3) (N := 11) hx hb hts hiX3 hown hK.1 hP 13 rfl rfl 6 (by decide) (va_Nw.use rfl (kN_0 hK.2)) (fun _ h9 => h9) rfl dX1_hold_6 ?_
      refine lv_icmp_ge (tgt := 63) hx hb dX1_hold_9 (by decide) (fun c1 => ?_) (fun c1 => ?_)
      · have h := iT c1 h
        exact hk _ _ _ _ _ _ h hP hD hS (lv_sub hl [0, 1, 2, 3] rfl)
      · have h := iF c1 h
        refine lv_iload hx hb dX1_hold_12 (lv_at hl 0 rfl) ?_
        refine lv_aload_n hx hb dX1_hold_14 rfl (lv_at hl 1 rfl) ?_
        refine va_get (D := D) (ci := 1) (v := .ref (a 11)) (C := RX1) (T := TX1) (N := 2) hx hb hts hiX1 hown hK.1 hP 10 rfl rfl 0 (by decide) (hts (.fieldLink RX1 9 "WinnowedGuilt$Ballot" "tally" "[I") (by decide +kernel)) (fun _ h9 => h9) rfl dX1_hold_15 ?_
        refine va_alen (v := 4) hx hb hK.1 hP 11 0 rfl rfl rfl dX1_hold_18 ?_
        refine lv_icmp_ge (tgt := 63) hx hb dX1_hold_19 (by decide) (fun c2 => ?_) (fun c2 => ?_)
        · have h := iT c2 h
          exact hk _ _ _ _ _ _ h hP hD hS (lv_sub hl [0, 1, 2, 3] rfl)
        · have h := iF c2 h
          refine lv_iload hx hb dX1_hold_22 (lv_at hl 0 rfl) ?_
          refine lv_aload_n hx hb dX1_hold_24 rfl (lv_at hl 1 rfl) ?_
          refine va_get (D := D) (ci := 1) (v := .ref (a 12)) (C := RX1) (T := TX1) (N := 2) hx hb hts hiX1 hown hK.1 hP 10 rfl rfl 1 (by decide) (hts (.fieldLink RX1 15 "WinnowedGuilt$Ballot" "outcomes" "[J") (by decide +kernel)) (fun _ h9 => h9) rfl dX1_hold_25 ?_
          refine va_alen (v := 4) hx hb hK.1 hP 12 1 rfl rfl rfl dX1_hold_28 ?_
          refine lv_icmp_ge (tgt := 63) hx hb dX1_hold_29 (by decide) (fun c3 => ?_) (fun c3 => ?_)
          · have h := iT c3 h
            exact hk _ _ _ _ _ _ h hP hD hS (lv_sub hl [0, 1, 2, 3] rfl)
          · have h := iF c3 h
            refine lv_aload_n hx hb dX1_hold_32 rfl (lv_at hl 1 rfl) ?_
            refine va_get (D := D) (ci := 1) (v := .ref (a 11)) (C := RX1) (T := TX1) (N := 2) hx hb hts hiX1 hown hK.1 hP 10 rfl rfl 0 (by decide) (hts (.fieldLink RX1 9 "WinnowedGuilt$Ballot" "tally" "[I") (by decide +kernel)) (fun _ h9 => h9) rfl dX1_hold_33 ?_
            refine lv_iload hx hb dX1_hold_36 (lv_at hl 0 rfl) ?_
            refine lv_iconst (v := 0) hx hb dX1_hold_38 (by decide) ?_
            obtain ⟨hi4, h⟩ := gI_some h
            refine va_iast hx hb hK.1 hP hD hS 11 0 rfl rfl hi4 dX1_hold_39 (fun H locs hP hD hS => ?_)
            have hP : va_P D vwCl (xW a g d cI cJ cZ (g 0) (d 0) xText xLetters xNow xKept xIsKept xChance xScenes xASize xSKinds xSLifts xSFlights xSSize (upd xTally_3x (Int32.toNatClampNeg x4_3) 0) xOut_3x fPk fWn fGw fGk fOw fSt fPe fHo fGr fPa fFt dPk dWn dGw dGk dOw dSt dPe dHo dGr dPa dFt) H := hP
            have hD : va_D A (xW a g d cI cJ cZ (g 0) (d 0) xText xLetters xNow xKept xIsKept xChance xScenes xASize xSKinds xSLifts xSFlights xSSize (upd xTally_3x (Int32.toNatClampNeg x4_3) 0) xOut_3x fPk fWn fGw fGk fOw fSt fPe fHo fGr fPa fFt dPk dWn dGw dGk dOw dSt dPe dHo dGr dPa dFt) := hD
            refine lv_aload_n hx hb dX1_hold_40 rfl (lv_at hl 1 rfl) ?_
            refine va_get (D := D) (ci := 1) (v := .ref (a 12)) (C := RX1) (T := TX1) (N := 2) hx hb hts hiX1 hown hK.1 hP 10 rfl rfl 1 (by decide) (hts (.fieldLink RX1 15 "WinnowedGuilt$Ballot" "outcomes" "[J") (by decide +kernel)) (fun _ h9 => h9) rfl dX1_hold_41 ?_
            refine lv_iload hx hb dX1_hold_44 (lv_at hl 0 rfl) ?_
            refine lv_aload_n hx hb dX1_hold_46 rfl (lv_at hl 2 rfl) ?_
            refine lv_lload_n hx hb dX1_hold_47 rfl (lv_at hl 3 rfl) ?_
            refine lv_iload hx hb dX1_hold_48 (lv_at hl 0 rfl) ?_
            obtain ⟨q5, hq5, h⟩ := bS h
            refine rcL (va_runS (As := [.long p2, .int x4_3]) (rest := [.ref (g 0), .int x4_3, .ref (a 12)]) ⟨hx, hb, hml, hown, hts⟩ (c_sc_withHolder l D cI cJ cZ   H p2 x4_3 q5 hq5) (va_cwS 2 hts gX1_hold_X7_withHolder rfl rfl rfl (by decide +kernel) ⟨Nat.le_of_ble_eq_true rfl, Nat.le_of_ble_eq_true rfl⟩) (rPreS hK) rfl rfl hl.1 rfl (lv_room (Nat.le_of_ble_eq_true rfl)) dX1_hold_50 ⟨Nat.zero_le _, Nat.zero_le _⟩) ?_
            have hG := hP.sub (ws' := (fW g cI fPk fWn fGw fGk fOw fSt fPe fHo fGr fPa fFt)) [13, 14, 15, 16, 17, 18, 19] rfl
            obtain ⟨q6, hq6, h⟩ := bS h
            refine rcL (va_runS (As := [.ref (g 0), .long q5]) (rest := [.int x4_3, .ref (a 12)]) ⟨hx, hb, hml, hown, hts⟩ (c_ba_allTossed l D cI cJ cZ g fPk fWn fGw fGk fOw fSt fPe fHo fGr fPa fFt H hG q5 q6 hq6) (va_cwS 2 hts gX1_hold_X1_allTossed rfl rfl rfl (by decide +kernel) ⟨Nat.le_of_ble_eq_true rfl, Nat.le_of_ble_eq_true rfl⟩) (rPreS hK) rfl rfl hl.1 rfl (lv_room (Nat.le_of_ble_eq_true rfl)) dX1_hold_53 ⟨Nat.zero_le _, Nat.zero_le _⟩) ?_
            obtain ⟨hi7, h⟩ := gI_some h
            refine va_last hx hb hK.1 hP hD hS 12 1 rfl rfl hi7 dX1_hold_56 (fun H locs hP hD hS => ?_)
            have hP : va_P D vwCl (xW a g d cI cJ cZ (g 0) (d 0) xText xLetters xNow xKept xIsKept xChance xScenes xASize xSKinds xSLifts xSFlights xSSize (upd xTally_3x (Int32.toNatClampNeg x4_3) 0) (vp_updL xOut_3x (Int32.toNatClampNeg x4_3) q6) fPk fWn fGw fGk fOw fSt fPe fHo fGr fPa fFt dPk dWn dGw dGk dOw dSt dPe dHo dGr dPa dFt) H := hP
            have hD : va_D A (xW a g d cI cJ cZ (g 0) (d 0) xText xLetters xNow xKept xIsKept xChance xScenes xASize xSKinds xSLifts xSFlights xSSize (upd xTally_3x (Int32.toNatClampNeg x4_3) 0) (vp_updL xOut_3x (Int32.toNatClampNeg x4_3) q6) fPk fWn fGw fGk fOw fSt fPe fHo fGr fPa fFt dPk dWn dGw dGk dOw dSt dPe dHo dGr dPa dFt) := hD
            refine lv_iinc (v := (x4_3 + 1)) (lv' := [(4, .int (x4_3 + 1)), (0, .ref (a 6)), (1, .ref (g 0)), (2, .long p2)]) hx hb dX1_hold_57 hl (k := 0) rfl rfl (by decide) rfl (fun ls hl => ?_)
            refine lv_goto (tgt := 3) hx hb dX1_hold_60 (by decide) ?_
            exact ih _ _ _ _ _ _ _ h hP hD hS (lv_sub hl [0, 1, 2, 3] rfl) hk
  refine L3 _ _ _ _ _ _ _ _ h hP hD hS hl (fun y4_3 xTally_3 xOut_3 H locs ls h hP hD hS hl => ?_)
  refine lv_iconst (v := 0) hx hb dX1_hold_63 (by decide) ?_
  refine lv_istore (lv' := [(4, .int 0), (0, .ref (a 6)), (1, .ref (g 0)), (2, .long p2)]) hx hb dX1_hold_64 hl (by decide) rfl (fun ls hl => ?_)
  have L66 : ∀ (n : Nat) (x4_66 : Int32) (xTally_66x : (Nat → Int32)) (H : Heap) (locs : List Loc) (ls : Array Slot) (kx : Int32 → (Nat → Int32) → Option ((Nat → Int32) × (Nat → Int64))), ba_hold_L66 xOut_3 fGw fGk fPe fGr kx n x4_66 xTally_66x = some (xTally_r, xOut_r) → va_P D vwCl (xW a g d cI cJ cZ (g 0) (d 0) xText xLetters xNow xKept xIsKept xChance xScenes xASize xSKinds xSLifts xSFlights xSSize xTally_66x xOut_3 fPk fWn fGw fGk fOw fSt fPe fHo fGr fPa fFt dPk dWn dGw dGk dOw dSt dPe dHo dGr dPa dFt) H → va_D A (xW a g d cI cJ cZ (g 0) (d 0) xText xLetters xNow xKept xIsKept xChance xScenes xASize xSKinds xSLifts xSFlights xSSize xTally_66x xOut_3 fPk fWn fGw fGk fOw fSt fPe fHo fGr fPa fFt dPk dWn dGw dGk dOw dSt dPe dHo dGr dPa dFt) → va_S A s.heap H locs → lv_has ls 6 [(4, .int x4_66), (0, .ref (a 6)), (1, .ref (g 0)), (2, .long p2)] → (∀ (y4_66 : Int32) (xTally_66 : (Nat → Int32)) (H : Heap) (locs : List Loc) (ls : Array Slot), kx y4_66 xTally_66 = some (xTally_r, xOut_r) → va_P D vwCl (xW a g d cI cJ cZ (g 0) (d 0) xText xLetters xNow xKept xIsKept xChance xScenes xASize xSKinds xSLifts xSFlights xSSize xTally_66 xOut_3 fPk fWn fGw fGk fOw fSt fPe fHo fGr fPa fFt dPk dWn dGw dGk dOw dSt dPe dHo dGr dPa dFt) H → va_D A (xW a g d cI cJ cZ (g 0) (d 0) xText xLetters xNow xKept xIsKept xChance xScenes xASize xSKinds xSLifts xSFlights xSSize xTally_66 xOut_3 fPk fWn fGw fGk fOw fSt fPe fHo fGr fPa fFt dPk dWn dGw dGk dOw dSt dPe dHo dGr dPa dFt) → va_S A s.heap H locs → lv_has ls 6 [(4, .int y4_66), (0, .ref (a 6)), (1, .ref (g 0)), (2, .long p2)] → W p l e (headSpec wsX1_hold ({ frames := 5, cells := 0, slots := 0, locals := 124 } : Room)).room s m ([.ref (a 6), .ref (g 0), .long p2] : List Value).toArray below meth c H locs 0 0 (MQ below (wQv D (xW a g d cI cJ cZ (g 0) (d 0) xText xLetters xNow xKept xIsKept xChance xScenes xASize xSKinds xSLifts xSFlights xSSize xTally xOut fPk fWn fGw fGk fOw fSt fPe fHo fGr fPa fFt dPk dWn dGw dGk dOw dSt dPe dHo dGr dPa dFt) (xW a g d cI cJ cZ (g 0) (d 0) xText xLetters xNow xKept xIsKept xChance xScenes xASize xSKinds xSLifts xSFlights xSSize xTally_r xOut_r fPk fWn fGw fGk fOw fSt fPe fHo fGr fPa fFt dPk dWn dGw dGk dOw dSt dPe dHo dGr dPa dFt) s.heap.size) ([.ref (a 6), .ref (g 0), .long p2] : List Value).toArray s 0 0 (va_A (xW a g d cI cJ cZ (g 0) (d 0) xText xLetters xNow xKept xIsKept xChance xScenes xASize xSKinds xSLifts xSFlights xSSize xTally xOut fPk fWn fGw fGk fOw fSt fPe fHo fGr fPa fFt dPk dWn dGw dGk dOw dSt dPe dHo dGr dPa dFt) s.heap.size)) (F0 m 116 ls [])) → W p l e (headSpec wsX1_hold ({ frames := 5, cells := 0, slots := 0, locals := 124 } : Room)).room s m ([.ref (a 6), .ref (g 0), .long p2] : List Value).toArray below meth c H locs 0 0 (MQ below (wQv D (xW a g d cI cJ cZ (g 0) (d 0) xText xLetters xNow xKept xIsKept xChance xScenes xASize xSKinds xSLifts xSFlights xSSize xTally xOut fPk fWn fGw fGk fOw fSt fPe fHo fGr fPa fFt dPk dWn dGw dGk dOw dSt dPe dHo dGr dPa dFt) (xW a g d cI cJ cZ (g 0) (d 0) xText xLetters xNow xKept xIsKept xChance xScenes xASize xSKinds xSLifts xSFlights xSSize xTally_r xOut_r fPk fWn fGw fGk fOw fSt fPe fHo fGr fPa fFt dPk dWn dGw dGk dOw dSt dPe dHo dGr dPa dFt) s.heap.size) ([.ref (a 6), .ref (g 0), .long p2] : List Value).toArray s 0 0 (va_A (xW a g d cI cJ cZ (g 0) (d 0) xText xLetters xNow xKept xIsKept xChance xScenes xASize xSKinds xSLifts xSFlights xSSize xTally xOut fPk fWn fGw fGk fOw fSt fPe fHo fGr fPa fFt dPk dWn dGw dGk dOw dSt dPe dHo dGr dPa dFt) s.heap.size)) (F0 m 66 ls []) := by
    intro n
    induction n with
    | zero => intro _ _ _ _ _ _ h; rw [ba_hold_L66.eq_1] at h; cases h
    | succ n ih =>
      intro x4_66 xTally_66x H locs ls kx h hP hD hS hl hk
      rw [ba_hold_L66.eq_2] at h
      refine lv_iload hx hb dX1_hold_66 (lv_at hl 0 rfl) ?_
      refine lv_aload_n hx hb dX1_hold_68 rfl (lv_at hl 2 rfl) ?_
      refine va_getN (D := D) (ci := 2) (v := .int fPe) (C := RX3) (T := TX3) (N := 11) hx hb hts hiX3 hown hK.1 hP 13 rfl rfl 6 (by decide) (va_Nw.use rfl (kN_0 hK.2)) (fun _ h9 => h9) rfl dX1_hold_69 ?_
      refine lv_icmp_ge (tgt := 116) hx hb dX1_hold_72 (by decide) (fun c1 => ?_) (fun c1 => ?_)
      · have h := iT c1 h
        exact hk _ _ _ _ _ h hP hD hS (lv_sub hl [0, 1, 2, 3] rfl)
      · have h := iF c1 h
        refine lv_aload_n hx hb dX1_hold_75 rfl (lv_at hl 1 rfl) ?_
        refine lv_aload_n hx hb dX1_hold_76 rfl (lv_at hl 2 rfl) ?_
        refine lv_iload hx hb dX1_hold_77 (lv_at hl 0 rfl) ?_
        obtain ⟨q2, hq2, h⟩ := bS h
        refine rcI (va_runV (As := [.ref (g 0), .int x4_66]) (rest := []) ⟨hx, hb, hml, hown, hts⟩ (c_ba_choiceOf l D cI cJ cZ a g d xText xLetters xNow xKept xIsKept xChance xScenes xASize xSKinds xSLifts xSFlights xSSize xTally_66x xOut_3 fPk fWn fGw fGk fOw fSt fPe fHo fGr fPa fFt dPk dWn dGw dGk dOw dSt dPe dHo dGr dPa dFt H hP x4_66 q2 hq2) (cwV 2 hts gX1_hold_X1_choiceOf rfl rfl rfl (by decide +kernel) ⟨Nat.le_of_ble_eq_true rfl, Nat.le_of_ble_eq_true rfl⟩) (rPreV hK hP (ci := 1) (q0 := 10) rfl rfl) rfl rfl hl.1 rfl (lv_room (Nat.le_of_ble_eq_true rfl)) dX1_hold_79 ⟨Nat.zero_le _, Nat.zero_le _⟩) ?_
        refine lv_istore (lv' := [(5, .int q2), (4, .int x4_66), (0, .ref (a 6)), (1, .ref (g 0)), (2, .long p2)]) hx hb dX1_hold_82 hl (by decide) rfl (fun ls hl => ?_)
        refine lv_iload hx hb dX1_hold_84 (lv_at hl 0 rfl) ?_
        refine lv_if_lt (tgt := 110) hx hb dX1_hold_86 (by decide) (fun c3 => ?_) (fun c3 => ?_)
        · have h := iT c3 h
          refine lv_iinc (v := (x4_66 + 1)) (lv' := [(4, .int (x4_66 + 1)), (5, .int q2), (0, .ref (a 6)), (1, .ref (g 0)), (2, .long p2)]) hx hb dX1_hold_110 hl (k := 1) rfl rfl (by decide) rfl (fun ls hl => ?_)
          refine lv_goto (tgt := 66) hx hb dX1_hold_113 (by decide) ?_
          exact ih _ _ _ _ _ _ h hP hD hS (lv_sub hl [0, 2, 3, 4] rfl) hk
        · have h := iF c3 h
          refine lv_iload hx hb dX1_hold_89 (lv_at hl 0 rfl) ?_
          refine lv_aload_n hx hb dX1_hold_91 rfl (lv_at hl 2 rfl) ?_
          refine va_get (D := D) (ci := 1) (v := .ref (a 11)) (C := RX1) (T := TX1) (N := 2) hx hb hts hiX1 hown hK.1 hP 10 rfl rfl 0 (by decide) (hts (.fieldLink RX1 9 "WinnowedGuilt$Ballot" "tally" "[I") (by decide +kernel)) (fun _ h9 => h9) rfl dX1_hold_92 ?_
          refine va_alen (v := 4) hx hb hK.1 hP 11 0 rfl rfl rfl dX1_hold_95 ?_
          refine lv_icmp_ge (tgt := 110) hx hb dX1_hold_96 (by decide) (fun c4 => ?_) (fun c4 => ?_)
          · have h := iT c4 h
            refine lv_iinc (v := (x4_66 + 1)) (lv' := [(4, .int (x4_66 + 1)), (5, .int q2), (0, .ref (a 6)), (1, .ref (g 0)), (2, .long p2)]) hx hb dX1_hold_110 hl (k := 1) rfl rfl (by decide) rfl (fun ls hl => ?_)
            refine lv_goto (tgt := 66) hx hb dX1_hold_113 (by decide) ?_
            exact ih _ _ _ _ _ _ h hP hD hS (lv_sub hl [0, 2, 3, 4] rfl) hk
          · have h := iF c4 h
            refine lv_aload_n hx hb dX1_hold_99 rfl (lv_at hl 2 rfl) ?_
            refine va_get (D := D) (ci := 1) (v := .ref (a 11)) (C := RX1) (T := TX1) (N := 2) hx hb hts hiX1 hown hK.1 hP 10 rfl rfl 0 (by decide) (hts (.fieldLink RX1 9 "WinnowedGuilt$Ballot" "tally" "[I") (by decide +kernel)) (fun _ h9 => h9) rfl dX1_hold_100 ?_
            refine lv_iload hx hb dX1_hold_103 (lv_at hl 0 rfl) ?_
            refine lv_dup2_11 hx hb dX1_hold_105 rfl rfl ?_
            obtain ⟨hi5, h⟩ := gI_some h
            refine ldI (v := (xTally_66x (Int32.toNatClampNeg q2))) hx hb hK.1 hP 11 rfl rfl hi5 rfl dX1_hold_106 ?_
            refine lv_iconst (v := 1) hx hb dX1_hold_107 (by decide) ?_
            refine lv_iadd hx hb dX1_hold_108 ?_
            obtain ⟨hi6, h⟩ := gI_some h
            refine va_iast hx hb hK.1 hP hD hS 11 0 rfl rfl hi6 dX1_hold_109 (fun H locs hP hD hS => ?_)
            have hP : va_P D vwCl (xW a g d cI cJ cZ (g 0) (d 0) xText xLetters xNow xKept xIsKept xChance xScenes xASize xSKinds xSLifts xSFlights xSSize (upd xTally_66x (Int32.toNatClampNeg q2) ((xTally_66x (Int32.toNatClampNeg q2)) + 1)) xOut_3 fPk fWn fGw fGk fOw fSt fPe fHo fGr fPa fFt dPk dWn dGw dGk dOw dSt dPe dHo dGr dPa dFt) H := hP
            have hD : va_D A (xW a g d cI cJ cZ (g 0) (d 0) xText xLetters xNow xKept xIsKept xChance xScenes xASize xSKinds xSLifts xSFlights xSSize (upd xTally_66x (Int32.toNatClampNeg q2) ((xTally_66x (Int32.toNatClampNeg q2)) + 1)) xOut_3 fPk fWn fGw fGk fOw fSt fPe fHo fGr fPa fFt dPk dWn dGw dGk dOw dSt dPe dHo dGr dPa dFt) := hD
            refine lv_iinc (v := (x4_66 + 1)) (lv' := [(4, .int (x4_66 + 1)), (5, .int q2), (0, .ref (a 6)), (1, .ref (g 0)), (2, .long p2)]) hx hb dX1_hold_110 hl (k := 1) rfl rfl (by decide) rfl (fun ls hl => ?_)
            refine lv_goto (tgt := 66) hx hb dX1_hold_113 (by decide) ?_
            exact ih _ _ _ _ _ _ h hP hD hS (lv_sub hl [0, 2, 3, 4] rfl) hk
  refine L66 _ _ _ _ _ _ _ h hP hD hS hl (fun y4_66 xTally_66 H locs ls h hP hD hS hl => ?_)
  cases h
  subst hAe
  exact W.vret hx hb hr (fun t ht _ => ⟨⟨(), rfl, trivial, by rw [ht]; exact hP, hD⟩, hS.F ht⟩) hS.2.2 dX1_hold_116

set_option maxHeartbeats 4000000 in
set_option maxRecDepth 100000 in
theorem c_ba_votesFor (l : Launch) (D : va_G) (cI cJ cZ : ClassId) (a : Nat → Nat) (g : Nat → Nat) (d : Nat → Nat) (xText : Nat → Int32) (xLetters : Int32) (xNow : Int64) (xKept : Nat → Int64) (xIsKept : Nat → Int32) (xChance : Int64) (xScenes : Nat → Int64) (xASize : Int32) (xSKinds : Nat → Int32) (xSLifts : Nat → Int32) (xSFlights : Nat → Int32) (xSSize : Int32) (xTally : Nat → Int32) (xOut : Nat → Int64) (fPk : Nat → Int32) (fWn : Nat → Int32) (fGw : Nat → Int32) (fGk : Nat → Int32) (fOw : Nat → Int32) (fSt : Nat → Int32) (fPe : Int32) (fHo : Int32) (fGr : Int32) (fPa : Int32) (fFt : Int32) (dPk : Nat → Int32) (dWn : Nat → Int32) (dGw : Nat → Int32) (dGk : Nat → Int32) (dOw : Nat → Int32) (dSt : Nat → Int32) (dPe : Int32) (dHo : Int32) (dGr : Int32) (dPa : Int32) (dFt : Int32)  (H0 : Heap) (hP : va_P D vwCl (xW a g d cI cJ cZ (g 0) (d 0) xText xLetters xNow xKept xIsKept xChance xScenes xASize xSKinds xSLifts xSFlights xSSize xTally xOut fPk fWn fGw fGk fOw fSt fPe fHo fGr fPa fFt dPk dWn dGw dGk dOw dSt dPe dHo dGr dPa dFt) H0) (p1 : Int32) (rv : Int32) (h : ba_votesFor xTally p1 = some rv) : Met l yX1_votesFor wsX1_votesFor ({ frames := 0, cells := 0, slots := 0, locals := 0 } : Room) (rPc D cI cJ cZ H0 [.ref (a 6), .int p1]) (vp_Si (fun r => r = rv)) 0 0 (fun _ => False) := by
  unfold ba_votesFor at h
  refine Met.ofW (cc := cX1_votesFor) (maxL := 2) (ret := (some .int)) (by decide) rfl ?_
  intro p e s m args below meth c s₁ B hml hv
  obtain ⟨rfl, hH, hK⟩ := hv
  have hx := B.exec
  have hb := B.bytes
  have hr := B.returns
  have hts := atoms_spec (ws := wsX1_votesFor) B.pre
  have hown : s.vm.findClass RX1 = some m.cls := findClass_of_methodNamed B.named
  have hlocks := B.notSynchronized
  subst hH
  have hl := lv_entry ([.ref (a 6), .int p1]) (n := 2) (Nat.le_of_ble_eq_true rfl)
  rw [lg_entry_eq]
  generalize (lg_sl ([.ref (a 6), .int p1]) ++ List.replicate (2 - (lg_sl ([.ref (a 6), .int p1])).length) Slot.unset).toArray = ls at hl ⊢
  have hl : lv_has ls 2 [(0, .ref (a 6)), (1, .int p1)] := hl
  have hiX1 : ∀ w ∈ u_ws RX1 TX1 2, w ∈ wsX1_votesFor := fun w hw => List.mem_cons_of_mem _ (List.mem_append_right _ hw)
  refine lv_iload_n hx hb dX1_votesFor_0 rfl (lv_at hl 1 rfl) ?_
  refine lv_if_lt (tgt := 22) hx hb dX1_votesFor_1 (by decide) (fun c1 => ?_) (fun c1 => ?_)
  · have h := iT c1 h
    refine lv_iconst (v := 0) hx hb dX1_votesFor_22 (by decide) ?_
    exact W.iret hx hb hr (fun t ht _ => ⟨_, rfl, Option.some.inj h, ht⟩) (fun _ q => absurd q List.not_mem_nil) dX1_votesFor_23
  · have h := iF c1 h
    refine lv_iload_n hx hb dX1_votesFor_4 rfl (lv_at hl 1 rfl) ?_
    refine lv_aload_n hx hb dX1_votesFor_5 rfl (lv_at hl 0 rfl) ?_
    refine va_get (D := D) (ci := 1) (v := .ref (a 11)) (C := RX1) (T := TX1) (N := 2) hx hb hts hiX1 hown hK.1 hP 10 rfl rfl 0 (by decide) (hts (.fieldLink RX1 9 "WinnowedGuilt$Ballot" "tally" "[I") (by decide +kernel)) (fun _ h9 => h9) rfl dX1_votesFor_6 ?_
    refine va_alen (v := 4) hx hb hK.1 hP 11 0 rfl rfl rfl dX1_votesFor_9 ?_
    refine lv_icmp_ge (tgt := 22) hx hb dX1_votesFor_10 (by decide) (fun c2 => ?_) (fun c2 => ?_)
    · have h := iT c2 h
      refine lv_iconst (v := 0) hx hb dX1_votesFor_22 (by decide) ?_
      exact W.iret hx hb hr (fun t ht _ => ⟨_, rfl, Option.some.inj h, ht⟩) (fun _ q => absurd q List.not_mem_nil) dX1_votesFor_23
    · have h := iF c2 h
      refine lv_aload_n hx hb dX1_votesFor_13 rfl (lv_at hl 0 rfl) ?_
      refine va_get (D := D) (ci := 1) (v := .ref (a 11)) (C := RX1) (T := TX1) (N := 2) hx hb hts hiX1 hown hK.1 hP 10 rfl rfl 0 (by decide) (hts (.fieldLink RX1 9 "WinnowedGuilt$Ballot" "tally" "[I") (by decide +kernel)) (fun _ h9 => h9) rfl dX1_votesFor_14 ?_
      refine lv_iload_n hx hb dX1_votesFor_17 rfl (lv_at hl 1 rfl) ?_
      obtain ⟨hi3, h⟩ := gI_some h
      refine ldI (v := (xTally (Int32.toNatClampNeg p1))) hx hb hK.1 hP 11 rfl rfl hi3 rfl dX1_votesFor_18 ?_
      refine lv_goto (tgt := 23) hx hb dX1_votesFor_19 (by decide) ?_
      exact W.iret hx hb hr (fun t ht _ => ⟨_, rfl, Option.some.inj h, ht⟩) (fun _ q => absurd q List.not_mem_nil) dX1_votesFor_23

set_option maxHeartbeats 4000000 in
set_option maxRecDepth 100000 in
theorem c_xx_votes (l : Launch) (D : va_G) (cI cJ cZ : ClassId) (a : Nat → Nat) (g : Nat → Nat) (d : Nat → Nat) (xText : Nat → Int32) (xLetters : Int32) (xNow : Int64) (xKept : Nat → Int64) (xIsKept : Nat → Int32) (xChance : Int64) (xScenes : Nat → Int64) (xASize : Int32) (xSKinds : Nat → Int32) (xSLifts : Nat → Int32) (xSFlights : Nat → Int32) (xSSize : Int32) (xTally : Nat → Int32) (xOut : Nat → Int64) (fPk : Nat → Int32) (fWn : Nat → Int32) (fGw : Nat → Int32) (fGk : Nat → Int32) (fOw : Nat → Int32) (fSt : Nat → Int32) (fPe : Int32) (fHo : Int32) (fGr : Int32) (fPa : Int32) (fFt : Int32) (dPk : Nat → Int32) (dWn : Nat → Int32) (dGw : Nat → Int32) (dGk : Nat → Int32) (dOw : Nat → Int32) (dSt : Nat → Int32) (dPe : Int32) (dHo : Int32) (dGr : Int32) (dPa : Int32) (dFt : Int32)  (sz : Nat) (p1 : Int32) (rv : Int32) (xTally_r : Nat → Int32) (xOut_r : Nat → Int64) (h : xx_votes xNow xTally xOut fPk fWn fGw fGk fOw fPe fHo fGr p1 = some (rv, xTally_r, xOut_r)) : Met l yX11_votes wsX11_votes ({ frames := 6, cells := 0, slots := 0, locals := 149 } : Room) (wPc D cI cJ cZ (xW a g d cI cJ cZ (g 0) (d 0) xText xLetters xNow xKept xIsKept xChance xScenes xASize xSKinds xSLifts xSFlights xSSize xTally xOut fPk fWn fGw fGk fOw fSt fPe fHo fGr fPa fFt dPk dWn dGw dGk dOw dSt dPe dHo dGr dPa dFt) sz [.ref (a 0), .int p1]) (wQi D (xW a g d cI cJ cZ (g 0) (d 0) xText xLetters xNow xKept xIsKept xChance xScenes xASize xSKinds xSLifts xSFlights xSSize xTally xOut fPk fWn fGw fGk fOw fSt fPe fHo fGr fPa fFt dPk dWn dGw dGk dOw dSt dPe dHo dGr dPa dFt) (xW a g d cI cJ cZ (g 0) (d 0) xText xLetters xNow xKept xIsKept xChance xScenes xASize xSKinds xSLifts xSFlights xSSize xTally_r xOut_r fPk fWn fGw fGk fOw fSt fPe fHo fGr fPa fFt dPk dWn dGw dGk dOw dSt dPe dHo dGr dPa dFt) sz rv) 0 0 (va_A (xW a g d cI cJ cZ (g 0) (d 0) xText xLetters xNow xKept xIsKept xChance xScenes xASize xSKinds xSLifts xSFlights xSSize xTally xOut fPk fWn fGw fGk fOw fSt fPe fHo fGr fPa fFt dPk dWn dGw dGk dOw dSt dPe dHo dGr dPa dFt) sz) := by
  unfold xx_votes at h
  refine Met.ofW (cc := cX11_votes) (maxL := 2) (ret := (some .int)) (by decide) rfl ?_
  intro p e s m args below meth c s₁ B hml hv
  obtain ⟨rfl, hsz, hP, hK, hD0⟩ := hv
  have hx := B.exec
  have hb := B.bytes
  have hr := B.returns
  have hts := atoms_spec (ws := wsX11_votes) B.pre
  have hown : s.vm.findClass RX11 = some m.cls := findClass_of_methodNamed B.named
  have hlocks := B.notSynchronized
  subst hsz
  have hD := hD0.self (sz := s.heap.size)
  have hA : ∀ q : Nat, s.heap.size ≤ q → va_A (xW a g d cI cJ cZ (g 0) (d 0) xText xLetters xNow xKept xIsKept xChance xScenes xASize xSKinds xSLifts xSFlights xSSize xTally xOut fPk fWn fGw fGk fOw fSt fPe fHo fGr fPa fFt dPk dWn dGw dGk dOw dSt dPe dHo dGr dPa dFt) s.heap.size q := fun q h => Or.inr h
  have hS : va_S (va_A (xW a g d cI cJ cZ (g 0) (d 0) xText xLetters xNow xKept xIsKept xChance xScenes xASize xSKinds xSLifts xSFlights xSSize xTally xOut fPk fWn fGw fGk fOw fSt fPe fHo fGr fPa fFt dPk dWn dGw dGk dOw dSt dPe dHo dGr dPa dFt) s.heap.size) s.heap s.heap [] := va_S.rf
  obtain ⟨A, hAe⟩ : ∃ A, A = va_A (xW a g d cI cJ cZ (g 0) (d 0) xText xLetters xNow xKept xIsKept xChance xScenes xASize xSKinds xSLifts xSFlights xSSize xTally xOut fPk fWn fGw fGk fOw fSt fPe fHo fGr fPa fFt dPk dWn dGw dGk dOw dSt dPe dHo dGr dPa dFt) s.heap.size := ⟨_, rfl⟩
  rw [← hAe] at hD hA hS
  have hl := lv_entry ([.ref (a 0), .int p1]) (n := 2) (Nat.le_of_ble_eq_true rfl)
  rw [lg_entry_eq]
  generalize (lg_sl ([.ref (a 0), .int p1]) ++ List.replicate (2 - (lg_sl ([.ref (a 0), .int p1])).length) Slot.unset).toArray = ls at hl ⊢
  have hl : lv_has ls 2 [(0, .ref (a 0)), (1, .int p1)] := hl
  have hiX11 : ∀ w ∈ u_ws RX11 TX11 11, w ∈ wsX11_votes := fun w hw => List.mem_cons_of_mem _ (List.mem_append_left _ (List.mem_append_left _ (List.mem_append_right _ hw)))
  refine lv_aload_n hx hb dX11_votes_0 rfl (lv_at hl 0 rfl) ?_
  refine va_get (D := D) (ci := 4) (v := .ref (g 0)) (C := RX11) (T := TX11) (N := 11) hx hb hts hiX11 hown hK.1 hP 0 rfl rfl 2 (by decide) (hts (.fieldLink RX11 16 "WinnowedGuilt" "ground" "LWinnowedGuilt$Floor;") (by decide +kernel)) (fun _ h9 => h9) rfl dX11_votes_1 ?_
  refine lv_iload_n hx hb dX11_votes_4 rfl (lv_at hl 1 rfl) ?_
  have hG := hP.sub (ws' := (fW g cI fPk fWn fGw fGk fOw fSt fPe fHo fGr fPa fFt)) [13, 14, 15, 16, 17, 18, 19] rfl
  obtain ⟨q1, hq1, h⟩ := bS h
  refine rcI (va_runV (As := [.int p1]) (rest := []) ⟨hx, hb, hml, hown, hts⟩ (c_fl_isPerson l D cI cJ cZ g fPk fWn fGw fGk fOw fSt fPe fHo fGr fPa fFt s.heap hG p1 q1 hq1) (cwV 1 hts gX11_votes_X3_isPerson rfl rfl rfl (by decide +kernel) ⟨Nat.le_of_ble_eq_true rfl, Nat.le_of_ble_eq_true rfl⟩) (rPreV hK hG (ci := 2) (q0 := 0) rfl rfl) rfl rfl hl.1 rfl (lv_room (Nat.le_of_ble_eq_true rfl)) dX11_votes_5 ⟨Nat.zero_le _, Nat.zero_le _⟩) ?_
  refine lv_if_ne (tgt := 13) hx hb dX11_votes_8 (by decide) (fun c2 => ?_) (fun c2 => ?_)
  · have h := iF c2 h
    refine lv_aload_n hx hb dX11_votes_13 rfl (lv_at hl 0 rfl) ?_
    refine va_get (D := D) (ci := 4) (v := .ref (a 6)) (C := RX11) (T := TX11) (N := 11) hx hb hts hiX11 hown hK.1 hP 0 rfl rfl 9 (by decide) (hts (.fieldLink RX11 56 "WinnowedGuilt" "ballot" "LWinnowedGuilt$Ballot;") (by decide +kernel)) (fun _ h9 => h9) rfl dX11_votes_14 ?_
    refine lv_aload_n hx hb dX11_votes_17 rfl (lv_at hl 0 rfl) ?_
    refine va_get (D := D) (ci := 4) (v := .ref (g 0)) (C := RX11) (T := TX11) (N := 11) hx hb hts hiX11 hown hK.1 hP 0 rfl rfl 2 (by decide) (hts (.fieldLink RX11 16 "WinnowedGuilt" "ground" "LWinnowedGuilt$Floor;") (by decide +kernel)) (fun _ h9 => h9) rfl dX11_votes_18 ?_
    refine lv_aload_n hx hb dX11_votes_21 rfl (lv_at hl 0 rfl) ?_
    refine va_get (D := D) (ci := 4) (v := .long xNow) (C := RX11) (T := TX11) (N := 11) hx hb hts hiX11 hown hK.1 hP 0 rfl rfl 4 (by decide) (hts (.fieldLink RX11 27 "WinnowedGuilt" "now" "J") (by decide +kernel)) (fun _ h9 => h9) rfl dX11_votes_22 ?_
    obtain ⟨q3, hq3, h⟩ := bS h
    refine wcV (va_runV (As := [.ref (g 0), .long xNow]) (rest := []) ⟨hx, hb, hml, hown, hts⟩ (c_ba_hold l D cI cJ cZ a g d xText xLetters xNow xKept xIsKept xChance xScenes xASize xSKinds xSLifts xSFlights xSSize xTally xOut fPk fWn fGw fGk fOw fSt fPe fHo fGr fPa fFt dPk dWn dGw dGk dOw dSt dPe dHo dGr dPa dFt s.heap.size xNow q3.1 q3.2 hq3) (cwV 2 hts gX11_votes_X1_hold rfl rfl rfl (by decide +kernel) ⟨Nat.le_of_ble_eq_true rfl, Nat.le_of_ble_eq_true rfl⟩) (wPreV hK hP hD (ci := 1) (q0 := 10) rfl rfl) rfl rfl hl.1 rfl (lv_room (Nat.le_of_ble_eq_true rfl)) dX11_votes_25 ⟨Nat.zero_le _, Nat.zero_le _⟩) hD hS hA (fun H locs hP hD hS => ?_)
    have hP : va_P D vwCl (xW a g d cI cJ cZ (g 0) (d 0) xText xLetters xNow xKept xIsKept xChance xScenes xASize xSKinds xSLifts xSFlights xSSize q3.1 q3.2 fPk fWn fGw fGk fOw fSt fPe fHo fGr fPa fFt dPk dWn dGw dGk dOw dSt dPe dHo dGr dPa dFt) H := hP
    have hD : va_D A (xW a g d cI cJ cZ (g 0) (d 0) xText xLetters xNow xKept xIsKept xChance xScenes xASize xSKinds xSLifts xSFlights xSSize q3.1 q3.2 fPk fWn fGw fGk fOw fSt fPe fHo fGr fPa fFt dPk dWn dGw dGk dOw dSt dPe dHo dGr dPa dFt) := hD
    refine lv_aload_n hx hb dX11_votes_28 rfl (lv_at hl 0 rfl) ?_
    refine va_get (D := D) (ci := 4) (v := .ref (a 6)) (C := RX11) (T := TX11) (N := 11) hx hb hts hiX11 hown hK.1 hP 0 rfl rfl 9 (by decide) (hts (.fieldLink RX11 56 "WinnowedGuilt" "ballot" "LWinnowedGuilt$Ballot;") (by decide +kernel)) (fun _ h9 => h9) rfl dX11_votes_29 ?_
    refine lv_iload_n hx hb dX11_votes_32 rfl (lv_at hl 1 rfl) ?_
    obtain ⟨q4, hq4, h⟩ := bS h
    refine rcI (va_runV (As := [.int p1]) (rest := []) ⟨hx, hb, hml, hown, hts⟩ (c_ba_votesFor l D cI cJ cZ a g d xText xLetters xNow xKept xIsKept xChance xScenes xASize xSKinds xSLifts xSFlights xSSize q3.1 q3.2 fPk fWn fGw fGk fOw fSt fPe fHo fGr fPa fFt dPk dWn dGw dGk dOw dSt dPe dHo dGr dPa dFt H hP p1 q4 hq4) (cwV 1 hts gX11_votes_X1_votesFor rfl rfl rfl (by decide +kernel) ⟨Nat.le_of_ble_eq_true rfl, Nat.le_of_ble_eq_true rfl⟩) (rPreV hK hP (ci := 1) (q0 := 10) rfl rfl) rfl rfl hl.1 rfl (lv_room (Nat.le_of_ble_eq_true rfl)) dX11_votes_33 ⟨Nat.zero_le _, Nat.zero_le _⟩) ?_
    cases h
    subst hAe
    exact W.iret hx hb hr (fun t ht _ => ⟨⟨_, (), rfl, rfl, by rw [ht]; exact hP, hD⟩, hS.F ht⟩) hS.2.2 dX11_votes_36
  · have h := iT c2 h
    refine lv_iconst (v := (-1)) hx hb dX11_votes_11 (by decide) ?_
    cases h
    subst hAe
    exact W.iret hx hb hr (fun t ht _ => ⟨⟨_, (), rfl, rfl, by rw [ht]; exact hP, hD⟩, hS.F ht⟩) hS.2.2 dX11_votes_12

set_option maxHeartbeats 4000000 in
set_option maxRecDepth 100000 in
theorem c_xx_chosen (l : Launch) (D : va_G) (cI cJ cZ : ClassId) (a : Nat → Nat) (g : Nat → Nat) (d : Nat → Nat) (xText : Nat → Int32) (xLetters : Int32) (xNow : Int64) (xKept : Nat → Int64) (xIsKept : Nat → Int32) (xChance : Int64) (xScenes : Nat → Int64) (xASize : Int32) (xSKinds : Nat → Int32) (xSLifts : Nat → Int32) (xSFlights : Nat → Int32) (xSSize : Int32) (xTally : Nat → Int32) (xOut : Nat → Int64) (fPk : Nat → Int32) (fWn : Nat → Int32) (fGw : Nat → Int32) (fGk : Nat → Int32) (fOw : Nat → Int32) (fSt : Nat → Int32) (fPe : Int32) (fHo : Int32) (fGr : Int32) (fPa : Int32) (fFt : Int32) (dPk : Nat → Int32) (dWn : Nat → Int32) (dGw : Nat → Int32) (dGk : Nat → Int32) (dOw : Nat → Int32) (dSt : Nat → Int32) (dPe : Int32) (dHo : Int32) (dGr : Int32) (dPa : Int32) (dFt : Int32)  (sz : Nat)  (rv : Int32) (xTally_r : Nat → Int32) (xOut_r : Nat → Int64) (h : xx_chosen xNow xTally xOut fPk fWn fGw fGk fOw fPe fHo fGr = some (rv, xTally_r, xOut_r)) : Met l yX11_chosen wsX11_chosen ({ frames := 6, cells := 0, slots := 0, locals := 149 } : Room) (wPc D cI cJ cZ (xW a g d cI cJ cZ (g 0) (d 0) xText xLetters xNow xKept xIsKept xChance xScenes xASize xSKinds xSLifts xSFlights xSSize xTally xOut fPk fWn fGw fGk fOw fSt fPe fHo fGr fPa fFt dPk dWn dGw dGk dOw dSt dPe dHo dGr dPa dFt) sz [.ref (a 0)]) (wQi D (xW a g d cI cJ cZ (g 0) (d 0) xText xLetters xNow xKept xIsKept xChance xScenes xASize xSKinds xSLifts xSFlights xSSize xTally xOut fPk fWn fGw fGk fOw fSt fPe fHo fGr fPa fFt dPk dWn dGw dGk dOw dSt dPe dHo dGr dPa dFt) (xW a g d cI cJ cZ (g 0) (d 0) xText xLetters xNow xKept xIsKept xChance xScenes xASize xSKinds xSLifts xSFlights xSSize xTally_r xOut_r fPk fWn fGw fGk fOw fSt fPe fHo fGr fPa fFt dPk dWn dGw dGk dOw dSt dPe dHo dGr dPa dFt) sz rv) 0 0 (va_A (xW a g d cI cJ cZ (g 0) (d 0) xText xLetters xNow xKept xIsKept xChance xScenes xASize xSKinds xSLifts xSFlights xSSize xTally xOut fPk fWn fGw fGk fOw fSt fPe fHo fGr fPa fFt dPk dWn dGw dGk dOw dSt dPe dHo dGr dPa dFt) sz) := by
  unfold xx_chosen at h
  refine Met.ofW (cc := cX11_chosen) (maxL := 4) (ret := (some .int)) (by decide) rfl ?_
  intro p e s m args below meth c s₁ B hml hv
  obtain ⟨rfl, hsz, hP, hK, hD0⟩ := hv
  have hx := B.exec
  have hb := B.bytes
  have hr := B.returns
  have hts := atoms_spec (ws := wsX11_chosen) B.pre
  have hown : s.vm.findClass RX11 = some m.cls := findClass_of_methodNamed B.named
  have hlocks := B.notSynchronized
  subst hsz
  have hD := hD0.self (sz := s.heap.size)
  have hA : ∀ q : Nat, s.heap.size ≤ q → va_A (xW a g d cI cJ cZ (g 0) (d 0) xText xLetters xNow xKept xIsKept xChance xScenes xASize xSKinds xSLifts xSFlights xSSize xTally xOut fPk fWn fGw fGk fOw fSt fPe fHo fGr fPa fFt dPk dWn dGw dGk dOw dSt dPe dHo dGr dPa dFt) s.heap.size q := fun q h => Or.inr h
  have hS : va_S (va_A (xW a g d cI cJ cZ (g 0) (d 0) xText xLetters xNow xKept xIsKept xChance xScenes xASize xSKinds xSLifts xSFlights xSSize xTally xOut fPk fWn fGw fGk fOw fSt fPe fHo fGr fPa fFt dPk dWn dGw dGk dOw dSt dPe dHo dGr dPa dFt) s.heap.size) s.heap s.heap [] := va_S.rf
  obtain ⟨A, hAe⟩ : ∃ A, A = va_A (xW a g d cI cJ cZ (g 0) (d 0) xText xLetters xNow xKept xIsKept xChance xScenes xASize xSKinds xSLifts xSFlights xSSize xTally xOut fPk fWn fGw fGk fOw fSt fPe fHo fGr fPa fFt dPk dWn dGw dGk dOw dSt dPe dHo dGr dPa dFt) s.heap.size := ⟨_, rfl⟩
  rw [← hAe] at hD hA hS
  have hl := lv_entry ([.ref (a 0)]) (n := 4) (Nat.le_of_ble_eq_true rfl)
  rw [lg_entry_eq]
  generalize (lg_sl ([.ref (a 0)]) ++ List.replicate (4 - (lg_sl ([.ref (a 0)])).length) Slot.unset).toArray = ls at hl ⊢
  have hl : lv_has ls 4 [(0, .ref (a 0))] := hl
  have hiX11 : ∀ w ∈ u_ws RX11 TX11 11, w ∈ wsX11_chosen := fun w hw => List.mem_cons_of_mem _ (List.mem_append_left _ (List.mem_append_left _ (List.mem_append_right _ hw)))
  have hiX3 : ∀ w ∈ u_ws RX3 TX3 11, w ∈ wsX11_chosen := fun w hw => List.mem_cons_of_mem _ (List.mem_append_left _ (List.mem_append_right _ hw))
  refine lv_aload_n hx hb dX11_chosen_0 rfl (lv_at hl 0 rfl) ?_
  refine va_get (D := D) (ci := 4) (v := .ref (a 6)) (C := RX11) (T := TX11) (N := 11) hx hb hts hiX11 hown hK.1 hP 0 rfl rfl 9 (by decide) (hts (.fieldLink RX11 56 "WinnowedGuilt" "ballot" "LWinnowedGuilt$Ballot;") (by decide +kernel)) (fun _ h9 => h9) rfl dX11_chosen_1 ?_
  refine lv_aload_n hx hb dX11_chosen_4 rfl (lv_at hl 0 rfl) ?_
  refine va_get (D := D) (ci := 4) (v := .ref (g 0)) (C := RX11) (T := TX11) (N := 11) hx hb hts hiX11 hown hK.1 hP 0 rfl rfl 2 (by decide) (hts (.fieldLink RX11 16 "WinnowedGuilt" "ground" "LWinnowedGuilt$Floor;") (by decide +kernel)) (fun _ h9 => h9) rfl dX11_chosen_5 ?_
  refine lv_aload_n hx hb dX11_chosen_8 rfl (lv_at hl 0 rfl) ?_
  refine va_get (D := D) (ci := 4) (v := .long xNow) (C := RX11) (T := TX11) (N := 11) hx hb hts hiX11 hown hK.1 hP 0 rfl rfl 4 (by decide) (hts (.fieldLink RX11 27 "WinnowedGuilt" "now" "J") (by decide +kernel)) (fun _ h9 => h9) rfl dX11_chosen_9 ?_
  obtain ⟨q1, hq1, h⟩ := bS h
  refine wcV (va_runV (As := [.ref (g 0), .long xNow]) (rest := []) ⟨hx, hb, hml, hown, hts⟩ (c_ba_hold l D cI cJ cZ a g d xText xLetters xNow xKept xIsKept xChance xScenes xASize xSKinds xSLifts xSFlights xSSize xTally xOut fPk fWn fGw fGk fOw fSt fPe fHo fGr fPa fFt dPk dWn dGw dGk dOw dSt dPe dHo dGr dPa dFt s.heap.size xNow q1.1 q1.2 hq1) (cwV 2 hts gX11_chosen_X1_hold rfl rfl rfl (by decide +kernel) ⟨Nat.le_of_ble_eq_true rfl, Nat.le_of_ble_eq_true rfl⟩) (wPreV hK hP hD (ci := 1) (q0 := 10) rfl rfl) rfl rfl hl.1 rfl (lv_room (Nat.le_of_ble_eq_true rfl)) dX11_chosen_12 ⟨Nat.zero_le _, Nat.zero_le _⟩) hD hS hA (fun H locs hP hD hS => ?_)
  have hP : va_P D vwCl (xW a g d cI cJ cZ (g 0) (d 0) xText xLetters xNow xKept xIsKept xChance xScenes xASize xSKinds xSLifts xSFlights xSSize q1.1 q1.2 fPk fWn fGw fGk fOw fSt fPe fHo fGr fPa fFt dPk dWn dGw dGk dOw dSt dPe dHo dGr dPa dFt) H := hP
  have hD : va_D A (xW a g d cI cJ cZ (g 0) (d 0) xText xLetters xNow xKept xIsKept xChance xScenes xASize xSKinds xSLifts xSFlights xSSize q1.1 q1.2 fPk fWn fGw fGk fOw fSt fPe fHo fGr fPa fFt dPk dWn dGw dGk dOw dSt dPe dHo dGr dPa dFt) := hD
  refine lv_bipush (v := (-9)) hx hb dX11_chosen_15 (by decide) ?_
  refine lv_istore_n (lv' := [(1, .int (-9)), (0, .ref (a 0))]) hx hb dX11_chosen_17 rfl hl (by decide) rfl (fun ls hl => ?_)
  refine lv_iconst (v := (-1)) hx hb dX11_chosen_18 (by decide) ?_
  refine lv_istore_n (lv' := [(2, .int (-1)), (1, .int (-9)), (0, .ref (a 0))]) hx hb dX11_chosen_19 rfl hl (by decide) rfl (fun ls hl => ?_)
  refine lv_iconst (v := 0) hx hb dX11_chosen_20 (by decide) ?_
  refine lv_istore_n (lv' := [(3, .int 0), (2, .int (-1)), (1, .int (-9)), (0, .ref (a 0))]) hx hb dX11_chosen_21 rfl hl (by decide) rfl (fun ls hl => ?_)
  have L22 : ∀ (n : Nat) (x3_22 : Int32) (x2_22 : Int32) (x1_22 : Int32) (H : Heap) (locs : List Loc) (ls : Array Slot) (kx : Int32 → Int32 → Int32 → Option (Int32 × (Nat → Int32) × (Nat → Int64))), xx_chosen_L22 q1.1 fPe kx n x3_22 x2_22 x1_22 = some (rv, xTally_r, xOut_r) → va_P D vwCl (xW a g d cI cJ cZ (g 0) (d 0) xText xLetters xNow xKept xIsKept xChance xScenes xASize xSKinds xSLifts xSFlights xSSize q1.1 q1.2 fPk fWn fGw fGk fOw fSt fPe fHo fGr fPa fFt dPk dWn dGw dGk dOw dSt dPe dHo dGr dPa dFt) H → va_D A (xW a g d cI cJ cZ (g 0) (d 0) xText xLetters xNow xKept xIsKept xChance xScenes xASize xSKinds xSLifts xSFlights xSSize q1.1 q1.2 fPk fWn fGw fGk fOw fSt fPe fHo fGr fPa fFt dPk dWn dGw dGk dOw dSt dPe dHo dGr dPa dFt) → va_S A s.heap H locs → lv_has ls 4 [(3, .int x3_22), (2, .int x2_22), (1, .int x1_22), (0, .ref (a 0))] → (∀ (y3_22 : Int32) (y2_22 : Int32) (y1_22 : Int32) (H : Heap) (locs : List Loc) (ls : Array Slot), kx y3_22 y2_22 y1_22 = some (rv, xTally_r, xOut_r) → va_P D vwCl (xW a g d cI cJ cZ (g 0) (d 0) xText xLetters xNow xKept xIsKept xChance xScenes xASize xSKinds xSLifts xSFlights xSSize q1.1 q1.2 fPk fWn fGw fGk fOw fSt fPe fHo fGr fPa fFt dPk dWn dGw dGk dOw dSt dPe dHo dGr dPa dFt) H → va_D A (xW a g d cI cJ cZ (g 0) (d 0) xText xLetters xNow xKept xIsKept xChance xScenes xASize xSKinds xSLifts xSFlights xSSize q1.1 q1.2 fPk fWn fGw fGk fOw fSt fPe fHo fGr fPa fFt dPk dWn dGw dGk dOw dSt dPe dHo dGr dPa dFt) → va_S A s.heap H locs → lv_has ls 4 [(3, .int y3_22), (2, .int y2_22), (1, .int y1_22), (0, .ref (a 0))] → W p l e (headSpec wsX11_chosen ({ frames := 6, cells := 0, slots := 0, locals := 149 } : Room)).room s m ([.ref (a 0)] : List Value).toArray below meth c H locs 0 0 (MQ below (wQi D (xW a g d cI cJ cZ (g 0) (d 0) xText xLetters xNow xKept xIsKept xChance xScenes xASize xSKinds xSLifts xSFlights xSSize xTally xOut fPk fWn fGw fGk fOw fSt fPe fHo fGr fPa fFt dPk dWn dGw dGk dOw dSt dPe dHo dGr dPa dFt) (xW a g d cI cJ cZ (g 0) (d 0) xText xLetters xNow xKept xIsKept xChance xScenes xASize xSKinds xSLifts xSFlights xSSize xTally_r xOut_r fPk fWn fGw fGk fOw fSt fPe fHo fGr fPa fFt dPk dWn dGw dGk dOw dSt dPe dHo dGr dPa dFt) s.heap.size rv) ([.ref (a 0)] : List Value).toArray s 0 0 (va_A (xW a g d cI cJ cZ (g 0) (d 0) xText xLetters xNow xKept xIsKept xChance xScenes xASize xSKinds xSLifts xSFlights xSSize xTally xOut fPk fWn fGw fGk fOw fSt fPe fHo fGr fPa fFt dPk dWn dGw dGk dOw dSt dPe dHo dGr dPa dFt) s.heap.size)) (F0 m 62 ls [])) → W p l e (headSpec wsX11_chosen ({ frames := 6, cells := 0, slots := 0, locals := 149 } : Room)).room s m ([.ref (a 0)] : List Value).toArray below meth c H locs 0 0 (MQ below (wQi D (xW a g d cI cJ cZ (g 0) (d 0) xText xLetters xNow xKept xIsKept xChance xScenes xASize xSKinds xSLifts xSFlights xSSize xTally xOut fPk fWn fGw fGk fOw fSt fPe fHo fGr fPa fFt dPk dWn dGw dGk dOw dSt dPe dHo dGr dPa dFt) (xW a g d cI cJ cZ (g 0) (d 0) xText xLetters xNow xKept xIsKept xChance xScenes xASize xSKinds xSLifts xSFlights xSSize xTally_r xOut_r fPk fWn fGw fGk fOw fSt fPe fHo fGr fPa fFt dPk dWn dGw dGk dOw dSt dPe dHo dGr dPa dFt) s.heap.size rv) ([.ref (a 0)] : List Value).toArray s 0 0 (va_A (xW a g d cI cJ cZ (g 0) (d 0) xText xLetters xNow xKept xIsKept xChance xScenes xASize xSKinds xSLifts xSFlights xSSize xTally xOut fPk fWn fGw fGk fOw fSt fPe fHo fGr fPa fFt dPk dWn dGw dGk dOw dSt dPe dHo dGr dPa dFt) s.heap.size)) (F0 m 22 ls []) := by
    intro n
    induction n with
    | zero => intro _ _ _ _ _ _ _ h; rw [xx_chosen_L22.eq_1] at h; cases h
    | succ n ih =>
      intro x3_22 x2_22 x1_22 H locs ls kx h hP hD hS hl hk
      rw [xx_chosen_L22.eq_2] at h
      refine lv_iload_n hx hb dX11_chosen_22 rfl (lv_at hl 0 rfl) ?_
      refine lv_aload_n hx hb dX11_chosen_23 rfl (lv_at hl 3 rfl) ?_
      refine va_get (D := D) (ci := 4) (v := .ref (g 0)) (C := RX11) (T := TX11) (N := 11) hx hb hts hiX11 hown hK.1 hP 0 rfl rfl 2 (by decide) (hts (.fieldLink RX11 16 "WinnowedGuilt" "ground" "LWinnowedGuilt$Floor;") (by decide +kernel)) (fun _ h9 => h9) rfl dX11_chosen_24 ?_
      refine va_getN (D := D) (ci := 2) (v := .int fPe) (C := RX3) (T := TX3) (N := 11) hx hb hts hiX3 hown hK.1 hP 13 rfl rfl 6 (by decide) (va_Nw.use rfl (kN_2 hK.2)) (fun _ h9 => h9) rfl dX11_chosen_27 ?_
      refine lv_icmp_ge (tgt := 62) hx hb dX11_chosen_30 (by decide) (fun c2 => ?_) (fun c2 => ?_)
      · have h := iT c2 h
        exact hk _ _ _ _ _ _ h hP hD hS (lv_sub hl [0, 1, 2, 3] rfl)
      · have h := iF c2 h
        refine lv_aload_n hx hb dX11_chosen_33 rfl (lv_at hl 3 rfl) ?_
        refine va_get (D := D) (ci := 4) (v := .ref (a 6)) (C := RX11) (T := TX11) (N := 11) hx hb hts hiX11 hown hK.1 hP 0 rfl rfl 9 (by decide) (hts (.fieldLink RX11 56 "WinnowedGuilt" "ballot" "LWinnowedGuilt$Ballot;") (by decide +kernel)) (fun _ h9 => h9) rfl dX11_chosen_34 ?_
        refine lv_iload_n hx hb dX11_chosen_37 rfl (lv_at hl 0 rfl) ?_
        obtain ⟨q3, hq3, h⟩ := bS h
        refine rcI (va_runV (As := [.int x3_22]) (rest := []) ⟨hx, hb, hml, hown, hts⟩ (c_ba_votesFor l D cI cJ cZ a g d xText xLetters xNow xKept xIsKept xChance xScenes xASize xSKinds xSLifts xSFlights xSSize q1.1 q1.2 fPk fWn fGw fGk fOw fSt fPe fHo fGr fPa fFt dPk dWn dGw dGk dOw dSt dPe dHo dGr dPa dFt H hP x3_22 q3 hq3) (cwV 1 hts gX11_chosen_X1_votesFor rfl rfl rfl (by decide +kernel) ⟨Nat.le_of_ble_eq_true rfl, Nat.le_of_ble_eq_true rfl⟩) (rPreV hK hP (ci := 1) (q0 := 10) rfl rfl) rfl rfl hl.1 rfl (lv_room (Nat.le_of_ble_eq_true rfl)) dX11_chosen_38 ⟨Nat.zero_le _, Nat.zero_le _⟩) ?_
        refine lv_iload_n hx hb dX11_chosen_41 rfl (lv_at hl 1 rfl) ?_
        refine lv_icmp_le (tgt := 56) hx hb dX11_chosen_42 (by decide) (fun c4 => ?_) (fun c4 => ?_)
        · have h := iT c4 h
          refine lv_iinc (v := (x3_22 + 1)) (lv' := [(3, .int (x3_22 + 1)), (2, .int x2_22), (1, .int x1_22), (0, .ref (a 0))]) hx hb dX11_chosen_56 hl (k := 0) rfl rfl (by decide) rfl (fun ls hl => ?_)
          refine lv_goto (tgt := 22) hx hb dX11_chosen_59 (by decide) ?_
          exact ih _ _ _ _ _ _ _ h hP hD hS (lv_sub hl [0, 1, 2, 3] rfl) hk
        · have h := iF c4 h
          refine lv_aload_n hx hb dX11_chosen_45 rfl (lv_at hl 3 rfl) ?_
          refine va_get (D := D) (ci := 4) (v := .ref (a 6)) (C := RX11) (T := TX11) (N := 11) hx hb hts hiX11 hown hK.1 hP 0 rfl rfl 9 (by decide) (hts (.fieldLink RX11 56 "WinnowedGuilt" "ballot" "LWinnowedGuilt$Ballot;") (by decide +kernel)) (fun _ h9 => h9) rfl dX11_chosen_46 ?_
          refine lv_iload_n hx hb dX11_chosen_49 rfl (lv_at hl 0 rfl) ?_
          obtain ⟨q5, hq5, h⟩ := bS h
          refine rcI (va_runV (As := [.int x3_22]) (rest := []) ⟨hx, hb, hml, hown, hts⟩ (c_ba_votesFor l D cI cJ cZ a g d xText xLetters xNow xKept xIsKept xChance xScenes xASize xSKinds xSLifts xSFlights xSSize q1.1 q1.2 fPk fWn fGw fGk fOw fSt fPe fHo fGr fPa fFt dPk dWn dGw dGk dOw dSt dPe dHo dGr dPa dFt H hP x3_22 q5 hq5) (cwV 1 hts gX11_chosen_X1_votesFor rfl rfl rfl (by decide +kernel) ⟨Nat.le_of_ble_eq_true rfl, Nat.le_of_ble_eq_true rfl⟩) (rPreV hK hP (ci := 1) (q0 := 10) rfl rfl) rfl rfl hl.1 rfl (lv_room (Nat.le_of_ble_eq_true rfl)) dX11_chosen_50 ⟨Nat.zero_le _, Nat.zero_le _⟩) ?_
          refine lv_istore_n (lv' := [(2, .int q5), (3, .int x3_22), (1, .int x1_22), (0, .ref (a 0))]) hx hb dX11_chosen_53 rfl hl (by decide) rfl (fun ls hl => ?_)
          refine lv_iload_n hx hb dX11_chosen_54 rfl (lv_at hl 1 rfl) ?_
          refine lv_istore_n (lv' := [(1, .int x3_22), (2, .int q5), (3, .int x3_22), (0, .ref (a 0))]) hx hb dX11_chosen_55 rfl hl (by decide) rfl (fun ls hl => ?_)
          refine lv_iinc (v := (x3_22 + 1)) (lv' := [(3, .int (x3_22 + 1)), (1, .int x3_22), (2, .int q5), (0, .ref (a 0))]) hx hb dX11_chosen_56 hl (k := 2) rfl rfl (by decide) rfl (fun ls hl => ?_)
          refine lv_goto (tgt := 22) hx hb dX11_chosen_59 (by decide) ?_
          exact ih _ _ _ _ _ _ _ h hP hD hS (lv_sub hl [0, 2, 1, 3] rfl) hk
  refine L22 _ _ _ _ _ _ _ _ h hP hD hS hl (fun y3_22 y2_22 y1_22 H locs ls h hP hD hS hl => ?_)
  refine lv_iload_n hx hb dX11_chosen_62 rfl (lv_at hl 2 rfl) ?_
  cases h
  subst hAe
  exact W.iret hx hb hr (fun t ht _ => ⟨⟨_, (), rfl, rfl, by rw [ht]; exact hP, hD⟩, hS.F ht⟩) hS.2.2 dX11_chosen_63

set_option maxHeartbeats 4000000 in
set_option maxRecDepth 100000 in
theorem c_dg_rowSpan (l : Launch) (D : va_G) (cI cJ cZ : ClassId)  (H0 : Heap) (p0 : Int32) (rv : Int32) (h : dg_rowSpan p0 = some rv) : Met l yX2_rowSpan wsX2_rowSpan ({ frames := 0, cells := 0, slots := 0, locals := 0 } : Room) (rPc D cI cJ cZ H0 [.int p0]) (vp_Si (fun r => r = rv)) 0 0 (fun _ => False) := by
  unfold dg_rowSpan at h
  refine Met.ofW (cc := cX2_rowSpan) (maxL := 3) (ret := (some .int)) (by decide) rfl ?_
  intro p e s m args below meth c s₁ B hml hv
  obtain ⟨rfl, hH, hK⟩ := hv
  have hx := B.exec
  have hb := B.bytes
  have hr := B.returns
  have hts := atoms_spec (ws := wsX2_rowSpan) B.pre
  have hown : s.vm.findClass RX2 = some m.cls := findClass_of_methodNamed B.named
  have hlocks := B.notSynchronized
  subst hH
  have hl := lv_entry ([.int p0]) (n := 3) (Nat.le_of_ble_eq_true rfl)
  rw [lg_entry_eq]
  generalize (lg_sl ([.int p0]) ++ List.replicate (3 - (lg_sl ([.int p0])).length) Slot.unset).toArray = ls at hl ⊢
  have hl : lv_has ls 3 [(0, .int p0)] := hl
  refine lv_iconst (v := 1) hx hb dX2_rowSpan_0 (by decide) ?_
  refine lv_istore_n (lv' := [(1, .int 1), (0, .int p0)]) hx hb dX2_rowSpan_1 rfl hl (by decide) rfl (fun ls hl => ?_)
  refine lv_iconst (v := 0) hx hb dX2_rowSpan_2 (by decide) ?_
  refine lv_istore_n (lv' := [(2, .int 0), (1, .int 1), (0, .int p0)]) hx hb dX2_rowSpan_3 rfl hl (by decide) rfl (fun ls hl => ?_)
  have L4 : ∀ (n : Nat) (x2_4 : Int32) (x1_4 : Int32) (ls : Array Slot) (kx : Int32 → Int32 → Option (Int32)), dg_rowSpan_L4 p0 kx n x2_4 x1_4 = some rv → lv_has ls 3 [(2, .int x2_4), (1, .int x1_4), (0, .int p0)] → (∀ (y2_4 : Int32) (y1_4 : Int32) (ls : Array Slot), kx y2_4 y1_4 = some rv → lv_has ls 3 [(2, .int y2_4), (1, .int y1_4), (0, .int p0)] → W p l e (headSpec wsX2_rowSpan ({ frames := 0, cells := 0, slots := 0, locals := 0 } : Room)).room s m ([.int p0] : List Value).toArray below meth c s.heap [] 0 0 (MQ below (vp_Si (fun r => r = rv)) ([.int p0] : List Value).toArray s 0 0 (fun _ => False)) (F0 m 25 ls [])) → W p l e (headSpec wsX2_rowSpan ({ frames := 0, cells := 0, slots := 0, locals := 0 } : Room)).room s m ([.int p0] : List Value).toArray below meth c s.heap [] 0 0 (MQ below (vp_Si (fun r => r = rv)) ([.int p0] : List Value).toArray s 0 0 (fun _ => False)) (F0 m 4 ls []) := by
    intro n
    induction n with
    | zero => intro _ _ _ _ h; rw [dg_rowSpan_L4.eq_1] at h; cases h
    | succ n ih =>
      intro x2_4 x1_4 ls kx h hl hk
      rw [dg_rowSpan_L4.eq_2] at h
      refine lv_iload_n hx hb dX2_rowSpan_4 rfl (lv_at hl 0 rfl) ?_
      refine lv_iload_n hx hb dX2_rowSpan_5 rfl (lv_at hl 2 rfl) ?_
      refine lv_icmp_ge (tgt := 25) hx hb dX2_rowSpan_6 (by decide) (fun c1 => ?_) (fun c1 => ?_)
      · have h := iT c1 h
        exact hk _ _ _ h (lv_sub hl [0, 1, 2] rfl)
      · have h := iF c1 h
        refine lv_iload_n hx hb dX2_rowSpan_9 rfl (lv_at hl 0 rfl) ?_
        refine lv_iconst (v := 4) hx hb dX2_rowSpan_10 (by decide) ?_
        refine lv_icmp_ge (tgt := 25) hx hb dX2_rowSpan_11 (by decide) (fun c2 => ?_) (fun c2 => ?_)
        · have h := iT c2 h
          exact hk _ _ _ h (lv_sub hl [0, 1, 2] rfl)
        · have h := iF c2 h
          refine lv_iload_n hx hb dX2_rowSpan_14 rfl (lv_at hl 1 rfl) ?_
          refine lv_bipush (v := 100) hx hb dX2_rowSpan_15 (by decide) ?_
          refine lv_imul hx hb dX2_rowSpan_17 ?_
          refine lv_istore_n (lv' := [(1, .int (x1_4 * 100)), (2, .int x2_4), (0, .int p0)]) hx hb dX2_rowSpan_18 rfl hl (by decide) rfl (fun ls hl => ?_)
          refine lv_iinc (v := (x2_4 + 1)) (lv' := [(2, .int (x2_4 + 1)), (1, .int (x1_4 * 100)), (0, .int p0)]) hx hb dX2_rowSpan_19 hl (k := 1) rfl rfl (by decide) rfl (fun ls hl => ?_)
          refine lv_goto (tgt := 4) hx hb dX2_rowSpan_22 (by decide) ?_
          exact ih _ _ _ _ h (lv_sub hl [0, 1, 2] rfl) hk
  refine L4 _ _ _ _ _ h hl (fun y2_4 y1_4 ls h hl => ?_)
  refine lv_iload_n hx hb dX2_rowSpan_25 rfl (lv_at hl 1 rfl) ?_
  exact W.iret hx hb hr (fun t ht _ => ⟨_, rfl, Option.some.inj h, ht⟩) (fun _ q => absurd q List.not_mem_nil) dX2_rowSpan_26

set_option maxHeartbeats 4000000 in
set_option maxRecDepth 100000 in
theorem c_dg_pairAt (l : Launch) (D : va_G) (cI cJ cZ : ClassId)  (H0 : Heap) (p0 : Int32) (p1 : Int32) (rv : Int32) (h : dg_pairAt p0 p1 = some rv) : Met l yX2_pairAt wsX2_pairAt ({ frames := 0, cells := 0, slots := 0, locals := 0 } : Room) (rPc D cI cJ cZ H0 [.int p0, .int p1]) (vp_Si (fun r => r = rv)) 0 0 (fun _ => False) := by
  unfold dg_pairAt at h
  refine Met.ofW (cc := cX2_pairAt) (maxL := 4) (ret := (some .int)) (by decide) rfl ?_
  intro p e s m args below meth c s₁ B hml hv
  obtain ⟨rfl, hH, hK⟩ := hv
  have hx := B.exec
  have hb := B.bytes
  have hr := B.returns
  have hts := atoms_spec (ws := wsX2_pairAt) B.pre
  have hown : s.vm.findClass RX2 = some m.cls := findClass_of_methodNamed B.named
  have hlocks := B.notSynchronized
  subst hH
  have hl := lv_entry ([.int p0, .int p1]) (n := 4) (Nat.le_of_ble_eq_true rfl)
  rw [lg_entry_eq]
  generalize (lg_sl ([.int p0, .int p1]) ++ List.replicate (4 - (lg_sl ([.int p0, .int p1])).length) Slot.unset).toArray = ls at hl ⊢
  have hl : lv_has ls 4 [(0, .int p0), (1, .int p1)] := hl
  refine lv_iload_n hx hb dX2_pairAt_0 rfl (lv_at hl 0 rfl) ?_
  refine lv_istore_n (lv' := [(2, .int p0), (0, .int p0), (1, .int p1)]) hx hb dX2_pairAt_1 rfl hl (by decide) rfl (fun ls hl => ?_)
  refine lv_iconst (v := 0) hx hb dX2_pairAt_2 (by decide) ?_
  refine lv_istore_n (lv' := [(3, .int 0), (2, .int p0), (0, .int p0), (1, .int p1)]) hx hb dX2_pairAt_3 rfl hl (by decide) rfl (fun ls hl => ?_)
  have L4 : ∀ (n : Nat) (x3_4 : Int32) (x2_4 : Int32) (ls : Array Slot) (kx : Int32 → Int32 → Option (Int32)), dg_pairAt_L4 p1 kx n x3_4 x2_4 = some rv → lv_has ls 4 [(3, .int x3_4), (2, .int x2_4), (0, .int p0), (1, .int p1)] → (∀ (y3_4 : Int32) (y2_4 : Int32) (ls : Array Slot), kx y3_4 y2_4 = some rv → lv_has ls 4 [(3, .int y3_4), (2, .int y2_4), (0, .int p0), (1, .int p1)] → W p l e (headSpec wsX2_pairAt ({ frames := 0, cells := 0, slots := 0, locals := 0 } : Room)).room s m ([.int p0, .int p1] : List Value).toArray below meth c s.heap [] 0 0 (MQ below (vp_Si (fun r => r = rv)) ([.int p0, .int p1] : List Value).toArray s 0 0 (fun _ => False)) (F0 m 20 ls [])) → W p l e (headSpec wsX2_pairAt ({ frames := 0, cells := 0, slots := 0, locals := 0 } : Room)).room s m ([.int p0, .int p1] : List Value).toArray below meth c s.heap [] 0 0 (MQ below (vp_Si (fun r => r = rv)) ([.int p0, .int p1] : List Value).toArray s 0 0 (fun _ => False)) (F0 m 4 ls []) := by
    intro n
    induction n with
    | zero => intro _ _ _ _ h; rw [dg_pairAt_L4.eq_1] at h; cases h
    | succ n ih =>
      intro x3_4 x2_4 ls kx h hl hk
      rw [dg_pairAt_L4.eq_2] at h
      refine lv_iload_n hx hb dX2_pairAt_4 rfl (lv_at hl 0 rfl) ?_
      refine lv_iload_n hx hb dX2_pairAt_5 rfl (lv_at hl 3 rfl) ?_
      refine lv_icmp_ge (tgt := 20) hx hb dX2_pairAt_6 (by decide) (fun c1 => ?_) (fun c1 => ?_)
      · have h := iT c1 h
        exact hk _ _ _ h (lv_sub hl [0, 1, 2, 3] rfl)
      · have h := iF c1 h
        refine lv_iload_n hx hb dX2_pairAt_9 rfl (lv_at hl 1 rfl) ?_
        refine lv_bipush (v := 100) hx hb dX2_pairAt_10 (by decide) ?_
        refine lv_idiv hx hb dX2_pairAt_12 (by decide) ?_
        refine lv_istore_n (lv' := [(2, .int (x2_4 / 100)), (3, .int x3_4), (0, .int p0), (1, .int p1)]) hx hb dX2_pairAt_13 rfl hl (by decide) rfl (fun ls hl => ?_)
        refine lv_iinc (v := (x3_4 + 1)) (lv' := [(3, .int (x3_4 + 1)), (2, .int (x2_4 / 100)), (0, .int p0), (1, .int p1)]) hx hb dX2_pairAt_14 hl (k := 1) rfl rfl (by decide) rfl (fun ls hl => ?_)
        refine lv_goto (tgt := 4) hx hb dX2_pairAt_17 (by decide) ?_
        exact ih _ _ _ _ h (lv_sub hl [0, 1, 2, 3] rfl) hk
  refine L4 _ _ _ _ _ h hl (fun y3_4 y2_4 ls h hl => ?_)
  refine lv_iload_n hx hb dX2_pairAt_20 rfl (lv_at hl 1 rfl) ?_
  refine lv_bipush (v := 100) hx hb dX2_pairAt_21 (by decide) ?_
  refine lv_irem hx hb dX2_pairAt_23 (by decide) ?_
  exact W.iret hx hb hr (fun t ht _ => ⟨_, rfl, Option.some.inj h, ht⟩) (fun _ q => absurd q List.not_mem_nil) dX2_pairAt_24

set_option maxHeartbeats 4000000 in
set_option maxRecDepth 100000 in
theorem c_dg_canBe (l : Launch) (D : va_G) (cI cJ cZ : ClassId) (g : Nat → Nat) (fPk : Nat → Int32) (fWn : Nat → Int32) (fGw : Nat → Int32) (fGk : Nat → Int32) (fOw : Nat → Int32) (fSt : Nat → Int32) (fPe : Int32) (fHo : Int32) (fGr : Int32) (fPa : Int32) (fFt : Int32)  (H0 : Heap) (hP : va_P D vwCl (fW g cI fPk fWn fGw fGk fOw fSt fPe fHo fGr fPa fFt) H0) (p1 : Int64) (p3 : Int32) (p4 : Int32) (rv : Int32) (h : dg_canBe fGk fOw fPe fGr p1 p3 p4 = some rv) : Met l yX2_canBe wsX2_canBe ({ frames := 4, cells := 0, slots := 0, locals := 92 } : Room) (rPc D cI cJ cZ H0 [.ref (g 0), .long p1, .int p3, .int p4]) (vp_Si (fun r => r = rv)) 0 0 (fun _ => False) := by
  unfold dg_canBe at h
  refine Met.ofW (cc := cX2_canBe) (maxL := 5) (ret := (some .boolean)) (by decide) rfl ?_
  intro p e s m args below meth c s₁ B hml hv
  obtain ⟨rfl, hH, hK⟩ := hv
  have hx := B.exec
  have hb := B.bytes
  have hr := B.returns
  have hts := atoms_spec (ws := wsX2_canBe) B.pre
  have hown : s.vm.findClass RX2 = some m.cls := findClass_of_methodNamed B.named
  have hlocks := B.notSynchronized
  subst hH
  have hl := lv_entry ([.ref (g 0), .long p1, .int p3, .int p4]) (n := 5) (Nat.le_of_ble_eq_true rfl)
  rw [lg_entry_eq]
  generalize (lg_sl ([.ref (g 0), .long p1, .int p3, .int p4]) ++ List.replicate (5 - (lg_sl ([.ref (g 0), .long p1, .int p3, .int p4])).length) Slot.unset).toArray = ls at hl ⊢
  have hl : lv_has ls 5 [(0, .ref (g 0)), (1, .long p1), (3, .int p3), (4, .int p4)] := hl
  refine lv_iload_n hx hb dX2_canBe_0 rfl (lv_at hl 2 rfl) ?_
  by_cases w0_0 : p3 = 0
  · have h := iT w0_0 h
    refine lv_tableIn (tgt := 32) hx hb dX2_canBe_1 (by rw [w0_0]; decide) (by rw [w0_0]; decide) (by rw [w0_0]; rfl) (by decide) ?_
    refine lv_aload_n hx hb dX2_canBe_32 rfl (lv_at hl 0 rfl) ?_
    refine lv_iload hx hb dX2_canBe_33 (lv_at hl 3 rfl) ?_
    obtain ⟨q2, hq2, h⟩ := bS h
    refine rcI (va_runV (As := [.int p4]) (rest := []) ⟨hx, hb, hml, hown, hts⟩ (c_fl_isTurn l D cI cJ cZ g fPk fWn fGw fGk fOw fSt fPe fHo fGr fPa fFt s.heap hP p4 q2 hq2) (cwV 1 hts gX2_canBe_X3_isTurn rfl rfl rfl (by decide +kernel) ⟨Nat.le_of_ble_eq_true rfl, Nat.le_of_ble_eq_true rfl⟩) (rPreV hK hP (ci := 2) (q0 := 0) rfl rfl) rfl rfl hl.1 rfl (lv_room (Nat.le_of_ble_eq_true rfl)) dX2_canBe_35 ⟨Nat.zero_le _, Nat.zero_le _⟩) ?_
    obtain ⟨hz, h⟩ := gZ_some h
    exact W.zret hx hb hr hz (fun t ht _ => ⟨_, rfl, Option.some.inj h, ht⟩) (fun _ q => absurd q List.not_mem_nil) dX2_canBe_38
  have h := iF w0_0 h
  by_cases w0_1 : p3 = 1
  · have h := iT w0_1 h
    refine lv_tableIn (tgt := 39) hx hb dX2_canBe_1 (by rw [w0_1]; decide) (by rw [w0_1]; decide) (by rw [w0_1]; rfl) (by decide) ?_
    refine lv_aload_n hx hb dX2_canBe_39 rfl (lv_at hl 0 rfl) ?_
    refine lv_lload_n hx hb dX2_canBe_40 rfl (lv_at hl 1 rfl) ?_
    refine lv_iload hx hb dX2_canBe_41 (lv_at hl 3 rfl) ?_
    obtain ⟨q2, hq2, h⟩ := bS h
    refine rcI (va_runV (As := [.long p1, .int p4]) (rest := []) ⟨hx, hb, hml, hown, hts⟩ (c_fl_canPick l D cI cJ cZ g fPk fWn fGw fGk fOw fSt fPe fHo fGr fPa fFt s.heap hP p1 p4 q2 hq2) (cwV 2 hts gX2_canBe_X3_canPick rfl rfl rfl (by decide +kernel) ⟨Nat.le_of_ble_eq_true rfl, Nat.le_of_ble_eq_true rfl⟩) (rPreV hK hP (ci := 2) (q0 := 0) rfl rfl) rfl rfl hl.1 rfl (lv_room (Nat.le_of_ble_eq_true rfl)) dX2_canBe_43 ⟨Nat.zero_le _, Nat.zero_le _⟩) ?_
    obtain ⟨hz, h⟩ := gZ_some h
    exact W.zret hx hb hr hz (fun t ht _ => ⟨_, rfl, Option.some.inj h, ht⟩) (fun _ q => absurd q List.not_mem_nil) dX2_canBe_46
  have h := iF w0_1 h
  by_cases w0_2 : p3 = 2
  · have h := iT w0_2 h
    refine lv_tableIn (tgt := 47) hx hb dX2_canBe_1 (by rw [w0_2]; decide) (by rw [w0_2]; decide) (by rw [w0_2]; rfl) (by decide) ?_
    refine lv_aload_n hx hb dX2_canBe_47 rfl (lv_at hl 0 rfl) ?_
    refine lv_iload hx hb dX2_canBe_48 (lv_at hl 3 rfl) ?_
    obtain ⟨q2, hq2, h⟩ := bS h
    refine rcI (va_runV (As := [.int p4]) (rest := []) ⟨hx, hb, hml, hown, hts⟩ (c_fl_isPerson l D cI cJ cZ g fPk fWn fGw fGk fOw fSt fPe fHo fGr fPa fFt s.heap hP p4 q2 hq2) (cwV 1 hts gX2_canBe_X3_isPerson rfl rfl rfl (by decide +kernel) ⟨Nat.le_of_ble_eq_true rfl, Nat.le_of_ble_eq_true rfl⟩) (rPreV hK hP (ci := 2) (q0 := 0) rfl rfl) rfl rfl hl.1 rfl (lv_room (Nat.le_of_ble_eq_true rfl)) dX2_canBe_50 ⟨Nat.zero_le _, Nat.zero_le _⟩) ?_
    refine lv_if_eq (tgt := 69) hx hb dX2_canBe_53 (by decide) (fun c3 => ?_) (fun c3 => ?_)
    · have h := iT c3 h
      refine lv_iconst (v := 0) hx hb dX2_canBe_69 (by decide) ?_
      exact W.zret hx hb hr (by decide) (fun t ht _ => ⟨_, rfl, Option.some.inj h, ht⟩) (fun _ q => absurd q List.not_mem_nil) dX2_canBe_70
    · have h := iF c3 h
      refine lv_lload_n hx hb dX2_canBe_56 rfl (lv_at hl 1 rfl) ?_
      obtain ⟨q4, hq4, h⟩ := bS h
      refine rcI (va_runS (As := [.long p1]) (rest := []) ⟨hx, hb, hml, hown, hts⟩ (c_sc_holderOf l D cI cJ cZ   s.heap p1 q4 hq4) (va_cwS 1 hts gX2_canBe_X7_holderOf rfl rfl rfl (by decide +kernel) ⟨Nat.le_of_ble_eq_true rfl, Nat.le_of_ble_eq_true rfl⟩) (rPreS hK) rfl rfl hl.1 rfl (lv_room (Nat.le_of_ble_eq_true rfl)) dX2_canBe_57 ⟨Nat.zero_le _, Nat.zero_le _⟩) ?_
      refine lv_iload hx hb dX2_canBe_60 (lv_at hl 3 rfl) ?_
      refine lv_icmp_eq (tgt := 69) hx hb dX2_canBe_62 (by decide) (fun c5 => ?_) (fun c5 => ?_)
      · have h := iT c5 h
        refine lv_iconst (v := 0) hx hb dX2_canBe_69 (by decide) ?_
        exact W.zret hx hb hr (by decide) (fun t ht _ => ⟨_, rfl, Option.some.inj h, ht⟩) (fun _ q => absurd q List.not_mem_nil) dX2_canBe_70
      · have h := iF c5 h
        refine lv_iconst (v := 1) hx hb dX2_canBe_65 (by decide) ?_
        refine lv_goto (tgt := 70) hx hb dX2_canBe_66 (by decide) ?_
        exact W.zret hx hb hr (by decide) (fun t ht _ => ⟨_, rfl, Option.some.inj h, ht⟩) (fun _ q => absurd q List.not_mem_nil) dX2_canBe_70
  have h := iF w0_2 h
  by_cases w0_3 : p3 = 3
  · have h := iT w0_3 h
    refine lv_tableIn (tgt := 71) hx hb dX2_canBe_1 (by rw [w0_3]; decide) (by rw [w0_3]; decide) (by rw [w0_3]; rfl) (by decide) ?_
    refine lv_aload_n hx hb dX2_canBe_71 rfl (lv_at hl 0 rfl) ?_
    refine lv_iload hx hb dX2_canBe_72 (lv_at hl 3 rfl) ?_
    obtain ⟨q2, hq2, h⟩ := bS h
    refine rcI (va_runV (As := [.int p4]) (rest := []) ⟨hx, hb, hml, hown, hts⟩ (c_fl_isPerson l D cI cJ cZ g fPk fWn fGw fGk fOw fSt fPe fHo fGr fPa fFt s.heap hP p4 q2 hq2) (cwV 1 hts gX2_canBe_X3_isPerson rfl rfl rfl (by decide +kernel) ⟨Nat.le_of_ble_eq_true rfl, Nat.le_of_ble_eq_true rfl⟩) (rPreV hK hP (ci := 2) (q0 := 0) rfl rfl) rfl rfl hl.1 rfl (lv_room (Nat.le_of_ble_eq_true rfl)) dX2_canBe_74 ⟨Nat.zero_le _, Nat.zero_le _⟩) ?_
    refine lv_if_eq (tgt := 94) hx hb dX2_canBe_77 (by decide) (fun c3 => ?_) (fun c3 => ?_)
    · have h := iT c3 h
      refine lv_iconst (v := 0) hx hb dX2_canBe_94 (by decide) ?_
      exact W.zret hx hb hr (by decide) (fun t ht _ => ⟨_, rfl, Option.some.inj h, ht⟩) (fun _ q => absurd q List.not_mem_nil) dX2_canBe_95
    · have h := iF c3 h
      refine lv_aload_n hx hb dX2_canBe_80 rfl (lv_at hl 0 rfl) ?_
      refine lv_lload_n hx hb dX2_canBe_81 rfl (lv_at hl 1 rfl) ?_
      refine lv_iload hx hb dX2_canBe_82 (lv_at hl 3 rfl) ?_
      obtain ⟨q4, hq4, h⟩ := bS h
      refine rcI (va_runV (As := [.long p1, .int p4]) (rest := []) ⟨hx, hb, hml, hown, hts⟩ (c_fl_isClean l D cI cJ cZ g fPk fWn fGw fGk fOw fSt fPe fHo fGr fPa fFt s.heap hP p1 p4 q4 hq4) (cwV 2 hts gX2_canBe_X3_isClean rfl rfl rfl (by decide +kernel) ⟨Nat.le_of_ble_eq_true rfl, Nat.le_of_ble_eq_true rfl⟩) (rPreV hK hP (ci := 2) (q0 := 0) rfl rfl) rfl rfl hl.1 rfl (lv_room (Nat.le_of_ble_eq_true rfl)) dX2_canBe_84 ⟨Nat.zero_le _, Nat.zero_le _⟩) ?_
      refine lv_if_eq (tgt := 94) hx hb dX2_canBe_87 (by decide) (fun c5 => ?_) (fun c5 => ?_)
      · have h := iT c5 h
        refine lv_iconst (v := 0) hx hb dX2_canBe_94 (by decide) ?_
        exact W.zret hx hb hr (by decide) (fun t ht _ => ⟨_, rfl, Option.some.inj h, ht⟩) (fun _ q => absurd q List.not_mem_nil) dX2_canBe_95
      · have h := iF c5 h
        refine lv_iconst (v := 1) hx hb dX2_canBe_90 (by decide) ?_
        refine lv_goto (tgt := 95) hx hb dX2_canBe_91 (by decide) ?_
        exact W.zret hx hb hr (by decide) (fun t ht _ => ⟨_, rfl, Option.some.inj h, ht⟩) (fun _ q => absurd q List.not_mem_nil) dX2_canBe_95
  have h := iF w0_3 h
  refine lv_tableOut (tgt := 96) hx hb dX2_canBe_1 (by have := lv_neT (a := 0) w0_0 (by decide); have := lv_neT (a := 1) w0_1 (by decide); have := lv_neT (a := 2) w0_2 (by decide); have := lv_neT (a := 3) w0_3 (by decide); omega) (by decide) ?_
  refine lv_iconst (v := 0) hx hb dX2_canBe_96 (by decide) ?_
  exact W.zret hx hb hr (by decide) (fun t ht _ => ⟨_, rfl, Option.some.inj h, ht⟩) (fun _ q => absurd q List.not_mem_nil) dX2_canBe_97

set_option maxHeartbeats 4000000 in
set_option maxRecDepth 100000 in
theorem c_dg_behind (l : Launch) (D : va_G) (cI cJ cZ : ClassId) (g : Nat → Nat) (fPk : Nat → Int32) (fWn : Nat → Int32) (fGw : Nat → Int32) (fGk : Nat → Int32) (fOw : Nat → Int32) (fSt : Nat → Int32) (fPe : Int32) (fHo : Int32) (fGr : Int32) (fPa : Int32) (fFt : Int32)  (H0 : Heap) (hP : va_P D vwCl (fW g cI fPk fWn fGw fGk fOw fSt fPe fHo fGr fPa fFt) H0) (p1 : Int64) (p3 : Int32) (p4 : Int32) (rv : Int64) (h : dg_behind fPk fWn fGw fGk fOw fPe fHo fGr p1 p3 p4 = some rv) : Met l yX2_behind wsX2_behind ({ frames := 5, cells := 0, slots := 0, locals := 122 } : Room) (rPc D cI cJ cZ H0 [.ref (g 0), .long p1, .int p3, .int p4]) (vp_Sl (fun r => r = rv)) 0 0 (fun _ => False) := by
  unfold dg_behind at h
  refine Met.ofW (cc := cX2_behind) (maxL := 5) (ret := (some .long)) (by decide) rfl ?_
  intro p e s m args below meth c s₁ B hml hv
  obtain ⟨rfl, hH, hK⟩ := hv
  have hx := B.exec
  have hb := B.bytes
  have hr := B.returns
  have hts := atoms_spec (ws := wsX2_behind) B.pre
  have hown : s.vm.findClass RX2 = some m.cls := findClass_of_methodNamed B.named
  have hlocks := B.notSynchronized
  subst hH
  have hl := lv_entry ([.ref (g 0), .long p1, .int p3, .int p4]) (n := 5) (Nat.le_of_ble_eq_true rfl)
  rw [lg_entry_eq]
  generalize (lg_sl ([.ref (g 0), .long p1, .int p3, .int p4]) ++ List.replicate (5 - (lg_sl ([.ref (g 0), .long p1, .int p3, .int p4])).length) Slot.unset).toArray = ls at hl ⊢
  have hl : lv_has ls 5 [(0, .ref (g 0)), (1, .long p1), (3, .int p3), (4, .int p4)] := hl
  refine lv_iload_n hx hb dX2_behind_0 rfl (lv_at hl 2 rfl) ?_
  by_cases w0_0 : p3 = 0
  · have h := iT w0_0 h
    refine lv_tableIn (tgt := 28) hx hb dX2_behind_1 (by rw [w0_0]; decide) (by rw [w0_0]; decide) (by rw [w0_0]; rfl) (by decide) ?_
    refine lv_aload_n hx hb dX2_behind_28 rfl (lv_at hl 0 rfl) ?_
    refine lv_lload_n hx hb dX2_behind_29 rfl (lv_at hl 1 rfl) ?_
    refine lv_iload hx hb dX2_behind_30 (lv_at hl 3 rfl) ?_
    obtain ⟨q2, hq2, h⟩ := bS h
    refine rcL (va_runV (As := [.long p1, .int p4]) (rest := []) ⟨hx, hb, hml, hown, hts⟩ (c_fl_turned l D cI cJ cZ g fPk fWn fGw fGk fOw fSt fPe fHo fGr fPa fFt s.heap hP p1 p4 q2 hq2) (cwV 2 hts gX2_behind_X3_turned rfl rfl rfl (by decide +kernel) ⟨Nat.le_of_ble_eq_true rfl, Nat.le_of_ble_eq_true rfl⟩) (rPreV hK hP (ci := 2) (q0 := 0) rfl rfl) rfl rfl hl.1 rfl (lv_room (Nat.le_of_ble_eq_true rfl)) dX2_behind_32 ⟨Nat.zero_le _, Nat.zero_le _⟩) ?_
    exact W.lret hx hb hr (fun t ht _ => ⟨_, rfl, Option.some.inj h, ht⟩) (fun _ q => absurd q List.not_mem_nil) dX2_behind_35
  have h := iF w0_0 h
  by_cases w0_1 : p3 = 1
  · have h := iT w0_1 h
    refine lv_tableIn (tgt := 36) hx hb dX2_behind_1 (by rw [w0_1]; decide) (by rw [w0_1]; decide) (by rw [w0_1]; rfl) (by decide) ?_
    refine lv_aload_n hx hb dX2_behind_36 rfl (lv_at hl 0 rfl) ?_
    refine lv_lload_n hx hb dX2_behind_37 rfl (lv_at hl 1 rfl) ?_
    refine lv_iload hx hb dX2_behind_38 (lv_at hl 3 rfl) ?_
    obtain ⟨q2, hq2, h⟩ := bS h
    refine rcL (va_runV (As := [.long p1, .int p4]) (rest := []) ⟨hx, hb, hml, hown, hts⟩ (c_fl_picked l D cI cJ cZ g fPk fWn fGw fGk fOw fSt fPe fHo fGr fPa fFt s.heap hP p1 p4 q2 hq2) (cwV 2 hts gX2_behind_X3_picked rfl rfl rfl (by decide +kernel) ⟨Nat.le_of_ble_eq_true rfl, Nat.le_of_ble_eq_true rfl⟩) (rPreV hK hP (ci := 2) (q0 := 0) rfl rfl) rfl rfl hl.1 rfl (lv_room (Nat.le_of_ble_eq_true rfl)) dX2_behind_40 ⟨Nat.zero_le _, Nat.zero_le _⟩) ?_
    exact W.lret hx hb hr (fun t ht _ => ⟨_, rfl, Option.some.inj h, ht⟩) (fun _ q => absurd q List.not_mem_nil) dX2_behind_43
  have h := iF w0_1 h
  by_cases w0_2 : p3 = 2
  · have h := iT w0_2 h
    refine lv_tableIn (tgt := 44) hx hb dX2_behind_1 (by rw [w0_2]; decide) (by rw [w0_2]; decide) (by rw [w0_2]; rfl) (by decide) ?_
    refine lv_lload_n hx hb dX2_behind_44 rfl (lv_at hl 1 rfl) ?_
    refine lv_iload hx hb dX2_behind_45 (lv_at hl 3 rfl) ?_
    obtain ⟨q2, hq2, h⟩ := bS h
    refine rcL (va_runS (As := [.long p1, .int p4]) (rest := []) ⟨hx, hb, hml, hown, hts⟩ (c_sc_withHolder l D cI cJ cZ   s.heap p1 p4 q2 hq2) (va_cwS 2 hts gX2_behind_X7_withHolder rfl rfl rfl (by decide +kernel) ⟨Nat.le_of_ble_eq_true rfl, Nat.le_of_ble_eq_true rfl⟩) (rPreS hK) rfl rfl hl.1 rfl (lv_room (Nat.le_of_ble_eq_true rfl)) dX2_behind_47 ⟨Nat.zero_le _, Nat.zero_le _⟩) ?_
    exact W.lret hx hb hr (fun t ht _ => ⟨_, rfl, Option.some.inj h, ht⟩) (fun _ q => absurd q List.not_mem_nil) dX2_behind_50
  have h := iF w0_2 h
  refine lv_tableOut (tgt := 51) hx hb dX2_behind_1 (by have := lv_neT (a := 0) w0_0 (by decide); have := lv_neT (a := 1) w0_1 (by decide); have := lv_neT (a := 2) w0_2 (by decide); omega) (by decide) ?_
  refine lv_lload_n hx hb dX2_behind_51 rfl (lv_at hl 1 rfl) ?_
  exact W.lret hx hb hr (fun t ht _ => ⟨_, rfl, Option.some.inj h, ht⟩) (fun _ q => absurd q List.not_mem_nil) dX2_behind_52

set_option maxHeartbeats 4000000 in
set_option maxRecDepth 100000 in
theorem c_dg_firstWrong (l : Launch) (D : va_G) (cI cJ cZ : ClassId) (g : Nat → Nat) (fPk : Nat → Int32) (fWn : Nat → Int32) (fGw : Nat → Int32) (fGk : Nat → Int32) (fOw : Nat → Int32) (fSt : Nat → Int32) (fPe : Int32) (fHo : Int32) (fGr : Int32) (fPa : Int32) (fFt : Int32)  (H0 : Heap) (hP : va_P D vwCl (fW g cI fPk fWn fGw fGk fOw fSt fPe fHo fGr fPa fFt) H0) (p1 : Int64) (p3 : Int32) (p4 : Int32) (rv : Int32) (h : dg_firstWrong fPk fWn fGw fGk fOw fPe fHo fGr p1 p3 p4 = some rv) : Met l yX2_firstWrong wsX2_firstWrong ({ frames := 6, cells := 0, slots := 0, locals := 146 } : Room) (rPc D cI cJ cZ H0 [.ref (g 0), .long p1, .int p3, .int p4]) (vp_Si (fun r => r = rv)) 0 0 (fun _ => False) := by
  unfold dg_firstWrong at h
  refine Met.ofW (cc := cX2_firstWrong) (maxL := 9) (ret := (some .int)) (by decide) rfl ?_
  intro p e s m args below meth c s₁ B hml hv
  obtain ⟨rfl, hH, hK⟩ := hv
  have hx := B.exec
  have hb := B.bytes
  have hr := B.returns
  have hts := atoms_spec (ws := wsX2_firstWrong) B.pre
  have hown : s.vm.findClass RX2 = some m.cls := findClass_of_methodNamed B.named
  have hlocks := B.notSynchronized
  subst hH
  have hl := lv_entry ([.ref (g 0), .long p1, .int p3, .int p4]) (n := 9) (Nat.le_of_ble_eq_true rfl)
  rw [lg_entry_eq]
  generalize (lg_sl ([.ref (g 0), .long p1, .int p3, .int p4]) ++ List.replicate (9 - (lg_sl ([.ref (g 0), .long p1, .int p3, .int p4])).length) Slot.unset).toArray = ls at hl ⊢
  have hl : lv_has ls 9 [(0, .ref (g 0)), (1, .long p1), (3, .int p3), (4, .int p4)] := hl
  refine lv_lload_n hx hb dX2_firstWrong_0 rfl (lv_at hl 1 rfl) ?_
  refine lv_lstore (lv' := [(5, .long p1), (0, .ref (g 0)), (1, .long p1), (3, .int p3), (4, .int p4)]) hx hb dX2_firstWrong_1 hl (by decide) rfl (fun ls hl => ?_)
  refine lv_iconst (v := 0) hx hb dX2_firstWrong_3 (by decide) ?_
  refine lv_istore (lv' := [(7, .int 0), (5, .long p1), (0, .ref (g 0)), (1, .long p1), (3, .int p3), (4, .int p4)]) hx hb dX2_firstWrong_4 hl (by decide) rfl (fun ls hl => ?_)
  have L6 : ∀ (n : Nat) (x7_6 : Int32) (x5_6 : Int64) (ls : Array Slot) (kx : Int32 → Int64 → Option (Int32)), dg_firstWrong_L6 fPk fWn fGw fGk fOw fPe fHo fGr p3 p4 kx n x7_6 x5_6 = some rv → lv_has ls 9 [(7, .int x7_6), (5, .long x5_6), (0, .ref (g 0)), (1, .long p1), (3, .int p3), (4, .int p4)] → (∀ (y7_6 : Int32) (y5_6 : Int64) (ls : Array Slot), kx y7_6 y5_6 = some rv → lv_has ls 9 [(7, .int y7_6), (5, .long y5_6), (0, .ref (g 0)), (1, .long p1), (3, .int p3), (4, .int p4)] → W p l e (headSpec wsX2_firstWrong ({ frames := 6, cells := 0, slots := 0, locals := 146 } : Room)).room s m ([.ref (g 0), .long p1, .int p3, .int p4] : List Value).toArray below meth c s.heap [] 0 0 (MQ below (vp_Si (fun r => r = rv)) ([.ref (g 0), .long p1, .int p3, .int p4] : List Value).toArray s 0 0 (fun _ => False)) (F0 m 71 ls [])) → W p l e (headSpec wsX2_firstWrong ({ frames := 6, cells := 0, slots := 0, locals := 146 } : Room)).room s m ([.ref (g 0), .long p1, .int p3, .int p4] : List Value).toArray below meth c s.heap [] 0 0 (MQ below (vp_Si (fun r => r = rv)) ([.ref (g 0), .long p1, .int p3, .int p4] : List Value).toArray s 0 0 (fun _ => False)) (F0 m 6 ls []) := by
    intro n
    induction n with
    | zero => intro _ _ _ _ h; rw [dg_firstWrong_L6.eq_1] at h; cases h
    | succ n ih =>
      intro x7_6 x5_6 ls kx h hl hk
      rw [dg_firstWrong_L6.eq_2] at h
      refine lv_iload hx hb dX2_firstWrong_6 (lv_at hl 0 rfl) ?_
      refine lv_iload_n hx hb dX2_firstWrong_8 rfl (lv_at hl 4 rfl) ?_
      refine lv_icmp_ge (tgt := 71) hx hb dX2_firstWrong_9 (by decide) (fun c1 => ?_) (fun c1 => ?_)
      · have h := iT c1 h
        exact hk _ _ _ h (lv_sub hl [0, 1, 2, 3, 4, 5] rfl)
      · have h := iF c1 h
        refine lv_iload hx hb dX2_firstWrong_12 (lv_at hl 5 rfl) ?_
        refine lv_iload_n hx hb dX2_firstWrong_14 rfl (lv_at hl 4 rfl) ?_
        refine lv_iconst (v := 1) hx hb dX2_firstWrong_15 (by decide) ?_
        refine lv_isub hx hb dX2_firstWrong_16 ?_
        refine lv_iload hx hb dX2_firstWrong_17 (lv_at hl 0 rfl) ?_
        refine lv_isub hx hb dX2_firstWrong_19 ?_
        obtain ⟨q2, hq2, h⟩ := bS h
        refine rcI (va_runS (As := [.int p4, .int ((p3 - 1) - x7_6)]) (rest := []) ⟨hx, hb, hml, hown, hts⟩ (c_dg_pairAt l D cI cJ cZ   s.heap p4 ((p3 - 1) - x7_6) q2 hq2) (va_cwS 2 hts gX2_firstWrong_X2_pairAt rfl rfl rfl (by decide +kernel) ⟨Nat.le_of_ble_eq_true rfl, Nat.le_of_ble_eq_true rfl⟩) (rPreS hK) rfl rfl hl.1 rfl (lv_room (Nat.le_of_ble_eq_true rfl)) dX2_firstWrong_20 ⟨Nat.zero_le _, Nat.zero_le _⟩) ?_
        refine lv_istore (lv' := [(8, .int q2), (7, .int x7_6), (5, .long x5_6), (0, .ref (g 0)), (1, .long p1), (3, .int p3), (4, .int p4)]) hx hb dX2_firstWrong_23 hl (by decide) rfl (fun ls hl => ?_)
        refine lv_aload_n hx hb dX2_firstWrong_25 rfl (lv_at hl 3 rfl) ?_
        refine lv_lload hx hb dX2_firstWrong_26 (lv_at hl 2 rfl) ?_
        refine lv_iload hx hb dX2_firstWrong_28 (lv_at hl 0 rfl) ?_
        refine lv_bipush (v := 10) hx hb dX2_firstWrong_30 (by decide) ?_
        refine lv_idiv hx hb dX2_firstWrong_32 (by decide) ?_
        refine lv_iload hx hb dX2_firstWrong_33 (lv_at hl 0 rfl) ?_
        refine lv_bipush (v := 10) hx hb dX2_firstWrong_35 (by decide) ?_
        refine lv_irem hx hb dX2_firstWrong_37 (by decide) ?_
        obtain ⟨q3, hq3, h⟩ := bS h
        refine rcI (va_runS (As := [.ref (g 0), .long x5_6, .int (q2 / 10), .int (q2 - q2 / 10 * 10)]) (rest := []) ⟨hx, hb, hml, hown, hts⟩ (c_dg_canBe l D cI cJ cZ g fPk fWn fGw fGk fOw fSt fPe fHo fGr fPa fFt s.heap hP x5_6 (q2 / 10) (q2 - q2 / 10 * 10) q3 hq3) (va_cwS 4 hts gX2_firstWrong_X2_canBe rfl rfl rfl (by decide +kernel) ⟨Nat.le_of_ble_eq_true rfl, Nat.le_of_ble_eq_true rfl⟩) (rPreS hK) rfl rfl hl.1 rfl (lv_room (Nat.le_of_ble_eq_true rfl)) dX2_firstWrong_38 ⟨Nat.zero_le _, Nat.zero_le _⟩) ?_
        refine lv_if_ne (tgt := 47) hx hb dX2_firstWrong_41 (by decide) (fun c4 => ?_) (fun c4 => ?_)
        · have h := iF c4 h
          refine lv_aload_n hx hb dX2_firstWrong_47 rfl (lv_at hl 3 rfl) ?_
          refine lv_lload hx hb dX2_firstWrong_48 (lv_at hl 2 rfl) ?_
          refine lv_iload hx hb dX2_firstWrong_50 (lv_at hl 0 rfl) ?_
          refine lv_bipush (v := 10) hx hb dX2_firstWrong_52 (by decide) ?_
          refine lv_idiv hx hb dX2_firstWrong_54 (by decide) ?_
          refine lv_iload hx hb dX2_firstWrong_55 (lv_at hl 0 rfl) ?_
          refine lv_bipush (v := 10) hx hb dX2_firstWrong_57 (by decide) ?_
          refine lv_irem hx hb dX2_firstWrong_59 (by decide) ?_
          obtain ⟨q5, hq5, h⟩ := bS h
          refine rcL (va_runS (As := [.ref (g 0), .long x5_6, .int (q2 / 10), .int (q2 - q2 / 10 * 10)]) (rest := []) ⟨hx, hb, hml, hown, hts⟩ (c_dg_behind l D cI cJ cZ g fPk fWn fGw fGk fOw fSt fPe fHo fGr fPa fFt s.heap hP x5_6 (q2 / 10) (q2 - q2 / 10 * 10) q5 hq5) (va_cwS 4 hts gX2_firstWrong_X2_behind rfl rfl rfl (by decide +kernel) ⟨Nat.le_of_ble_eq_true rfl, Nat.le_of_ble_eq_true rfl⟩) (rPreS hK) rfl rfl hl.1 rfl (lv_room (Nat.le_of_ble_eq_true rfl)) dX2_firstWrong_60 ⟨Nat.zero_le _, Nat.zero_le _⟩) ?_
          refine lv_lstore (lv' := [(5, .long q5), (8, .int q2), (7, .int x7_6), (0, .ref (g 0)), (1, .long p1), (3, .int p3), (4, .int p4)]) hx hb dX2_firstWrong_63 hl (by decide) rfl (fun ls hl => ?_)
          refine lv_iinc (v := (x7_6 + 1)) (lv' := [(7, .int (x7_6 + 1)), (5, .long q5), (8, .int q2), (0, .ref (g 0)), (1, .long p1), (3, .int p3), (4, .int p4)]) hx hb dX2_firstWrong_65 hl (k := 2) rfl rfl (by decide) rfl (fun ls hl => ?_)
          refine lv_goto (tgt := 6) hx hb dX2_firstWrong_68 (by decide) ?_
          exact ih _ _ _ _ h (lv_sub hl [0, 1, 3, 4, 5, 6] rfl) hk
        · have h := iT c4 h
          refine lv_iload hx hb dX2_firstWrong_44 (lv_at hl 1 rfl) ?_
          exact W.iret hx hb hr (fun t ht _ => ⟨_, rfl, Option.some.inj h, ht⟩) (fun _ q => absurd q List.not_mem_nil) dX2_firstWrong_46
  refine L6 _ _ _ _ _ h hl (fun y7_6 y5_6 ls h hl => ?_)
  refine lv_bipush (v := (-9)) hx hb dX2_firstWrong_71 (by decide) ?_
  exact W.iret hx hb hr (fun t ht _ => ⟨_, rfl, Option.some.inj h, ht⟩) (fun _ q => absurd q List.not_mem_nil) dX2_firstWrong_73

set_option maxHeartbeats 4000000 in
set_option maxRecDepth 100000 in
theorem c_xx_judge (l : Launch) (D : va_G) (cI cJ cZ : ClassId) (a : Nat → Nat) (g : Nat → Nat) (d : Nat → Nat) (xText : Nat → Int32) (xLetters : Int32) (xNow : Int64) (xKept : Nat → Int64) (xIsKept : Nat → Int32) (xChance : Int64) (xScenes : Nat → Int64) (xASize : Int32) (xSKinds : Nat → Int32) (xSLifts : Nat → Int32) (xSFlights : Nat → Int32) (xSSize : Int32) (xTally : Nat → Int32) (xOut : Nat → Int64) (fPk : Nat → Int32) (fWn : Nat → Int32) (fGw : Nat → Int32) (fGk : Nat → Int32) (fOw : Nat → Int32) (fSt : Nat → Int32) (fPe : Int32) (fHo : Int32) (fGr : Int32) (fPa : Int32) (fFt : Int32) (dPk : Nat → Int32) (dWn : Nat → Int32) (dGw : Nat → Int32) (dGk : Nat → Int32) (dOw : Nat → Int32) (dSt : Nat → Int32) (dPe : Int32) (dHo : Int32) (dGr : Int32) (dPa : Int32) (dFt : Int32)  (H0 : Heap) (hP : va_P D vwCl (xW a g d cI cJ cZ (g 0) (d 0) xText xLetters xNow xKept xIsKept xChance xScenes xASize xSKinds xSLifts xSFlights xSSize xTally xOut fPk fWn fGw fGk fOw fSt fPe fHo fGr fPa fFt dPk dWn dGw dGk dOw dSt dPe dHo dGr dPa dFt) H0) (p1 : Int32) (p2 : Int32) (rv : Int32) (h : xx_judge xNow fPk fWn fGw fGk fOw fPe fHo fGr p1 p2 = some rv) : Met l yX11_judge wsX11_judge ({ frames := 7, cells := 0, slots := 0, locals := 174 } : Room) (rPc D cI cJ cZ H0 [.ref (a 0), .int p1, .int p2]) (vp_Si (fun r => r = rv)) 0 0 (fun _ => False) := by
  unfold xx_judge at h
  refine Met.ofW (cc := cX11_judge) (maxL := 3) (ret := (some .int)) (by decide) rfl ?_
  intro p e s m args below meth c s₁ B hml hv
  obtain ⟨rfl, hH, hK⟩ := hv
  have hx := B.exec
  have hb := B.bytes
  have hr := B.returns
  have hts := atoms_spec (ws := wsX11_judge) B.pre
  have hown : s.vm.findClass RX11 = some m.cls := findClass_of_methodNamed B.named
  have hlocks := B.notSynchronized
  subst hH
  have hl := lv_entry ([.ref (a 0), .int p1, .int p2]) (n := 3) (Nat.le_of_ble_eq_true rfl)
  rw [lg_entry_eq]
  generalize (lg_sl ([.ref (a 0), .int p1, .int p2]) ++ List.replicate (3 - (lg_sl ([.ref (a 0), .int p1, .int p2])).length) Slot.unset).toArray = ls at hl ⊢
  have hl : lv_has ls 3 [(0, .ref (a 0)), (1, .int p1), (2, .int p2)] := hl
  have hiX11 : ∀ w ∈ u_ws RX11 TX11 11, w ∈ wsX11_judge := fun w hw => List.mem_cons_of_mem _ (List.mem_append_left _ (List.mem_append_right _ hw))
  refine lv_iload_n hx hb dX11_judge_0 rfl (lv_at hl 1 rfl) ?_
  refine lv_iconst (v := 1) hx hb dX11_judge_1 (by decide) ?_
  refine lv_icmp_lt (tgt := 22) hx hb dX11_judge_2 (by decide) (fun c1 => ?_) (fun c1 => ?_)
  · have h := iT c1 h
    refine lv_bipush (v := (-2)) hx hb dX11_judge_22 (by decide) ?_
    exact W.iret hx hb hr (fun t ht _ => ⟨_, rfl, Option.some.inj h, ht⟩) (fun _ q => absurd q List.not_mem_nil) dX11_judge_24
  · have h := iF c1 h
    refine lv_iload_n hx hb dX11_judge_5 rfl (lv_at hl 1 rfl) ?_
    refine lv_iconst (v := 4) hx hb dX11_judge_6 (by decide) ?_
    refine lv_icmp_gt (tgt := 22) hx hb dX11_judge_7 (by decide) (fun c2 => ?_) (fun c2 => ?_)
    · have h := iT c2 h
      refine lv_bipush (v := (-2)) hx hb dX11_judge_22 (by decide) ?_
      exact W.iret hx hb hr (fun t ht _ => ⟨_, rfl, Option.some.inj h, ht⟩) (fun _ q => absurd q List.not_mem_nil) dX11_judge_24
    · have h := iF c2 h
      refine lv_iload_n hx hb dX11_judge_10 rfl (lv_at hl 2 rfl) ?_
      refine lv_if_lt (tgt := 22) hx hb dX11_judge_11 (by decide) (fun c3 => ?_) (fun c3 => ?_)
      · have h := iT c3 h
        refine lv_bipush (v := (-2)) hx hb dX11_judge_22 (by decide) ?_
        exact W.iret hx hb hr (fun t ht _ => ⟨_, rfl, Option.some.inj h, ht⟩) (fun _ q => absurd q List.not_mem_nil) dX11_judge_24
      · have h := iF c3 h
        refine lv_iload_n hx hb dX11_judge_14 rfl (lv_at hl 2 rfl) ?_
        refine lv_iload_n hx hb dX11_judge_15 rfl (lv_at hl 1 rfl) ?_
        obtain ⟨q4, hq4, h⟩ := bS h
        refine rcI (va_runS (As := [.int p1]) (rest := [.int p2]) ⟨hx, hb, hml, hown, hts⟩ (c_dg_rowSpan l D cI cJ cZ   s.heap p1 q4 hq4) (va_cwS 1 hts gX11_judge_X2_rowSpan rfl rfl rfl (by decide +kernel) ⟨Nat.le_of_ble_eq_true rfl, Nat.le_of_ble_eq_true rfl⟩) (rPreS hK) rfl rfl hl.1 rfl (lv_room (Nat.le_of_ble_eq_true rfl)) dX11_judge_16 ⟨Nat.zero_le _, Nat.zero_le _⟩) ?_
        refine lv_icmp_lt (tgt := 25) hx hb dX11_judge_19 (by decide) (fun c5 => ?_) (fun c5 => ?_)
        · have h := iT c5 h
          refine lv_aload_n hx hb dX11_judge_25 rfl (lv_at hl 0 rfl) ?_
          refine va_get (D := D) (ci := 4) (v := .ref (g 0)) (C := RX11) (T := TX11) (N := 11) hx hb hts hiX11 hown hK.1 hP 0 rfl rfl 2 (by decide) (hts (.fieldLink RX11 16 "WinnowedGuilt" "ground" "LWinnowedGuilt$Floor;") (by decide +kernel)) (fun _ h9 => h9) rfl dX11_judge_26 ?_
          refine lv_aload_n hx hb dX11_judge_29 rfl (lv_at hl 0 rfl) ?_
          refine va_get (D := D) (ci := 4) (v := .long xNow) (C := RX11) (T := TX11) (N := 11) hx hb hts hiX11 hown hK.1 hP 0 rfl rfl 4 (by decide) (hts (.fieldLink RX11 27 "WinnowedGuilt" "now" "J") (by decide +kernel)) (fun _ h9 => h9) rfl dX11_judge_30 ?_
          refine lv_iload_n hx hb dX11_judge_33 rfl (lv_at hl 1 rfl) ?_
          refine lv_iload_n hx hb dX11_judge_34 rfl (lv_at hl 2 rfl) ?_
          have hG := hP.sub (ws' := (fW g cI fPk fWn fGw fGk fOw fSt fPe fHo fGr fPa fFt)) [13, 14, 15, 16, 17, 18, 19] rfl
          obtain ⟨q6, hq6, h⟩ := bS h
          refine rcI (va_runS (As := [.ref (g 0), .long xNow, .int p1, .int p2]) (rest := []) ⟨hx, hb, hml, hown, hts⟩ (c_dg_firstWrong l D cI cJ cZ g fPk fWn fGw fGk fOw fSt fPe fHo fGr fPa fFt s.heap hG xNow p1 p2 q6 hq6) (va_cwS 4 hts gX11_judge_X2_firstWrong rfl rfl rfl (by decide +kernel) ⟨Nat.le_of_ble_eq_true rfl, Nat.le_of_ble_eq_true rfl⟩) (rPreS hK) rfl rfl hl.1 rfl (lv_room (Nat.le_of_ble_eq_true rfl)) dX11_judge_35 ⟨Nat.zero_le _, Nat.zero_le _⟩) ?_
          exact W.iret hx hb hr (fun t ht _ => ⟨_, rfl, Option.some.inj h, ht⟩) (fun _ q => absurd q List.not_mem_nil) dX11_judge_38
        · have h := iF c5 h
          refine lv_bipush (v := (-2)) hx hb dX11_judge_22 (by decide) ?_
          exact W.iret hx hb hr (fun t ht _ => ⟨_, rfl, Option.some.inj h, ht⟩) (fun _ q => absurd q List.not_mem_nil) dX11_judge_24

set_option maxHeartbeats 4000000 in
set_option maxRecDepth 100000 in
theorem c_se_add (l : Launch) (D : va_G) (cI cJ cZ : ClassId) (a : Nat → Nat) (g : Nat → Nat) (d : Nat → Nat) (xText : Nat → Int32) (xLetters : Int32) (xNow : Int64) (xKept : Nat → Int64) (xIsKept : Nat → Int32) (xChance : Int64) (xScenes : Nat → Int64) (xASize : Int32) (xSKinds : Nat → Int32) (xSLifts : Nat → Int32) (xSFlights : Nat → Int32) (xSSize : Int32) (xTally : Nat → Int32) (xOut : Nat → Int64) (fPk : Nat → Int32) (fWn : Nat → Int32) (fGw : Nat → Int32) (fGk : Nat → Int32) (fOw : Nat → Int32) (fSt : Nat → Int32) (fPe : Int32) (fHo : Int32) (fGr : Int32) (fPa : Int32) (fFt : Int32) (dPk : Nat → Int32) (dWn : Nat → Int32) (dGw : Nat → Int32) (dGk : Nat → Int32) (dOw : Nat → Int32) (dSt : Nat → Int32) (dPe : Int32) (dHo : Int32) (dGr : Int32) (dPa : Int32) (dFt : Int32)  (sz : Nat) (p1 : Int32) (p2 : Int32) (p3 : Int32) (xSKinds_r : Nat → Int32) (xSLifts_r : Nat → Int32) (xSFlights_r : Nat → Int32) (xSSize_r : Int32) (h : se_add xSKinds xSLifts xSFlights xSSize p1 p2 p3 = some (xSKinds_r, xSLifts_r, xSFlights_r, xSSize_r)) : Met l yX8_add wsX8_add ({ frames := 0, cells := 0, slots := 0, locals := 0 } : Room) (wPc D cI cJ cZ (xW a g d cI cJ cZ (g 0) (d 0) xText xLetters xNow xKept xIsKept xChance xScenes xASize xSKinds xSLifts xSFlights xSSize xTally xOut fPk fWn fGw fGk fOw fSt fPe fHo fGr fPa fFt dPk dWn dGw dGk dOw dSt dPe dHo dGr dPa dFt) sz [.ref (a 5), .int p1, .int p2, .int p3]) (wQv D (xW a g d cI cJ cZ (g 0) (d 0) xText xLetters xNow xKept xIsKept xChance xScenes xASize xSKinds xSLifts xSFlights xSSize xTally xOut fPk fWn fGw fGk fOw fSt fPe fHo fGr fPa fFt dPk dWn dGw dGk dOw dSt dPe dHo dGr dPa dFt) (xW a g d cI cJ cZ (g 0) (d 0) xText xLetters xNow xKept xIsKept xChance xScenes xASize xSKinds_r xSLifts_r xSFlights_r xSSize_r xTally xOut fPk fWn fGw fGk fOw fSt fPe fHo fGr fPa fFt dPk dWn dGw dGk dOw dSt dPe dHo dGr dPa dFt) sz) 0 0 (va_A (xW a g d cI cJ cZ (g 0) (d 0) xText xLetters xNow xKept xIsKept xChance xScenes xASize xSKinds xSLifts xSFlights xSSize xTally xOut fPk fWn fGw fGk fOw fSt fPe fHo fGr fPa fFt dPk dWn dGw dGk dOw dSt dPe dHo dGr dPa dFt) sz) := by
  unfold se_add at h
  refine Met.ofW (cc := cX8_add) (maxL := 4) (ret := none) (by decide) rfl ?_
  intro p e s m args below meth c s₁ B hml hv
  obtain ⟨rfl, hsz, hP, hK, hD0⟩ := hv
  have hx := B.exec
  have hb := B.bytes
  have hr := B.returns
  have hts := atoms_spec (ws := wsX8_add) B.pre
  have hown : s.vm.findClass RX8 = some m.cls := findClass_of_methodNamed B.named
  have hlocks := B.notSynchronized
  subst hsz
  have hD := hD0.self (sz := s.heap.size)
  have hA : ∀ q : Nat, s.heap.size ≤ q → va_A (xW a g d cI cJ cZ (g 0) (d 0) xText xLetters xNow xKept xIsKept xChance xScenes xASize xSKinds xSLifts xSFlights xSSize xTally xOut fPk fWn fGw fGk fOw fSt fPe fHo fGr fPa fFt dPk dWn dGw dGk dOw dSt dPe dHo dGr dPa dFt) s.heap.size q := fun q h => Or.inr h
  have hS : va_S (va_A (xW a g d cI cJ cZ (g 0) (d 0) xText xLetters xNow xKept xIsKept xChance xScenes xASize xSKinds xSLifts xSFlights xSSize xTally xOut fPk fWn fGw fGk fOw fSt fPe fHo fGr fPa fFt dPk dWn dGw dGk dOw dSt dPe dHo dGr dPa dFt) s.heap.size) s.heap s.heap [] := va_S.rf
  obtain ⟨A, hAe⟩ : ∃ A, A = va_A (xW a g d cI cJ cZ (g 0) (d 0) xText xLetters xNow xKept xIsKept xChance xScenes xASize xSKinds xSLifts xSFlights xSSize xTally xOut fPk fWn fGw fGk fOw fSt fPe fHo fGr fPa fFt dPk dWn dGw dGk dOw dSt dPe dHo dGr dPa dFt) s.heap.size := ⟨_, rfl⟩
  rw [← hAe] at hD hA hS
  have hl := lv_entry ([.ref (a 5), .int p1, .int p2, .int p3]) (n := 4) (Nat.le_of_ble_eq_true rfl)
  rw [lg_entry_eq]
  generalize (lg_sl ([.ref (a 5), .int p1, .int p2, .int p3]) ++ List.replicate (4 - (lg_sl ([.ref (a 5), .int p1, .int p2, .int p3])).length) Slot.unset).toArray = ls at hl ⊢
  have hl : lv_has ls 4 [(0, .ref (a 5)), (1, .int p1), (2, .int p2), (3, .int p3)] := hl
  have hiX8 : ∀ w ∈ u_ws RX8 TX8 4, w ∈ wsX8_add := fun w hw => List.mem_cons_of_mem _ (List.mem_append_right _ hw)
  refine lv_aload_n hx hb dX8_add_0 rfl (lv_at hl 0 rfl) ?_
  refine va_get (D := D) (ci := 3) (v := .int xSSize) (C := RX8) (T := TX8) (N := 4) hx hb hts hiX8 hown hK.1 hP 6 rfl rfl 3 (by decide) (hts (.fieldLink RX8 21 "WinnowedGuilt$Seen" "size" "I") (by decide +kernel)) (fun _ h9 => h9) rfl dX8_add_1 ?_
  refine lv_if_lt (tgt := 83) hx hb dX8_add_4 (by decide) (fun c1 => ?_) (fun c1 => ?_)
  · have h := iT c1 h
    cases h
    subst hAe
    exact W.vret hx hb hr (fun t ht _ => ⟨⟨(), rfl, trivial, by rw [ht]; exact hP, hD⟩, hS.F ht⟩) hS.2.2 dX8_add_83
  · have h := iF c1 h
    refine lv_aload_n hx hb dX8_add_7 rfl (lv_at hl 0 rfl) ?_
    refine va_get (D := D) (ci := 3) (v := .int xSSize) (C := RX8) (T := TX8) (N := 4) hx hb hts hiX8 hown hK.1 hP 6 rfl rfl 3 (by decide) (hts (.fieldLink RX8 21 "WinnowedGuilt$Seen" "size" "I") (by decide +kernel)) (fun _ h9 => h9) rfl dX8_add_8 ?_
    refine lv_aload_n hx hb dX8_add_11 rfl (lv_at hl 0 rfl) ?_
    refine va_get (D := D) (ci := 3) (v := .ref (a 8)) (C := RX8) (T := TX8) (N := 4) hx hb hts hiX8 hown hK.1 hP 6 rfl rfl 0 (by decide) (hts (.fieldLink RX8 9 "WinnowedGuilt$Seen" "kinds" "[I") (by decide +kernel)) (fun _ h9 => h9) rfl dX8_add_12 ?_
    refine va_alen (v := 6) hx hb hK.1 hP 7 0 rfl rfl rfl dX8_add_15 ?_
    refine lv_icmp_ge (tgt := 83) hx hb dX8_add_16 (by decide) (fun c2 => ?_) (fun c2 => ?_)
    · have h := iT c2 h
      cases h
      subst hAe
      exact W.vret hx hb hr (fun t ht _ => ⟨⟨(), rfl, trivial, by rw [ht]; exact hP, hD⟩, hS.F ht⟩) hS.2.2 dX8_add_83
    · have h := iF c2 h
      refine lv_aload_n hx hb dX8_add_19 rfl (lv_at hl 0 rfl) ?_
      refine va_get (D := D) (ci := 3) (v := .int xSSize) (C := RX8) (T := TX8) (N := 4) hx hb hts hiX8 hown hK.1 hP 6 rfl rfl 3 (by decide) (hts (.fieldLink RX8 21 "WinnowedGuilt$Seen" "size" "I") (by decide +kernel)) (fun _ h9 => h9) rfl dX8_add_20 ?_
      refine lv_aload_n hx hb dX8_add_23 rfl (lv_at hl 0 rfl) ?_
      refine va_get (D := D) (ci := 3) (v := .ref (a 9)) (C := RX8) (T := TX8) (N := 4) hx hb hts hiX8 hown hK.1 hP 6 rfl rfl 1 (by decide) (hts (.fieldLink RX8 15 "WinnowedGuilt$Seen" "lifts" "[I") (by decide +kernel)) (fun _ h9 => h9) rfl dX8_add_24 ?_
      refine va_alen (v := 6) hx hb hK.1 hP 8 0 rfl rfl rfl dX8_add_27 ?_
      refine lv_icmp_ge (tgt := 83) hx hb dX8_add_28 (by decide) (fun c3 => ?_) (fun c3 => ?_)
      · have h := iT c3 h
        cases h
        subst hAe
        exact W.vret hx hb hr (fun t ht _ => ⟨⟨(), rfl, trivial, by rw [ht]; exact hP, hD⟩, hS.F ht⟩) hS.2.2 dX8_add_83
      · have h := iF c3 h
        refine lv_aload_n hx hb dX8_add_31 rfl (lv_at hl 0 rfl) ?_
        refine va_get (D := D) (ci := 3) (v := .int xSSize) (C := RX8) (T := TX8) (N := 4) hx hb hts hiX8 hown hK.1 hP 6 rfl rfl 3 (by decide) (hts (.fieldLink RX8 21 "WinnowedGuilt$Seen" "size" "I") (by decide +kernel)) (fun _ h9 => h9) rfl dX8_add_32 ?_
        refine lv_aload_n hx hb dX8_add_35 rfl (lv_at hl 0 rfl) ?_
        refine va_get (D := D) (ci := 3) (v := .ref (a 10)) (C := RX8) (T := TX8) (N := 4) hx hb hts hiX8 hown hK.1 hP 6 rfl rfl 2 (by decide) (hts (.fieldLink RX8 18 "WinnowedGuilt$Seen" "flights" "[I") (by decide +kernel)) (fun _ h9 => h9) rfl dX8_add_36 ?_
        refine va_alen (v := 6) hx hb hK.1 hP 9 0 rfl rfl rfl dX8_add_39 ?_
        refine lv_icmp_ge (tgt := 83) hx hb dX8_add_40 (by decide) (fun c4 => ?_) (fun c4 => ?_)
        · have h := iT c4 h
          cases h
          subst hAe
          exact W.vret hx hb hr (fun t ht _ => ⟨⟨(), rfl, trivial, by rw [ht]; exact hP, hD⟩, hS.F ht⟩) hS.2.2 dX8_add_83
        · have h := iF c4 h
          refine lv_aload_n hx hb dX8_add_43 rfl (lv_at hl 0 rfl) ?_
          refine va_get (D := D) (ci := 3) (v := .ref (a 8)) (C := RX8) (T := TX8) (N := 4) hx hb hts hiX8 hown hK.1 hP 6 rfl rfl 0 (by decide) (hts (.fieldLink RX8 9 "WinnowedGuilt$Seen" "kinds" "[I") (by decide +kernel)) (fun _ h9 => h9) rfl dX8_add_44 ?_
          refine lv_aload_n hx hb dX8_add_47 rfl (lv_at hl 0 rfl) ?_
          refine va_get (D := D) (ci := 3) (v := .int xSSize) (C := RX8) (T := TX8) (N := 4) hx hb hts hiX8 hown hK.1 hP 6 rfl rfl 3 (by decide) (hts (.fieldLink RX8 21 "WinnowedGuilt$Seen" "size" "I") (by decide +kernel)) (fun _ h9 => h9) rfl dX8_add_48 ?_
          refine lv_iload_n hx hb dX8_add_51 rfl (lv_at hl 1 rfl) ?_
          obtain ⟨hi5, h⟩ := gI_some h
          refine va_iast hx hb hK.1 hP hD hS 7 0 rfl rfl hi5 dX8_add_52 (fun H locs hP hD hS => ?_)
          have hP : va_P D vwCl (xW a g d cI cJ cZ (g 0) (d 0) xText xLetters xNow xKept xIsKept xChance xScenes xASize (upd xSKinds (Int32.toNatClampNeg xSSize) p1) xSLifts xSFlights xSSize xTally xOut fPk fWn fGw fGk fOw fSt fPe fHo fGr fPa fFt dPk dWn dGw dGk dOw dSt dPe dHo dGr dPa dFt) H := hP
          have hD : va_D A (xW a g d cI cJ cZ (g 0) (d 0) xText xLetters xNow xKept xIsKept xChance xScenes xASize (upd xSKinds (Int32.toNatClampNeg xSSize) p1) xSLifts xSFlights xSSize xTally xOut fPk fWn fGw fGk fOw fSt fPe fHo fGr fPa fFt dPk dWn dGw dGk dOw dSt dPe dHo dGr dPa dFt) := hD
          refine lv_aload_n hx hb dX8_add_53 rfl (lv_at hl 0 rfl) ?_
          refine va_get (D := D) (ci := 3) (v := .ref (a 9)) (C := RX8) (T := TX8) (N := 4) hx hb hts hiX8 hown hK.1 hP 6 rfl rfl 1 (by decide) (hts (.fieldLink RX8 15 "WinnowedGuilt$Seen" "lifts" "[I") (by decide +kernel)) (fun _ h9 => h9) rfl dX8_add_54 ?_
          refine lv_aload_n hx hb dX8_add_57 rfl (lv_at hl 0 rfl) ?_
          refine va_get (D := D) (ci := 3) (v := .int xSSize) (C := RX8) (T := TX8) (N := 4) hx hb hts hiX8 hown hK.1 hP 6 rfl rfl 3 (by decide) (hts (.fieldLink RX8 21 "WinnowedGuilt$Seen" "size" "I") (by decide +kernel)) (fun _ h9 => h9) rfl dX8_add_58 ?_
          refine lv_iload_n hx hb dX8_add_61 rfl (lv_at hl 2 rfl) ?_
          obtain ⟨hi6, h⟩ := gI_some h
          refine va_iast hx hb hK.1 hP hD hS 8 0 rfl rfl hi6 dX8_add_62 (fun H locs hP hD hS => ?_)
          have hP : va_P D vwCl (xW a g d cI cJ cZ (g 0) (d 0) xText xLetters xNow xKept xIsKept xChance xScenes xASize (upd xSKinds (Int32.toNatClampNeg xSSize) p1) (upd xSLifts (Int32.toNatClampNeg xSSize) p2) xSFlights xSSize xTally xOut fPk fWn fGw fGk fOw fSt fPe fHo fGr fPa fFt dPk dWn dGw dGk dOw dSt dPe dHo dGr dPa dFt) H := hP
          have hD : va_D A (xW a g d cI cJ cZ (g 0) (d 0) xText xLetters xNow xKept xIsKept xChance xScenes xASize (upd xSKinds (Int32.toNatClampNeg xSSize) p1) (upd xSLifts (Int32.toNatClampNeg xSSize) p2) xSFlights xSSize xTally xOut fPk fWn fGw fGk fOw fSt fPe fHo fGr fPa fFt dPk dWn dGw dGk dOw dSt dPe dHo dGr dPa dFt) := hD
          refine lv_aload_n hx hb dX8_add_63 rfl (lv_at hl 0 rfl) ?_
          refine va_get (D := D) (ci := 3) (v := .ref (a 10)) (C := RX8) (T := TX8) (N := 4) hx hb hts hiX8 hown hK.1 hP 6 rfl rfl 2 (by decide) (hts (.fieldLink RX8 18 "WinnowedGuilt$Seen" "flights" "[I") (by decide +kernel)) (fun _ h9 => h9) rfl dX8_add_64 ?_
          refine lv_aload_n hx hb dX8_add_67 rfl (lv_at hl 0 rfl) ?_
          refine va_get (D := D) (ci := 3) (v := .int xSSize) (C := RX8) (T := TX8) (N := 4) hx hb hts hiX8 hown hK.1 hP 6 rfl rfl 3 (by decide) (hts (.fieldLink RX8 21 "WinnowedGuilt$Seen" "size" "I") (by decide +kernel)) (fun _ h9 => h9) rfl dX8_add_68 ?_
          refine lv_iload_n hx hb dX8_add_71 rfl (lv_at hl 3 rfl) ?_
          obtain ⟨hi7, h⟩ := gI_some h
          refine va_iast hx hb hK.1 hP hD hS 9 0 rfl rfl hi7 dX8_add_72 (fun H locs hP hD hS => ?_)
          have hP : va_P D vwCl (xW a g d cI cJ cZ (g 0) (d 0) xText xLetters xNow xKept xIsKept xChance xScenes xASize (upd xSKinds (Int32.toNatClampNeg xSSize) p1) (upd xSLifts (Int32.toNatClampNeg xSSize) p2) (upd xSFlights (Int32.toNatClampNeg xSSize) p3) xSSize xTally xOut fPk fWn fGw fGk fOw fSt fPe fHo fGr fPa fFt dPk dWn dGw dGk dOw dSt dPe dHo dGr dPa dFt) H := hP
          have hD : va_D A (xW a g d cI cJ cZ (g 0) (d 0) xText xLetters xNow xKept xIsKept xChance xScenes xASize (upd xSKinds (Int32.toNatClampNeg xSSize) p1) (upd xSLifts (Int32.toNatClampNeg xSSize) p2) (upd xSFlights (Int32.toNatClampNeg xSSize) p3) xSSize xTally xOut fPk fWn fGw fGk fOw fSt fPe fHo fGr fPa fFt dPk dWn dGw dGk dOw dSt dPe dHo dGr dPa dFt) := hD
          refine lv_aload_n hx hb dX8_add_73 rfl (lv_at hl 0 rfl) ?_
          refine lv_dup hx hb dX8_add_74 rfl ?_
          refine va_get (D := D) (ci := 3) (v := .int xSSize) (C := RX8) (T := TX8) (N := 4) hx hb hts hiX8 hown hK.1 hP 6 rfl rfl 3 (by decide) (hts (.fieldLink RX8 21 "WinnowedGuilt$Seen" "size" "I") (by decide +kernel)) (fun _ h9 => h9) rfl dX8_add_75 ?_
          refine lv_iconst (v := 1) hx hb dX8_add_78 (by decide) ?_
          refine lv_iadd hx hb dX8_add_79 ?_
          refine va_put (D := D) (ci := 3) (v := .int (xSSize + 1)) (ty := .int) (C := RX8) (T := TX8) (N := 4) hx hb hts hiX8 tyX8 tyX8_ok nmX8 hown hK.1 hP hD hS 6 rfl rfl 3 (by decide) (hts (.fieldLink RX8 21 "WinnowedGuilt$Seen" "size" "I") (by decide +kernel)) (fun _ h9 => h9) rfl (by decide +kernel) rfl rfl (Nat.le_of_ble_eq_true rfl) dX8_add_80 (fun H locs hP hD hS => ?_)
          have hP : va_P D vwCl (xW a g d cI cJ cZ (g 0) (d 0) xText xLetters xNow xKept xIsKept xChance xScenes xASize (upd xSKinds (Int32.toNatClampNeg xSSize) p1) (upd xSLifts (Int32.toNatClampNeg xSSize) p2) (upd xSFlights (Int32.toNatClampNeg xSSize) p3) (xSSize + 1) xTally xOut fPk fWn fGw fGk fOw fSt fPe fHo fGr fPa fFt dPk dWn dGw dGk dOw dSt dPe dHo dGr dPa dFt) H := hP
          have hD : va_D A (xW a g d cI cJ cZ (g 0) (d 0) xText xLetters xNow xKept xIsKept xChance xScenes xASize (upd xSKinds (Int32.toNatClampNeg xSSize) p1) (upd xSLifts (Int32.toNatClampNeg xSSize) p2) (upd xSFlights (Int32.toNatClampNeg xSSize) p3) (xSSize + 1) xTally xOut fPk fWn fGw fGk fOw fSt fPe fHo fGr fPa fFt dPk dWn dGw dGk dOw dSt dPe dHo dGr dPa dFt) := hD
          cases h
          subst hAe
          exact W.vret hx hb hr (fun t ht _ => ⟨⟨(), rfl, trivial, by rw [ht]; exact hP, hD⟩, hS.F ht⟩) hS.2.2 dX8_add_83
