set_option maxHeartbeats 4000000 in
set_option maxRecDepth 100000 in
theorem c_mm_unsee (l : Launch) (D : va_G) (cI cJ cZ : ClassId) (a : Nat → Nat) (mPeople : Int32) (mHours : Int32) (mGrains : Int32) (mKind : Nat → Int32) (mWind : Nat → Int32) (mWeight : Nat → Int32) (mSort : Nat → Int32) (mOwner : Nat → Int32) (mNow : Nat → Int32) (mReadKind : Nat → Int32) (mReadWind : Nat → Int32) (mReadGrain : Nat → Int32) (mReadPeople : Int32) (mReadHours : Int32) (mReadGrains : Int32) (mText : Nat → Int32) (mLength : Int32) (mAt : Int32) (mFaultAt : Int32) (mMoved : Nat → Int32) (mActs : Int32) (mNext : Int32) (mRow : Nat → Int32) (mSeen : Int32) (mSeenKind : Nat → Int32) (mSeenLift : Nat → Int32) (mSeenFlew : Nat → Int32) (mSeed : Int64) (mIsKept : Nat → Int32) (mKept : Nat → Int32)  (sz : Nat)  (rv : Int32) (mSeen_r : Int32) (h : mm_unsee mSeen = some (rv, mSeen_r)) : Met l yX12_unsee wsX12_unsee ({ frames := 0, cells := 0, slots := 0, locals := 0 } : Room) (wPc D cI cJ cZ (mW a cI cZ mPeople mHours mGrains mKind mWind mWeight mSort mOwner mNow mReadKind mReadWind mReadGrain mReadPeople mReadHours mReadGrains mText mLength mAt mFaultAt mMoved mActs mNext mRow mSeen mSeenKind mSeenLift mSeenFlew mSeed mIsKept mKept) sz [.ref (a 0)]) (wQi D (mW a cI cZ mPeople mHours mGrains mKind mWind mWeight mSort mOwner mNow mReadKind mReadWind mReadGrain mReadPeople mReadHours mReadGrains mText mLength mAt mFaultAt mMoved mActs mNext mRow mSeen mSeenKind mSeenLift mSeenFlew mSeed mIsKept mKept) (mW a cI cZ mPeople mHours mGrains mKind mWind mWeight mSort mOwner mNow mReadKind mReadWind mReadGrain mReadPeople mReadHours mReadGrains mText mLength mAt mFaultAt mMoved mActs mNext mRow mSeen_r mSeenKind mSeenLift mSeenFlew mSeed mIsKept mKept) sz rv) 0 0 (va_A (mW a cI cZ mPeople mHours mGrains mKind mWind mWeight mSort mOwner mNow mReadKind mReadWind mReadGrain mReadPeople mReadHours mReadGrains mText mLength mAt mFaultAt mMoved mActs mNext mRow mSeen mSeenKind mSeenLift mSeenFlew mSeed mIsKept mKept) sz) := by
  unfold mm_unsee at h
  refine Met.ofW (cc := cX12_unsee) (maxL := 2) (ret := (some .int)) (by decide) rfl ?_
  intro p e s m args below meth c s₁ B hml hv
  obtain ⟨rfl, hsz, hP, hK, hD0⟩ := hv
  have hx := B.exec
  have hb := B.bytes
  have hr := B.returns
  have hts := atoms_spec (ws := wsX12_unsee) B.pre
  have hown : s.vm.findClass RX12 = some m.cls := findClass_of_methodNamed B.named
  have hlocks := B.notSynchronized
  subst hsz
  have hD := hD0.self (sz := s.heap.size)
  have hA : ∀ q : Nat, s.heap.size ≤ q → va_A (mW a cI cZ mPeople mHours mGrains mKind mWind mWeight mSort mOwner mNow mReadKind mReadWind mReadGrain mReadPeople mReadHours mReadGrains mText mLength mAt mFaultAt mMoved mActs mNext mRow mSeen mSeenKind mSeenLift mSeenFlew mSeed mIsKept mKept) s.heap.size q := fun q h => Or.inr h
  have hS : va_S (va_A (mW a cI cZ mPeople mHours mGrains mKind mWind mWeight mSort mOwner mNow mReadKind mReadWind mReadGrain mReadPeople mReadHours mReadGrains mText mLength mAt mFaultAt mMoved mActs mNext mRow mSeen mSeenKind mSeenLift mSeenFlew mSeed mIsKept mKept) s.heap.size) s.heap s.heap [] := va_S.rf
  obtain ⟨A, hAe⟩ : ∃ A, A = va_A (mW a cI cZ mPeople mHours mGrains mKind mWind mWeight mSort mOwner mNow mReadKind mReadWind mReadGrain mReadPeople mReadHours mReadGrains mText mLength mAt mFaultAt mMoved mActs mNext mRow mSeen mSeenKind mSeenLift mSeenFlew mSeed mIsKept mKept) s.heap.size := ⟨_, rfl⟩
  rw [← hAe] at hD hA hS
  have hl := lv_entry ([.ref (a 0)]) (n := 2) (Nat.le_of_ble_eq_true rfl)
  rw [lg_entry_eq]
  generalize (lg_sl ([.ref (a 0)]) ++ List.replicate (2 - (lg_sl ([.ref (a 0)])).length) Slot.unset).toArray = ls at hl ⊢
  have hl : lv_has ls 2 [(0, .ref (a 0))] := hl
  have hiX12 : ∀ w ∈ u_ws RX12 TX12 30, w ∈ wsX12_unsee := fun w hw => List.mem_cons_of_mem _ (List.mem_append_right _ hw)
  refine lv_aload_n hx hb dX12_unsee_0 rfl (lv_at hl 0 rfl) ?_
  refine va_get (D := D) (ci := 5) (v := .int mSeen) (C := RX12) (T := TX12) (N := 30) hx hb hts hiX12 hown hK.1 hP 0 rfl rfl 23 (by decide) (hts (.fieldLink RX12 207 "WinnowedGuiltModel" "seen" "I") (by decide +kernel)) (fun _ h9 => h9) rfl dX12_unsee_1 ?_
  refine lv_istore_n (lv' := [(1, .int mSeen), (0, .ref (a 0))]) hx hb dX12_unsee_4 rfl hl (by decide) rfl (fun ls hl => ?_)
  refine lv_aload_n hx hb dX12_unsee_5 rfl (lv_at hl 1 rfl) ?_
  refine lv_iconst (v := 0) hx hb dX12_unsee_6 (by decide) ?_
  refine va_put (D := D) (ci := 5) (v := .int 0) (ty := .int) (C := RX12) (T := TX12) (N := 30) hx hb hts hiX12 tyX12 tyX12_ok nmX12 hown hK.1 hP hD hS 0 rfl rfl 23 (by decide) (hts (.fieldLink RX12 207 "WinnowedGuiltModel" "seen" "I") (by decide +kernel)) (fun _ h9 => h9) rfl (by decide +kernel) rfl rfl (Nat.le_of_ble_eq_true rfl) dX12_unsee_7 (fun H locs hP hD hS => ?_)
  have hP : va_P D vwCl (mW a cI cZ mPeople mHours mGrains mKind mWind mWeight mSort mOwner mNow mReadKind mReadWind mReadGrain mReadPeople mReadHours mReadGrains mText mLength mAt mFaultAt mMoved mActs mNext mRow 0 mSeenKind mSeenLift mSeenFlew mSeed mIsKept mKept) H := hP
  have hD : va_D A (mW a cI cZ mPeople mHours mGrains mKind mWind mWeight mSort mOwner mNow mReadKind mReadWind mReadGrain mReadPeople mReadHours mReadGrains mText mLength mAt mFaultAt mMoved mActs mNext mRow 0 mSeenKind mSeenLift mSeenFlew mSeed mIsKept mKept) := hD
  refine lv_iload_n hx hb dX12_unsee_10 rfl (lv_at hl 0 rfl) ?_
  cases h
  subst hAe
  exact W.iret hx hb hr (fun t ht _ => ⟨⟨_, (), rfl, rfl, by rw [ht]; exact hP, hD⟩, hS.F ht⟩) hS.2.2 dX12_unsee_11

set_option maxHeartbeats 4000000 in
set_option maxRecDepth 100000 in
theorem c_mm_weights (l : Launch) (D : va_G) (cI cJ cZ : ClassId) (a : Nat → Nat) (mPeople : Int32) (mHours : Int32) (mGrains : Int32) (mKind : Nat → Int32) (mWind : Nat → Int32) (mWeight : Nat → Int32) (mSort : Nat → Int32) (mOwner : Nat → Int32) (mNow : Nat → Int32) (mReadKind : Nat → Int32) (mReadWind : Nat → Int32) (mReadGrain : Nat → Int32) (mReadPeople : Int32) (mReadHours : Int32) (mReadGrains : Int32) (mText : Nat → Int32) (mLength : Int32) (mAt : Int32) (mFaultAt : Int32) (mMoved : Nat → Int32) (mActs : Int32) (mNext : Int32) (mRow : Nat → Int32) (mSeen : Int32) (mSeenKind : Nat → Int32) (mSeenLift : Nat → Int32) (mSeenFlew : Nat → Int32) (mSeed : Int64) (mIsKept : Nat → Int32) (mKept : Nat → Int32)  (H0 : Heap) (hP : va_P D vwCl (mW a cI cZ mPeople mHours mGrains mKind mWind mWeight mSort mOwner mNow mReadKind mReadWind mReadGrain mReadPeople mReadHours mReadGrains mText mLength mAt mFaultAt mMoved mActs mNext mRow mSeen mSeenKind mSeenLift mSeenFlew mSeed mIsKept mKept) H0) (p1 : Int32) (rv : Int32) (h : mm_weights mSeen mSeenKind mSeenLift mSeenFlew p1 = some rv) : Met l yX12_weights wsX12_weights ({ frames := 2, cells := 0, slots := 0, locals := 44 } : Room) (rPc D cI cJ cZ H0 [.ref (a 0), .int p1]) (vp_Si (fun r => r = rv)) 0 0 (fun _ => False) := by
  unfold mm_weights at h
  refine Met.ofW (cc := cX12_weights) (maxL := 6) (ret := (some .int)) (by decide) rfl ?_
  intro p e s m args below meth c s₁ B hml hv
  obtain ⟨rfl, hH, hK⟩ := hv
  have hx := B.exec
  have hb := B.bytes
  have hr := B.returns
  have hts := atoms_spec (ws := wsX12_weights) B.pre
  have hown : s.vm.findClass RX12 = some m.cls := findClass_of_methodNamed B.named
  have hlocks := B.notSynchronized
  subst hH
  have hl := lv_entry ([.ref (a 0), .int p1]) (n := 6) (Nat.le_of_ble_eq_true rfl)
  rw [lg_entry_eq]
  generalize (lg_sl ([.ref (a 0), .int p1]) ++ List.replicate (6 - (lg_sl ([.ref (a 0), .int p1])).length) Slot.unset).toArray = ls at hl ⊢
  have hl : lv_has ls 6 [(0, .ref (a 0)), (1, .int p1)] := hl
  have hiX12 : ∀ w ∈ u_ws RX12 TX12 30, w ∈ wsX12_weights := fun w hw => List.mem_cons_of_mem _ (List.mem_append_right _ hw)
  refine lv_iload_n hx hb dX12_weights_0 rfl (lv_at hl 1 rfl) ?_
  refine lv_i2l (v := (Int32.toInt64 p1)) hx hb dX12_weights_1 rfl ?_
  refine lv_lconst (v := 0) hx hb dX12_weights_2 (by decide) ?_
  refine lv_ldc2 (own := RX12) (v := 3) hx hb hown (hts (.constantLong RX12 201 (3)) (by decide +kernel)) dX12_weights_3 ?_
  obtain ⟨q1, hq1, h⟩ := bS h
  refine rcI (va_runS (As := [.long (Int32.toInt64 p1), .long 0, .long 3]) (rest := []) ⟨hx, hb, hml, hown, hts⟩ (c_mm_in l D cI cJ cZ   s.heap (Int32.toInt64 p1) 0 3 q1 hq1) (va_cwS 3 hts gX12_weights_X12_in rfl rfl rfl (by decide +kernel) ⟨Nat.le_of_ble_eq_true rfl, Nat.le_of_ble_eq_true rfl⟩) (rPreS hK) rfl rfl hl.1 rfl (lv_room (Nat.le_of_ble_eq_true rfl)) dX12_weights_6 ⟨Nat.zero_le _, Nat.zero_le _⟩) ?_
  refine lv_if_ne (tgt := 15) hx hb dX12_weights_9 (by decide) (fun c2 => ?_) (fun c2 => ?_)
  · have h := iF c2 h
    refine lv_iconst (v := 0) hx hb dX12_weights_15 (by decide) ?_
    refine lv_istore_n (lv' := [(2, .int 0), (0, .ref (a 0)), (1, .int p1)]) hx hb dX12_weights_16 rfl hl (by decide) rfl (fun ls hl => ?_)
    refine lv_iconst (v := 1) hx hb dX12_weights_17 (by decide) ?_
    refine lv_istore_n (lv' := [(3, .int 1), (2, .int 0), (0, .ref (a 0)), (1, .int p1)]) hx hb dX12_weights_18 rfl hl (by decide) rfl (fun ls hl => ?_)
    have L19 : ∀ (n : Nat) (x3_19 : Int32) (x2_19 : Int32) (ls : Array Slot) (kx : Int32 → Int32 → Option (Int32)), mm_weights_L19 mSeen mSeenKind mSeenLift mSeenFlew p1 kx n x3_19 x2_19 = some rv → lv_has ls 6 [(3, .int x3_19), (2, .int x2_19), (0, .ref (a 0)), (1, .int p1)] → (∀ (y3_19 : Int32) (y2_19 : Int32) (ls : Array Slot), kx y3_19 y2_19 = some rv → lv_has ls 6 [(3, .int y3_19), (2, .int y2_19), (0, .ref (a 0)), (1, .int p1)] → W p l e (headSpec wsX12_weights ({ frames := 2, cells := 0, slots := 0, locals := 44 } : Room)).room s m ([.ref (a 0), .int p1] : List Value).toArray below meth c s.heap [] 0 0 (MQ below (vp_Si (fun r => r = rv)) ([.ref (a 0), .int p1] : List Value).toArray s 0 0 (fun _ => False)) (F0 m 112 ls [])) → W p l e (headSpec wsX12_weights ({ frames := 2, cells := 0, slots := 0, locals := 44 } : Room)).room s m ([.ref (a 0), .int p1] : List Value).toArray below meth c s.heap [] 0 0 (MQ below (vp_Si (fun r => r = rv)) ([.ref (a 0), .int p1] : List Value).toArray s 0 0 (fun _ => False)) (F0 m 19 ls []) := by
      intro n
      induction n with
      | zero => intro _ _ _ _ h; rw [mm_weights_L19.eq_1] at h; cases h
      | succ n ih =>
        intro x3_19 x2_19 ls kx h hl hk
        rw [mm_weights_L19.eq_2] at h
        refine lv_iload_n hx hb dX12_weights_19 rfl (lv_at hl 0 rfl) ?_
        refine lv_bipush (v := 10) hx hb dX12_weights_20 (by decide) ?_
        refine lv_icmp_ge (tgt := 112) hx hb dX12_weights_22 (by decide) (fun c3 => ?_) (fun c3 => ?_)
        · have h := iT c3 h
          exact hk _ _ _ h (lv_sub hl [0, 1, 2, 3] rfl)
        · have h := iF c3 h
          refine lv_iconst (v := 1) hx hb dX12_weights_25 (by decide) ?_
          refine lv_istore (lv' := [(4, .int 1), (3, .int x3_19), (2, .int x2_19), (0, .ref (a 0)), (1, .int p1)]) hx hb dX12_weights_26 hl (by decide) rfl (fun ls hl => ?_)
          refine lv_iconst (v := 0) hx hb dX12_weights_28 (by decide) ?_
          refine lv_istore (lv' := [(5, .int 0), (4, .int 1), (3, .int x3_19), (2, .int x2_19), (0, .ref (a 0)), (1, .int p1)]) hx hb dX12_weights_29 hl (by decide) rfl (fun ls hl => ?_)
          have L31 : ∀ (n : Nat) (x5_31 : Int32) (x4_31 : Int32) (ls : Array Slot) (kx : Int32 → Int32 → Option (Int32)), mm_weights_L31 mSeen mSeenKind mSeenLift mSeenFlew p1 x3_19 kx n x5_31 x4_31 = some rv → lv_has ls 6 [(5, .int x5_31), (4, .int x4_31), (3, .int x3_19), (2, .int x2_19), (0, .ref (a 0)), (1, .int p1)] → (∀ (y5_31 : Int32) (y4_31 : Int32) (ls : Array Slot), kx y5_31 y4_31 = some rv → lv_has ls 6 [(5, .int y5_31), (4, .int y4_31), (3, .int x3_19), (2, .int x2_19), (0, .ref (a 0)), (1, .int p1)] → W p l e (headSpec wsX12_weights ({ frames := 2, cells := 0, slots := 0, locals := 44 } : Room)).room s m ([.ref (a 0), .int p1] : List Value).toArray below meth c s.heap [] 0 0 (MQ below (vp_Si (fun r => r = rv)) ([.ref (a 0), .int p1] : List Value).toArray s 0 0 (fun _ => False)) (F0 m 91 ls [])) → W p l e (headSpec wsX12_weights ({ frames := 2, cells := 0, slots := 0, locals := 44 } : Room)).room s m ([.ref (a 0), .int p1] : List Value).toArray below meth c s.heap [] 0 0 (MQ below (vp_Si (fun r => r = rv)) ([.ref (a 0), .int p1] : List Value).toArray s 0 0 (fun _ => False)) (F0 m 31 ls []) := by
            intro n
            induction n with
            | zero => intro _ _ _ _ h; rw [mm_weights_L31.eq_1] at h; cases h
            | succ n ih =>
              intro x5_31 x4_31 ls kx h hl hk
              rw [mm_weights_L31.eq_2] at h
              refine lv_iload hx hb dX12_weights_31 (lv_at hl 0 rfl) ?_
              refine lv_aload_n hx hb dX12_weights_33 rfl (lv_at hl 4 rfl) ?_
              refine va_get (D := D) (ci := 5) (v := .int mSeen) (C := RX12) (T := TX12) (N := 30) hx hb hts hiX12 hown hK.1 hP 0 rfl rfl 23 (by decide) (hts (.fieldLink RX12 207 "WinnowedGuiltModel" "seen" "I") (by decide +kernel)) (fun _ h9 => h9) rfl dX12_weights_34 ?_
              refine lv_icmp_ge (tgt := 91) hx hb dX12_weights_37 (by decide) (fun c4 => ?_) (fun c4 => ?_)
              · have h := iT c4 h
                exact hk _ _ _ h (lv_sub hl [0, 1, 2, 3, 4, 5] rfl)
              · have h := iF c4 h
                refine lv_iload hx hb dX12_weights_40 (lv_at hl 1 rfl) ?_
                refine lv_if_eq (tgt := 82) hx hb dX12_weights_42 (by decide) (fun c5 => ?_) (fun c5 => ?_)
                · have h := iT c5 h
                  refine lv_iconst (v := 0) hx hb dX12_weights_82 (by decide) ?_
                  refine lv_istore (lv' := [(4, .int 0), (5, .int x5_31), (3, .int x3_19), (2, .int x2_19), (0, .ref (a 0)), (1, .int p1)]) hx hb dX12_weights_83 hl (by decide) rfl (fun ls hl => ?_)
                  refine lv_iinc (v := (x5_31 + 1)) (lv' := [(5, .int (x5_31 + 1)), (4, .int 0), (3, .int x3_19), (2, .int x2_19), (0, .ref (a 0)), (1, .int p1)]) hx hb dX12_weights_85 hl (k := 1) rfl rfl (by decide) rfl (fun ls hl => ?_)
                  refine lv_goto (tgt := 31) hx hb dX12_weights_88 (by decide) ?_
                  exact ih _ _ _ _ h (lv_sub hl [0, 1, 2, 3, 4, 5] rfl) hk
                · have h := iF c5 h
                  refine lv_aload_n hx hb dX12_weights_45 rfl (lv_at hl 4 rfl) ?_
                  refine va_get (D := D) (ci := 5) (v := .ref (a 13)) (C := RX12) (T := TX12) (N := 30) hx hb hts hiX12 hown hK.1 hP 0 rfl rfl 24 (by decide) (hts (.fieldLink RX12 46 "WinnowedGuiltModel" "seenKind" "[I") (by decide +kernel)) (fun _ h9 => h9) rfl dX12_weights_46 ?_
                  refine lv_iload hx hb dX12_weights_49 (lv_at hl 0 rfl) ?_
                  obtain ⟨hi6, h⟩ := gI_some h
                  refine ldI (v := (mSeenKind (Int32.toNatClampNeg x5_31))) hx hb hK.1 hP 13 rfl rfl hi6 rfl dX12_weights_51 ?_
                  refine lv_iload_n hx hb dX12_weights_52 rfl (lv_at hl 5 rfl) ?_
                  refine lv_icmp_ne (tgt := 78) hx hb dX12_weights_53 (by decide) (fun c7 => ?_) (fun c7 => ?_)
                  · have h := iF c7 h
                    refine lv_iconst (v := 1) hx hb dX12_weights_78 (by decide) ?_
                    refine lv_goto (tgt := 83) hx hb dX12_weights_79 (by decide) ?_
                    refine lv_istore (lv' := [(4, .int 1), (5, .int x5_31), (3, .int x3_19), (2, .int x2_19), (0, .ref (a 0)), (1, .int p1)]) hx hb dX12_weights_83 hl (by decide) rfl (fun ls hl => ?_)
                    refine lv_iinc (v := (x5_31 + 1)) (lv' := [(5, .int (x5_31 + 1)), (4, .int 1), (3, .int x3_19), (2, .int x2_19), (0, .ref (a 0)), (1, .int p1)]) hx hb dX12_weights_85 hl (k := 1) rfl rfl (by decide) rfl (fun ls hl => ?_)
                    refine lv_goto (tgt := 31) hx hb dX12_weights_88 (by decide) ?_
                    exact ih _ _ _ _ h (lv_sub hl [0, 1, 2, 3, 4, 5] rfl) hk
                  · have h := iT c7 h
                    refine lv_aload_n hx hb dX12_weights_56 rfl (lv_at hl 4 rfl) ?_
                    refine va_get (D := D) (ci := 5) (v := .ref (a 14)) (C := RX12) (T := TX12) (N := 30) hx hb hts hiX12 hown hK.1 hP 0 rfl rfl 25 (by decide) (hts (.fieldLink RX12 49 "WinnowedGuiltModel" "seenLift" "[I") (by decide +kernel)) (fun _ h9 => h9) rfl dX12_weights_57 ?_
                    refine lv_iload hx hb dX12_weights_60 (lv_at hl 0 rfl) ?_
                    obtain ⟨hi8, h⟩ := gI_some h
                    refine ldI (v := (mSeenLift (Int32.toNatClampNeg x5_31))) hx hb hK.1 hP 14 rfl rfl hi8 rfl dX12_weights_62 ?_
                    refine lv_iload_n hx hb dX12_weights_63 rfl (lv_at hl 5 rfl) ?_
                    refine lv_iload_n hx hb dX12_weights_64 rfl (lv_at hl 2 rfl) ?_
                    obtain ⟨q9, hq9, h⟩ := bS h
                    refine rcI (va_runS (As := [.int (mSeenLift (Int32.toNatClampNeg x5_31)), .int p1, .int x3_19]) (rest := []) ⟨hx, hb, hml, hown, hts⟩ (c_mm_flight l D cI cJ cZ   s.heap (mSeenLift (Int32.toNatClampNeg x5_31)) p1 x3_19 q9 hq9) (va_cwS 3 hts gX12_weights_X12_flight rfl rfl rfl (by decide +kernel) ⟨Nat.le_of_ble_eq_true rfl, Nat.le_of_ble_eq_true rfl⟩) (rPreS hK) rfl rfl hl.1 rfl (lv_room (Nat.le_of_ble_eq_true rfl)) dX12_weights_65 ⟨Nat.zero_le _, Nat.zero_le _⟩) ?_
                    refine lv_aload_n hx hb dX12_weights_68 rfl (lv_at hl 4 rfl) ?_
                    refine va_get (D := D) (ci := 5) (v := .ref (a 15)) (C := RX12) (T := TX12) (N := 30) hx hb hts hiX12 hown hK.1 hP 0 rfl rfl 26 (by decide) (hts (.fieldLink RX12 52 "WinnowedGuiltModel" "seenFlew" "[I") (by decide +kernel)) (fun _ h9 => h9) rfl dX12_weights_69 ?_
                    refine lv_iload hx hb dX12_weights_72 (lv_at hl 0 rfl) ?_
                    obtain ⟨hi10, h⟩ := gI_some h
                    refine ldI (v := (mSeenFlew (Int32.toNatClampNeg x5_31))) hx hb hK.1 hP 15 rfl rfl hi10 rfl dX12_weights_74 ?_
                    refine lv_icmp_ne (tgt := 82) hx hb dX12_weights_75 (by decide) (fun c11 => ?_) (fun c11 => ?_)
                    · have h := iF c11 h
                      refine lv_iconst (v := 0) hx hb dX12_weights_82 (by decide) ?_
                      refine lv_istore (lv' := [(4, .int 0), (5, .int x5_31), (3, .int x3_19), (2, .int x2_19), (0, .ref (a 0)), (1, .int p1)]) hx hb dX12_weights_83 hl (by decide) rfl (fun ls hl => ?_)
                      refine lv_iinc (v := (x5_31 + 1)) (lv' := [(5, .int (x5_31 + 1)), (4, .int 0), (3, .int x3_19), (2, .int x2_19), (0, .ref (a 0)), (1, .int p1)]) hx hb dX12_weights_85 hl (k := 1) rfl rfl (by decide) rfl (fun ls hl => ?_)
                      refine lv_goto (tgt := 31) hx hb dX12_weights_88 (by decide) ?_
                      exact ih _ _ _ _ h (lv_sub hl [0, 1, 2, 3, 4, 5] rfl) hk
                    · have h := iT c11 h
                      refine lv_iconst (v := 1) hx hb dX12_weights_78 (by decide) ?_
                      refine lv_goto (tgt := 83) hx hb dX12_weights_79 (by decide) ?_
                      refine lv_istore (lv' := [(4, .int 1), (5, .int x5_31), (3, .int x3_19), (2, .int x2_19), (0, .ref (a 0)), (1, .int p1)]) hx hb dX12_weights_83 hl (by decide) rfl (fun ls hl => ?_)
                      refine lv_iinc (v := (x5_31 + 1)) (lv' := [(5, .int (x5_31 + 1)), (4, .int 1), (3, .int x3_19), (2, .int x2_19), (0, .ref (a 0)), (1, .int p1)]) hx hb dX12_weights_85 hl (k := 1) rfl rfl (by decide) rfl (fun ls hl => ?_)
                      refine lv_goto (tgt := 31) hx hb dX12_weights_88 (by decide) ?_
                      exact ih _ _ _ _ h (lv_sub hl [0, 1, 2, 3, 4, 5] rfl) hk
          refine L31 _ _ _ _ _ h hl (fun y5_31 y4_31 ls h hl => ?_)
          refine lv_iload_n hx hb dX12_weights_91 rfl (lv_at hl 3 rfl) ?_
          refine lv_iload hx hb dX12_weights_92 (lv_at hl 1 rfl) ?_
          refine lv_if_eq (tgt := 103) hx hb dX12_weights_94 (by decide) (fun c4 => ?_) (fun c4 => ?_)
          · have h := iT c4 h
            refine lv_iconst (v := 0) hx hb dX12_weights_103 (by decide) ?_
            refine lv_ior hx hb dX12_weights_104 ?_
            refine lv_istore_n (lv' := [(2, .int (x2_19 ||| 0)), (5, .int y5_31), (4, .int y4_31), (3, .int x3_19), (0, .ref (a 0)), (1, .int p1)]) hx hb dX12_weights_105 rfl hl (by decide) rfl (fun ls hl => ?_)
            refine lv_iinc (v := (x3_19 + 1)) (lv' := [(3, .int (x3_19 + 1)), (2, .int (x2_19 ||| 0)), (5, .int y5_31), (4, .int y4_31), (0, .ref (a 0)), (1, .int p1)]) hx hb dX12_weights_106 hl (k := 3) rfl rfl (by decide) rfl (fun ls hl => ?_)
            refine lv_goto (tgt := 19) hx hb dX12_weights_109 (by decide) ?_
            exact ih _ _ _ _ h (lv_sub hl [0, 1, 4, 5] rfl) hk
          · have h := iF c4 h
            refine lv_iconst (v := 1) hx hb dX12_weights_97 (by decide) ?_
            refine lv_iload_n hx hb dX12_weights_98 rfl (lv_at hl 2 rfl) ?_
            refine lv_ishl hx hb dX12_weights_99 ?_
            refine lv_goto (tgt := 104) hx hb dX12_weights_100 (by decide) ?_
            refine lv_ior hx hb dX12_weights_104 ?_
            refine lv_istore_n (lv' := [(2, .int (x2_19 ||| (1 <<< (x3_19 &&& 31)))), (5, .int y5_31), (4, .int y4_31), (3, .int x3_19), (0, .ref (a 0)), (1, .int p1)]) hx hb dX12_weights_105 rfl hl (by decide) rfl (fun ls hl => ?_)
            refine lv_iinc (v := (x3_19 + 1)) (lv' := [(3, .int (x3_19 + 1)), (2, .int (x2_19 ||| (1 <<< (x3_19 &&& 31)))), (5, .int y5_31), (4, .int y4_31), (0, .ref (a 0)), (1, .int p1)]) hx hb dX12_weights_106 hl (k := 3) rfl rfl (by decide) rfl (fun ls hl => ?_)
            refine lv_goto (tgt := 19) hx hb dX12_weights_109 (by decide) ?_
            exact ih _ _ _ _ h (lv_sub hl [0, 1, 4, 5] rfl) hk
    refine L19 _ _ _ _ _ h hl (fun y3_19 y2_19 ls h hl => ?_)
    refine lv_iload_n hx hb dX12_weights_112 rfl (lv_at hl 1 rfl) ?_
    exact W.iret hx hb hr (fun t ht _ => ⟨_, rfl, Option.some.inj h, ht⟩) (fun _ q => absurd q List.not_mem_nil) dX12_weights_113
  · have h := iT c2 h
    refine lv_bipush (v := (-2)) hx hb dX12_weights_12 (by decide) ?_
    exact W.iret hx hb hr (fun t ht _ => ⟨_, rfl, Option.some.inj h, ht⟩) (fun _ q => absurd q List.not_mem_nil) dX12_weights_14

set_option maxHeartbeats 4000000 in
set_option maxRecDepth 100000 in
theorem c_mm_factorial (l : Launch) (D : va_G) (cI cJ cZ : ClassId)  (H0 : Heap) (p0 : Int32) (rv : Int32) (h : mm_factorial p0 = some rv) : Met l yX12_factorial wsX12_factorial ({ frames := 0, cells := 0, slots := 0, locals := 0 } : Room) (rPc D cI cJ cZ H0 [.int p0]) (vp_Si (fun r => r = rv)) 0 0 (fun _ => False) := by
  unfold mm_factorial at h
  refine Met.ofW (cc := cX12_factorial) (maxL := 3) (ret := (some .int)) (by decide) rfl ?_
  intro p e s m args below meth c s₁ B hml hv
  obtain ⟨rfl, hH, hK⟩ := hv
  have hx := B.exec
  have hb := B.bytes
  have hr := B.returns
  have hts := atoms_spec (ws := wsX12_factorial) B.pre
  have hown : s.vm.findClass RX12 = some m.cls := findClass_of_methodNamed B.named
  have hlocks := B.notSynchronized
  subst hH
  have hl := lv_entry ([.int p0]) (n := 3) (Nat.le_of_ble_eq_true rfl)
  rw [lg_entry_eq]
  generalize (lg_sl ([.int p0]) ++ List.replicate (3 - (lg_sl ([.int p0])).length) Slot.unset).toArray = ls at hl ⊢
  have hl : lv_has ls 3 [(0, .int p0)] := hl
  refine lv_iconst (v := 1) hx hb dX12_factorial_0 (by decide) ?_
  refine lv_istore_n (lv' := [(1, .int 1), (0, .int p0)]) hx hb dX12_factorial_1 rfl hl (by decide) rfl (fun ls hl => ?_)
  refine lv_iconst (v := 2) hx hb dX12_factorial_2 (by decide) ?_
  refine lv_istore_n (lv' := [(2, .int 2), (1, .int 1), (0, .int p0)]) hx hb dX12_factorial_3 rfl hl (by decide) rfl (fun ls hl => ?_)
  have L4 : ∀ (n : Nat) (x2_4 : Int32) (x1_4 : Int32) (ls : Array Slot) (kx : Int32 → Int32 → Option (Int32)), mm_factorial_L4 p0 kx n x2_4 x1_4 = some rv → lv_has ls 3 [(2, .int x2_4), (1, .int x1_4), (0, .int p0)] → (∀ (y2_4 : Int32) (y1_4 : Int32) (ls : Array Slot), kx y2_4 y1_4 = some rv → lv_has ls 3 [(2, .int y2_4), (1, .int y1_4), (0, .int p0)] → W p l e (headSpec wsX12_factorial ({ frames := 0, cells := 0, slots := 0, locals := 0 } : Room)).room s m ([.int p0] : List Value).toArray below meth c s.heap [] 0 0 (MQ below (vp_Si (fun r => r = rv)) ([.int p0] : List Value).toArray s 0 0 (fun _ => False)) (F0 m 19 ls [])) → W p l e (headSpec wsX12_factorial ({ frames := 0, cells := 0, slots := 0, locals := 0 } : Room)).room s m ([.int p0] : List Value).toArray below meth c s.heap [] 0 0 (MQ below (vp_Si (fun r => r = rv)) ([.int p0] : List Value).toArray s 0 0 (fun _ => False)) (F0 m 4 ls []) := by
    intro n
    induction n with
    | zero => intro _ _ _ _ h; rw [mm_factorial_L4.eq_1] at h; cases h
    | succ n ih =>
      intro x2_4 x1_4 ls kx h hl hk
      rw [mm_factorial_L4.eq_2] at h
      refine lv_iload_n hx hb dX12_factorial_4 rfl (lv_at hl 0 rfl) ?_
      refine lv_iload_n hx hb dX12_factorial_5 rfl (lv_at hl 2 rfl) ?_
      refine lv_icmp_gt (tgt := 19) hx hb dX12_factorial_6 (by decide) (fun c1 => ?_) (fun c1 => ?_)
      · have h := iT c1 h
        exact hk _ _ _ h (lv_sub hl [0, 1, 2] rfl)
      · have h := iF c1 h
        refine lv_iload_n hx hb dX12_factorial_9 rfl (lv_at hl 1 rfl) ?_
        refine lv_iload_n hx hb dX12_factorial_10 rfl (lv_at hl 0 rfl) ?_
        refine lv_imul hx hb dX12_factorial_11 ?_
        refine lv_istore_n (lv' := [(1, .int (x1_4 * x2_4)), (2, .int x2_4), (0, .int p0)]) hx hb dX12_factorial_12 rfl hl (by decide) rfl (fun ls hl => ?_)
        refine lv_iinc (v := (x2_4 + 1)) (lv' := [(2, .int (x2_4 + 1)), (1, .int (x1_4 * x2_4)), (0, .int p0)]) hx hb dX12_factorial_13 hl (k := 1) rfl rfl (by decide) rfl (fun ls hl => ?_)
        refine lv_goto (tgt := 4) hx hb dX12_factorial_16 (by decide) ?_
        exact ih _ _ _ _ h (lv_sub hl [0, 1, 2] rfl) hk
  refine L4 _ _ _ _ _ h hl (fun y2_4 y1_4 ls h hl => ?_)
  refine lv_iload_n hx hb dX12_factorial_19 rfl (lv_at hl 1 rfl) ?_
  exact W.iret hx hb hr (fun t ht _ => ⟨_, rfl, Option.some.inj h, ht⟩) (fun _ q => absurd q List.not_mem_nil) dX12_factorial_20

set_option maxHeartbeats 4000000 in
set_option maxRecDepth 100000 in
theorem c_mm_common (l : Launch) (D : va_G) (cI cJ cZ : ClassId)  (H0 : Heap) (p0 : Int32) (p1 : Int32) (rv : Int32) (h : mm_common p0 p1 = some rv) : Met l yX12_common wsX12_common ({ frames := 0, cells := 0, slots := 0, locals := 0 } : Room) (rPc D cI cJ cZ H0 [.int p0, .int p1]) (vp_Si (fun r => r = rv)) 0 0 (fun _ => False) := by
  unfold mm_common at h
  refine Met.ofW (cc := cX12_common) (maxL := 5) (ret := (some .int)) (by decide) rfl ?_
  intro p e s m args below meth c s₁ B hml hv
  obtain ⟨rfl, hH, hK⟩ := hv
  have hx := B.exec
  have hb := B.bytes
  have hr := B.returns
  have hts := atoms_spec (ws := wsX12_common) B.pre
  have hown : s.vm.findClass RX12 = some m.cls := findClass_of_methodNamed B.named
  have hlocks := B.notSynchronized
  subst hH
  have hl := lv_entry ([.int p0, .int p1]) (n := 5) (Nat.le_of_ble_eq_true rfl)
  rw [lg_entry_eq]
  generalize (lg_sl ([.int p0, .int p1]) ++ List.replicate (5 - (lg_sl ([.int p0, .int p1])).length) Slot.unset).toArray = ls at hl ⊢
  have hl : lv_has ls 5 [(0, .int p0), (1, .int p1)] := hl
  refine lv_iload_n hx hb dX12_common_0 rfl (lv_at hl 0 rfl) ?_
  refine lv_if_ge (tgt := 9) hx hb dX12_common_1 (by decide) (fun c1 => ?_) (fun c1 => ?_)
  · have h := iT c1 h
    refine lv_iload_n hx hb dX12_common_9 rfl (lv_at hl 0 rfl) ?_
    refine lv_istore_n (lv' := [(2, .int p0), (0, .int p0), (1, .int p1)]) hx hb dX12_common_10 rfl hl (by decide) rfl (fun ls hl => ?_)
    refine lv_iload_n hx hb dX12_common_11 rfl (lv_at hl 2 rfl) ?_
    refine lv_istore_n (lv' := [(3, .int p1), (2, .int p0), (0, .int p0), (1, .int p1)]) hx hb dX12_common_12 rfl hl (by decide) rfl (fun ls hl => ?_)
    have L13 : ∀ (n : Nat) (x3_13 : Int32) (x2_13 : Int32) (ls : Array Slot) (kx : Int32 → Int32 → Option (Int32)), mm_common_L13  kx n x3_13 x2_13 = some rv → lv_has ls 5 [(3, .int x3_13), (2, .int x2_13), (0, .int p0), (1, .int p1)] → (∀ (y3_13 : Int32) (y2_13 : Int32) (ls : Array Slot), kx y3_13 y2_13 = some rv → lv_has ls 5 [(3, .int y3_13), (2, .int y2_13), (0, .int p0), (1, .int p1)] → W p l e (headSpec wsX12_common ({ frames := 0, cells := 0, slots := 0, locals := 0 } : Room)).room s m ([.int p0, .int p1] : List Value).toArray below meth c s.heap [] 0 0 (MQ below (vp_Si (fun r => r = rv)) ([.int p0, .int p1] : List Value).toArray s 0 0 (fun _ => False)) (F0 m 30 ls [])) → W p l e (headSpec wsX12_common ({ frames := 0, cells := 0, slots := 0, locals := 0 } : Room)).room s m ([.int p0, .int p1] : List Value).toArray below meth c s.heap [] 0 0 (MQ below (vp_Si (fun r => r = rv)) ([.int p0, .int p1] : List Value).toArray s 0 0 (fun _ => False)) (F0 m 13 ls []) := by
      intro n
      induction n with
      | zero => intro _ _ _ _ h; rw [mm_common_L13.eq_1] at h; cases h
      | succ n ih =>
        intro x3_13 x2_13 ls kx h hl hk
        rw [mm_common_L13.eq_2] at h
        refine lv_iload_n hx hb dX12_common_13 rfl (lv_at hl 0 rfl) ?_
        refine lv_if_eq (tgt := 30) hx hb dX12_common_14 (by decide) (fun c2 => ?_) (fun c2 => ?_)
        · have h := iT c2 h
          exact hk _ _ _ h (lv_sub hl [0, 1, 2, 3] rfl)
        · have h := iF c2 h
          refine lv_iload_n hx hb dX12_common_17 rfl (lv_at hl 1 rfl) ?_
          refine lv_iload_n hx hb dX12_common_18 rfl (lv_at hl 0 rfl) ?_
          obtain ⟨hd3, h⟩ := gD_some h
          refine lv_irem hx hb dX12_common_19 hd3 ?_
          refine lv_istore (lv' := [(4, .int (x2_13 - x2_13 / x3_13 * x3_13)), (3, .int x3_13), (2, .int x2_13), (0, .int p0), (1, .int p1)]) hx hb dX12_common_20 hl (by decide) rfl (fun ls hl => ?_)
          refine lv_iload_n hx hb dX12_common_22 rfl (lv_at hl 1 rfl) ?_
          refine lv_istore_n (lv' := [(2, .int x3_13), (4, .int (x2_13 - x2_13 / x3_13 * x3_13)), (3, .int x3_13), (0, .int p0), (1, .int p1)]) hx hb dX12_common_23 rfl hl (by decide) rfl (fun ls hl => ?_)
          refine lv_iload hx hb dX12_common_24 (lv_at hl 1 rfl) ?_
          refine lv_istore_n (lv' := [(3, .int (x2_13 - x2_13 / x3_13 * x3_13)), (2, .int x3_13), (4, .int (x2_13 - x2_13 / x3_13 * x3_13)), (0, .int p0), (1, .int p1)]) hx hb dX12_common_26 rfl hl (by decide) rfl (fun ls hl => ?_)
          refine lv_goto (tgt := 13) hx hb dX12_common_27 (by decide) ?_
          exact ih _ _ _ _ h (lv_sub hl [0, 1, 3, 4] rfl) hk
    refine L13 _ _ _ _ _ h hl (fun y3_13 y2_13 ls h hl => ?_)
    refine lv_iload_n hx hb dX12_common_30 rfl (lv_at hl 1 rfl) ?_
    exact W.iret hx hb hr (fun t ht _ => ⟨_, rfl, Option.some.inj h, ht⟩) (fun _ q => absurd q List.not_mem_nil) dX12_common_31
  · have h := iF c1 h
    refine lv_iload_n hx hb dX12_common_4 rfl (lv_at hl 0 rfl) ?_
    refine lv_ineg hx hb dX12_common_5 ?_
    refine lv_goto (tgt := 10) hx hb dX12_common_6 (by decide) ?_
    refine lv_istore_n (lv' := [(2, .int (-p0)), (0, .int p0), (1, .int p1)]) hx hb dX12_common_10 rfl hl (by decide) rfl (fun ls hl => ?_)
    refine lv_iload_n hx hb dX12_common_11 rfl (lv_at hl 2 rfl) ?_
    refine lv_istore_n (lv' := [(3, .int p1), (2, .int (-p0)), (0, .int p0), (1, .int p1)]) hx hb dX12_common_12 rfl hl (by decide) rfl (fun ls hl => ?_)
    have L13 : ∀ (n : Nat) (x3_13 : Int32) (x2_13 : Int32) (ls : Array Slot) (kx : Int32 → Int32 → Option (Int32)), mm_common_L13  kx n x3_13 x2_13 = some rv → lv_has ls 5 [(3, .int x3_13), (2, .int x2_13), (0, .int p0), (1, .int p1)] → (∀ (y3_13 : Int32) (y2_13 : Int32) (ls : Array Slot), kx y3_13 y2_13 = some rv → lv_has ls 5 [(3, .int y3_13), (2, .int y2_13), (0, .int p0), (1, .int p1)] → W p l e (headSpec wsX12_common ({ frames := 0, cells := 0, slots := 0, locals := 0 } : Room)).room s m ([.int p0, .int p1] : List Value).toArray below meth c s.heap [] 0 0 (MQ below (vp_Si (fun r => r = rv)) ([.int p0, .int p1] : List Value).toArray s 0 0 (fun _ => False)) (F0 m 30 ls [])) → W p l e (headSpec wsX12_common ({ frames := 0, cells := 0, slots := 0, locals := 0 } : Room)).room s m ([.int p0, .int p1] : List Value).toArray below meth c s.heap [] 0 0 (MQ below (vp_Si (fun r => r = rv)) ([.int p0, .int p1] : List Value).toArray s 0 0 (fun _ => False)) (F0 m 13 ls []) := by
      intro n
      induction n with
      | zero => intro _ _ _ _ h; rw [mm_common_L13.eq_1] at h; cases h
      | succ n ih =>
        intro x3_13 x2_13 ls kx h hl hk
        rw [mm_common_L13.eq_2] at h
        refine lv_iload_n hx hb dX12_common_13 rfl (lv_at hl 0 rfl) ?_
        refine lv_if_eq (tgt := 30) hx hb dX12_common_14 (by decide) (fun c2 => ?_) (fun c2 => ?_)
        · have h := iT c2 h
          exact hk _ _ _ h (lv_sub hl [0, 1, 2, 3] rfl)
        · have h := iF c2 h
          refine lv_iload_n hx hb dX12_common_17 rfl (lv_at hl 1 rfl) ?_
          refine lv_iload_n hx hb dX12_common_18 rfl (lv_at hl 0 rfl) ?_
          obtain ⟨hd3, h⟩ := gD_some h
          refine lv_irem hx hb dX12_common_19 hd3 ?_
          refine lv_istore (lv' := [(4, .int (x2_13 - x2_13 / x3_13 * x3_13)), (3, .int x3_13), (2, .int x2_13), (0, .int p0), (1, .int p1)]) hx hb dX12_common_20 hl (by decide) rfl (fun ls hl => ?_)
          refine lv_iload_n hx hb dX12_common_22 rfl (lv_at hl 1 rfl) ?_
          refine lv_istore_n (lv' := [(2, .int x3_13), (4, .int (x2_13 - x2_13 / x3_13 * x3_13)), (3, .int x3_13), (0, .int p0), (1, .int p1)]) hx hb dX12_common_23 rfl hl (by decide) rfl (fun ls hl => ?_)
          refine lv_iload hx hb dX12_common_24 (lv_at hl 1 rfl) ?_
          refine lv_istore_n (lv' := [(3, .int (x2_13 - x2_13 / x3_13 * x3_13)), (2, .int x3_13), (4, .int (x2_13 - x2_13 / x3_13 * x3_13)), (0, .int p0), (1, .int p1)]) hx hb dX12_common_26 rfl hl (by decide) rfl (fun ls hl => ?_)
          refine lv_goto (tgt := 13) hx hb dX12_common_27 (by decide) ?_
          exact ih _ _ _ _ h (lv_sub hl [0, 1, 3, 4] rfl) hk
    refine L13 _ _ _ _ _ h hl (fun y3_13 y2_13 ls h hl => ?_)
    refine lv_iload_n hx hb dX12_common_30 rfl (lv_at hl 1 rfl) ?_
    exact W.iret hx hb hr (fun t ht _ => ⟨_, rfl, Option.some.inj h, ht⟩) (fun _ q => absurd q List.not_mem_nil) dX12_common_31

set_option maxHeartbeats 4000000 in
set_option maxRecDepth 100000 in
theorem c_mm_rightBy (l : Launch) (D : va_G) (cI cJ cZ : ClassId) (a : Nat → Nat) (mPeople : Int32) (mHours : Int32) (mGrains : Int32) (mKind : Nat → Int32) (mWind : Nat → Int32) (mWeight : Nat → Int32) (mSort : Nat → Int32) (mOwner : Nat → Int32) (mNow : Nat → Int32) (mReadKind : Nat → Int32) (mReadWind : Nat → Int32) (mReadGrain : Nat → Int32) (mReadPeople : Int32) (mReadHours : Int32) (mReadGrains : Int32) (mText : Nat → Int32) (mLength : Int32) (mAt : Int32) (mFaultAt : Int32) (mMoved : Nat → Int32) (mActs : Int32) (mNext : Int32) (mRow : Nat → Int32) (mSeen : Int32) (mSeenKind : Nat → Int32) (mSeenLift : Nat → Int32) (mSeenFlew : Nat → Int32) (mSeed : Int64) (mIsKept : Nat → Int32) (mKept : Nat → Int32)  (sz : Nat) (p1 : Int32) (rv : Int32) (mNow_r : Nat → Int32) (mMoved_r : Nat → Int32) (h : mm_rightBy mPeople mHours mGrains mKind mWind mWeight mSort mOwner mNow mMoved p1 = some (rv, mNow_r, mMoved_r)) : Met l yX12_rightBy wsX12_rightBy ({ frames := 5, cells := 0, slots := 0, locals := 120 } : Room) (wPc D cI cJ cZ (mW a cI cZ mPeople mHours mGrains mKind mWind mWeight mSort mOwner mNow mReadKind mReadWind mReadGrain mReadPeople mReadHours mReadGrains mText mLength mAt mFaultAt mMoved mActs mNext mRow mSeen mSeenKind mSeenLift mSeenFlew mSeed mIsKept mKept) sz [.ref (a 0), .int p1]) (wQi D (mW a cI cZ mPeople mHours mGrains mKind mWind mWeight mSort mOwner mNow mReadKind mReadWind mReadGrain mReadPeople mReadHours mReadGrains mText mLength mAt mFaultAt mMoved mActs mNext mRow mSeen mSeenKind mSeenLift mSeenFlew mSeed mIsKept mKept) (mW a cI cZ mPeople mHours mGrains mKind mWind mWeight mSort mOwner mNow_r mReadKind mReadWind mReadGrain mReadPeople mReadHours mReadGrains mText mLength mAt mFaultAt mMoved_r mActs mNext mRow mSeen mSeenKind mSeenLift mSeenFlew mSeed mIsKept mKept) sz rv) 0 0 (va_A (mW a cI cZ mPeople mHours mGrains mKind mWind mWeight mSort mOwner mNow mReadKind mReadWind mReadGrain mReadPeople mReadHours mReadGrains mText mLength mAt mFaultAt mMoved mActs mNext mRow mSeen mSeenKind mSeenLift mSeenFlew mSeed mIsKept mKept) sz) := by
  unfold mm_rightBy at h
  refine Met.ofW (cc := cX12_rightBy) (maxL := 3) (ret := (some .int)) (by decide) rfl ?_
  intro p e s m args below meth c s₁ B hml hv
  obtain ⟨rfl, hsz, hP, hK, hD0⟩ := hv
  have hx := B.exec
  have hb := B.bytes
  have hr := B.returns
  have hts := atoms_spec (ws := wsX12_rightBy) B.pre
  have hown : s.vm.findClass RX12 = some m.cls := findClass_of_methodNamed B.named
  have hlocks := B.notSynchronized
  subst hsz
  have hD := hD0.self (sz := s.heap.size)
  have hA : ∀ q : Nat, s.heap.size ≤ q → va_A (mW a cI cZ mPeople mHours mGrains mKind mWind mWeight mSort mOwner mNow mReadKind mReadWind mReadGrain mReadPeople mReadHours mReadGrains mText mLength mAt mFaultAt mMoved mActs mNext mRow mSeen mSeenKind mSeenLift mSeenFlew mSeed mIsKept mKept) s.heap.size q := fun q h => Or.inr h
  have hS : va_S (va_A (mW a cI cZ mPeople mHours mGrains mKind mWind mWeight mSort mOwner mNow mReadKind mReadWind mReadGrain mReadPeople mReadHours mReadGrains mText mLength mAt mFaultAt mMoved mActs mNext mRow mSeen mSeenKind mSeenLift mSeenFlew mSeed mIsKept mKept) s.heap.size) s.heap s.heap [] := va_S.rf
  obtain ⟨A, hAe⟩ : ∃ A, A = va_A (mW a cI cZ mPeople mHours mGrains mKind mWind mWeight mSort mOwner mNow mReadKind mReadWind mReadGrain mReadPeople mReadHours mReadGrains mText mLength mAt mFaultAt mMoved mActs mNext mRow mSeen mSeenKind mSeenLift mSeenFlew mSeed mIsKept mKept) s.heap.size := ⟨_, rfl⟩
  rw [← hAe] at hD hA hS
  have hl := lv_entry ([.ref (a 0), .int p1]) (n := 3) (Nat.le_of_ble_eq_true rfl)
  rw [lg_entry_eq]
  generalize (lg_sl ([.ref (a 0), .int p1]) ++ List.replicate (3 - (lg_sl ([.ref (a 0), .int p1])).length) Slot.unset).toArray = ls at hl ⊢
  have hl : lv_has ls 3 [(0, .ref (a 0)), (1, .int p1)] := hl
  have hiX12 : ∀ w ∈ u_ws RX12 TX12 30, w ∈ wsX12_rightBy := fun w hw => List.mem_cons_of_mem _ (List.mem_append_right _ hw)
  refine lv_aload_n hx hb dX12_rightBy_0 rfl (lv_at hl 0 rfl) ?_
  obtain ⟨q1, hq1, h⟩ := bS h
  refine wcV (va_runV (As := []) (rest := []) ⟨hx, hb, hml, hown, hts⟩ (c_mm_layTrial l D cI cJ cZ a mPeople mHours mGrains mKind mWind mWeight mSort mOwner mNow mReadKind mReadWind mReadGrain mReadPeople mReadHours mReadGrains mText mLength mAt mFaultAt mMoved mActs mNext mRow mSeen mSeenKind mSeenLift mSeenFlew mSeed mIsKept mKept s.heap.size  q1 hq1) (cwV 0 hts gX12_rightBy_X12_layTrial rfl rfl rfl (by decide +kernel) ⟨Nat.le_of_ble_eq_true rfl, Nat.le_of_ble_eq_true rfl⟩) (wPreV hK hP hD (ci := 5) (q0 := 0) rfl rfl) rfl rfl hl.1 rfl (lv_room (Nat.le_of_ble_eq_true rfl)) dX12_rightBy_1 ⟨Nat.zero_le _, Nat.zero_le _⟩) hD hS hA (fun H locs hP hD hS => ?_)
  have hP : va_P D vwCl (mW a cI cZ mPeople mHours mGrains mKind mWind mWeight mSort mOwner q1 mReadKind mReadWind mReadGrain mReadPeople mReadHours mReadGrains mText mLength mAt mFaultAt mMoved mActs mNext mRow mSeen mSeenKind mSeenLift mSeenFlew mSeed mIsKept mKept) H := hP
  have hD : va_D A (mW a cI cZ mPeople mHours mGrains mKind mWind mWeight mSort mOwner q1 mReadKind mReadWind mReadGrain mReadPeople mReadHours mReadGrains mText mLength mAt mFaultAt mMoved mActs mNext mRow mSeen mSeenKind mSeenLift mSeenFlew mSeed mIsKept mKept) := hD
  refine lv_iconst (v := 0) hx hb dX12_rightBy_4 (by decide) ?_
  refine lv_istore_n (lv' := [(2, .int 0), (0, .ref (a 0)), (1, .int p1)]) hx hb dX12_rightBy_5 rfl hl (by decide) rfl (fun ls hl => ?_)
  have L6 : ∀ (n : Nat) (x2_6 : Int32) (mNow_6x : (Nat → Int32)) (mMoved_6x : (Nat → Int32)) (H : Heap) (locs : List Loc) (ls : Array Slot) (kx : Int32 → (Nat → Int32) → (Nat → Int32) → Option (Int32 × (Nat → Int32) × (Nat → Int32))), mm_rightBy_L6 mPeople mHours mGrains mKind mWind mWeight mSort mOwner p1 kx n x2_6 mNow_6x mMoved_6x = some (rv, mNow_r, mMoved_r) → va_P D vwCl (mW a cI cZ mPeople mHours mGrains mKind mWind mWeight mSort mOwner mNow_6x mReadKind mReadWind mReadGrain mReadPeople mReadHours mReadGrains mText mLength mAt mFaultAt mMoved_6x mActs mNext mRow mSeen mSeenKind mSeenLift mSeenFlew mSeed mIsKept mKept) H → va_D A (mW a cI cZ mPeople mHours mGrains mKind mWind mWeight mSort mOwner mNow_6x mReadKind mReadWind mReadGrain mReadPeople mReadHours mReadGrains mText mLength mAt mFaultAt mMoved_6x mActs mNext mRow mSeen mSeenKind mSeenLift mSeenFlew mSeed mIsKept mKept) → va_S A s.heap H locs → lv_has ls 3 [(2, .int x2_6), (0, .ref (a 0)), (1, .int p1)] → (∀ (y2_6 : Int32) (mNow_6 : (Nat → Int32)) (mMoved_6 : (Nat → Int32)) (H : Heap) (locs : List Loc) (ls : Array Slot), kx y2_6 mNow_6 mMoved_6 = some (rv, mNow_r, mMoved_r) → va_P D vwCl (mW a cI cZ mPeople mHours mGrains mKind mWind mWeight mSort mOwner mNow_6 mReadKind mReadWind mReadGrain mReadPeople mReadHours mReadGrains mText mLength mAt mFaultAt mMoved_6 mActs mNext mRow mSeen mSeenKind mSeenLift mSeenFlew mSeed mIsKept mKept) H → va_D A (mW a cI cZ mPeople mHours mGrains mKind mWind mWeight mSort mOwner mNow_6 mReadKind mReadWind mReadGrain mReadPeople mReadHours mReadGrains mText mLength mAt mFaultAt mMoved_6 mActs mNext mRow mSeen mSeenKind mSeenLift mSeenFlew mSeed mIsKept mKept) → va_S A s.heap H locs → lv_has ls 3 [(2, .int y2_6), (0, .ref (a 0)), (1, .int p1)] → W p l e (headSpec wsX12_rightBy ({ frames := 5, cells := 0, slots := 0, locals := 120 } : Room)).room s m ([.ref (a 0), .int p1] : List Value).toArray below meth c H locs 0 0 (MQ below (wQi D (mW a cI cZ mPeople mHours mGrains mKind mWind mWeight mSort mOwner mNow mReadKind mReadWind mReadGrain mReadPeople mReadHours mReadGrains mText mLength mAt mFaultAt mMoved mActs mNext mRow mSeen mSeenKind mSeenLift mSeenFlew mSeed mIsKept mKept) (mW a cI cZ mPeople mHours mGrains mKind mWind mWeight mSort mOwner mNow_r mReadKind mReadWind mReadGrain mReadPeople mReadHours mReadGrains mText mLength mAt mFaultAt mMoved_r mActs mNext mRow mSeen mSeenKind mSeenLift mSeenFlew mSeed mIsKept mKept) s.heap.size rv) ([.ref (a 0), .int p1] : List Value).toArray s 0 0 (va_A (mW a cI cZ mPeople mHours mGrains mKind mWind mWeight mSort mOwner mNow mReadKind mReadWind mReadGrain mReadPeople mReadHours mReadGrains mText mLength mAt mFaultAt mMoved mActs mNext mRow mSeen mSeenKind mSeenLift mSeenFlew mSeed mIsKept mKept) s.heap.size)) (F0 m 36 ls [])) → W p l e (headSpec wsX12_rightBy ({ frames := 5, cells := 0, slots := 0, locals := 120 } : Room)).room s m ([.ref (a 0), .int p1] : List Value).toArray below meth c H locs 0 0 (MQ below (wQi D (mW a cI cZ mPeople mHours mGrains mKind mWind mWeight mSort mOwner mNow mReadKind mReadWind mReadGrain mReadPeople mReadHours mReadGrains mText mLength mAt mFaultAt mMoved mActs mNext mRow mSeen mSeenKind mSeenLift mSeenFlew mSeed mIsKept mKept) (mW a cI cZ mPeople mHours mGrains mKind mWind mWeight mSort mOwner mNow_r mReadKind mReadWind mReadGrain mReadPeople mReadHours mReadGrains mText mLength mAt mFaultAt mMoved_r mActs mNext mRow mSeen mSeenKind mSeenLift mSeenFlew mSeed mIsKept mKept) s.heap.size rv) ([.ref (a 0), .int p1] : List Value).toArray s 0 0 (va_A (mW a cI cZ mPeople mHours mGrains mKind mWind mWeight mSort mOwner mNow mReadKind mReadWind mReadGrain mReadPeople mReadHours mReadGrains mText mLength mAt mFaultAt mMoved mActs mNext mRow mSeen mSeenKind mSeenLift mSeenFlew mSeed mIsKept mKept) s.heap.size)) (F0 m 6 ls []) := by
    intro n
    induction n with
    | zero => intro _ _ _ _ _ _ _ h; rw [mm_rightBy_L6.eq_1] at h; cases h
    | succ n ih =>
      intro x2_6 mNow_6x mMoved_6x H locs ls kx h hP hD hS hl hk
      rw [mm_rightBy_L6.eq_2] at h
      refine lv_iload_n hx hb dX12_rightBy_6 rfl (lv_at hl 0 rfl) ?_
      refine lv_aload_n hx hb dX12_rightBy_7 rfl (lv_at hl 1 rfl) ?_
      refine va_get (D := D) (ci := 5) (v := .int mPeople) (C := RX12) (T := TX12) (N := 30) hx hb hts hiX12 hown hK.1 hP 0 rfl rfl 0 (by decide) (hts (.fieldLink RX12 99 "WinnowedGuiltModel" "people" "I") (by decide +kernel)) (fun _ h9 => h9) rfl dX12_rightBy_8 ?_
      refine lv_icmp_ge (tgt := 36) hx hb dX12_rightBy_11 (by decide) (fun c2 => ?_) (fun c2 => ?_)
      · have h := iT c2 h
        exact hk _ _ _ _ _ _ h hP hD hS (lv_sub hl [0, 1, 2] rfl)
      · have h := iF c2 h
        refine lv_iload_n hx hb dX12_rightBy_14 rfl (lv_at hl 2 rfl) ?_
        refine lv_iload_n hx hb dX12_rightBy_15 rfl (lv_at hl 0 rfl) ?_
        obtain ⟨q3, hq3, h⟩ := bS h
        refine rcI (va_runS (As := [.int p1, .int x2_6]) (rest := []) ⟨hx, hb, hml, hown, hts⟩ (c_mm_has l D cI cJ cZ   H p1 x2_6 q3 hq3) (va_cwS 2 hts gX12_rightBy_X12_has rfl rfl rfl (by decide +kernel) ⟨Nat.le_of_ble_eq_true rfl, Nat.le_of_ble_eq_true rfl⟩) (rPreS hK) rfl rfl hl.1 rfl (lv_room (Nat.le_of_ble_eq_true rfl)) dX12_rightBy_16 ⟨Nat.zero_le _, Nat.zero_le _⟩) ?_
        refine lv_if_eq (tgt := 30) hx hb dX12_rightBy_19 (by decide) (fun c4 => ?_) (fun c4 => ?_)
        · have h := iT c4 h
          refine lv_iinc (v := (x2_6 + 1)) (lv' := [(2, .int (x2_6 + 1)), (0, .ref (a 0)), (1, .int p1)]) hx hb dX12_rightBy_30 hl (k := 0) rfl rfl (by decide) rfl (fun ls hl => ?_)
          refine lv_goto (tgt := 6) hx hb dX12_rightBy_33 (by decide) ?_
          exact ih _ _ _ _ _ _ _ h hP hD hS (lv_sub hl [0, 1, 2] rfl) hk
        · have h := iF c4 h
          refine lv_aload_n hx hb dX12_rightBy_22 rfl (lv_at hl 1 rfl) ?_
          refine lv_iconst (v := 1) hx hb dX12_rightBy_23 (by decide) ?_
          refine lv_iload_n hx hb dX12_rightBy_24 rfl (lv_at hl 0 rfl) ?_
          refine lv_iconst (v := 0) hx hb dX12_rightBy_25 (by decide) ?_
          obtain ⟨q5, hq5, h⟩ := bS h
          refine wcI (va_runV (As := [.int 1, .int x2_6, .int 0]) (rest := []) ⟨hx, hb, hml, hown, hts⟩ (c_mm_tossBy l D cI cJ cZ a mPeople mHours mGrains mKind mWind mWeight mSort mOwner mNow_6x mReadKind mReadWind mReadGrain mReadPeople mReadHours mReadGrains mText mLength mAt mFaultAt mMoved_6x mActs mNext mRow mSeen mSeenKind mSeenLift mSeenFlew mSeed mIsKept mKept H.size 1 x2_6 0 q5.1 q5.2.1 q5.2.2 hq5) (cwV 3 hts gX12_rightBy_X12_tossBy rfl rfl rfl (by decide +kernel) ⟨Nat.le_of_ble_eq_true rfl, Nat.le_of_ble_eq_true rfl⟩) (wPreV hK hP hD (ci := 5) (q0 := 0) rfl rfl) rfl rfl hl.1 rfl (lv_room (Nat.le_of_ble_eq_true rfl)) dX12_rightBy_26 ⟨Nat.zero_le _, Nat.zero_le _⟩) hD hS hA (fun H locs hP hD hS => ?_)
          have hP : va_P D vwCl (mW a cI cZ mPeople mHours mGrains mKind mWind mWeight mSort mOwner q5.2.1 mReadKind mReadWind mReadGrain mReadPeople mReadHours mReadGrains mText mLength mAt mFaultAt q5.2.2 mActs mNext mRow mSeen mSeenKind mSeenLift mSeenFlew mSeed mIsKept mKept) H := hP
          have hD : va_D A (mW a cI cZ mPeople mHours mGrains mKind mWind mWeight mSort mOwner q5.2.1 mReadKind mReadWind mReadGrain mReadPeople mReadHours mReadGrains mText mLength mAt mFaultAt q5.2.2 mActs mNext mRow mSeen mSeenKind mSeenLift mSeenFlew mSeed mIsKept mKept) := hD
          refine lv_pop hx hb dX12_rightBy_29 rfl ?_
          refine lv_iinc (v := (x2_6 + 1)) (lv' := [(2, .int (x2_6 + 1)), (0, .ref (a 0)), (1, .int p1)]) hx hb dX12_rightBy_30 hl (k := 0) rfl rfl (by decide) rfl (fun ls hl => ?_)
          refine lv_goto (tgt := 6) hx hb dX12_rightBy_33 (by decide) ?_
          exact ih _ _ _ _ _ _ _ h hP hD hS (lv_sub hl [0, 1, 2] rfl) hk
  refine L6 _ _ _ _ _ _ _ _ h hP hD hS hl (fun y2_6 mNow_6 mMoved_6 H locs ls h hP hD hS hl => ?_)
  refine lv_aload_n hx hb dX12_rightBy_36 rfl (lv_at hl 1 rfl) ?_
  refine lv_iconst (v := 1) hx hb dX12_rightBy_37 (by decide) ?_
  obtain ⟨q2, hq2, h⟩ := bS h
  refine rcI (va_runV (As := [.int 1]) (rest := []) ⟨hx, hb, hml, hown, hts⟩ (c_mm_rightOn l D cI cJ cZ a mPeople mHours mGrains mKind mWind mWeight mSort mOwner mNow_6 mReadKind mReadWind mReadGrain mReadPeople mReadHours mReadGrains mText mLength mAt mFaultAt mMoved_6 mActs mNext mRow mSeen mSeenKind mSeenLift mSeenFlew mSeed mIsKept mKept H hP 1 q2 hq2) (cwV 1 hts gX12_rightBy_X12_rightOn rfl rfl rfl (by decide +kernel) ⟨Nat.le_of_ble_eq_true rfl, Nat.le_of_ble_eq_true rfl⟩) (rPreV hK hP (ci := 5) (q0 := 0) rfl rfl) rfl rfl hl.1 rfl (lv_room (Nat.le_of_ble_eq_true rfl)) dX12_rightBy_38 ⟨Nat.zero_le _, Nat.zero_le _⟩) ?_
  obtain ⟨q3, hq3, h⟩ := bS h
  refine rcI (va_runS (As := [.int q2]) (rest := []) ⟨hx, hb, hml, hown, hts⟩ (c_mm_ones l D cI cJ cZ   H q2 q3 hq3) (va_cwS 1 hts gX12_rightBy_X12_ones rfl rfl rfl (by decide +kernel) ⟨Nat.le_of_ble_eq_true rfl, Nat.le_of_ble_eq_true rfl⟩) (rPreS hK) rfl rfl hl.1 rfl (lv_room (Nat.le_of_ble_eq_true rfl)) dX12_rightBy_41 ⟨Nat.zero_le _, Nat.zero_le _⟩) ?_
  cases h
  subst hAe
  exact W.iret hx hb hr (fun t ht _ => ⟨⟨_, (), rfl, rfl, by rw [ht]; exact hP, hD⟩, hS.F ht⟩) hS.2.2 dX12_rightBy_44

set_option maxHeartbeats 4000000 in
set_option maxRecDepth 100000 in
theorem c_mm_share (l : Launch) (D : va_G) (cI cJ cZ : ClassId) (a : Nat → Nat) (mPeople : Int32) (mHours : Int32) (mGrains : Int32) (mKind : Nat → Int32) (mWind : Nat → Int32) (mWeight : Nat → Int32) (mSort : Nat → Int32) (mOwner : Nat → Int32) (mNow : Nat → Int32) (mReadKind : Nat → Int32) (mReadWind : Nat → Int32) (mReadGrain : Nat → Int32) (mReadPeople : Int32) (mReadHours : Int32) (mReadGrains : Int32) (mText : Nat → Int32) (mLength : Int32) (mAt : Int32) (mFaultAt : Int32) (mMoved : Nat → Int32) (mActs : Int32) (mNext : Int32) (mRow : Nat → Int32) (mSeen : Int32) (mSeenKind : Nat → Int32) (mSeenLift : Nat → Int32) (mSeenFlew : Nat → Int32) (mSeed : Int64) (mIsKept : Nat → Int32) (mKept : Nat → Int32)  (sz : Nat) (p1 : Int32) (p2 : Int32) (rv : Int32) (mNow_r : Nat → Int32) (mMoved_r : Nat → Int32) (h : mm_share mPeople mHours mGrains mKind mWind mWeight mSort mOwner mNow mMoved p1 p2 = some (rv, mNow_r, mMoved_r)) : Met l yX12_share wsX12_share ({ frames := 6, cells := 0, slots := 0, locals := 142 } : Room) (wPc D cI cJ cZ (mW a cI cZ mPeople mHours mGrains mKind mWind mWeight mSort mOwner mNow mReadKind mReadWind mReadGrain mReadPeople mReadHours mReadGrains mText mLength mAt mFaultAt mMoved mActs mNext mRow mSeen mSeenKind mSeenLift mSeenFlew mSeed mIsKept mKept) sz [.ref (a 0), .int p1, .int p2]) (wQi D (mW a cI cZ mPeople mHours mGrains mKind mWind mWeight mSort mOwner mNow mReadKind mReadWind mReadGrain mReadPeople mReadHours mReadGrains mText mLength mAt mFaultAt mMoved mActs mNext mRow mSeen mSeenKind mSeenLift mSeenFlew mSeed mIsKept mKept) (mW a cI cZ mPeople mHours mGrains mKind mWind mWeight mSort mOwner mNow_r mReadKind mReadWind mReadGrain mReadPeople mReadHours mReadGrains mText mLength mAt mFaultAt mMoved_r mActs mNext mRow mSeen mSeenKind mSeenLift mSeenFlew mSeed mIsKept mKept) sz rv) 0 0 (va_A (mW a cI cZ mPeople mHours mGrains mKind mWind mWeight mSort mOwner mNow mReadKind mReadWind mReadGrain mReadPeople mReadHours mReadGrains mText mLength mAt mFaultAt mMoved mActs mNext mRow mSeen mSeenKind mSeenLift mSeenFlew mSeed mIsKept mKept) sz) := by
  unfold mm_share at h
  refine Met.ofW (cc := cX12_share) (maxL := 6) (ret := (some .int)) (by decide) rfl ?_
  intro p e s m args below meth c s₁ B hml hv
  obtain ⟨rfl, hsz, hP, hK, hD0⟩ := hv
  have hx := B.exec
  have hb := B.bytes
  have hr := B.returns
  have hts := atoms_spec (ws := wsX12_share) B.pre
  have hown : s.vm.findClass RX12 = some m.cls := findClass_of_methodNamed B.named
  have hlocks := B.notSynchronized
  subst hsz
  have hD := hD0.self (sz := s.heap.size)
  have hA : ∀ q : Nat, s.heap.size ≤ q → va_A (mW a cI cZ mPeople mHours mGrains mKind mWind mWeight mSort mOwner mNow mReadKind mReadWind mReadGrain mReadPeople mReadHours mReadGrains mText mLength mAt mFaultAt mMoved mActs mNext mRow mSeen mSeenKind mSeenLift mSeenFlew mSeed mIsKept mKept) s.heap.size q := fun q h => Or.inr h
  have hS : va_S (va_A (mW a cI cZ mPeople mHours mGrains mKind mWind mWeight mSort mOwner mNow mReadKind mReadWind mReadGrain mReadPeople mReadHours mReadGrains mText mLength mAt mFaultAt mMoved mActs mNext mRow mSeen mSeenKind mSeenLift mSeenFlew mSeed mIsKept mKept) s.heap.size) s.heap s.heap [] := va_S.rf
  obtain ⟨A, hAe⟩ : ∃ A, A = va_A (mW a cI cZ mPeople mHours mGrains mKind mWind mWeight mSort mOwner mNow mReadKind mReadWind mReadGrain mReadPeople mReadHours mReadGrains mText mLength mAt mFaultAt mMoved mActs mNext mRow mSeen mSeenKind mSeenLift mSeenFlew mSeed mIsKept mKept) s.heap.size := ⟨_, rfl⟩
  rw [← hAe] at hD hA hS
  have hl := lv_entry ([.ref (a 0), .int p1, .int p2]) (n := 6) (Nat.le_of_ble_eq_true rfl)
  rw [lg_entry_eq]
  generalize (lg_sl ([.ref (a 0), .int p1, .int p2]) ++ List.replicate (6 - (lg_sl ([.ref (a 0), .int p1, .int p2])).length) Slot.unset).toArray = ls at hl ⊢
  have hl : lv_has ls 6 [(0, .ref (a 0)), (1, .int p1), (2, .int p2)] := hl
  have hiX12 : ∀ w ∈ u_ws RX12 TX12 30, w ∈ wsX12_share := fun w hw => List.mem_cons_of_mem _ (List.mem_append_right _ hw)
  refine lv_aload_n hx hb dX12_share_0 rfl (lv_at hl 0 rfl) ?_
  refine lv_iload_n hx hb dX12_share_1 rfl (lv_at hl 1 rfl) ?_
  obtain ⟨q1, hq1, h⟩ := bS h
  refine rcI (va_runV (As := [.int p1]) (rest := []) ⟨hx, hb, hml, hown, hts⟩ (c_mm_isPerson l D cI cJ cZ a mPeople mHours mGrains mKind mWind mWeight mSort mOwner mNow mReadKind mReadWind mReadGrain mReadPeople mReadHours mReadGrains mText mLength mAt mFaultAt mMoved mActs mNext mRow mSeen mSeenKind mSeenLift mSeenFlew mSeed mIsKept mKept s.heap hP p1 q1 hq1) (cwV 1 hts gX12_share_X12_isPerson rfl rfl rfl (by decide +kernel) ⟨Nat.le_of_ble_eq_true rfl, Nat.le_of_ble_eq_true rfl⟩) (rPreV hK hP (ci := 5) (q0 := 0) rfl rfl) rfl rfl hl.1 rfl (lv_room (Nat.le_of_ble_eq_true rfl)) dX12_share_2 ⟨Nat.zero_le _, Nat.zero_le _⟩) ?_
  refine lv_if_ne (tgt := 10) hx hb dX12_share_5 (by decide) (fun c2 => ?_) (fun c2 => ?_)
  · have h := iF c2 h
    refine lv_iconst (v := 0) hx hb dX12_share_10 (by decide) ?_
    refine lv_istore_n (lv' := [(3, .int 0), (0, .ref (a 0)), (1, .int p1), (2, .int p2)]) hx hb dX12_share_11 rfl hl (by decide) rfl (fun ls hl => ?_)
    refine lv_iconst (v := 0) hx hb dX12_share_12 (by decide) ?_
    refine lv_istore (lv' := [(4, .int 0), (3, .int 0), (0, .ref (a 0)), (1, .int p1), (2, .int p2)]) hx hb dX12_share_13 hl (by decide) rfl (fun ls hl => ?_)
    have L15 : ∀ (n : Nat) (x4_15 : Int32) (x3_15 : Int32) (mNow_15x : (Nat → Int32)) (mMoved_15x : (Nat → Int32)) (H : Heap) (locs : List Loc) (ls : Array Slot) (kx : Int32 → Int32 → (Nat → Int32) → (Nat → Int32) → Option (Int32 × (Nat → Int32) × (Nat → Int32))), mm_share_L15 mPeople mHours mGrains mKind mWind mWeight mSort mOwner p1 kx n x4_15 x3_15 mNow_15x mMoved_15x = some (rv, mNow_r, mMoved_r) → va_P D vwCl (mW a cI cZ mPeople mHours mGrains mKind mWind mWeight mSort mOwner mNow_15x mReadKind mReadWind mReadGrain mReadPeople mReadHours mReadGrains mText mLength mAt mFaultAt mMoved_15x mActs mNext mRow mSeen mSeenKind mSeenLift mSeenFlew mSeed mIsKept mKept) H → va_D A (mW a cI cZ mPeople mHours mGrains mKind mWind mWeight mSort mOwner mNow_15x mReadKind mReadWind mReadGrain mReadPeople mReadHours mReadGrains mText mLength mAt mFaultAt mMoved_15x mActs mNext mRow mSeen mSeenKind mSeenLift mSeenFlew mSeed mIsKept mKept) → va_S A s.heap H locs → lv_has ls 6 [(4, .int x4_15), (3, .int x3_15), (0, .ref (a 0)), (1, .int p1), (2, .int p2)] → (∀ (y4_15 : Int32) (y3_15 : Int32) (mNow_15 : (Nat → Int32)) (mMoved_15 : (Nat → Int32)) (H : Heap) (locs : List Loc) (ls : Array Slot), kx y4_15 y3_15 mNow_15 mMoved_15 = some (rv, mNow_r, mMoved_r) → va_P D vwCl (mW a cI cZ mPeople mHours mGrains mKind mWind mWeight mSort mOwner mNow_15 mReadKind mReadWind mReadGrain mReadPeople mReadHours mReadGrains mText mLength mAt mFaultAt mMoved_15 mActs mNext mRow mSeen mSeenKind mSeenLift mSeenFlew mSeed mIsKept mKept) H → va_D A (mW a cI cZ mPeople mHours mGrains mKind mWind mWeight mSort mOwner mNow_15 mReadKind mReadWind mReadGrain mReadPeople mReadHours mReadGrains mText mLength mAt mFaultAt mMoved_15 mActs mNext mRow mSeen mSeenKind mSeenLift mSeenFlew mSeed mIsKept mKept) → va_S A s.heap H locs → lv_has ls 6 [(4, .int y4_15), (3, .int y3_15), (0, .ref (a 0)), (1, .int p1), (2, .int p2)] → W p l e (headSpec wsX12_share ({ frames := 6, cells := 0, slots := 0, locals := 142 } : Room)).room s m ([.ref (a 0), .int p1, .int p2] : List Value).toArray below meth c H locs 0 0 (MQ below (wQi D (mW a cI cZ mPeople mHours mGrains mKind mWind mWeight mSort mOwner mNow mReadKind mReadWind mReadGrain mReadPeople mReadHours mReadGrains mText mLength mAt mFaultAt mMoved mActs mNext mRow mSeen mSeenKind mSeenLift mSeenFlew mSeed mIsKept mKept) (mW a cI cZ mPeople mHours mGrains mKind mWind mWeight mSort mOwner mNow_r mReadKind mReadWind mReadGrain mReadPeople mReadHours mReadGrains mText mLength mAt mFaultAt mMoved_r mActs mNext mRow mSeen mSeenKind mSeenLift mSeenFlew mSeed mIsKept mKept) s.heap.size rv) ([.ref (a 0), .int p1, .int p2] : List Value).toArray s 0 0 (va_A (mW a cI cZ mPeople mHours mGrains mKind mWind mWeight mSort mOwner mNow mReadKind mReadWind mReadGrain mReadPeople mReadHours mReadGrains mText mLength mAt mFaultAt mMoved mActs mNext mRow mSeen mSeenKind mSeenLift mSeenFlew mSeed mIsKept mKept) s.heap.size)) (F0 m 90 ls [])) → W p l e (headSpec wsX12_share ({ frames := 6, cells := 0, slots := 0, locals := 142 } : Room)).room s m ([.ref (a 0), .int p1, .int p2] : List Value).toArray below meth c H locs 0 0 (MQ below (wQi D (mW a cI cZ mPeople mHours mGrains mKind mWind mWeight mSort mOwner mNow mReadKind mReadWind mReadGrain mReadPeople mReadHours mReadGrains mText mLength mAt mFaultAt mMoved mActs mNext mRow mSeen mSeenKind mSeenLift mSeenFlew mSeed mIsKept mKept) (mW a cI cZ mPeople mHours mGrains mKind mWind mWeight mSort mOwner mNow_r mReadKind mReadWind mReadGrain mReadPeople mReadHours mReadGrains mText mLength mAt mFaultAt mMoved_r mActs mNext mRow mSeen mSeenKind mSeenLift mSeenFlew mSeed mIsKept mKept) s.heap.size rv) ([.ref (a 0), .int p1, .int p2] : List Value).toArray s 0 0 (va_A (mW a cI cZ mPeople mHours mGrains mKind mWind mWeight mSort mOwner mNow mReadKind mReadWind mReadGrain mReadPeople mReadHours mReadGrains mText mLength mAt mFaultAt mMoved mActs mNext mRow mSeen mSeenKind mSeenLift mSeenFlew mSeed mIsKept mKept) s.heap.size)) (F0 m 15 ls []) := by
      intro n
      induction n with
      | zero => intro _ _ _ _ _ _ _ _ h; rw [mm_share_L15.eq_1] at h; cases h
      | succ n ih =>
        intro x4_15 x3_15 mNow_15x mMoved_15x H locs ls kx h hP hD hS hl hk
        rw [mm_share_L15.eq_2] at h
        refine lv_iload hx hb dX12_share_15 (lv_at hl 0 rfl) ?_
        refine lv_iconst (v := 1) hx hb dX12_share_17 (by decide) ?_
        refine lv_aload_n hx hb dX12_share_18 rfl (lv_at hl 2 rfl) ?_
        refine va_get (D := D) (ci := 5) (v := .int mPeople) (C := RX12) (T := TX12) (N := 30) hx hb hts hiX12 hown hK.1 hP 0 rfl rfl 0 (by decide) (hts (.fieldLink RX12 99 "WinnowedGuiltModel" "people" "I") (by decide +kernel)) (fun _ h9 => h9) rfl dX12_share_19 ?_
        refine lv_ishl hx hb dX12_share_22 ?_
        refine lv_icmp_ge (tgt := 90) hx hb dX12_share_23 (by decide) (fun c3 => ?_) (fun c3 => ?_)
        · have h := iT c3 h
          exact hk _ _ _ _ _ _ _ h hP hD hS (lv_sub hl [0, 1, 2, 3, 4] rfl)
        · have h := iF c3 h
          refine lv_iload hx hb dX12_share_26 (lv_at hl 0 rfl) ?_
          refine lv_iload_n hx hb dX12_share_28 rfl (lv_at hl 3 rfl) ?_
          obtain ⟨q4, hq4, h⟩ := bS h
          refine rcI (va_runS (As := [.int x4_15, .int p1]) (rest := []) ⟨hx, hb, hml, hown, hts⟩ (c_mm_has l D cI cJ cZ   H x4_15 p1 q4 hq4) (va_cwS 2 hts gX12_share_X12_has rfl rfl rfl (by decide +kernel) ⟨Nat.le_of_ble_eq_true rfl, Nat.le_of_ble_eq_true rfl⟩) (rPreS hK) rfl rfl hl.1 rfl (lv_room (Nat.le_of_ble_eq_true rfl)) dX12_share_29 ⟨Nat.zero_le _, Nat.zero_le _⟩) ?_
          refine lv_if_ne (tgt := 84) hx hb dX12_share_32 (by decide) (fun c5 => ?_) (fun c5 => ?_)
          · have h := iF c5 h
            refine lv_iinc (v := (x4_15 + 1)) (lv' := [(4, .int (x4_15 + 1)), (3, .int x3_15), (0, .ref (a 0)), (1, .int p1), (2, .int p2)]) hx hb dX12_share_84 hl (k := 0) rfl rfl (by decide) rfl (fun ls hl => ?_)
            refine lv_goto (tgt := 15) hx hb dX12_share_87 (by decide) ?_
            exact ih _ _ _ _ _ _ _ _ h hP hD hS (lv_sub hl [0, 1, 2, 3, 4] rfl) hk
          · have h := iT c5 h
            refine lv_iload hx hb dX12_share_35 (lv_at hl 0 rfl) ?_
            obtain ⟨q6, hq6, h⟩ := bS h
            refine rcI (va_runS (As := [.int x4_15]) (rest := []) ⟨hx, hb, hml, hown, hts⟩ (c_mm_ones l D cI cJ cZ   H x4_15 q6 hq6) (va_cwS 1 hts gX12_share_X12_ones rfl rfl rfl (by decide +kernel) ⟨Nat.le_of_ble_eq_true rfl, Nat.le_of_ble_eq_true rfl⟩) (rPreS hK) rfl rfl hl.1 rfl (lv_room (Nat.le_of_ble_eq_true rfl)) dX12_share_37 ⟨Nat.zero_le _, Nat.zero_le _⟩) ?_
            obtain ⟨q7, hq7, h⟩ := bS h
            refine rcI (va_runS (As := [.int q6]) (rest := []) ⟨hx, hb, hml, hown, hts⟩ (c_mm_factorial l D cI cJ cZ   H q6 q7 hq7) (va_cwS 1 hts gX12_share_X12_factorial rfl rfl rfl (by decide +kernel) ⟨Nat.le_of_ble_eq_true rfl, Nat.le_of_ble_eq_true rfl⟩) (rPreS hK) rfl rfl hl.1 rfl (lv_room (Nat.le_of_ble_eq_true rfl)) dX12_share_40 ⟨Nat.zero_le _, Nat.zero_le _⟩) ?_
            refine lv_aload_n hx hb dX12_share_43 rfl (lv_at hl 2 rfl) ?_
            refine va_get (D := D) (ci := 5) (v := .int mPeople) (C := RX12) (T := TX12) (N := 30) hx hb hts hiX12 hown hK.1 hP 0 rfl rfl 0 (by decide) (hts (.fieldLink RX12 99 "WinnowedGuiltModel" "people" "I") (by decide +kernel)) (fun _ h9 => h9) rfl dX12_share_44 ?_
            refine lv_iconst (v := 1) hx hb dX12_share_47 (by decide) ?_
            refine lv_isub hx hb dX12_share_48 ?_
            refine lv_iload hx hb dX12_share_49 (lv_at hl 0 rfl) ?_
            obtain ⟨q8, hq8, h⟩ := bS h
            refine rcI (va_runS (As := [.int x4_15]) (rest := [.int (mPeople - 1), .int q7]) ⟨hx, hb, hml, hown, hts⟩ (c_mm_ones l D cI cJ cZ   H x4_15 q8 hq8) (va_cwS 1 hts gX12_share_X12_ones rfl rfl rfl (by decide +kernel) ⟨Nat.le_of_ble_eq_true rfl, Nat.le_of_ble_eq_true rfl⟩) (rPreS hK) rfl rfl hl.1 rfl (lv_room (Nat.le_of_ble_eq_true rfl)) dX12_share_51 ⟨Nat.zero_le _, Nat.zero_le _⟩) ?_
            refine lv_isub hx hb dX12_share_54 ?_
            obtain ⟨q9, hq9, h⟩ := bS h
            refine rcI (va_runS (As := [.int ((mPeople - 1) - q8)]) (rest := [.int q7]) ⟨hx, hb, hml, hown, hts⟩ (c_mm_factorial l D cI cJ cZ   H ((mPeople - 1) - q8) q9 hq9) (va_cwS 1 hts gX12_share_X12_factorial rfl rfl rfl (by decide +kernel) ⟨Nat.le_of_ble_eq_true rfl, Nat.le_of_ble_eq_true rfl⟩) (rPreS hK) rfl rfl hl.1 rfl (lv_room (Nat.le_of_ble_eq_true rfl)) dX12_share_55 ⟨Nat.zero_le _, Nat.zero_le _⟩) ?_
            refine lv_imul hx hb dX12_share_58 ?_
            refine lv_istore (lv' := [(5, .int (q7 * q9)), (4, .int x4_15), (3, .int x3_15), (0, .ref (a 0)), (1, .int p1), (2, .int p2)]) hx hb dX12_share_59 hl (by decide) rfl (fun ls hl => ?_)
            refine lv_iload_n hx hb dX12_share_61 rfl (lv_at hl 2 rfl) ?_
            refine lv_iload hx hb dX12_share_62 (lv_at hl 0 rfl) ?_
            refine lv_aload_n hx hb dX12_share_64 rfl (lv_at hl 3 rfl) ?_
            refine lv_iload hx hb dX12_share_65 (lv_at hl 1 rfl) ?_
            refine lv_iconst (v := 1) hx hb dX12_share_67 (by decide) ?_
            refine lv_iload_n hx hb dX12_share_68 rfl (lv_at hl 4 rfl) ?_
            refine lv_ishl hx hb dX12_share_69 ?_
            refine lv_ior hx hb dX12_share_70 ?_
            obtain ⟨q10, hq10, h⟩ := bS h
            refine wcI (va_runV (As := [.int (x4_15 ||| (1 <<< (p1 &&& 31)))]) (rest := [.int (q7 * q9), .int x3_15]) ⟨hx, hb, hml, hown, hts⟩ (c_mm_rightBy l D cI cJ cZ a mPeople mHours mGrains mKind mWind mWeight mSort mOwner mNow_15x mReadKind mReadWind mReadGrain mReadPeople mReadHours mReadGrains mText mLength mAt mFaultAt mMoved_15x mActs mNext mRow mSeen mSeenKind mSeenLift mSeenFlew mSeed mIsKept mKept H.size (x4_15 ||| (1 <<< (p1 &&& 31))) q10.1 q10.2.1 q10.2.2 hq10) (cwV 1 hts gX12_share_X12_rightBy rfl rfl rfl (by decide +kernel) ⟨Nat.le_of_ble_eq_true rfl, Nat.le_of_ble_eq_true rfl⟩) (wPreV hK hP hD (ci := 5) (q0 := 0) rfl rfl) rfl rfl hl.1 rfl (lv_room (Nat.le_of_ble_eq_true rfl)) dX12_share_71 ⟨Nat.zero_le _, Nat.zero_le _⟩) hD hS hA (fun H locs hP hD hS => ?_)
            have hP : va_P D vwCl (mW a cI cZ mPeople mHours mGrains mKind mWind mWeight mSort mOwner q10.2.1 mReadKind mReadWind mReadGrain mReadPeople mReadHours mReadGrains mText mLength mAt mFaultAt q10.2.2 mActs mNext mRow mSeen mSeenKind mSeenLift mSeenFlew mSeed mIsKept mKept) H := hP
            have hD : va_D A (mW a cI cZ mPeople mHours mGrains mKind mWind mWeight mSort mOwner q10.2.1 mReadKind mReadWind mReadGrain mReadPeople mReadHours mReadGrains mText mLength mAt mFaultAt q10.2.2 mActs mNext mRow mSeen mSeenKind mSeenLift mSeenFlew mSeed mIsKept mKept) := hD
            refine lv_aload_n hx hb dX12_share_74 rfl (lv_at hl 3 rfl) ?_
            refine lv_iload hx hb dX12_share_75 (lv_at hl 1 rfl) ?_
            obtain ⟨q11, hq11, h⟩ := bS h
            refine wcI (va_runV (As := [.int x4_15]) (rest := [.int q10.1, .int (q7 * q9), .int x3_15]) ⟨hx, hb, hml, hown, hts⟩ (c_mm_rightBy l D cI cJ cZ a mPeople mHours mGrains mKind mWind mWeight mSort mOwner q10.2.1 mReadKind mReadWind mReadGrain mReadPeople mReadHours mReadGrains mText mLength mAt mFaultAt q10.2.2 mActs mNext mRow mSeen mSeenKind mSeenLift mSeenFlew mSeed mIsKept mKept H.size x4_15 q11.1 q11.2.1 q11.2.2 hq11) (cwV 1 hts gX12_share_X12_rightBy rfl rfl rfl (by decide +kernel) ⟨Nat.le_of_ble_eq_true rfl, Nat.le_of_ble_eq_true rfl⟩) (wPreV hK hP hD (ci := 5) (q0 := 0) rfl rfl) rfl rfl hl.1 rfl (lv_room (Nat.le_of_ble_eq_true rfl)) dX12_share_77 ⟨Nat.zero_le _, Nat.zero_le _⟩) hD hS hA (fun H locs hP hD hS => ?_)
            have hP : va_P D vwCl (mW a cI cZ mPeople mHours mGrains mKind mWind mWeight mSort mOwner q11.2.1 mReadKind mReadWind mReadGrain mReadPeople mReadHours mReadGrains mText mLength mAt mFaultAt q11.2.2 mActs mNext mRow mSeen mSeenKind mSeenLift mSeenFlew mSeed mIsKept mKept) H := hP
            have hD : va_D A (mW a cI cZ mPeople mHours mGrains mKind mWind mWeight mSort mOwner q11.2.1 mReadKind mReadWind mReadGrain mReadPeople mReadHours mReadGrains mText mLength mAt mFaultAt q11.2.2 mActs mNext mRow mSeen mSeenKind mSeenLift mSeenFlew mSeed mIsKept mKept) := hD
            refine lv_isub hx hb dX12_share_80 ?_
            refine lv_imul hx hb dX12_share_81 ?_
            refine lv_iadd hx hb dX12_share_82 ?_
            refine lv_istore_n (lv' := [(3, .int (x3_15 + ((q7 * q9) * (q10.1 - q11.1)))), (5, .int (q7 * q9)), (4, .int x4_15), (0, .ref (a 0)), (1, .int p1), (2, .int p2)]) hx hb dX12_share_83 rfl hl (by decide) rfl (fun ls hl => ?_)
            refine lv_iinc (v := (x4_15 + 1)) (lv' := [(4, .int (x4_15 + 1)), (3, .int (x3_15 + ((q7 * q9) * (q10.1 - q11.1)))), (5, .int (q7 * q9)), (0, .ref (a 0)), (1, .int p1), (2, .int p2)]) hx hb dX12_share_84 hl (k := 2) rfl rfl (by decide) rfl (fun ls hl => ?_)
            refine lv_goto (tgt := 15) hx hb dX12_share_87 (by decide) ?_
            exact ih _ _ _ _ _ _ _ _ h hP hD hS (lv_sub hl [0, 1, 3, 4, 5] rfl) hk
    refine L15 _ _ _ _ _ _ _ _ _ h hP hD hS hl (fun y4_15 y3_15 mNow_15 mMoved_15 H locs ls h hP hD hS hl => ?_)
    refine lv_iload_n hx hb dX12_share_90 rfl (lv_at hl 1 rfl) ?_
    refine lv_aload_n hx hb dX12_share_91 rfl (lv_at hl 2 rfl) ?_
    refine va_get (D := D) (ci := 5) (v := .int mPeople) (C := RX12) (T := TX12) (N := 30) hx hb hts hiX12 hown hK.1 hP 0 rfl rfl 0 (by decide) (hts (.fieldLink RX12 99 "WinnowedGuiltModel" "people" "I") (by decide +kernel)) (fun _ h9 => h9) rfl dX12_share_92 ?_
    obtain ⟨q3, hq3, h⟩ := bS h
    refine rcI (va_runS (As := [.int mPeople]) (rest := [.int y3_15]) ⟨hx, hb, hml, hown, hts⟩ (c_mm_factorial l D cI cJ cZ   H mPeople q3 hq3) (va_cwS 1 hts gX12_share_X12_factorial rfl rfl rfl (by decide +kernel) ⟨Nat.le_of_ble_eq_true rfl, Nat.le_of_ble_eq_true rfl⟩) (rPreS hK) rfl rfl hl.1 rfl (lv_room (Nat.le_of_ble_eq_true rfl)) dX12_share_95 ⟨Nat.zero_le _, Nat.zero_le _⟩) ?_
    obtain ⟨q4, hq4, h⟩ := bS h
    refine rcI (va_runS (As := [.int y3_15, .int q3]) (rest := []) ⟨hx, hb, hml, hown, hts⟩ (c_mm_common l D cI cJ cZ   H y3_15 q3 q4 hq4) (va_cwS 2 hts gX12_share_X12_common rfl rfl rfl (by decide +kernel) ⟨Nat.le_of_ble_eq_true rfl, Nat.le_of_ble_eq_true rfl⟩) (rPreS hK) rfl rfl hl.1 rfl (lv_room (Nat.le_of_ble_eq_true rfl)) dX12_share_98 ⟨Nat.zero_le _, Nat.zero_le _⟩) ?_
    refine lv_istore (lv' := [(4, .int q4), (3, .int y3_15), (0, .ref (a 0)), (1, .int p1), (2, .int p2)]) hx hb dX12_share_101 hl (by decide) rfl (fun ls hl => ?_)
    refine lv_iload_n hx hb dX12_share_103 rfl (lv_at hl 4 rfl) ?_
    refine lv_if_eq (tgt := 114) hx hb dX12_share_104 (by decide) (fun c5 => ?_) (fun c5 => ?_)
    · have h := iT c5 h
      refine lv_aload_n hx hb dX12_share_114 rfl (lv_at hl 2 rfl) ?_
      refine va_get (D := D) (ci := 5) (v := .int mPeople) (C := RX12) (T := TX12) (N := 30) hx hb hts hiX12 hown hK.1 hP 0 rfl rfl 0 (by decide) (hts (.fieldLink RX12 99 "WinnowedGuiltModel" "people" "I") (by decide +kernel)) (fun _ h9 => h9) rfl dX12_share_115 ?_
      obtain ⟨q6, hq6, h⟩ := bS h
      refine rcI (va_runS (As := [.int mPeople]) (rest := []) ⟨hx, hb, hml, hown, hts⟩ (c_mm_factorial l D cI cJ cZ   H mPeople q6 hq6) (va_cwS 1 hts gX12_share_X12_factorial rfl rfl rfl (by decide +kernel) ⟨Nat.le_of_ble_eq_true rfl, Nat.le_of_ble_eq_true rfl⟩) (rPreS hK) rfl rfl hl.1 rfl (lv_room (Nat.le_of_ble_eq_true rfl)) dX12_share_118 ⟨Nat.zero_le _, Nat.zero_le _⟩) ?_
      refine lv_iload hx hb dX12_share_121 (lv_at hl 0 rfl) ?_
      obtain ⟨hd7, h⟩ := gD_some h
      refine lv_idiv hx hb dX12_share_123 hd7 ?_
      cases h
      subst hAe
      exact W.iret hx hb hr (fun t ht _ => ⟨⟨_, (), rfl, rfl, by rw [ht]; exact hP, hD⟩, hS.F ht⟩) hS.2.2 dX12_share_124
    · have h := iF c5 h
      refine lv_iload_n hx hb dX12_share_107 rfl (lv_at hl 1 rfl) ?_
      refine lv_iload hx hb dX12_share_108 (lv_at hl 0 rfl) ?_
      obtain ⟨hd6, h⟩ := gD_some h
      refine lv_idiv hx hb dX12_share_110 hd6 ?_
      refine lv_goto (tgt := 124) hx hb dX12_share_111 (by decide) ?_
      cases h
      subst hAe
      exact W.iret hx hb hr (fun t ht _ => ⟨⟨_, (), rfl, rfl, by rw [ht]; exact hP, hD⟩, hS.F ht⟩) hS.2.2 dX12_share_124
  · have h := iT c2 h
    refine lv_iconst (v := (-1)) hx hb dX12_share_8 (by decide) ?_
    cases h
    subst hAe
    exact W.iret hx hb hr (fun t ht _ => ⟨⟨_, (), rfl, rfl, by rw [ht]; exact hP, hD⟩, hS.F ht⟩) hS.2.2 dX12_share_9

set_option maxHeartbeats 4000000 in
set_option maxRecDepth 100000 in
theorem c_mm_lightens (l : Launch) (D : va_G) (cI cJ cZ : ClassId) (a : Nat → Nat) (mPeople : Int32) (mHours : Int32) (mGrains : Int32) (mKind : Nat → Int32) (mWind : Nat → Int32) (mWeight : Nat → Int32) (mSort : Nat → Int32) (mOwner : Nat → Int32) (mNow : Nat → Int32) (mReadKind : Nat → Int32) (mReadWind : Nat → Int32) (mReadGrain : Nat → Int32) (mReadPeople : Int32) (mReadHours : Int32) (mReadGrains : Int32) (mText : Nat → Int32) (mLength : Int32) (mAt : Int32) (mFaultAt : Int32) (mMoved : Nat → Int32) (mActs : Int32) (mNext : Int32) (mRow : Nat → Int32) (mSeen : Int32) (mSeenKind : Nat → Int32) (mSeenLift : Nat → Int32) (mSeenFlew : Nat → Int32) (mSeed : Int64) (mIsKept : Nat → Int32) (mKept : Nat → Int32)  (sz : Nat) (p1 : Int32) (p2 : Int32) (rv : Int32) (mNow_r : Nat → Int32) (h : mm_lightens mHours mGrains mKind mWind mWeight mSort mOwner mNow p1 p2 = some (rv, mNow_r)) : Met l yX12_lightens wsX12_lightens ({ frames := 3, cells := 0, slots := 0, locals := 68 } : Room) (wPc D cI cJ cZ (mW a cI cZ mPeople mHours mGrains mKind mWind mWeight mSort mOwner mNow mReadKind mReadWind mReadGrain mReadPeople mReadHours mReadGrains mText mLength mAt mFaultAt mMoved mActs mNext mRow mSeen mSeenKind mSeenLift mSeenFlew mSeed mIsKept mKept) sz [.ref (a 0), .int p1, .int p2]) (wQi D (mW a cI cZ mPeople mHours mGrains mKind mWind mWeight mSort mOwner mNow mReadKind mReadWind mReadGrain mReadPeople mReadHours mReadGrains mText mLength mAt mFaultAt mMoved mActs mNext mRow mSeen mSeenKind mSeenLift mSeenFlew mSeed mIsKept mKept) (mW a cI cZ mPeople mHours mGrains mKind mWind mWeight mSort mOwner mNow_r mReadKind mReadWind mReadGrain mReadPeople mReadHours mReadGrains mText mLength mAt mFaultAt mMoved mActs mNext mRow mSeen mSeenKind mSeenLift mSeenFlew mSeed mIsKept mKept) sz rv) 0 0 (va_A (mW a cI cZ mPeople mHours mGrains mKind mWind mWeight mSort mOwner mNow mReadKind mReadWind mReadGrain mReadPeople mReadHours mReadGrains mText mLength mAt mFaultAt mMoved mActs mNext mRow mSeen mSeenKind mSeenLift mSeenFlew mSeed mIsKept mKept) sz) := by
  unfold mm_lightens at h
  refine Met.ofW (cc := cX12_lightens) (maxL := 6) (ret := (some .int)) (by decide) rfl ?_
  intro p e s m args below meth c s₁ B hml hv
  obtain ⟨rfl, hsz, hP, hK, hD0⟩ := hv
  have hx := B.exec
  have hb := B.bytes
  have hr := B.returns
  have hts := atoms_spec (ws := wsX12_lightens) B.pre
  have hown : s.vm.findClass RX12 = some m.cls := findClass_of_methodNamed B.named
  have hlocks := B.notSynchronized
  subst hsz
  have hD := hD0.self (sz := s.heap.size)
  have hA : ∀ q : Nat, s.heap.size ≤ q → va_A (mW a cI cZ mPeople mHours mGrains mKind mWind mWeight mSort mOwner mNow mReadKind mReadWind mReadGrain mReadPeople mReadHours mReadGrains mText mLength mAt mFaultAt mMoved mActs mNext mRow mSeen mSeenKind mSeenLift mSeenFlew mSeed mIsKept mKept) s.heap.size q := fun q h => Or.inr h
  have hS : va_S (va_A (mW a cI cZ mPeople mHours mGrains mKind mWind mWeight mSort mOwner mNow mReadKind mReadWind mReadGrain mReadPeople mReadHours mReadGrains mText mLength mAt mFaultAt mMoved mActs mNext mRow mSeen mSeenKind mSeenLift mSeenFlew mSeed mIsKept mKept) s.heap.size) s.heap s.heap [] := va_S.rf
  obtain ⟨A, hAe⟩ : ∃ A, A = va_A (mW a cI cZ mPeople mHours mGrains mKind mWind mWeight mSort mOwner mNow mReadKind mReadWind mReadGrain mReadPeople mReadHours mReadGrains mText mLength mAt mFaultAt mMoved mActs mNext mRow mSeen mSeenKind mSeenLift mSeenFlew mSeed mIsKept mKept) s.heap.size := ⟨_, rfl⟩
  rw [← hAe] at hD hA hS
  have hl := lv_entry ([.ref (a 0), .int p1, .int p2]) (n := 6) (Nat.le_of_ble_eq_true rfl)
  rw [lg_entry_eq]
  generalize (lg_sl ([.ref (a 0), .int p1, .int p2]) ++ List.replicate (6 - (lg_sl ([.ref (a 0), .int p1, .int p2])).length) Slot.unset).toArray = ls at hl ⊢
  have hl : lv_has ls 6 [(0, .ref (a 0)), (1, .int p1), (2, .int p2)] := hl
  have hiX12 : ∀ w ∈ u_ws RX12 TX12 30, w ∈ wsX12_lightens := fun w hw => List.mem_cons_of_mem _ (List.mem_append_right _ hw)
  refine lv_aload_n hx hb dX12_lightens_0 rfl (lv_at hl 0 rfl) ?_
  obtain ⟨q1, hq1, h⟩ := bS h
  refine wcV (va_runV (As := []) (rest := []) ⟨hx, hb, hml, hown, hts⟩ (c_mm_layTrial l D cI cJ cZ a mPeople mHours mGrains mKind mWind mWeight mSort mOwner mNow mReadKind mReadWind mReadGrain mReadPeople mReadHours mReadGrains mText mLength mAt mFaultAt mMoved mActs mNext mRow mSeen mSeenKind mSeenLift mSeenFlew mSeed mIsKept mKept s.heap.size  q1 hq1) (cwV 0 hts gX12_lightens_X12_layTrial rfl rfl rfl (by decide +kernel) ⟨Nat.le_of_ble_eq_true rfl, Nat.le_of_ble_eq_true rfl⟩) (wPreV hK hP hD (ci := 5) (q0 := 0) rfl rfl) rfl rfl hl.1 rfl (lv_room (Nat.le_of_ble_eq_true rfl)) dX12_lightens_1 ⟨Nat.zero_le _, Nat.zero_le _⟩) hD hS hA (fun H locs hP hD hS => ?_)
  have hP : va_P D vwCl (mW a cI cZ mPeople mHours mGrains mKind mWind mWeight mSort mOwner q1 mReadKind mReadWind mReadGrain mReadPeople mReadHours mReadGrains mText mLength mAt mFaultAt mMoved mActs mNext mRow mSeen mSeenKind mSeenLift mSeenFlew mSeed mIsKept mKept) H := hP
  have hD : va_D A (mW a cI cZ mPeople mHours mGrains mKind mWind mWeight mSort mOwner q1 mReadKind mReadWind mReadGrain mReadPeople mReadHours mReadGrains mText mLength mAt mFaultAt mMoved mActs mNext mRow mSeen mSeenKind mSeenLift mSeenFlew mSeed mIsKept mKept) := hD
  refine lv_aload_n hx hb dX12_lightens_4 rfl (lv_at hl 0 rfl) ?_
  refine va_get (D := D) (ci := 5) (v := .ref (a 6)) (C := RX12) (T := TX12) (N := 30) hx hb hts hiX12 hown hK.1 hP 0 rfl rfl 8 (by decide) (hts (.fieldLink RX12 25 "WinnowedGuiltModel" "now" "[I") (by decide +kernel)) (fun _ h9 => h9) rfl dX12_lightens_5 ?_
  refine lv_bipush (v := 16) hx hb dX12_lightens_8 (by decide) ?_
  refine lv_iload_n hx hb dX12_lightens_10 rfl (lv_at hl 2 rfl) ?_
  refine lv_if_eq (tgt := 18) hx hb dX12_lightens_11 (by decide) (fun c2 => ?_) (fun c2 => ?_)
  · have h := iT c2 h
    refine lv_aload_n hx hb dX12_lightens_18 rfl (lv_at hl 0 rfl) ?_
    refine va_get (D := D) (ci := 5) (v := .ref (a 6)) (C := RX12) (T := TX12) (N := 30) hx hb hts hiX12 hown hK.1 hP 0 rfl rfl 8 (by decide) (hts (.fieldLink RX12 25 "WinnowedGuiltModel" "now" "[I") (by decide +kernel)) (fun _ h9 => h9) rfl dX12_lightens_19 ?_
    refine lv_bipush (v := 7) hx hb dX12_lightens_22 (by decide) ?_
    refine ldI (v := (q1 7)) hx hb hK.1 hP 6 rfl rfl (ixOk_in (by decide)) rfl dX12_lightens_24 ?_
    refine va_iast hx hb hK.1 hP hD hS 6 0 rfl rfl (ixOk_in (by decide)) dX12_lightens_25 (fun H locs hP hD hS => ?_)
    have hP : va_P D vwCl (mW a cI cZ mPeople mHours mGrains mKind mWind mWeight mSort mOwner (upd q1 16 (q1 7)) mReadKind mReadWind mReadGrain mReadPeople mReadHours mReadGrains mText mLength mAt mFaultAt mMoved mActs mNext mRow mSeen mSeenKind mSeenLift mSeenFlew mSeed mIsKept mKept) H := hP
    have hD : va_D A (mW a cI cZ mPeople mHours mGrains mKind mWind mWeight mSort mOwner (upd q1 16 (q1 7)) mReadKind mReadWind mReadGrain mReadPeople mReadHours mReadGrains mText mLength mAt mFaultAt mMoved mActs mNext mRow mSeen mSeenKind mSeenLift mSeenFlew mSeed mIsKept mKept) := hD
    refine lv_aload_n hx hb dX12_lightens_26 rfl (lv_at hl 0 rfl) ?_
    refine lv_iconst (v := 1) hx hb dX12_lightens_27 (by decide) ?_
    refine lv_iload_n hx hb dX12_lightens_28 rfl (lv_at hl 1 rfl) ?_
    refine lv_iconst (v := 0) hx hb dX12_lightens_29 (by decide) ?_
    obtain ⟨q3, hq3, h⟩ := bS h
    refine rcI (va_runV (As := [.int 1, .int p1, .int 0]) (rest := []) ⟨hx, hb, hml, hown, hts⟩ (c_mm_liftAt l D cI cJ cZ a mPeople mHours mGrains mKind mWind mWeight mSort mOwner (upd q1 16 (q1 7)) mReadKind mReadWind mReadGrain mReadPeople mReadHours mReadGrains mText mLength mAt mFaultAt mMoved mActs mNext mRow mSeen mSeenKind mSeenLift mSeenFlew mSeed mIsKept mKept H hP 1 p1 0 q3 hq3) (cwV 3 hts gX12_lightens_X12_liftAt rfl rfl rfl (by decide +kernel) ⟨Nat.le_of_ble_eq_true rfl, Nat.le_of_ble_eq_true rfl⟩) (rPreV hK hP (ci := 5) (q0 := 0) rfl rfl) rfl rfl hl.1 rfl (lv_room (Nat.le_of_ble_eq_true rfl)) dX12_lightens_30 ⟨Nat.zero_le _, Nat.zero_le _⟩) ?_
    refine lv_istore_n (lv' := [(3, .int q3), (0, .ref (a 0)), (1, .int p1), (2, .int p2)]) hx hb dX12_lightens_33 rfl hl (by decide) rfl (fun ls hl => ?_)
    refine lv_iconst (v := 0) hx hb dX12_lightens_34 (by decide) ?_
    refine lv_istore (lv' := [(4, .int 0), (3, .int q3), (0, .ref (a 0)), (1, .int p1), (2, .int p2)]) hx hb dX12_lightens_35 hl (by decide) rfl (fun ls hl => ?_)
    refine lv_iconst (v := 0) hx hb dX12_lightens_37 (by decide) ?_
    refine lv_istore (lv' := [(5, .int 0), (4, .int 0), (3, .int q3), (0, .ref (a 0)), (1, .int p1), (2, .int p2)]) hx hb dX12_lightens_38 hl (by decide) rfl (fun ls hl => ?_)
    have L40 : ∀ (n : Nat) (x5_40 : Int32) (x4_40 : Int32) (H : Heap) (locs : List Loc) (ls : Array Slot) (kx : Int32 → Int32 → Option (Int32 × (Nat → Int32))), mm_lightens_L40 mGrains mKind mWeight mSort mOwner (upd q1 16 (q1 7)) p1 q3 kx n x5_40 x4_40 = some (rv, mNow_r) → va_P D vwCl (mW a cI cZ mPeople mHours mGrains mKind mWind mWeight mSort mOwner (upd q1 16 (q1 7)) mReadKind mReadWind mReadGrain mReadPeople mReadHours mReadGrains mText mLength mAt mFaultAt mMoved mActs mNext mRow mSeen mSeenKind mSeenLift mSeenFlew mSeed mIsKept mKept) H → va_D A (mW a cI cZ mPeople mHours mGrains mKind mWind mWeight mSort mOwner (upd q1 16 (q1 7)) mReadKind mReadWind mReadGrain mReadPeople mReadHours mReadGrains mText mLength mAt mFaultAt mMoved mActs mNext mRow mSeen mSeenKind mSeenLift mSeenFlew mSeed mIsKept mKept) → va_S A s.heap H locs → lv_has ls 6 [(5, .int x5_40), (4, .int x4_40), (3, .int q3), (0, .ref (a 0)), (1, .int p1), (2, .int p2)] → (∀ (y5_40 : Int32) (y4_40 : Int32) (H : Heap) (locs : List Loc) (ls : Array Slot), kx y5_40 y4_40 = some (rv, mNow_r) → va_P D vwCl (mW a cI cZ mPeople mHours mGrains mKind mWind mWeight mSort mOwner (upd q1 16 (q1 7)) mReadKind mReadWind mReadGrain mReadPeople mReadHours mReadGrains mText mLength mAt mFaultAt mMoved mActs mNext mRow mSeen mSeenKind mSeenLift mSeenFlew mSeed mIsKept mKept) H → va_D A (mW a cI cZ mPeople mHours mGrains mKind mWind mWeight mSort mOwner (upd q1 16 (q1 7)) mReadKind mReadWind mReadGrain mReadPeople mReadHours mReadGrains mText mLength mAt mFaultAt mMoved mActs mNext mRow mSeen mSeenKind mSeenLift mSeenFlew mSeed mIsKept mKept) → va_S A s.heap H locs → lv_has ls 6 [(5, .int y5_40), (4, .int y4_40), (3, .int q3), (0, .ref (a 0)), (1, .int p1), (2, .int p2)] → W p l e (headSpec wsX12_lightens ({ frames := 3, cells := 0, slots := 0, locals := 68 } : Room)).room s m ([.ref (a 0), .int p1, .int p2] : List Value).toArray below meth c H locs 0 0 (MQ below (wQi D (mW a cI cZ mPeople mHours mGrains mKind mWind mWeight mSort mOwner mNow mReadKind mReadWind mReadGrain mReadPeople mReadHours mReadGrains mText mLength mAt mFaultAt mMoved mActs mNext mRow mSeen mSeenKind mSeenLift mSeenFlew mSeed mIsKept mKept) (mW a cI cZ mPeople mHours mGrains mKind mWind mWeight mSort mOwner mNow_r mReadKind mReadWind mReadGrain mReadPeople mReadHours mReadGrains mText mLength mAt mFaultAt mMoved mActs mNext mRow mSeen mSeenKind mSeenLift mSeenFlew mSeed mIsKept mKept) s.heap.size rv) ([.ref (a 0), .int p1, .int p2] : List Value).toArray s 0 0 (va_A (mW a cI cZ mPeople mHours mGrains mKind mWind mWeight mSort mOwner mNow mReadKind mReadWind mReadGrain mReadPeople mReadHours mReadGrains mText mLength mAt mFaultAt mMoved mActs mNext mRow mSeen mSeenKind mSeenLift mSeenFlew mSeed mIsKept mKept) s.heap.size)) (F0 m 104 ls [])) → W p l e (headSpec wsX12_lightens ({ frames := 3, cells := 0, slots := 0, locals := 68 } : Room)).room s m ([.ref (a 0), .int p1, .int p2] : List Value).toArray below meth c H locs 0 0 (MQ below (wQi D (mW a cI cZ mPeople mHours mGrains mKind mWind mWeight mSort mOwner mNow mReadKind mReadWind mReadGrain mReadPeople mReadHours mReadGrains mText mLength mAt mFaultAt mMoved mActs mNext mRow mSeen mSeenKind mSeenLift mSeenFlew mSeed mIsKept mKept) (mW a cI cZ mPeople mHours mGrains mKind mWind mWeight mSort mOwner mNow_r mReadKind mReadWind mReadGrain mReadPeople mReadHours mReadGrains mText mLength mAt mFaultAt mMoved mActs mNext mRow mSeen mSeenKind mSeenLift mSeenFlew mSeed mIsKept mKept) s.heap.size rv) ([.ref (a 0), .int p1, .int p2] : List Value).toArray s 0 0 (va_A (mW a cI cZ mPeople mHours mGrains mKind mWind mWeight mSort mOwner mNow mReadKind mReadWind mReadGrain mReadPeople mReadHours mReadGrains mText mLength mAt mFaultAt mMoved mActs mNext mRow mSeen mSeenKind mSeenLift mSeenFlew mSeed mIsKept mKept) s.heap.size)) (F0 m 40 ls []) := by
      intro n
      induction n with
      | zero => intro _ _ _ _ _ _ h; rw [mm_lightens_L40.eq_1] at h; cases h
      | succ n ih =>
        intro x5_40 x4_40 H locs ls kx h hP hD hS hl hk
        rw [mm_lightens_L40.eq_2] at h
        refine lv_iload hx hb dX12_lightens_40 (lv_at hl 0 rfl) ?_
        refine lv_aload_n hx hb dX12_lightens_42 rfl (lv_at hl 3 rfl) ?_
        refine va_get (D := D) (ci := 5) (v := .int mGrains) (C := RX12) (T := TX12) (N := 30) hx hb hts hiX12 hown hK.1 hP 0 rfl rfl 2 (by decide) (hts (.fieldLink RX12 105 "WinnowedGuiltModel" "grains" "I") (by decide +kernel)) (fun _ h9 => h9) rfl dX12_lightens_43 ?_
        refine lv_icmp_ge (tgt := 104) hx hb dX12_lightens_46 (by decide) (fun c4 => ?_) (fun c4 => ?_)
        · have h := iT c4 h
          exact hk _ _ _ _ _ h hP hD hS (lv_sub hl [0, 1, 2, 3, 4, 5] rfl)
        · have h := iF c4 h
          refine lv_iload hx hb dX12_lightens_49 (lv_at hl 1 rfl) ?_
          refine lv_aload_n hx hb dX12_lightens_51 rfl (lv_at hl 3 rfl) ?_
          refine va_get (D := D) (ci := 5) (v := .ref (a 6)) (C := RX12) (T := TX12) (N := 30) hx hb hts hiX12 hown hK.1 hP 0 rfl rfl 8 (by decide) (hts (.fieldLink RX12 25 "WinnowedGuiltModel" "now" "[I") (by decide +kernel)) (fun _ h9 => h9) rfl dX12_lightens_52 ?_
          refine lv_iload hx hb dX12_lightens_55 (lv_at hl 0 rfl) ?_
          obtain ⟨hi5, h⟩ := gI_some h
          refine ldI (v := ((upd q1 16 (q1 7)) (Int32.toNatClampNeg x5_40))) hx hb hK.1 hP 6 rfl rfl hi5 rfl dX12_lightens_57 ?_
          refine lv_iload_n hx hb dX12_lightens_58 rfl (lv_at hl 4 rfl) ?_
          refine lv_icmp_ne (tgt := 94) hx hb dX12_lightens_59 (by decide) (fun c6 => ?_) (fun c6 => ?_)
          · have h := iF c6 h
            refine lv_iconst (v := 0) hx hb dX12_lightens_94 (by decide) ?_
            refine lv_iadd hx hb dX12_lightens_95 ?_
            refine lv_istore (lv' := [(4, .int (x4_40 + 0)), (5, .int x5_40), (3, .int q3), (0, .ref (a 0)), (1, .int p1), (2, .int p2)]) hx hb dX12_lightens_96 hl (by decide) rfl (fun ls hl => ?_)
            refine lv_iinc (v := (x5_40 + 1)) (lv' := [(5, .int (x5_40 + 1)), (4, .int (x4_40 + 0)), (3, .int q3), (0, .ref (a 0)), (1, .int p1), (2, .int p2)]) hx hb dX12_lightens_98 hl (k := 1) rfl rfl (by decide) rfl (fun ls hl => ?_)
            refine lv_goto (tgt := 40) hx hb dX12_lightens_101 (by decide) ?_
            exact ih _ _ _ _ _ _ h hP hD hS (lv_sub hl [0, 1, 2, 3, 4, 5] rfl) hk
          · have h := iT c6 h
            refine lv_aload_n hx hb dX12_lightens_62 rfl (lv_at hl 3 rfl) ?_
            refine va_get (D := D) (ci := 5) (v := .ref (a 4)) (C := RX12) (T := TX12) (N := 30) hx hb hts hiX12 hown hK.1 hP 0 rfl rfl 6 (by decide) (hts (.fieldLink RX12 19 "WinnowedGuiltModel" "sort" "[I") (by decide +kernel)) (fun _ h9 => h9) rfl dX12_lightens_63 ?_
            refine lv_iload hx hb dX12_lightens_66 (lv_at hl 0 rfl) ?_
            obtain ⟨hi7, h⟩ := gI_some h
            refine ldI (v := (mSort (Int32.toNatClampNeg x5_40))) hx hb hK.1 hP 4 rfl rfl hi7 rfl dX12_lightens_68 ?_
            refine lv_iconst (v := 1) hx hb dX12_lightens_69 (by decide) ?_
            refine lv_icmp_eq (tgt := 94) hx hb dX12_lightens_70 (by decide) (fun c8 => ?_) (fun c8 => ?_)
            · have h := iT c8 h
              refine lv_iconst (v := 0) hx hb dX12_lightens_94 (by decide) ?_
              refine lv_iadd hx hb dX12_lightens_95 ?_
              refine lv_istore (lv' := [(4, .int (x4_40 + 0)), (5, .int x5_40), (3, .int q3), (0, .ref (a 0)), (1, .int p1), (2, .int p2)]) hx hb dX12_lightens_96 hl (by decide) rfl (fun ls hl => ?_)
              refine lv_iinc (v := (x5_40 + 1)) (lv' := [(5, .int (x5_40 + 1)), (4, .int (x4_40 + 0)), (3, .int q3), (0, .ref (a 0)), (1, .int p1), (2, .int p2)]) hx hb dX12_lightens_98 hl (k := 1) rfl rfl (by decide) rfl (fun ls hl => ?_)
              refine lv_goto (tgt := 40) hx hb dX12_lightens_101 (by decide) ?_
              exact ih _ _ _ _ _ _ h hP hD hS (lv_sub hl [0, 1, 2, 3, 4, 5] rfl) hk
            · have h := iF c8 h
              refine lv_aload_n hx hb dX12_lightens_73 rfl (lv_at hl 3 rfl) ?_
              refine lv_iconst (v := 1) hx hb dX12_lightens_74 (by decide) ?_
              refine lv_iload hx hb dX12_lightens_75 (lv_at hl 0 rfl) ?_
              refine lv_iload_n hx hb dX12_lightens_77 rfl (lv_at hl 2 rfl) ?_
              obtain ⟨q9, hq9, h⟩ := bS h
              refine rcI (va_runV (As := [.int 1, .int x5_40, .int q3]) (rest := [.int x4_40]) ⟨hx, hb, hml, hown, hts⟩ (c_mm_flies l D cI cJ cZ a mPeople mHours mGrains mKind mWind mWeight mSort mOwner (upd q1 16 (q1 7)) mReadKind mReadWind mReadGrain mReadPeople mReadHours mReadGrains mText mLength mAt mFaultAt mMoved mActs mNext mRow mSeen mSeenKind mSeenLift mSeenFlew mSeed mIsKept mKept H hP 1 x5_40 q3 q9 hq9) (cwV 3 hts gX12_lightens_X12_flies rfl rfl rfl (by decide +kernel) ⟨Nat.le_of_ble_eq_true rfl, Nat.le_of_ble_eq_true rfl⟩) (rPreV hK hP (ci := 5) (q0 := 0) rfl rfl) rfl rfl hl.1 rfl (lv_room (Nat.le_of_ble_eq_true rfl)) dX12_lightens_78 ⟨Nat.zero_le _, Nat.zero_le _⟩) ?_
              refine lv_if_le (tgt := 94) hx hb dX12_lightens_81 (by decide) (fun c10 => ?_) (fun c10 => ?_)
              · have h := iT c10 h
                refine lv_iconst (v := 0) hx hb dX12_lightens_94 (by decide) ?_
                refine lv_iadd hx hb dX12_lightens_95 ?_
                refine lv_istore (lv' := [(4, .int (x4_40 + 0)), (5, .int x5_40), (3, .int q3), (0, .ref (a 0)), (1, .int p1), (2, .int p2)]) hx hb dX12_lightens_96 hl (by decide) rfl (fun ls hl => ?_)
                refine lv_iinc (v := (x5_40 + 1)) (lv' := [(5, .int (x5_40 + 1)), (4, .int (x4_40 + 0)), (3, .int q3), (0, .ref (a 0)), (1, .int p1), (2, .int p2)]) hx hb dX12_lightens_98 hl (k := 1) rfl rfl (by decide) rfl (fun ls hl => ?_)
                refine lv_goto (tgt := 40) hx hb dX12_lightens_101 (by decide) ?_
                exact ih _ _ _ _ _ _ h hP hD hS (lv_sub hl [0, 1, 2, 3, 4, 5] rfl) hk
              · have h := iF c10 h
                refine lv_aload_n hx hb dX12_lightens_84 rfl (lv_at hl 3 rfl) ?_
                refine va_get (D := D) (ci := 5) (v := .ref (a 3)) (C := RX12) (T := TX12) (N := 30) hx hb hts hiX12 hown hK.1 hP 0 rfl rfl 5 (by decide) (hts (.fieldLink RX12 16 "WinnowedGuiltModel" "weight" "[I") (by decide +kernel)) (fun _ h9 => h9) rfl dX12_lightens_85 ?_
                refine lv_iload hx hb dX12_lightens_88 (lv_at hl 0 rfl) ?_
                obtain ⟨hi11, h⟩ := gI_some h
                refine ldI (v := (mWeight (Int32.toNatClampNeg x5_40))) hx hb hK.1 hP 3 rfl rfl hi11 rfl dX12_lightens_90 ?_
                refine lv_goto (tgt := 95) hx hb dX12_lightens_91 (by decide) ?_
                refine lv_iadd hx hb dX12_lightens_95 ?_
                refine lv_istore (lv' := [(4, .int (x4_40 + (mWeight (Int32.toNatClampNeg x5_40)))), (5, .int x5_40), (3, .int q3), (0, .ref (a 0)), (1, .int p1), (2, .int p2)]) hx hb dX12_lightens_96 hl (by decide) rfl (fun ls hl => ?_)
                refine lv_iinc (v := (x5_40 + 1)) (lv' := [(5, .int (x5_40 + 1)), (4, .int (x4_40 + (mWeight (Int32.toNatClampNeg x5_40)))), (3, .int q3), (0, .ref (a 0)), (1, .int p1), (2, .int p2)]) hx hb dX12_lightens_98 hl (k := 1) rfl rfl (by decide) rfl (fun ls hl => ?_)
                refine lv_goto (tgt := 40) hx hb dX12_lightens_101 (by decide) ?_
                exact ih _ _ _ _ _ _ h hP hD hS (lv_sub hl [0, 1, 2, 3, 4, 5] rfl) hk
    refine L40 _ _ _ _ _ _ _ h hP hD hS hl (fun y5_40 y4_40 H locs ls h hP hD hS hl => ?_)
    refine lv_iload hx hb dX12_lightens_104 (lv_at hl 1 rfl) ?_
    cases h
    subst hAe
    exact W.iret hx hb hr (fun t ht _ => ⟨⟨_, (), rfl, rfl, by rw [ht]; exact hP, hD⟩, hS.F ht⟩) hS.2.2 dX12_lightens_106
  · have h := iF c2 h
    refine lv_iload_n hx hb dX12_lightens_14 rfl (lv_at hl 1 rfl) ?_
    refine lv_goto (tgt := 25) hx hb dX12_lightens_15 (by decide) ?_
    refine va_iast hx hb hK.1 hP hD hS 6 0 rfl rfl (ixOk_in (by decide)) dX12_lightens_25 (fun H locs hP hD hS => ?_)
    have hP : va_P D vwCl (mW a cI cZ mPeople mHours mGrains mKind mWind mWeight mSort mOwner (upd q1 16 p1) mReadKind mReadWind mReadGrain mReadPeople mReadHours mReadGrains mText mLength mAt mFaultAt mMoved mActs mNext mRow mSeen mSeenKind mSeenLift mSeenFlew mSeed mIsKept mKept) H := hP
    have hD : va_D A (mW a cI cZ mPeople mHours mGrains mKind mWind mWeight mSort mOwner (upd q1 16 p1) mReadKind mReadWind mReadGrain mReadPeople mReadHours mReadGrains mText mLength mAt mFaultAt mMoved mActs mNext mRow mSeen mSeenKind mSeenLift mSeenFlew mSeed mIsKept mKept) := hD
    refine lv_aload_n hx hb dX12_lightens_26 rfl (lv_at hl 0 rfl) ?_
    refine lv_iconst (v := 1) hx hb dX12_lightens_27 (by decide) ?_
    refine lv_iload_n hx hb dX12_lightens_28 rfl (lv_at hl 1 rfl) ?_
    refine lv_iconst (v := 0) hx hb dX12_lightens_29 (by decide) ?_
    obtain ⟨q3, hq3, h⟩ := bS h
    refine rcI (va_runV (As := [.int 1, .int p1, .int 0]) (rest := []) ⟨hx, hb, hml, hown, hts⟩ (c_mm_liftAt l D cI cJ cZ a mPeople mHours mGrains mKind mWind mWeight mSort mOwner (upd q1 16 p1) mReadKind mReadWind mReadGrain mReadPeople mReadHours mReadGrains mText mLength mAt mFaultAt mMoved mActs mNext mRow mSeen mSeenKind mSeenLift mSeenFlew mSeed mIsKept mKept H hP 1 p1 0 q3 hq3) (cwV 3 hts gX12_lightens_X12_liftAt rfl rfl rfl (by decide +kernel) ⟨Nat.le_of_ble_eq_true rfl, Nat.le_of_ble_eq_true rfl⟩) (rPreV hK hP (ci := 5) (q0 := 0) rfl rfl) rfl rfl hl.1 rfl (lv_room (Nat.le_of_ble_eq_true rfl)) dX12_lightens_30 ⟨Nat.zero_le _, Nat.zero_le _⟩) ?_
    refine lv_istore_n (lv' := [(3, .int q3), (0, .ref (a 0)), (1, .int p1), (2, .int p2)]) hx hb dX12_lightens_33 rfl hl (by decide) rfl (fun ls hl => ?_)
    refine lv_iconst (v := 0) hx hb dX12_lightens_34 (by decide) ?_
    refine lv_istore (lv' := [(4, .int 0), (3, .int q3), (0, .ref (a 0)), (1, .int p1), (2, .int p2)]) hx hb dX12_lightens_35 hl (by decide) rfl (fun ls hl => ?_)
    refine lv_iconst (v := 0) hx hb dX12_lightens_37 (by decide) ?_
    refine lv_istore (lv' := [(5, .int 0), (4, .int 0), (3, .int q3), (0, .ref (a 0)), (1, .int p1), (2, .int p2)]) hx hb dX12_lightens_38 hl (by decide) rfl (fun ls hl => ?_)
    have L40 : ∀ (n : Nat) (x5_40 : Int32) (x4_40 : Int32) (H : Heap) (locs : List Loc) (ls : Array Slot) (kx : Int32 → Int32 → Option (Int32 × (Nat → Int32))), mm_lightens_L40 mGrains mKind mWeight mSort mOwner (upd q1 16 p1) p1 q3 kx n x5_40 x4_40 = some (rv, mNow_r) → va_P D vwCl (mW a cI cZ mPeople mHours mGrains mKind mWind mWeight mSort mOwner (upd q1 16 p1) mReadKind mReadWind mReadGrain mReadPeople mReadHours mReadGrains mText mLength mAt mFaultAt mMoved mActs mNext mRow mSeen mSeenKind mSeenLift mSeenFlew mSeed mIsKept mKept) H → va_D A (mW a cI cZ mPeople mHours mGrains mKind mWind mWeight mSort mOwner (upd q1 16 p1) mReadKind mReadWind mReadGrain mReadPeople mReadHours mReadGrains mText mLength mAt mFaultAt mMoved mActs mNext mRow mSeen mSeenKind mSeenLift mSeenFlew mSeed mIsKept mKept) → va_S A s.heap H locs → lv_has ls 6 [(5, .int x5_40), (4, .int x4_40), (3, .int q3), (0, .ref (a 0)), (1, .int p1), (2, .int p2)] → (∀ (y5_40 : Int32) (y4_40 : Int32) (H : Heap) (locs : List Loc) (ls : Array Slot), kx y5_40 y4_40 = some (rv, mNow_r) → va_P D vwCl (mW a cI cZ mPeople mHours mGrains mKind mWind mWeight mSort mOwner (upd q1 16 p1) mReadKind mReadWind mReadGrain mReadPeople mReadHours mReadGrains mText mLength mAt mFaultAt mMoved mActs mNext mRow mSeen mSeenKind mSeenLift mSeenFlew mSeed mIsKept mKept) H → va_D A (mW a cI cZ mPeople mHours mGrains mKind mWind mWeight mSort mOwner (upd q1 16 p1) mReadKind mReadWind mReadGrain mReadPeople mReadHours mReadGrains mText mLength mAt mFaultAt mMoved mActs mNext mRow mSeen mSeenKind mSeenLift mSeenFlew mSeed mIsKept mKept) → va_S A s.heap H locs → lv_has ls 6 [(5, .int y5_40), (4, .int y4_40), (3, .int q3), (0, .ref (a 0)), (1, .int p1), (2, .int p2)] → W p l e (headSpec wsX12_lightens ({ frames := 3, cells := 0, slots := 0, locals := 68 } : Room)).room s m ([.ref (a 0), .int p1, .int p2] : List Value).toArray below meth c H locs 0 0 (MQ below (wQi D (mW a cI cZ mPeople mHours mGrains mKind mWind mWeight mSort mOwner mNow mReadKind mReadWind mReadGrain mReadPeople mReadHours mReadGrains mText mLength mAt mFaultAt mMoved mActs mNext mRow mSeen mSeenKind mSeenLift mSeenFlew mSeed mIsKept mKept) (mW a cI cZ mPeople mHours mGrains mKind mWind mWeight mSort mOwner mNow_r mReadKind mReadWind mReadGrain mReadPeople mReadHours mReadGrains mText mLength mAt mFaultAt mMoved mActs mNext mRow mSeen mSeenKind mSeenLift mSeenFlew mSeed mIsKept mKept) s.heap.size rv) ([.ref (a 0), .int p1, .int p2] : List Value).toArray s 0 0 (va_A (mW a cI cZ mPeople mHours mGrains mKind mWind mWeight mSort mOwner mNow mReadKind mReadWind mReadGrain mReadPeople mReadHours mReadGrains mText mLength mAt mFaultAt mMoved mActs mNext mRow mSeen mSeenKind mSeenLift mSeenFlew mSeed mIsKept mKept) s.heap.size)) (F0 m 104 ls [])) → W p l e (headSpec wsX12_lightens ({ frames := 3, cells := 0, slots := 0, locals := 68 } : Room)).room s m ([.ref (a 0), .int p1, .int p2] : List Value).toArray below meth c H locs 0 0 (MQ below (wQi D (mW a cI cZ mPeople mHours mGrains mKind mWind mWeight mSort mOwner mNow mReadKind mReadWind mReadGrain mReadPeople mReadHours mReadGrains mText mLength mAt mFaultAt mMoved mActs mNext mRow mSeen mSeenKind mSeenLift mSeenFlew mSeed mIsKept mKept) (mW a cI cZ mPeople mHours mGrains mKind mWind mWeight mSort mOwner mNow_r mReadKind mReadWind mReadGrain mReadPeople mReadHours mReadGrains mText mLength mAt mFaultAt mMoved mActs mNext mRow mSeen mSeenKind mSeenLift mSeenFlew mSeed mIsKept mKept) s.heap.size rv) ([.ref (a 0), .int p1, .int p2] : List Value).toArray s 0 0 (va_A (mW a cI cZ mPeople mHours mGrains mKind mWind mWeight mSort mOwner mNow mReadKind mReadWind mReadGrain mReadPeople mReadHours mReadGrains mText mLength mAt mFaultAt mMoved mActs mNext mRow mSeen mSeenKind mSeenLift mSeenFlew mSeed mIsKept mKept) s.heap.size)) (F0 m 40 ls []) := by
      intro n
      induction n with
      | zero => intro _ _ _ _ _ _ h; rw [mm_lightens_L40.eq_1] at h; cases h
      | succ n ih =>
        intro x5_40 x4_40 H locs ls kx h hP hD hS hl hk
        rw [mm_lightens_L40.eq_2] at h
        refine lv_iload hx hb dX12_lightens_40 (lv_at hl 0 rfl) ?_
        refine lv_aload_n hx hb dX12_lightens_42 rfl (lv_at hl 3 rfl) ?_
        refine va_get (D := D) (ci := 5) (v := .int mGrains) (C := RX12) (T := TX12) (N := 30) hx hb hts hiX12 hown hK.1 hP 0 rfl rfl 2 (by decide) (hts (.fieldLink RX12 105 "WinnowedGuiltModel" "grains" "I") (by decide +kernel)) (fun _ h9 => h9) rfl dX12_lightens_43 ?_
        refine lv_icmp_ge (tgt := 104) hx hb dX12_lightens_46 (by decide) (fun c4 => ?_) (fun c4 => ?_)
        · have h := iT c4 h
          exact hk _ _ _ _ _ h hP hD hS (lv_sub hl [0, 1, 2, 3, 4, 5] rfl)
        · have h := iF c4 h
          refine lv_iload hx hb dX12_lightens_49 (lv_at hl 1 rfl) ?_
          refine lv_aload_n hx hb dX12_lightens_51 rfl (lv_at hl 3 rfl) ?_
          refine va_get (D := D) (ci := 5) (v := .ref (a 6)) (C := RX12) (T := TX12) (N := 30) hx hb hts hiX12 hown hK.1 hP 0 rfl rfl 8 (by decide) (hts (.fieldLink RX12 25 "WinnowedGuiltModel" "now" "[I") (by decide +kernel)) (fun _ h9 => h9) rfl dX12_lightens_52 ?_
          refine lv_iload hx hb dX12_lightens_55 (lv_at hl 0 rfl) ?_
          obtain ⟨hi5, h⟩ := gI_some h
          refine ldI (v := ((upd q1 16 p1) (Int32.toNatClampNeg x5_40))) hx hb hK.1 hP 6 rfl rfl hi5 rfl dX12_lightens_57 ?_
          refine lv_iload_n hx hb dX12_lightens_58 rfl (lv_at hl 4 rfl) ?_
          refine lv_icmp_ne (tgt := 94) hx hb dX12_lightens_59 (by decide) (fun c6 => ?_) (fun c6 => ?_)
          · have h := iF c6 h
            refine lv_iconst (v := 0) hx hb dX12_lightens_94 (by decide) ?_
            refine lv_iadd hx hb dX12_lightens_95 ?_
            refine lv_istore (lv' := [(4, .int (x4_40 + 0)), (5, .int x5_40), (3, .int q3), (0, .ref (a 0)), (1, .int p1), (2, .int p2)]) hx hb dX12_lightens_96 hl (by decide) rfl (fun ls hl => ?_)
            refine lv_iinc (v := (x5_40 + 1)) (lv' := [(5, .int (x5_40 + 1)), (4, .int (x4_40 + 0)), (3, .int q3), (0, .ref (a 0)), (1, .int p1), (2, .int p2)]) hx hb dX12_lightens_98 hl (k := 1) rfl rfl (by decide) rfl (fun ls hl => ?_)
            refine lv_goto (tgt := 40) hx hb dX12_lightens_101 (by decide) ?_
            exact ih _ _ _ _ _ _ h hP hD hS (lv_sub hl [0, 1, 2, 3, 4, 5] rfl) hk
          · have h := iT c6 h
            refine lv_aload_n hx hb dX12_lightens_62 rfl (lv_at hl 3 rfl) ?_
            refine va_get (D := D) (ci := 5) (v := .ref (a 4)) (C := RX12) (T := TX12) (N := 30) hx hb hts hiX12 hown hK.1 hP 0 rfl rfl 6 (by decide) (hts (.fieldLink RX12 19 "WinnowedGuiltModel" "sort" "[I") (by decide +kernel)) (fun _ h9 => h9) rfl dX12_lightens_63 ?_
            refine lv_iload hx hb dX12_lightens_66 (lv_at hl 0 rfl) ?_
            obtain ⟨hi7, h⟩ := gI_some h
            refine ldI (v := (mSort (Int32.toNatClampNeg x5_40))) hx hb hK.1 hP 4 rfl rfl hi7 rfl dX12_lightens_68 ?_
            refine lv_iconst (v := 1) hx hb dX12_lightens_69 (by decide) ?_
            refine lv_icmp_eq (tgt := 94) hx hb dX12_lightens_70 (by decide) (fun c8 => ?_) (fun c8 => ?_)
            · have h := iT c8 h
              refine lv_iconst (v := 0) hx hb dX12_lightens_94 (by decide) ?_
              refine lv_iadd hx hb dX12_lightens_95 ?_
              refine lv_istore (lv' := [(4, .int (x4_40 + 0)), (5, .int x5_40), (3, .int q3), (0, .ref (a 0)), (1, .int p1), (2, .int p2)]) hx hb dX12_lightens_96 hl (by decide) rfl (fun ls hl => ?_)
              refine lv_iinc (v := (x5_40 + 1)) (lv' := [(5, .int (x5_40 + 1)), (4, .int (x4_40 + 0)), (3, .int q3), (0, .ref (a 0)), (1, .int p1), (2, .int p2)]) hx hb dX12_lightens_98 hl (k := 1) rfl rfl (by decide) rfl (fun ls hl => ?_)
              refine lv_goto (tgt := 40) hx hb dX12_lightens_101 (by decide) ?_
              exact ih _ _ _ _ _ _ h hP hD hS (lv_sub hl [0, 1, 2, 3, 4, 5] rfl) hk
            · have h := iF c8 h
              refine lv_aload_n hx hb dX12_lightens_73 rfl (lv_at hl 3 rfl) ?_
              refine lv_iconst (v := 1) hx hb dX12_lightens_74 (by decide) ?_
              refine lv_iload hx hb dX12_lightens_75 (lv_at hl 0 rfl) ?_
              refine lv_iload_n hx hb dX12_lightens_77 rfl (lv_at hl 2 rfl) ?_
              obtain ⟨q9, hq9, h⟩ := bS h
              refine rcI (va_runV (As := [.int 1, .int x5_40, .int q3]) (rest := [.int x4_40]) ⟨hx, hb, hml, hown, hts⟩ (c_mm_flies l D cI cJ cZ a mPeople mHours mGrains mKind mWind mWeight mSort mOwner (upd q1 16 p1) mReadKind mReadWind mReadGrain mReadPeople mReadHours mReadGrains mText mLength mAt mFaultAt mMoved mActs mNext mRow mSeen mSeenKind mSeenLift mSeenFlew mSeed mIsKept mKept H hP 1 x5_40 q3 q9 hq9) (cwV 3 hts gX12_lightens_X12_flies rfl rfl rfl (by decide +kernel) ⟨Nat.le_of_ble_eq_true rfl, Nat.le_of_ble_eq_true rfl⟩) (rPreV hK hP (ci := 5) (q0 := 0) rfl rfl) rfl rfl hl.1 rfl (lv_room (Nat.le_of_ble_eq_true rfl)) dX12_lightens_78 ⟨Nat.zero_le _, Nat.zero_le _⟩) ?_
              refine lv_if_le (tgt := 94) hx hb dX12_lightens_81 (by decide) (fun c10 => ?_) (fun c10 => ?_)
              · have h := iT c10 h
                refine lv_iconst (v := 0) hx hb dX12_lightens_94 (by decide) ?_
                refine lv_iadd hx hb dX12_lightens_95 ?_
                refine lv_istore (lv' := [(4, .int (x4_40 + 0)), (5, .int x5_40), (3, .int q3), (0, .ref (a 0)), (1, .int p1), (2, .int p2)]) hx hb dX12_lightens_96 hl (by decide) rfl (fun ls hl => ?_)
                refine lv_iinc (v := (x5_40 + 1)) (lv' := [(5, .int (x5_40 + 1)), (4, .int (x4_40 + 0)), (3, .int q3), (0, .ref (a 0)), (1, .int p1), (2, .int p2)]) hx hb dX12_lightens_98 hl (k := 1) rfl rfl (by decide) rfl (fun ls hl => ?_)
                refine lv_goto (tgt := 40) hx hb dX12_lightens_101 (by decide) ?_
                exact ih _ _ _ _ _ _ h hP hD hS (lv_sub hl [0, 1, 2, 3, 4, 5] rfl) hk
              · have h := iF c10 h
                refine lv_aload_n hx hb dX12_lightens_84 rfl (lv_at hl 3 rfl) ?_
                refine va_get (D := D) (ci := 5) (v := .ref (a 3)) (C := RX12) (T := TX12) (N := 30) hx hb hts hiX12 hown hK.1 hP 0 rfl rfl 5 (by decide) (hts (.fieldLink RX12 16 "WinnowedGuiltModel" "weight" "[I") (by decide +kernel)) (fun _ h9 => h9) rfl dX12_lightens_85 ?_
                refine lv_iload hx hb dX12_lightens_88 (lv_at hl 0 rfl) ?_
                obtain ⟨hi11, h⟩ := gI_some h
                refine ldI (v := (mWeight (Int32.toNatClampNeg x5_40))) hx hb hK.1 hP 3 rfl rfl hi11 rfl dX12_lightens_90 ?_
                refine lv_goto (tgt := 95) hx hb dX12_lightens_91 (by decide) ?_
                refine lv_iadd hx hb dX12_lightens_95 ?_
                refine lv_istore (lv' := [(4, .int (x4_40 + (mWeight (Int32.toNatClampNeg x5_40)))), (5, .int x5_40), (3, .int q3), (0, .ref (a 0)), (1, .int p1), (2, .int p2)]) hx hb dX12_lightens_96 hl (by decide) rfl (fun ls hl => ?_)
                refine lv_iinc (v := (x5_40 + 1)) (lv' := [(5, .int (x5_40 + 1)), (4, .int (x4_40 + (mWeight (Int32.toNatClampNeg x5_40)))), (3, .int q3), (0, .ref (a 0)), (1, .int p1), (2, .int p2)]) hx hb dX12_lightens_98 hl (k := 1) rfl rfl (by decide) rfl (fun ls hl => ?_)
                refine lv_goto (tgt := 40) hx hb dX12_lightens_101 (by decide) ?_
                exact ih _ _ _ _ _ _ h hP hD hS (lv_sub hl [0, 1, 2, 3, 4, 5] rfl) hk
    refine L40 _ _ _ _ _ _ _ h hP hD hS hl (fun y5_40 y4_40 H locs ls h hP hD hS hl => ?_)
    refine lv_iload hx hb dX12_lightens_104 (lv_at hl 1 rfl) ?_
    cases h
    subst hAe
    exact W.iret hx hb hr (fun t ht _ => ⟨⟨_, (), rfl, rfl, by rw [ht]; exact hP, hD⟩, hS.F ht⟩) hS.2.2 dX12_lightens_106
