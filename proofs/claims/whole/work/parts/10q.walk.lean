set_option maxHeartbeats 4000000 in
set_option maxRecDepth 100000 in
theorem c_mm_years (l : Launch) (D : va_G) (cI cJ cZ : ClassId) (a : Nat → Nat) (mPeople : Int32) (mHours : Int32) (mGrains : Int32) (mKind : Nat → Int32) (mWind : Nat → Int32) (mWeight : Nat → Int32) (mSort : Nat → Int32) (mOwner : Nat → Int32) (mNow : Nat → Int32) (mReadKind : Nat → Int32) (mReadWind : Nat → Int32) (mReadGrain : Nat → Int32) (mReadPeople : Int32) (mReadHours : Int32) (mReadGrains : Int32) (mText : Nat → Int32) (mLength : Int32) (mAt : Int32) (mFaultAt : Int32) (mMoved : Nat → Int32) (mActs : Int32) (mNext : Int32) (mRow : Nat → Int32) (mSeen : Int32) (mSeenKind : Nat → Int32) (mSeenLift : Nat → Int32) (mSeenFlew : Nat → Int32) (mSeed : Int64) (mIsKept : Nat → Int32) (mKept : Nat → Int32)  (sz : Nat) (p1 : Int32) (rv : Int32) (mNow_r : Nat → Int32) (mMoved_r : Nat → Int32) (mSeed_r : Int64) (h : mm_years mPeople mHours mGrains mKind mWind mWeight mSort mOwner mNow mMoved mSeed p1 = some (rv, mNow_r, mMoved_r, mSeed_r)) : Met l yX12_years wsX12_years ({ frames := 5, cells := 0, slots := 0, locals := 120 } : Room) (wPc D cI cJ cZ (mW a cI cZ mPeople mHours mGrains mKind mWind mWeight mSort mOwner mNow mReadKind mReadWind mReadGrain mReadPeople mReadHours mReadGrains mText mLength mAt mFaultAt mMoved mActs mNext mRow mSeen mSeenKind mSeenLift mSeenFlew mSeed mIsKept mKept) sz [.ref (a 0), .int p1]) (wQi D (mW a cI cZ mPeople mHours mGrains mKind mWind mWeight mSort mOwner mNow mReadKind mReadWind mReadGrain mReadPeople mReadHours mReadGrains mText mLength mAt mFaultAt mMoved mActs mNext mRow mSeen mSeenKind mSeenLift mSeenFlew mSeed mIsKept mKept) (mW a cI cZ mPeople mHours mGrains mKind mWind mWeight mSort mOwner mNow_r mReadKind mReadWind mReadGrain mReadPeople mReadHours mReadGrains mText mLength mAt mFaultAt mMoved_r mActs mNext mRow mSeen mSeenKind mSeenLift mSeenFlew mSeed_r mIsKept mKept) sz rv) 0 0 (va_A (mW a cI cZ mPeople mHours mGrains mKind mWind mWeight mSort mOwner mNow mReadKind mReadWind mReadGrain mReadPeople mReadHours mReadGrains mText mLength mAt mFaultAt mMoved mActs mNext mRow mSeen mSeenKind mSeenLift mSeenFlew mSeed mIsKept mKept) sz) := by
  unfold mm_years at h
  refine Met.ofW (cc := cX12_years) (maxL := 4) (ret := (some .int)) (by decide) rfl ?_
  intro p e s m args below meth c s₁ B hml hv
  obtain ⟨rfl, hsz, hP, hK, hD0⟩ := hv
  have hx := B.exec
  have hb := B.bytes
  have hr := B.returns
  have hts := atoms_spec (ws := wsX12_years) B.pre
  have hown : s.vm.findClass RX12 = some m.cls := findClass_of_methodNamed B.named
  have hlocks := B.notSynchronized
  subst hsz
  have hD := hD0.self (sz := s.heap.size)
  have hA : ∀ q : Nat, s.heap.size ≤ q → va_A (mW a cI cZ mPeople mHours mGrains mKind mWind mWeight mSort mOwner mNow mReadKind mReadWind mReadGrain mReadPeople mReadHours mReadGrains mText mLength mAt mFaultAt mMoved mActs mNext mRow mSeen mSeenKind mSeenLift mSeenFlew mSeed mIsKept mKept) s.heap.size q := fun q h => Or.inr h
  have hS : va_S (va_A (mW a cI cZ mPeople mHours mGrains mKind mWind mWeight mSort mOwner mNow mReadKind mReadWind mReadGrain mReadPeople mReadHours mReadGrains mText mLength mAt mFaultAt mMoved mActs mNext mRow mSeen mSeenKind mSeenLift mSeenFlew mSeed mIsKept mKept) s.heap.size) s.heap s.heap [] := va_S.rf
  obtain ⟨A, hAe⟩ : ∃ A, A = va_A (mW a cI cZ mPeople mHours mGrains mKind mWind mWeight mSort mOwner mNow mReadKind mReadWind mReadGrain mReadPeople mReadHours mReadGrains mText mLength mAt mFaultAt mMoved mActs mNext mRow mSeen mSeenKind mSeenLift mSeenFlew mSeed mIsKept mKept) s.heap.size := ⟨_, rfl⟩
  rw [← hAe] at hD hA hS
  have hl := lv_entry ([.ref (a 0), .int p1]) (n := 4) (Nat.le_of_ble_eq_true rfl)
  rw [lg_entry_eq]
  generalize (lg_sl ([.ref (a 0), .int p1]) ++ List.replicate (4 - (lg_sl ([.ref (a 0), .int p1])).length) Slot.unset).toArray = ls at hl ⊢
  have hl : lv_has ls 4 [(0, .ref (a 0)), (1, .int p1)] := hl
  have hiX12 : ∀ w ∈ u_ws RX12 TX12 30, w ∈ wsX12_years := fun w hw => List.mem_cons_of_mem _ (List.mem_append_right _ hw)
  refine lv_iload_n hx hb dX12_years_0 rfl (lv_at hl 1 rfl) ?_
  refine lv_i2l (v := (Int32.toInt64 p1)) hx hb dX12_years_1 rfl ?_
  refine lv_lconst (v := 1) hx hb dX12_years_2 (by decide) ?_
  refine lv_ldc2 (own := RX12) (v := 30) hx hb hown (hts (.constantLong RX12 236 (30)) (by decide +kernel)) dX12_years_3 ?_
  obtain ⟨q1, hq1, h⟩ := bS h
  refine rcI (va_runS (As := [.long (Int32.toInt64 p1), .long 1, .long 30]) (rest := []) ⟨hx, hb, hml, hown, hts⟩ (c_mm_in l D cI cJ cZ   s.heap (Int32.toInt64 p1) 1 30 q1 hq1) (va_cwS 3 hts gX12_years_X12_in rfl rfl rfl (by decide +kernel) ⟨Nat.le_of_ble_eq_true rfl, Nat.le_of_ble_eq_true rfl⟩) (rPreS hK) rfl rfl hl.1 rfl (lv_room (Nat.le_of_ble_eq_true rfl)) dX12_years_6 ⟨Nat.zero_le _, Nat.zero_le _⟩) ?_
  refine lv_if_ne (tgt := 15) hx hb dX12_years_9 (by decide) (fun c2 => ?_) (fun c2 => ?_)
  · have h := iF c2 h
    refine lv_aload_n hx hb dX12_years_15 rfl (lv_at hl 0 rfl) ?_
    obtain ⟨q3, hq3, h⟩ := bS h
    refine wcV (va_runV (As := []) (rest := []) ⟨hx, hb, hml, hown, hts⟩ (c_mm_layTrial l D cI cJ cZ a mPeople mHours mGrains mKind mWind mWeight mSort mOwner mNow mReadKind mReadWind mReadGrain mReadPeople mReadHours mReadGrains mText mLength mAt mFaultAt mMoved mActs mNext mRow mSeen mSeenKind mSeenLift mSeenFlew mSeed mIsKept mKept s.heap.size  q3 hq3) (cwV 0 hts gX12_years_X12_layTrial rfl rfl rfl (by decide +kernel) ⟨Nat.le_of_ble_eq_true rfl, Nat.le_of_ble_eq_true rfl⟩) (wPreV hK hP hD (ci := 5) (q0 := 0) rfl rfl) rfl rfl hl.1 rfl (lv_room (Nat.le_of_ble_eq_true rfl)) dX12_years_16 ⟨Nat.zero_le _, Nat.zero_le _⟩) hD hS hA (fun H locs hP hD hS => ?_)
    have hP : va_P D vwCl (mW a cI cZ mPeople mHours mGrains mKind mWind mWeight mSort mOwner q3 mReadKind mReadWind mReadGrain mReadPeople mReadHours mReadGrains mText mLength mAt mFaultAt mMoved mActs mNext mRow mSeen mSeenKind mSeenLift mSeenFlew mSeed mIsKept mKept) H := hP
    have hD : va_D A (mW a cI cZ mPeople mHours mGrains mKind mWind mWeight mSort mOwner q3 mReadKind mReadWind mReadGrain mReadPeople mReadHours mReadGrains mText mLength mAt mFaultAt mMoved mActs mNext mRow mSeen mSeenKind mSeenLift mSeenFlew mSeed mIsKept mKept) := hD
    refine lv_iconst (v := 0) hx hb dX12_years_19 (by decide) ?_
    refine lv_istore_n (lv' := [(2, .int 0), (0, .ref (a 0)), (1, .int p1)]) hx hb dX12_years_20 rfl hl (by decide) rfl (fun ls hl => ?_)
    have L21 : ∀ (n : Nat) (x2_21 : Int32) (mNow_21x : (Nat → Int32)) (mMoved_21x : (Nat → Int32)) (mSeed_21x : (Int64)) (H : Heap) (locs : List Loc) (ls : Array Slot) (kx : Int32 → (Nat → Int32) → (Nat → Int32) → (Int64) → Option (Int32 × (Nat → Int32) × (Nat → Int32) × (Int64))), mm_years_L21 mPeople mHours mGrains mKind mWind mWeight mSort mOwner p1 kx n x2_21 mNow_21x mMoved_21x mSeed_21x = some (rv, mNow_r, mMoved_r, mSeed_r) → va_P D vwCl (mW a cI cZ mPeople mHours mGrains mKind mWind mWeight mSort mOwner mNow_21x mReadKind mReadWind mReadGrain mReadPeople mReadHours mReadGrains mText mLength mAt mFaultAt mMoved_21x mActs mNext mRow mSeen mSeenKind mSeenLift mSeenFlew mSeed_21x mIsKept mKept) H → va_D A (mW a cI cZ mPeople mHours mGrains mKind mWind mWeight mSort mOwner mNow_21x mReadKind mReadWind mReadGrain mReadPeople mReadHours mReadGrains mText mLength mAt mFaultAt mMoved_21x mActs mNext mRow mSeen mSeenKind mSeenLift mSeenFlew mSeed_21x mIsKept mKept) → va_S A s.heap H locs → lv_has ls 4 [(2, .int x2_21), (0, .ref (a 0)), (1, .int p1)] → (∀ (y2_21 : Int32) (mNow_21 : (Nat → Int32)) (mMoved_21 : (Nat → Int32)) (mSeed_21 : (Int64)) (H : Heap) (locs : List Loc) (ls : Array Slot), kx y2_21 mNow_21 mMoved_21 mSeed_21 = some (rv, mNow_r, mMoved_r, mSeed_r) → va_P D vwCl (mW a cI cZ mPeople mHours mGrains mKind mWind mWeight mSort mOwner mNow_21 mReadKind mReadWind mReadGrain mReadPeople mReadHours mReadGrains mText mLength mAt mFaultAt mMoved_21 mActs mNext mRow mSeen mSeenKind mSeenLift mSeenFlew mSeed_21 mIsKept mKept) H → va_D A (mW a cI cZ mPeople mHours mGrains mKind mWind mWeight mSort mOwner mNow_21 mReadKind mReadWind mReadGrain mReadPeople mReadHours mReadGrains mText mLength mAt mFaultAt mMoved_21 mActs mNext mRow mSeen mSeenKind mSeenLift mSeenFlew mSeed_21 mIsKept mKept) → va_S A s.heap H locs → lv_has ls 4 [(2, .int y2_21), (0, .ref (a 0)), (1, .int p1)] → W p l e (headSpec wsX12_years ({ frames := 5, cells := 0, slots := 0, locals := 120 } : Room)).room s m ([.ref (a 0), .int p1] : List Value).toArray below meth c H locs 0 0 (MQ below (wQi D (mW a cI cZ mPeople mHours mGrains mKind mWind mWeight mSort mOwner mNow mReadKind mReadWind mReadGrain mReadPeople mReadHours mReadGrains mText mLength mAt mFaultAt mMoved mActs mNext mRow mSeen mSeenKind mSeenLift mSeenFlew mSeed mIsKept mKept) (mW a cI cZ mPeople mHours mGrains mKind mWind mWeight mSort mOwner mNow_r mReadKind mReadWind mReadGrain mReadPeople mReadHours mReadGrains mText mLength mAt mFaultAt mMoved_r mActs mNext mRow mSeen mSeenKind mSeenLift mSeenFlew mSeed_r mIsKept mKept) s.heap.size rv) ([.ref (a 0), .int p1] : List Value).toArray s 0 0 (va_A (mW a cI cZ mPeople mHours mGrains mKind mWind mWeight mSort mOwner mNow mReadKind mReadWind mReadGrain mReadPeople mReadHours mReadGrains mText mLength mAt mFaultAt mMoved mActs mNext mRow mSeen mSeenKind mSeenLift mSeenFlew mSeed mIsKept mKept) s.heap.size)) (F0 m 130 ls [])) → W p l e (headSpec wsX12_years ({ frames := 5, cells := 0, slots := 0, locals := 120 } : Room)).room s m ([.ref (a 0), .int p1] : List Value).toArray below meth c H locs 0 0 (MQ below (wQi D (mW a cI cZ mPeople mHours mGrains mKind mWind mWeight mSort mOwner mNow mReadKind mReadWind mReadGrain mReadPeople mReadHours mReadGrains mText mLength mAt mFaultAt mMoved mActs mNext mRow mSeen mSeenKind mSeenLift mSeenFlew mSeed mIsKept mKept) (mW a cI cZ mPeople mHours mGrains mKind mWind mWeight mSort mOwner mNow_r mReadKind mReadWind mReadGrain mReadPeople mReadHours mReadGrains mText mLength mAt mFaultAt mMoved_r mActs mNext mRow mSeen mSeenKind mSeenLift mSeenFlew mSeed_r mIsKept mKept) s.heap.size rv) ([.ref (a 0), .int p1] : List Value).toArray s 0 0 (va_A (mW a cI cZ mPeople mHours mGrains mKind mWind mWeight mSort mOwner mNow mReadKind mReadWind mReadGrain mReadPeople mReadHours mReadGrains mText mLength mAt mFaultAt mMoved mActs mNext mRow mSeen mSeenKind mSeenLift mSeenFlew mSeed mIsKept mKept) s.heap.size)) (F0 m 21 ls []) := by
      intro n
      induction n with
      | zero => intro _ _ _ _ _ _ _ _ h; rw [mm_years_L21.eq_1] at h; cases h
      | succ n ih =>
        intro x2_21 mNow_21x mMoved_21x mSeed_21x H locs ls kx h hP hD hS hl hk
        rw [mm_years_L21.eq_2] at h
        refine lv_iload_n hx hb dX12_years_21 rfl (lv_at hl 0 rfl) ?_
        refine lv_iload_n hx hb dX12_years_22 rfl (lv_at hl 2 rfl) ?_
        refine lv_icmp_ge (tgt := 130) hx hb dX12_years_23 (by decide) (fun c4 => ?_) (fun c4 => ?_)
        · have h := iT c4 h
          exact hk _ _ _ _ _ _ _ h hP hD hS (lv_sub hl [0, 1, 2] rfl)
        · have h := iF c4 h
          refine lv_aload_n hx hb dX12_years_26 rfl (lv_at hl 1 rfl) ?_
          refine lv_aload_n hx hb dX12_years_27 rfl (lv_at hl 1 rfl) ?_
          refine va_get (D := D) (ci := 5) (v := .long mSeed_21x) (C := RX12) (T := TX12) (N := 30) hx hb hts hiX12 hown hK.1 hP 0 rfl rfl 27 (by decide) (hts (.fieldLink RX12 232 "WinnowedGuiltModel" "seed" "J") (by decide +kernel)) (fun _ h9 => h9) rfl dX12_years_28 ?_
          refine lv_ldc2 (own := RX12) (v := 6364136223846793005) hx hb hown (hts (.constantLong RX12 238 (6364136223846793005)) (by decide +kernel)) dX12_years_31 ?_
          refine lv_lmul hx hb dX12_years_34 ?_
          refine lv_ldc2 (own := RX12) (v := 1442695040888963407) hx hb hown (hts (.constantLong RX12 240 (1442695040888963407)) (by decide +kernel)) dX12_years_35 ?_
          refine lv_ladd hx hb dX12_years_38 ?_
          refine va_put (D := D) (ci := 5) (v := .long ((mSeed_21x * 6364136223846793005) + 1442695040888963407)) (ty := .long) (C := RX12) (T := TX12) (N := 30) hx hb hts hiX12 tyX12 tyX12_ok nmX12 hown hK.1 hP hD hS 0 rfl rfl 27 (by decide) (hts (.fieldLink RX12 232 "WinnowedGuiltModel" "seed" "J") (by decide +kernel)) (fun _ h9 => h9) rfl (by decide +kernel) rfl rfl (Nat.le_of_ble_eq_true rfl) dX12_years_39 (fun H locs hP hD hS => ?_)
          have hP : va_P D vwCl (mW a cI cZ mPeople mHours mGrains mKind mWind mWeight mSort mOwner mNow_21x mReadKind mReadWind mReadGrain mReadPeople mReadHours mReadGrains mText mLength mAt mFaultAt mMoved_21x mActs mNext mRow mSeen mSeenKind mSeenLift mSeenFlew ((mSeed_21x * 6364136223846793005) + 1442695040888963407) mIsKept mKept) H := hP
          have hD : va_D A (mW a cI cZ mPeople mHours mGrains mKind mWind mWeight mSort mOwner mNow_21x mReadKind mReadWind mReadGrain mReadPeople mReadHours mReadGrains mText mLength mAt mFaultAt mMoved_21x mActs mNext mRow mSeen mSeenKind mSeenLift mSeenFlew ((mSeed_21x * 6364136223846793005) + 1442695040888963407) mIsKept mKept) := hD
          refine lv_aload_n hx hb dX12_years_42 rfl (lv_at hl 1 rfl) ?_
          refine va_get (D := D) (ci := 5) (v := .long ((mSeed_21x * 6364136223846793005) + 1442695040888963407)) (C := RX12) (T := TX12) (N := 30) hx hb hts hiX12 hown hK.1 hP 0 rfl rfl 27 (by decide) (hts (.fieldLink RX12 232 "WinnowedGuiltModel" "seed" "J") (by decide +kernel)) (fun _ h9 => h9) rfl dX12_years_43 ?_
          refine lv_bipush (v := 33) hx hb dX12_years_46 (by decide) ?_
          refine lv_lushr (v := (Int64.toUInt64 ((mSeed_21x * 6364136223846793005) + 1442695040888963407) >>> ((Int32.toInt64 (33 : Int32)).toUInt64 &&& Int64.toUInt64 63)).toInt64) hx hb dX12_years_48 rfl ?_
          refine lv_ldc2 (own := RX12) (v := 9) hx hb hown (hts (.constantLong RX12 242 (9)) (by decide +kernel)) dX12_years_49 ?_
          refine lv_lrem hx hb dX12_years_52 (by decide) ?_
          refine lv_l2i (v := (Int64.toInt32 ((Int64.toUInt64 ((mSeed_21x * 6364136223846793005) + 1442695040888963407) >>> ((Int32.toInt64 (33 : Int32)).toUInt64 &&& Int64.toUInt64 63)).toInt64 - (Int64.toUInt64 ((mSeed_21x * 6364136223846793005) + 1442695040888963407) >>> ((Int32.toInt64 (33 : Int32)).toUInt64 &&& Int64.toUInt64 63)).toInt64 / 9 * 9))) hx hb dX12_years_53 rfl ?_
          refine lv_istore_n (lv' := [(3, .int (Int64.toInt32 ((Int64.toUInt64 ((mSeed_21x * 6364136223846793005) + 1442695040888963407) >>> ((Int32.toInt64 (33 : Int32)).toUInt64 &&& Int64.toUInt64 63)).toInt64 - (Int64.toUInt64 ((mSeed_21x * 6364136223846793005) + 1442695040888963407) >>> ((Int32.toInt64 (33 : Int32)).toUInt64 &&& Int64.toUInt64 63)).toInt64 / 9 * 9))), (2, .int x2_21), (0, .ref (a 0)), (1, .int p1)]) hx hb dX12_years_54 rfl hl (by decide) rfl (fun ls hl => ?_)
          refine lv_iload_n hx hb dX12_years_55 rfl (lv_at hl 0 rfl) ?_
          refine lv_bipush (v := 8) hx hb dX12_years_56 (by decide) ?_
          refine lv_icmp_ne (tgt := 75) hx hb dX12_years_58 (by decide) (fun c5 => ?_) (fun c5 => ?_)
          · have h := iF c5 h
            refine lv_iload_n hx hb dX12_years_75 rfl (lv_at hl 0 rfl) ?_
            refine lv_iconst (v := 4) hx hb dX12_years_76 (by decide) ?_
            refine lv_icmp_ge (tgt := 99) hx hb dX12_years_77 (by decide) (fun c6 => ?_) (fun c6 => ?_)
            · have h := iT c6 h
              refine lv_iload_n hx hb dX12_years_99 rfl (lv_at hl 0 rfl) ?_
              refine lv_iconst (v := 3) hx hb dX12_years_100 (by decide) ?_
              refine lv_icmp_le (tgt := 124) hx hb dX12_years_101 (by decide) (fun c7 => ?_) (fun c7 => ?_)
              · have h := iT c7 h
                refine lv_iinc (v := (x2_21 + 1)) (lv' := [(2, .int (x2_21 + 1)), (3, .int (Int64.toInt32 ((Int64.toUInt64 ((mSeed_21x * 6364136223846793005) + 1442695040888963407) >>> ((Int32.toInt64 (33 : Int32)).toUInt64 &&& Int64.toUInt64 63)).toInt64 - (Int64.toUInt64 ((mSeed_21x * 6364136223846793005) + 1442695040888963407) >>> ((Int32.toInt64 (33 : Int32)).toUInt64 &&& Int64.toUInt64 63)).toInt64 / 9 * 9))), (0, .ref (a 0)), (1, .int p1)]) hx hb dX12_years_124 hl (k := 1) rfl rfl (by decide) rfl (fun ls hl => ?_)
                refine lv_goto (tgt := 21) hx hb dX12_years_127 (by decide) ?_
                exact ih _ _ _ _ _ _ _ _ h hP hD hS (lv_sub hl [0, 2, 3] rfl) hk
              · have h := iF c7 h
                refine lv_aload_n hx hb dX12_years_104 rfl (lv_at hl 2 rfl) ?_
                refine lv_iload_n hx hb dX12_years_105 rfl (lv_at hl 0 rfl) ?_
                refine lv_iconst (v := 4) hx hb dX12_years_106 (by decide) ?_
                refine lv_isub hx hb dX12_years_107 ?_
                obtain ⟨q8, hq8, h⟩ := bS h
                refine rcI (va_runV (As := [.int ((Int64.toInt32 ((Int64.toUInt64 ((mSeed_21x * 6364136223846793005) + 1442695040888963407) >>> ((Int32.toInt64 (33 : Int32)).toUInt64 &&& Int64.toUInt64 63)).toInt64 - (Int64.toUInt64 ((mSeed_21x * 6364136223846793005) + 1442695040888963407) >>> ((Int32.toInt64 (33 : Int32)).toUInt64 &&& Int64.toUInt64 63)).toInt64 / 9 * 9)) - 4)]) (rest := []) ⟨hx, hb, hml, hown, hts⟩ (c_mm_isPerson l D cI cJ cZ a mPeople mHours mGrains mKind mWind mWeight mSort mOwner mNow_21x mReadKind mReadWind mReadGrain mReadPeople mReadHours mReadGrains mText mLength mAt mFaultAt mMoved_21x mActs mNext mRow mSeen mSeenKind mSeenLift mSeenFlew ((mSeed_21x * 6364136223846793005) + 1442695040888963407) mIsKept mKept H hP ((Int64.toInt32 ((Int64.toUInt64 ((mSeed_21x * 6364136223846793005) + 1442695040888963407) >>> ((Int32.toInt64 (33 : Int32)).toUInt64 &&& Int64.toUInt64 63)).toInt64 - (Int64.toUInt64 ((mSeed_21x * 6364136223846793005) + 1442695040888963407) >>> ((Int32.toInt64 (33 : Int32)).toUInt64 &&& Int64.toUInt64 63)).toInt64 / 9 * 9)) - 4) q8 hq8) (cwV 1 hts gX12_years_X12_isPerson rfl rfl rfl (by decide +kernel) ⟨Nat.le_of_ble_eq_true rfl, Nat.le_of_ble_eq_true rfl⟩) (rPreV hK hP (ci := 5) (q0 := 0) rfl rfl) rfl rfl hl.1 rfl (lv_room (Nat.le_of_ble_eq_true rfl)) dX12_years_108 ⟨Nat.zero_le _, Nat.zero_le _⟩) ?_
                refine lv_if_eq (tgt := 124) hx hb dX12_years_111 (by decide) (fun c9 => ?_) (fun c9 => ?_)
                · have h := iT c9 h
                  refine lv_iinc (v := (x2_21 + 1)) (lv' := [(2, .int (x2_21 + 1)), (3, .int (Int64.toInt32 ((Int64.toUInt64 ((mSeed_21x * 6364136223846793005) + 1442695040888963407) >>> ((Int32.toInt64 (33 : Int32)).toUInt64 &&& Int64.toUInt64 63)).toInt64 - (Int64.toUInt64 ((mSeed_21x * 6364136223846793005) + 1442695040888963407) >>> ((Int32.toInt64 (33 : Int32)).toUInt64 &&& Int64.toUInt64 63)).toInt64 / 9 * 9))), (0, .ref (a 0)), (1, .int p1)]) hx hb dX12_years_124 hl (k := 1) rfl rfl (by decide) rfl (fun ls hl => ?_)
                  refine lv_goto (tgt := 21) hx hb dX12_years_127 (by decide) ?_
                  exact ih _ _ _ _ _ _ _ _ h hP hD hS (lv_sub hl [0, 2, 3] rfl) hk
                · have h := iF c9 h
                  refine lv_aload_n hx hb dX12_years_114 rfl (lv_at hl 2 rfl) ?_
                  refine va_get (D := D) (ci := 5) (v := .ref (a 6)) (C := RX12) (T := TX12) (N := 30) hx hb hts hiX12 hown hK.1 hP 0 rfl rfl 8 (by decide) (hts (.fieldLink RX12 25 "WinnowedGuiltModel" "now" "[I") (by decide +kernel)) (fun _ h9 => h9) rfl dX12_years_115 ?_
                  refine lv_bipush (v := 16) hx hb dX12_years_118 (by decide) ?_
                  refine lv_iload_n hx hb dX12_years_120 rfl (lv_at hl 0 rfl) ?_
                  refine lv_iconst (v := 4) hx hb dX12_years_121 (by decide) ?_
                  refine lv_isub hx hb dX12_years_122 ?_
                  refine va_iast hx hb hK.1 hP hD hS 6 0 rfl rfl (ixOk_in (by decide)) dX12_years_123 (fun H locs hP hD hS => ?_)
                  have hP : va_P D vwCl (mW a cI cZ mPeople mHours mGrains mKind mWind mWeight mSort mOwner (upd mNow_21x 16 ((Int64.toInt32 ((Int64.toUInt64 ((mSeed_21x * 6364136223846793005) + 1442695040888963407) >>> ((Int32.toInt64 (33 : Int32)).toUInt64 &&& Int64.toUInt64 63)).toInt64 - (Int64.toUInt64 ((mSeed_21x * 6364136223846793005) + 1442695040888963407) >>> ((Int32.toInt64 (33 : Int32)).toUInt64 &&& Int64.toUInt64 63)).toInt64 / 9 * 9)) - 4)) mReadKind mReadWind mReadGrain mReadPeople mReadHours mReadGrains mText mLength mAt mFaultAt mMoved_21x mActs mNext mRow mSeen mSeenKind mSeenLift mSeenFlew ((mSeed_21x * 6364136223846793005) + 1442695040888963407) mIsKept mKept) H := hP
                  have hD : va_D A (mW a cI cZ mPeople mHours mGrains mKind mWind mWeight mSort mOwner (upd mNow_21x 16 ((Int64.toInt32 ((Int64.toUInt64 ((mSeed_21x * 6364136223846793005) + 1442695040888963407) >>> ((Int32.toInt64 (33 : Int32)).toUInt64 &&& Int64.toUInt64 63)).toInt64 - (Int64.toUInt64 ((mSeed_21x * 6364136223846793005) + 1442695040888963407) >>> ((Int32.toInt64 (33 : Int32)).toUInt64 &&& Int64.toUInt64 63)).toInt64 / 9 * 9)) - 4)) mReadKind mReadWind mReadGrain mReadPeople mReadHours mReadGrains mText mLength mAt mFaultAt mMoved_21x mActs mNext mRow mSeen mSeenKind mSeenLift mSeenFlew ((mSeed_21x * 6364136223846793005) + 1442695040888963407) mIsKept mKept) := hD
                  refine lv_iinc (v := (x2_21 + 1)) (lv' := [(2, .int (x2_21 + 1)), (3, .int (Int64.toInt32 ((Int64.toUInt64 ((mSeed_21x * 6364136223846793005) + 1442695040888963407) >>> ((Int32.toInt64 (33 : Int32)).toUInt64 &&& Int64.toUInt64 63)).toInt64 - (Int64.toUInt64 ((mSeed_21x * 6364136223846793005) + 1442695040888963407) >>> ((Int32.toInt64 (33 : Int32)).toUInt64 &&& Int64.toUInt64 63)).toInt64 / 9 * 9))), (0, .ref (a 0)), (1, .int p1)]) hx hb dX12_years_124 hl (k := 1) rfl rfl (by decide) rfl (fun ls hl => ?_)
                  refine lv_goto (tgt := 21) hx hb dX12_years_127 (by decide) ?_
                  exact ih _ _ _ _ _ _ _ _ h hP hD hS (lv_sub hl [0, 2, 3] rfl) hk
            · have h := iF c6 h
              refine lv_aload_n hx hb dX12_years_80 rfl (lv_at hl 2 rfl) ?_
              refine lv_iload_n hx hb dX12_years_81 rfl (lv_at hl 0 rfl) ?_
              obtain ⟨q7, hq7, h⟩ := bS h
              refine rcI (va_runV (As := [.int (Int64.toInt32 ((Int64.toUInt64 ((mSeed_21x * 6364136223846793005) + 1442695040888963407) >>> ((Int32.toInt64 (33 : Int32)).toUInt64 &&& Int64.toUInt64 63)).toInt64 - (Int64.toUInt64 ((mSeed_21x * 6364136223846793005) + 1442695040888963407) >>> ((Int32.toInt64 (33 : Int32)).toUInt64 &&& Int64.toUInt64 63)).toInt64 / 9 * 9))]) (rest := []) ⟨hx, hb, hml, hown, hts⟩ (c_mm_isPerson l D cI cJ cZ a mPeople mHours mGrains mKind mWind mWeight mSort mOwner mNow_21x mReadKind mReadWind mReadGrain mReadPeople mReadHours mReadGrains mText mLength mAt mFaultAt mMoved_21x mActs mNext mRow mSeen mSeenKind mSeenLift mSeenFlew ((mSeed_21x * 6364136223846793005) + 1442695040888963407) mIsKept mKept H hP (Int64.toInt32 ((Int64.toUInt64 ((mSeed_21x * 6364136223846793005) + 1442695040888963407) >>> ((Int32.toInt64 (33 : Int32)).toUInt64 &&& Int64.toUInt64 63)).toInt64 - (Int64.toUInt64 ((mSeed_21x * 6364136223846793005) + 1442695040888963407) >>> ((Int32.toInt64 (33 : Int32)).toUInt64 &&& Int64.toUInt64 63)).toInt64 / 9 * 9)) q7 hq7) (cwV 1 hts gX12_years_X12_isPerson rfl rfl rfl (by decide +kernel) ⟨Nat.le_of_ble_eq_true rfl, Nat.le_of_ble_eq_true rfl⟩) (rPreV hK hP (ci := 5) (q0 := 0) rfl rfl) rfl rfl hl.1 rfl (lv_room (Nat.le_of_ble_eq_true rfl)) dX12_years_82 ⟨Nat.zero_le _, Nat.zero_le _⟩) ?_
              refine lv_if_eq (tgt := 99) hx hb dX12_years_85 (by decide) (fun c8 => ?_) (fun c8 => ?_)
              · have h := iT c8 h
                refine lv_iload_n hx hb dX12_years_99 rfl (lv_at hl 0 rfl) ?_
                refine lv_iconst (v := 3) hx hb dX12_years_100 (by decide) ?_
                refine lv_icmp_le (tgt := 124) hx hb dX12_years_101 (by decide) (fun c9 => ?_) (fun c9 => ?_)
                · have h := iT c9 h
                  refine lv_iinc (v := (x2_21 + 1)) (lv' := [(2, .int (x2_21 + 1)), (3, .int (Int64.toInt32 ((Int64.toUInt64 ((mSeed_21x * 6364136223846793005) + 1442695040888963407) >>> ((Int32.toInt64 (33 : Int32)).toUInt64 &&& Int64.toUInt64 63)).toInt64 - (Int64.toUInt64 ((mSeed_21x * 6364136223846793005) + 1442695040888963407) >>> ((Int32.toInt64 (33 : Int32)).toUInt64 &&& Int64.toUInt64 63)).toInt64 / 9 * 9))), (0, .ref (a 0)), (1, .int p1)]) hx hb dX12_years_124 hl (k := 1) rfl rfl (by decide) rfl (fun ls hl => ?_)
                  refine lv_goto (tgt := 21) hx hb dX12_years_127 (by decide) ?_
                  exact ih _ _ _ _ _ _ _ _ h hP hD hS (lv_sub hl [0, 2, 3] rfl) hk
                · have h := iF c9 h
                  refine lv_aload_n hx hb dX12_years_104 rfl (lv_at hl 2 rfl) ?_
                  refine lv_iload_n hx hb dX12_years_105 rfl (lv_at hl 0 rfl) ?_
                  refine lv_iconst (v := 4) hx hb dX12_years_106 (by decide) ?_
                  refine lv_isub hx hb dX12_years_107 ?_
                  obtain ⟨q10, hq10, h⟩ := bS h
                  refine rcI (va_runV (As := [.int ((Int64.toInt32 ((Int64.toUInt64 ((mSeed_21x * 6364136223846793005) + 1442695040888963407) >>> ((Int32.toInt64 (33 : Int32)).toUInt64 &&& Int64.toUInt64 63)).toInt64 - (Int64.toUInt64 ((mSeed_21x * 6364136223846793005) + 1442695040888963407) >>> ((Int32.toInt64 (33 : Int32)).toUInt64 &&& Int64.toUInt64 63)).toInt64 / 9 * 9)) - 4)]) (rest := []) ⟨hx, hb, hml, hown, hts⟩ (c_mm_isPerson l D cI cJ cZ a mPeople mHours mGrains mKind mWind mWeight mSort mOwner mNow_21x mReadKind mReadWind mReadGrain mReadPeople mReadHours mReadGrains mText mLength mAt mFaultAt mMoved_21x mActs mNext mRow mSeen mSeenKind mSeenLift mSeenFlew ((mSeed_21x * 6364136223846793005) + 1442695040888963407) mIsKept mKept H hP ((Int64.toInt32 ((Int64.toUInt64 ((mSeed_21x * 6364136223846793005) + 1442695040888963407) >>> ((Int32.toInt64 (33 : Int32)).toUInt64 &&& Int64.toUInt64 63)).toInt64 - (Int64.toUInt64 ((mSeed_21x * 6364136223846793005) + 1442695040888963407) >>> ((Int32.toInt64 (33 : Int32)).toUInt64 &&& Int64.toUInt64 63)).toInt64 / 9 * 9)) - 4) q10 hq10) (cwV 1 hts gX12_years_X12_isPerson rfl rfl rfl (by decide +kernel) ⟨Nat.le_of_ble_eq_true rfl, Nat.le_of_ble_eq_true rfl⟩) (rPreV hK hP (ci := 5) (q0 := 0) rfl rfl) rfl rfl hl.1 rfl (lv_room (Nat.le_of_ble_eq_true rfl)) dX12_years_108 ⟨Nat.zero_le _, Nat.zero_le _⟩) ?_
                  refine lv_if_eq (tgt := 124) hx hb dX12_years_111 (by decide) (fun c11 => ?_) (fun c11 => ?_)
                  · have h := iT c11 h
                    refine lv_iinc (v := (x2_21 + 1)) (lv' := [(2, .int (x2_21 + 1)), (3, .int (Int64.toInt32 ((Int64.toUInt64 ((mSeed_21x * 6364136223846793005) + 1442695040888963407) >>> ((Int32.toInt64 (33 : Int32)).toUInt64 &&& Int64.toUInt64 63)).toInt64 - (Int64.toUInt64 ((mSeed_21x * 6364136223846793005) + 1442695040888963407) >>> ((Int32.toInt64 (33 : Int32)).toUInt64 &&& Int64.toUInt64 63)).toInt64 / 9 * 9))), (0, .ref (a 0)), (1, .int p1)]) hx hb dX12_years_124 hl (k := 1) rfl rfl (by decide) rfl (fun ls hl => ?_)
                    refine lv_goto (tgt := 21) hx hb dX12_years_127 (by decide) ?_
                    exact ih _ _ _ _ _ _ _ _ h hP hD hS (lv_sub hl [0, 2, 3] rfl) hk
                  · have h := iF c11 h
                    refine lv_aload_n hx hb dX12_years_114 rfl (lv_at hl 2 rfl) ?_
                    refine va_get (D := D) (ci := 5) (v := .ref (a 6)) (C := RX12) (T := TX12) (N := 30) hx hb hts hiX12 hown hK.1 hP 0 rfl rfl 8 (by decide) (hts (.fieldLink RX12 25 "WinnowedGuiltModel" "now" "[I") (by decide +kernel)) (fun _ h9 => h9) rfl dX12_years_115 ?_
                    refine lv_bipush (v := 16) hx hb dX12_years_118 (by decide) ?_
                    refine lv_iload_n hx hb dX12_years_120 rfl (lv_at hl 0 rfl) ?_
                    refine lv_iconst (v := 4) hx hb dX12_years_121 (by decide) ?_
                    refine lv_isub hx hb dX12_years_122 ?_
                    refine va_iast hx hb hK.1 hP hD hS 6 0 rfl rfl (ixOk_in (by decide)) dX12_years_123 (fun H locs hP hD hS => ?_)
                    have hP : va_P D vwCl (mW a cI cZ mPeople mHours mGrains mKind mWind mWeight mSort mOwner (upd mNow_21x 16 ((Int64.toInt32 ((Int64.toUInt64 ((mSeed_21x * 6364136223846793005) + 1442695040888963407) >>> ((Int32.toInt64 (33 : Int32)).toUInt64 &&& Int64.toUInt64 63)).toInt64 - (Int64.toUInt64 ((mSeed_21x * 6364136223846793005) + 1442695040888963407) >>> ((Int32.toInt64 (33 : Int32)).toUInt64 &&& Int64.toUInt64 63)).toInt64 / 9 * 9)) - 4)) mReadKind mReadWind mReadGrain mReadPeople mReadHours mReadGrains mText mLength mAt mFaultAt mMoved_21x mActs mNext mRow mSeen mSeenKind mSeenLift mSeenFlew ((mSeed_21x * 6364136223846793005) + 1442695040888963407) mIsKept mKept) H := hP
                    have hD : va_D A (mW a cI cZ mPeople mHours mGrains mKind mWind mWeight mSort mOwner (upd mNow_21x 16 ((Int64.toInt32 ((Int64.toUInt64 ((mSeed_21x * 6364136223846793005) + 1442695040888963407) >>> ((Int32.toInt64 (33 : Int32)).toUInt64 &&& Int64.toUInt64 63)).toInt64 - (Int64.toUInt64 ((mSeed_21x * 6364136223846793005) + 1442695040888963407) >>> ((Int32.toInt64 (33 : Int32)).toUInt64 &&& Int64.toUInt64 63)).toInt64 / 9 * 9)) - 4)) mReadKind mReadWind mReadGrain mReadPeople mReadHours mReadGrains mText mLength mAt mFaultAt mMoved_21x mActs mNext mRow mSeen mSeenKind mSeenLift mSeenFlew ((mSeed_21x * 6364136223846793005) + 1442695040888963407) mIsKept mKept) := hD
                    refine lv_iinc (v := (x2_21 + 1)) (lv' := [(2, .int (x2_21 + 1)), (3, .int (Int64.toInt32 ((Int64.toUInt64 ((mSeed_21x * 6364136223846793005) + 1442695040888963407) >>> ((Int32.toInt64 (33 : Int32)).toUInt64 &&& Int64.toUInt64 63)).toInt64 - (Int64.toUInt64 ((mSeed_21x * 6364136223846793005) + 1442695040888963407) >>> ((Int32.toInt64 (33 : Int32)).toUInt64 &&& Int64.toUInt64 63)).toInt64 / 9 * 9))), (0, .ref (a 0)), (1, .int p1)]) hx hb dX12_years_124 hl (k := 1) rfl rfl (by decide) rfl (fun ls hl => ?_)
                    refine lv_goto (tgt := 21) hx hb dX12_years_127 (by decide) ?_
                    exact ih _ _ _ _ _ _ _ _ h hP hD hS (lv_sub hl [0, 2, 3] rfl) hk
              · have h := iF c8 h
                refine lv_aload_n hx hb dX12_years_88 rfl (lv_at hl 2 rfl) ?_
                refine lv_iconst (v := 1) hx hb dX12_years_89 (by decide) ?_
                refine lv_iload_n hx hb dX12_years_90 rfl (lv_at hl 0 rfl) ?_
                refine lv_iconst (v := 0) hx hb dX12_years_91 (by decide) ?_
                obtain ⟨q9, hq9, h⟩ := bS h
                refine wcI (va_runV (As := [.int 1, .int (Int64.toInt32 ((Int64.toUInt64 ((mSeed_21x * 6364136223846793005) + 1442695040888963407) >>> ((Int32.toInt64 (33 : Int32)).toUInt64 &&& Int64.toUInt64 63)).toInt64 - (Int64.toUInt64 ((mSeed_21x * 6364136223846793005) + 1442695040888963407) >>> ((Int32.toInt64 (33 : Int32)).toUInt64 &&& Int64.toUInt64 63)).toInt64 / 9 * 9)), .int 0]) (rest := []) ⟨hx, hb, hml, hown, hts⟩ (c_mm_tossBy l D cI cJ cZ a mPeople mHours mGrains mKind mWind mWeight mSort mOwner mNow_21x mReadKind mReadWind mReadGrain mReadPeople mReadHours mReadGrains mText mLength mAt mFaultAt mMoved_21x mActs mNext mRow mSeen mSeenKind mSeenLift mSeenFlew ((mSeed_21x * 6364136223846793005) + 1442695040888963407) mIsKept mKept H.size 1 (Int64.toInt32 ((Int64.toUInt64 ((mSeed_21x * 6364136223846793005) + 1442695040888963407) >>> ((Int32.toInt64 (33 : Int32)).toUInt64 &&& Int64.toUInt64 63)).toInt64 - (Int64.toUInt64 ((mSeed_21x * 6364136223846793005) + 1442695040888963407) >>> ((Int32.toInt64 (33 : Int32)).toUInt64 &&& Int64.toUInt64 63)).toInt64 / 9 * 9)) 0 q9.1 q9.2.1 q9.2.2 hq9) (cwV 3 hts gX12_years_X12_tossBy rfl rfl rfl (by decide +kernel) ⟨Nat.le_of_ble_eq_true rfl, Nat.le_of_ble_eq_true rfl⟩) (wPreV hK hP hD (ci := 5) (q0 := 0) rfl rfl) rfl rfl hl.1 rfl (lv_room (Nat.le_of_ble_eq_true rfl)) dX12_years_92 ⟨Nat.zero_le _, Nat.zero_le _⟩) hD hS hA (fun H locs hP hD hS => ?_)
                have hP : va_P D vwCl (mW a cI cZ mPeople mHours mGrains mKind mWind mWeight mSort mOwner q9.2.1 mReadKind mReadWind mReadGrain mReadPeople mReadHours mReadGrains mText mLength mAt mFaultAt q9.2.2 mActs mNext mRow mSeen mSeenKind mSeenLift mSeenFlew ((mSeed_21x * 6364136223846793005) + 1442695040888963407) mIsKept mKept) H := hP
                have hD : va_D A (mW a cI cZ mPeople mHours mGrains mKind mWind mWeight mSort mOwner q9.2.1 mReadKind mReadWind mReadGrain mReadPeople mReadHours mReadGrains mText mLength mAt mFaultAt q9.2.2 mActs mNext mRow mSeen mSeenKind mSeenLift mSeenFlew ((mSeed_21x * 6364136223846793005) + 1442695040888963407) mIsKept mKept) := hD
                refine lv_pop hx hb dX12_years_95 rfl ?_
                refine lv_goto (tgt := 124) hx hb dX12_years_96 (by decide) ?_
                refine lv_iinc (v := (x2_21 + 1)) (lv' := [(2, .int (x2_21 + 1)), (3, .int (Int64.toInt32 ((Int64.toUInt64 ((mSeed_21x * 6364136223846793005) + 1442695040888963407) >>> ((Int32.toInt64 (33 : Int32)).toUInt64 &&& Int64.toUInt64 63)).toInt64 - (Int64.toUInt64 ((mSeed_21x * 6364136223846793005) + 1442695040888963407) >>> ((Int32.toInt64 (33 : Int32)).toUInt64 &&& Int64.toUInt64 63)).toInt64 / 9 * 9))), (0, .ref (a 0)), (1, .int p1)]) hx hb dX12_years_124 hl (k := 1) rfl rfl (by decide) rfl (fun ls hl => ?_)
                refine lv_goto (tgt := 21) hx hb dX12_years_127 (by decide) ?_
                exact ih _ _ _ _ _ _ _ _ h hP hD hS (lv_sub hl [0, 2, 3] rfl) hk
          · have h := iT c5 h
            refine lv_aload_n hx hb dX12_years_61 rfl (lv_at hl 2 rfl) ?_
            refine va_get (D := D) (ci := 5) (v := .ref (a 6)) (C := RX12) (T := TX12) (N := 30) hx hb hts hiX12 hown hK.1 hP 0 rfl rfl 8 (by decide) (hts (.fieldLink RX12 25 "WinnowedGuiltModel" "now" "[I") (by decide +kernel)) (fun _ h9 => h9) rfl dX12_years_62 ?_
            refine lv_bipush (v := 17) hx hb dX12_years_65 (by decide) ?_
            refine lv_dup2_11 hx hb dX12_years_67 rfl rfl ?_
            refine ldI (v := (mNow_21x 17)) hx hb hK.1 hP 6 rfl rfl (ixOk_in (by decide)) rfl dX12_years_68 ?_
            refine lv_iconst (v := 1) hx hb dX12_years_69 (by decide) ?_
            refine lv_iadd hx hb dX12_years_70 ?_
            refine va_iast hx hb hK.1 hP hD hS 6 0 rfl rfl (ixOk_in (by decide)) dX12_years_71 (fun H locs hP hD hS => ?_)
            have hP : va_P D vwCl (mW a cI cZ mPeople mHours mGrains mKind mWind mWeight mSort mOwner (upd mNow_21x 17 ((mNow_21x 17) + 1)) mReadKind mReadWind mReadGrain mReadPeople mReadHours mReadGrains mText mLength mAt mFaultAt mMoved_21x mActs mNext mRow mSeen mSeenKind mSeenLift mSeenFlew ((mSeed_21x * 6364136223846793005) + 1442695040888963407) mIsKept mKept) H := hP
            have hD : va_D A (mW a cI cZ mPeople mHours mGrains mKind mWind mWeight mSort mOwner (upd mNow_21x 17 ((mNow_21x 17) + 1)) mReadKind mReadWind mReadGrain mReadPeople mReadHours mReadGrains mText mLength mAt mFaultAt mMoved_21x mActs mNext mRow mSeen mSeenKind mSeenLift mSeenFlew ((mSeed_21x * 6364136223846793005) + 1442695040888963407) mIsKept mKept) := hD
            refine lv_goto (tgt := 124) hx hb dX12_years_72 (by decide) ?_
            refine lv_iinc (v := (x2_21 + 1)) (lv' := [(2, .int (x2_21 + 1)), (3, .int (Int64.toInt32 ((Int64.toUInt64 ((mSeed_21x * 6364136223846793005) + 1442695040888963407) >>> ((Int32.toInt64 (33 : Int32)).toUInt64 &&& Int64.toUInt64 63)).toInt64 - (Int64.toUInt64 ((mSeed_21x * 6364136223846793005) + 1442695040888963407) >>> ((Int32.toInt64 (33 : Int32)).toUInt64 &&& Int64.toUInt64 63)).toInt64 / 9 * 9))), (0, .ref (a 0)), (1, .int p1)]) hx hb dX12_years_124 hl (k := 1) rfl rfl (by decide) rfl (fun ls hl => ?_)
            refine lv_goto (tgt := 21) hx hb dX12_years_127 (by decide) ?_
            exact ih _ _ _ _ _ _ _ _ h hP hD hS (lv_sub hl [0, 2, 3] rfl) hk
    refine L21 _ _ _ _ _ _ _ _ _ h hP hD hS hl (fun y2_21 mNow_21 mMoved_21 mSeed_21 H locs ls h hP hD hS hl => ?_)
    refine lv_aload_n hx hb dX12_years_130 rfl (lv_at hl 1 rfl) ?_
    refine lv_aload_n hx hb dX12_years_131 rfl (lv_at hl 1 rfl) ?_
    refine lv_iconst (v := 1) hx hb dX12_years_132 (by decide) ?_
    refine lv_bipush (v := 8) hx hb dX12_years_133 (by decide) ?_
    obtain ⟨q4, hq4, h⟩ := bS h
    refine rcI (va_runV (As := [.int 1, .int 8]) (rest := [.ref (a 0)]) ⟨hx, hb, hml, hown, hts⟩ (c_mm_lyingAt l D cI cJ cZ a mPeople mHours mGrains mKind mWind mWeight mSort mOwner mNow_21 mReadKind mReadWind mReadGrain mReadPeople mReadHours mReadGrains mText mLength mAt mFaultAt mMoved_21 mActs mNext mRow mSeen mSeenKind mSeenLift mSeenFlew mSeed_21 mIsKept mKept H hP 1 8 q4 hq4) (cwV 2 hts gX12_years_X12_lyingAt rfl rfl rfl (by decide +kernel) ⟨Nat.le_of_ble_eq_true rfl, Nat.le_of_ble_eq_true rfl⟩) (rPreV hK hP (ci := 5) (q0 := 0) rfl rfl) rfl rfl hl.1 rfl (lv_room (Nat.le_of_ble_eq_true rfl)) dX12_years_135 ⟨Nat.zero_le _, Nat.zero_le _⟩) ?_
    obtain ⟨q5, hq5, h⟩ := bS h
    refine rcI (va_runV (As := [.int q4]) (rest := []) ⟨hx, hb, hml, hown, hts⟩ (c_mm_weighs l D cI cJ cZ a mPeople mHours mGrains mKind mWind mWeight mSort mOwner mNow_21 mReadKind mReadWind mReadGrain mReadPeople mReadHours mReadGrains mText mLength mAt mFaultAt mMoved_21 mActs mNext mRow mSeen mSeenKind mSeenLift mSeenFlew mSeed_21 mIsKept mKept H hP q4 q5 hq5) (cwV 1 hts gX12_years_X12_weighs rfl rfl rfl (by decide +kernel) ⟨Nat.le_of_ble_eq_true rfl, Nat.le_of_ble_eq_true rfl⟩) (rPreV hK hP (ci := 5) (q0 := 0) rfl rfl) rfl rfl hl.1 rfl (lv_room (Nat.le_of_ble_eq_true rfl)) dX12_years_138 ⟨Nat.zero_le _, Nat.zero_le _⟩) ?_
    cases h
    subst hAe
    exact W.iret hx hb hr (fun t ht _ => ⟨⟨_, (), rfl, rfl, by rw [ht]; exact hP, hD⟩, hS.F ht⟩) hS.2.2 dX12_years_141
  · have h := iT c2 h
    refine lv_bipush (v := (-2)) hx hb dX12_years_12 (by decide) ?_
    cases h
    subst hAe
    exact W.iret hx hb hr (fun t ht _ => ⟨⟨_, (), rfl, rfl, by rw [ht]; exact hP, hD⟩, hS.F ht⟩) hS.2.2 dX12_years_14

set_option maxHeartbeats 4000000 in
set_option maxRecDepth 100000 in
theorem c_mm_keep (l : Launch) (D : va_G) (cI cJ cZ : ClassId) (a : Nat → Nat) (mPeople : Int32) (mHours : Int32) (mGrains : Int32) (mKind : Nat → Int32) (mWind : Nat → Int32) (mWeight : Nat → Int32) (mSort : Nat → Int32) (mOwner : Nat → Int32) (mNow : Nat → Int32) (mReadKind : Nat → Int32) (mReadWind : Nat → Int32) (mReadGrain : Nat → Int32) (mReadPeople : Int32) (mReadHours : Int32) (mReadGrains : Int32) (mText : Nat → Int32) (mLength : Int32) (mAt : Int32) (mFaultAt : Int32) (mMoved : Nat → Int32) (mActs : Int32) (mNext : Int32) (mRow : Nat → Int32) (mSeen : Int32) (mSeenKind : Nat → Int32) (mSeenLift : Nat → Int32) (mSeenFlew : Nat → Int32) (mSeed : Int64) (mIsKept : Nat → Int32) (mKept : Nat → Int32)  (sz : Nat) (p1 : Int32) (rv : Int32) (mIsKept_r : Nat → Int32) (mKept_r : Nat → Int32) (h : mm_keep mNow mIsKept mKept p1 = some (rv, mIsKept_r, mKept_r)) : Met l yX12_keep wsX12_keep ({ frames := 1, cells := 0, slots := 0, locals := 25 } : Room) (wPc D cI cJ cZ (mW a cI cZ mPeople mHours mGrains mKind mWind mWeight mSort mOwner mNow mReadKind mReadWind mReadGrain mReadPeople mReadHours mReadGrains mText mLength mAt mFaultAt mMoved mActs mNext mRow mSeen mSeenKind mSeenLift mSeenFlew mSeed mIsKept mKept) sz [.ref (a 0), .int p1]) (wQi D (mW a cI cZ mPeople mHours mGrains mKind mWind mWeight mSort mOwner mNow mReadKind mReadWind mReadGrain mReadPeople mReadHours mReadGrains mText mLength mAt mFaultAt mMoved mActs mNext mRow mSeen mSeenKind mSeenLift mSeenFlew mSeed mIsKept mKept) (mW a cI cZ mPeople mHours mGrains mKind mWind mWeight mSort mOwner mNow mReadKind mReadWind mReadGrain mReadPeople mReadHours mReadGrains mText mLength mAt mFaultAt mMoved mActs mNext mRow mSeen mSeenKind mSeenLift mSeenFlew mSeed mIsKept_r mKept_r) sz rv) 0 0 (va_A (mW a cI cZ mPeople mHours mGrains mKind mWind mWeight mSort mOwner mNow mReadKind mReadWind mReadGrain mReadPeople mReadHours mReadGrains mText mLength mAt mFaultAt mMoved mActs mNext mRow mSeen mSeenKind mSeenLift mSeenFlew mSeed mIsKept mKept) sz) := by
  unfold mm_keep at h
  refine Met.ofW (cc := cX12_keep) (maxL := 3) (ret := (some .int)) (by decide) rfl ?_
  intro p e s m args below meth c s₁ B hml hv
  obtain ⟨rfl, hsz, hP, hK, hD0⟩ := hv
  have hx := B.exec
  have hb := B.bytes
  have hr := B.returns
  have hts := atoms_spec (ws := wsX12_keep) B.pre
  have hown : s.vm.findClass RX12 = some m.cls := findClass_of_methodNamed B.named
  have hlocks := B.notSynchronized
  subst hsz
  have hD := hD0.self (sz := s.heap.size)
  have hA : ∀ q : Nat, s.heap.size ≤ q → va_A (mW a cI cZ mPeople mHours mGrains mKind mWind mWeight mSort mOwner mNow mReadKind mReadWind mReadGrain mReadPeople mReadHours mReadGrains mText mLength mAt mFaultAt mMoved mActs mNext mRow mSeen mSeenKind mSeenLift mSeenFlew mSeed mIsKept mKept) s.heap.size q := fun q h => Or.inr h
  have hS : va_S (va_A (mW a cI cZ mPeople mHours mGrains mKind mWind mWeight mSort mOwner mNow mReadKind mReadWind mReadGrain mReadPeople mReadHours mReadGrains mText mLength mAt mFaultAt mMoved mActs mNext mRow mSeen mSeenKind mSeenLift mSeenFlew mSeed mIsKept mKept) s.heap.size) s.heap s.heap [] := va_S.rf
  obtain ⟨A, hAe⟩ : ∃ A, A = va_A (mW a cI cZ mPeople mHours mGrains mKind mWind mWeight mSort mOwner mNow mReadKind mReadWind mReadGrain mReadPeople mReadHours mReadGrains mText mLength mAt mFaultAt mMoved mActs mNext mRow mSeen mSeenKind mSeenLift mSeenFlew mSeed mIsKept mKept) s.heap.size := ⟨_, rfl⟩
  rw [← hAe] at hD hA hS
  have hl := lv_entry ([.ref (a 0), .int p1]) (n := 3) (Nat.le_of_ble_eq_true rfl)
  rw [lg_entry_eq]
  generalize (lg_sl ([.ref (a 0), .int p1]) ++ List.replicate (3 - (lg_sl ([.ref (a 0), .int p1])).length) Slot.unset).toArray = ls at hl ⊢
  have hl : lv_has ls 3 [(0, .ref (a 0)), (1, .int p1)] := hl
  have hiX12 : ∀ w ∈ u_ws RX12 TX12 30, w ∈ wsX12_keep := fun w hw => List.mem_cons_of_mem _ (List.mem_append_right _ hw)
  refine lv_iload_n hx hb dX12_keep_0 rfl (lv_at hl 1 rfl) ?_
  refine lv_i2l (v := (Int32.toInt64 p1)) hx hb dX12_keep_1 rfl ?_
  refine lv_lconst (v := 0) hx hb dX12_keep_2 (by decide) ?_
  refine lv_lconst (v := 1) hx hb dX12_keep_3 (by decide) ?_
  obtain ⟨q1, hq1, h⟩ := bS h
  refine rcI (va_runS (As := [.long (Int32.toInt64 p1), .long 0, .long 1]) (rest := []) ⟨hx, hb, hml, hown, hts⟩ (c_mm_in l D cI cJ cZ   s.heap (Int32.toInt64 p1) 0 1 q1 hq1) (va_cwS 3 hts gX12_keep_X12_in rfl rfl rfl (by decide +kernel) ⟨Nat.le_of_ble_eq_true rfl, Nat.le_of_ble_eq_true rfl⟩) (rPreS hK) rfl rfl hl.1 rfl (lv_room (Nat.le_of_ble_eq_true rfl)) dX12_keep_4 ⟨Nat.zero_le _, Nat.zero_le _⟩) ?_
  refine lv_if_ne (tgt := 12) hx hb dX12_keep_7 (by decide) (fun c2 => ?_) (fun c2 => ?_)
  · have h := iF c2 h
    refine lv_aload_n hx hb dX12_keep_12 rfl (lv_at hl 0 rfl) ?_
    refine va_get (D := D) (ci := 5) (v := .ref (a 16)) (C := RX12) (T := TX12) (N := 30) hx hb hts hiX12 hown hK.1 hP 0 rfl rfl 28 (by decide) (hts (.fieldLink RX12 55 "WinnowedGuiltModel" "isKept" "[Z") (by decide +kernel)) (fun _ h9 => h9) rfl dX12_keep_13 ?_
    refine lv_iload_n hx hb dX12_keep_16 rfl (lv_at hl 1 rfl) ?_
    refine lv_iconst (v := 1) hx hb dX12_keep_17 (by decide) ?_
    obtain ⟨hi3, h⟩ := gI_some h
    refine va_zast hx hb hK.1 hP hD hS 16 2 rfl rfl hi3 dX12_keep_18 (fun H locs hP hD hS => ?_)
    have hP : va_P D vwCl (mW a cI cZ mPeople mHours mGrains mKind mWind mWeight mSort mOwner mNow mReadKind mReadWind mReadGrain mReadPeople mReadHours mReadGrains mText mLength mAt mFaultAt mMoved mActs mNext mRow mSeen mSeenKind mSeenLift mSeenFlew mSeed (upd mIsKept (Int32.toNatClampNeg p1) 1) mKept) H := hP
    have hD : va_D A (mW a cI cZ mPeople mHours mGrains mKind mWind mWeight mSort mOwner mNow mReadKind mReadWind mReadGrain mReadPeople mReadHours mReadGrains mText mLength mAt mFaultAt mMoved mActs mNext mRow mSeen mSeenKind mSeenLift mSeenFlew mSeed (upd mIsKept (Int32.toNatClampNeg p1) 1) mKept) := hD
    refine lv_iconst (v := 0) hx hb dX12_keep_19 (by decide) ?_
    refine lv_istore_n (lv' := [(2, .int 0), (0, .ref (a 0)), (1, .int p1)]) hx hb dX12_keep_20 rfl hl (by decide) rfl (fun ls hl => ?_)
    have L21 : ∀ (n : Nat) (x2_21 : Int32) (mKept_21x : (Nat → Int32)) (H : Heap) (locs : List Loc) (ls : Array Slot) (kx : Int32 → (Nat → Int32) → Option (Int32 × (Nat → Int32) × (Nat → Int32))), mm_keep_L21 mNow p1 kx n x2_21 mKept_21x = some (rv, mIsKept_r, mKept_r) → va_P D vwCl (mW a cI cZ mPeople mHours mGrains mKind mWind mWeight mSort mOwner mNow mReadKind mReadWind mReadGrain mReadPeople mReadHours mReadGrains mText mLength mAt mFaultAt mMoved mActs mNext mRow mSeen mSeenKind mSeenLift mSeenFlew mSeed (upd mIsKept (Int32.toNatClampNeg p1) 1) mKept_21x) H → va_D A (mW a cI cZ mPeople mHours mGrains mKind mWind mWeight mSort mOwner mNow mReadKind mReadWind mReadGrain mReadPeople mReadHours mReadGrains mText mLength mAt mFaultAt mMoved mActs mNext mRow mSeen mSeenKind mSeenLift mSeenFlew mSeed (upd mIsKept (Int32.toNatClampNeg p1) 1) mKept_21x) → va_S A s.heap H locs → lv_has ls 3 [(2, .int x2_21), (0, .ref (a 0)), (1, .int p1)] → (∀ (y2_21 : Int32) (mKept_21 : (Nat → Int32)) (H : Heap) (locs : List Loc) (ls : Array Slot), kx y2_21 mKept_21 = some (rv, mIsKept_r, mKept_r) → va_P D vwCl (mW a cI cZ mPeople mHours mGrains mKind mWind mWeight mSort mOwner mNow mReadKind mReadWind mReadGrain mReadPeople mReadHours mReadGrains mText mLength mAt mFaultAt mMoved mActs mNext mRow mSeen mSeenKind mSeenLift mSeenFlew mSeed (upd mIsKept (Int32.toNatClampNeg p1) 1) mKept_21) H → va_D A (mW a cI cZ mPeople mHours mGrains mKind mWind mWeight mSort mOwner mNow mReadKind mReadWind mReadGrain mReadPeople mReadHours mReadGrains mText mLength mAt mFaultAt mMoved mActs mNext mRow mSeen mSeenKind mSeenLift mSeenFlew mSeed (upd mIsKept (Int32.toNatClampNeg p1) 1) mKept_21) → va_S A s.heap H locs → lv_has ls 3 [(2, .int y2_21), (0, .ref (a 0)), (1, .int p1)] → W p l e (headSpec wsX12_keep ({ frames := 1, cells := 0, slots := 0, locals := 25 } : Room)).room s m ([.ref (a 0), .int p1] : List Value).toArray below meth c H locs 0 0 (MQ below (wQi D (mW a cI cZ mPeople mHours mGrains mKind mWind mWeight mSort mOwner mNow mReadKind mReadWind mReadGrain mReadPeople mReadHours mReadGrains mText mLength mAt mFaultAt mMoved mActs mNext mRow mSeen mSeenKind mSeenLift mSeenFlew mSeed mIsKept mKept) (mW a cI cZ mPeople mHours mGrains mKind mWind mWeight mSort mOwner mNow mReadKind mReadWind mReadGrain mReadPeople mReadHours mReadGrains mText mLength mAt mFaultAt mMoved mActs mNext mRow mSeen mSeenKind mSeenLift mSeenFlew mSeed mIsKept_r mKept_r) s.heap.size rv) ([.ref (a 0), .int p1] : List Value).toArray s 0 0 (va_A (mW a cI cZ mPeople mHours mGrains mKind mWind mWeight mSort mOwner mNow mReadKind mReadWind mReadGrain mReadPeople mReadHours mReadGrains mText mLength mAt mFaultAt mMoved mActs mNext mRow mSeen mSeenKind mSeenLift mSeenFlew mSeed mIsKept mKept) s.heap.size)) (F0 m 50 ls [])) → W p l e (headSpec wsX12_keep ({ frames := 1, cells := 0, slots := 0, locals := 25 } : Room)).room s m ([.ref (a 0), .int p1] : List Value).toArray below meth c H locs 0 0 (MQ below (wQi D (mW a cI cZ mPeople mHours mGrains mKind mWind mWeight mSort mOwner mNow mReadKind mReadWind mReadGrain mReadPeople mReadHours mReadGrains mText mLength mAt mFaultAt mMoved mActs mNext mRow mSeen mSeenKind mSeenLift mSeenFlew mSeed mIsKept mKept) (mW a cI cZ mPeople mHours mGrains mKind mWind mWeight mSort mOwner mNow mReadKind mReadWind mReadGrain mReadPeople mReadHours mReadGrains mText mLength mAt mFaultAt mMoved mActs mNext mRow mSeen mSeenKind mSeenLift mSeenFlew mSeed mIsKept_r mKept_r) s.heap.size rv) ([.ref (a 0), .int p1] : List Value).toArray s 0 0 (va_A (mW a cI cZ mPeople mHours mGrains mKind mWind mWeight mSort mOwner mNow mReadKind mReadWind mReadGrain mReadPeople mReadHours mReadGrains mText mLength mAt mFaultAt mMoved mActs mNext mRow mSeen mSeenKind mSeenLift mSeenFlew mSeed mIsKept mKept) s.heap.size)) (F0 m 21 ls []) := by
      intro n
      induction n with
      | zero => intro _ _ _ _ _ _ h; rw [mm_keep_L21.eq_1] at h; cases h
      | succ n ih =>
        intro x2_21 mKept_21x H locs ls kx h hP hD hS hl hk
        rw [mm_keep_L21.eq_2] at h
        refine lv_iload_n hx hb dX12_keep_21 rfl (lv_at hl 0 rfl) ?_
        refine lv_bipush (v := 9) hx hb dX12_keep_22 (by decide) ?_
        refine lv_icmp_ge (tgt := 50) hx hb dX12_keep_24 (by decide) (fun c4 => ?_) (fun c4 => ?_)
        · have h := iT c4 h
          exact hk _ _ _ _ _ h hP hD hS (lv_sub hl [0, 1, 2] rfl)
        · have h := iF c4 h
          refine lv_aload_n hx hb dX12_keep_27 rfl (lv_at hl 1 rfl) ?_
          refine va_get (D := D) (ci := 5) (v := .ref (a 17)) (C := RX12) (T := TX12) (N := 30) hx hb hts hiX12 hown hK.1 hP 0 rfl rfl 29 (by decide) (hts (.fieldLink RX12 59 "WinnowedGuiltModel" "kept" "[I") (by decide +kernel)) (fun _ h9 => h9) rfl dX12_keep_28 ?_
          refine lv_bipush (v := 9) hx hb dX12_keep_31 (by decide) ?_
          refine lv_iload_n hx hb dX12_keep_33 rfl (lv_at hl 2 rfl) ?_
          refine lv_imul hx hb dX12_keep_34 ?_
          refine lv_iload_n hx hb dX12_keep_35 rfl (lv_at hl 0 rfl) ?_
          refine lv_iadd hx hb dX12_keep_36 ?_
          refine lv_aload_n hx hb dX12_keep_37 rfl (lv_at hl 1 rfl) ?_
          refine va_get (D := D) (ci := 5) (v := .ref (a 6)) (C := RX12) (T := TX12) (N := 30) hx hb hts hiX12 hown hK.1 hP 0 rfl rfl 8 (by decide) (hts (.fieldLink RX12 25 "WinnowedGuiltModel" "now" "[I") (by decide +kernel)) (fun _ h9 => h9) rfl dX12_keep_38 ?_
          refine lv_iload_n hx hb dX12_keep_41 rfl (lv_at hl 0 rfl) ?_
          obtain ⟨hi5, h⟩ := gI_some h
          refine ldI (v := (mNow (Int32.toNatClampNeg x2_21))) hx hb hK.1 hP 6 rfl rfl hi5 rfl dX12_keep_42 ?_
          obtain ⟨hi6, h⟩ := gI_some h
          refine va_iast hx hb hK.1 hP hD hS 17 0 rfl rfl hi6 dX12_keep_43 (fun H locs hP hD hS => ?_)
          have hP : va_P D vwCl (mW a cI cZ mPeople mHours mGrains mKind mWind mWeight mSort mOwner mNow mReadKind mReadWind mReadGrain mReadPeople mReadHours mReadGrains mText mLength mAt mFaultAt mMoved mActs mNext mRow mSeen mSeenKind mSeenLift mSeenFlew mSeed (upd mIsKept (Int32.toNatClampNeg p1) 1) (upd mKept_21x (Int32.toNatClampNeg ((9 * p1) + x2_21)) (mNow (Int32.toNatClampNeg x2_21)))) H := hP
          have hD : va_D A (mW a cI cZ mPeople mHours mGrains mKind mWind mWeight mSort mOwner mNow mReadKind mReadWind mReadGrain mReadPeople mReadHours mReadGrains mText mLength mAt mFaultAt mMoved mActs mNext mRow mSeen mSeenKind mSeenLift mSeenFlew mSeed (upd mIsKept (Int32.toNatClampNeg p1) 1) (upd mKept_21x (Int32.toNatClampNeg ((9 * p1) + x2_21)) (mNow (Int32.toNatClampNeg x2_21)))) := hD
          refine lv_iinc (v := (x2_21 + 1)) (lv' := [(2, .int (x2_21 + 1)), (0, .ref (a 0)), (1, .int p1)]) hx hb dX12_keep_44 hl (k := 0) rfl rfl (by decide) rfl (fun ls hl => ?_)
          refine lv_goto (tgt := 21) hx hb dX12_keep_47 (by decide) ?_
          exact ih _ _ _ _ _ _ h hP hD hS (lv_sub hl [0, 1, 2] rfl) hk
    refine L21 _ _ _ _ _ _ _ h hP hD hS hl (fun y2_21 mKept_21 H locs ls h hP hD hS hl => ?_)
    refine lv_aload_n hx hb dX12_keep_50 rfl (lv_at hl 1 rfl) ?_
    refine va_get (D := D) (ci := 5) (v := .ref (a 6)) (C := RX12) (T := TX12) (N := 30) hx hb hts hiX12 hown hK.1 hP 0 rfl rfl 8 (by decide) (hts (.fieldLink RX12 25 "WinnowedGuiltModel" "now" "[I") (by decide +kernel)) (fun _ h9 => h9) rfl dX12_keep_51 ?_
    refine lv_bipush (v := 8) hx hb dX12_keep_54 (by decide) ?_
    refine ldI (v := (mNow 8)) hx hb hK.1 hP 6 rfl rfl (ixOk_in (by decide)) rfl dX12_keep_56 ?_
    cases h
    subst hAe
    exact W.iret hx hb hr (fun t ht _ => ⟨⟨_, (), rfl, rfl, by rw [ht]; exact hP, hD⟩, hS.F ht⟩) hS.2.2 dX12_keep_57
  · have h := iT c2 h
    refine lv_iconst (v := (-1)) hx hb dX12_keep_10 (by decide) ?_
    cases h
    subst hAe
    exact W.iret hx hb hr (fun t ht _ => ⟨⟨_, (), rfl, rfl, by rw [ht]; exact hP, hD⟩, hS.F ht⟩) hS.2.2 dX12_keep_11

set_option maxHeartbeats 4000000 in
set_option maxRecDepth 100000 in
theorem c_mm_again (l : Launch) (D : va_G) (cI cJ cZ : ClassId) (a : Nat → Nat) (mPeople : Int32) (mHours : Int32) (mGrains : Int32) (mKind : Nat → Int32) (mWind : Nat → Int32) (mWeight : Nat → Int32) (mSort : Nat → Int32) (mOwner : Nat → Int32) (mNow : Nat → Int32) (mReadKind : Nat → Int32) (mReadWind : Nat → Int32) (mReadGrain : Nat → Int32) (mReadPeople : Int32) (mReadHours : Int32) (mReadGrains : Int32) (mText : Nat → Int32) (mLength : Int32) (mAt : Int32) (mFaultAt : Int32) (mMoved : Nat → Int32) (mActs : Int32) (mNext : Int32) (mRow : Nat → Int32) (mSeen : Int32) (mSeenKind : Nat → Int32) (mSeenLift : Nat → Int32) (mSeenFlew : Nat → Int32) (mSeed : Int64) (mIsKept : Nat → Int32) (mKept : Nat → Int32)  (sz : Nat) (p1 : Int32) (rv : Int32) (mNow_r : Nat → Int32) (mActs_r : Int32) (h : mm_again mNow mActs mIsKept mKept p1 = some (rv, mNow_r, mActs_r)) : Met l yX12_again wsX12_again ({ frames := 1, cells := 0, slots := 0, locals := 25 } : Room) (wPc D cI cJ cZ (mW a cI cZ mPeople mHours mGrains mKind mWind mWeight mSort mOwner mNow mReadKind mReadWind mReadGrain mReadPeople mReadHours mReadGrains mText mLength mAt mFaultAt mMoved mActs mNext mRow mSeen mSeenKind mSeenLift mSeenFlew mSeed mIsKept mKept) sz [.ref (a 0), .int p1]) (wQi D (mW a cI cZ mPeople mHours mGrains mKind mWind mWeight mSort mOwner mNow mReadKind mReadWind mReadGrain mReadPeople mReadHours mReadGrains mText mLength mAt mFaultAt mMoved mActs mNext mRow mSeen mSeenKind mSeenLift mSeenFlew mSeed mIsKept mKept) (mW a cI cZ mPeople mHours mGrains mKind mWind mWeight mSort mOwner mNow_r mReadKind mReadWind mReadGrain mReadPeople mReadHours mReadGrains mText mLength mAt mFaultAt mMoved mActs_r mNext mRow mSeen mSeenKind mSeenLift mSeenFlew mSeed mIsKept mKept) sz rv) 0 0 (va_A (mW a cI cZ mPeople mHours mGrains mKind mWind mWeight mSort mOwner mNow mReadKind mReadWind mReadGrain mReadPeople mReadHours mReadGrains mText mLength mAt mFaultAt mMoved mActs mNext mRow mSeen mSeenKind mSeenLift mSeenFlew mSeed mIsKept mKept) sz) := by
  unfold mm_again at h
  refine Met.ofW (cc := cX12_again) (maxL := 3) (ret := (some .int)) (by decide) rfl ?_
  intro p e s m args below meth c s₁ B hml hv
  obtain ⟨rfl, hsz, hP, hK, hD0⟩ := hv
  have hx := B.exec
  have hb := B.bytes
  have hr := B.returns
  have hts := atoms_spec (ws := wsX12_again) B.pre
  have hown : s.vm.findClass RX12 = some m.cls := findClass_of_methodNamed B.named
  have hlocks := B.notSynchronized
  subst hsz
  have hD := hD0.self (sz := s.heap.size)
  have hA : ∀ q : Nat, s.heap.size ≤ q → va_A (mW a cI cZ mPeople mHours mGrains mKind mWind mWeight mSort mOwner mNow mReadKind mReadWind mReadGrain mReadPeople mReadHours mReadGrains mText mLength mAt mFaultAt mMoved mActs mNext mRow mSeen mSeenKind mSeenLift mSeenFlew mSeed mIsKept mKept) s.heap.size q := fun q h => Or.inr h
  have hS : va_S (va_A (mW a cI cZ mPeople mHours mGrains mKind mWind mWeight mSort mOwner mNow mReadKind mReadWind mReadGrain mReadPeople mReadHours mReadGrains mText mLength mAt mFaultAt mMoved mActs mNext mRow mSeen mSeenKind mSeenLift mSeenFlew mSeed mIsKept mKept) s.heap.size) s.heap s.heap [] := va_S.rf
  obtain ⟨A, hAe⟩ : ∃ A, A = va_A (mW a cI cZ mPeople mHours mGrains mKind mWind mWeight mSort mOwner mNow mReadKind mReadWind mReadGrain mReadPeople mReadHours mReadGrains mText mLength mAt mFaultAt mMoved mActs mNext mRow mSeen mSeenKind mSeenLift mSeenFlew mSeed mIsKept mKept) s.heap.size := ⟨_, rfl⟩
  rw [← hAe] at hD hA hS
  have hl := lv_entry ([.ref (a 0), .int p1]) (n := 3) (Nat.le_of_ble_eq_true rfl)
  rw [lg_entry_eq]
  generalize (lg_sl ([.ref (a 0), .int p1]) ++ List.replicate (3 - (lg_sl ([.ref (a 0), .int p1])).length) Slot.unset).toArray = ls at hl ⊢
  have hl : lv_has ls 3 [(0, .ref (a 0)), (1, .int p1)] := hl
  have hiX12 : ∀ w ∈ u_ws RX12 TX12 30, w ∈ wsX12_again := fun w hw => List.mem_cons_of_mem _ (List.mem_append_right _ hw)
  refine lv_iload_n hx hb dX12_again_0 rfl (lv_at hl 1 rfl) ?_
  refine lv_i2l (v := (Int32.toInt64 p1)) hx hb dX12_again_1 rfl ?_
  refine lv_lconst (v := 0) hx hb dX12_again_2 (by decide) ?_
  refine lv_lconst (v := 1) hx hb dX12_again_3 (by decide) ?_
  obtain ⟨q1, hq1, h⟩ := bS h
  refine rcI (va_runS (As := [.long (Int32.toInt64 p1), .long 0, .long 1]) (rest := []) ⟨hx, hb, hml, hown, hts⟩ (c_mm_in l D cI cJ cZ   s.heap (Int32.toInt64 p1) 0 1 q1 hq1) (va_cwS 3 hts gX12_again_X12_in rfl rfl rfl (by decide +kernel) ⟨Nat.le_of_ble_eq_true rfl, Nat.le_of_ble_eq_true rfl⟩) (rPreS hK) rfl rfl hl.1 rfl (lv_room (Nat.le_of_ble_eq_true rfl)) dX12_again_4 ⟨Nat.zero_le _, Nat.zero_le _⟩) ?_
  refine lv_if_ne (tgt := 12) hx hb dX12_again_7 (by decide) (fun c2 => ?_) (fun c2 => ?_)
  · have h := iF c2 h
    refine lv_aload_n hx hb dX12_again_12 rfl (lv_at hl 0 rfl) ?_
    refine va_get (D := D) (ci := 5) (v := .ref (a 16)) (C := RX12) (T := TX12) (N := 30) hx hb hts hiX12 hown hK.1 hP 0 rfl rfl 28 (by decide) (hts (.fieldLink RX12 55 "WinnowedGuiltModel" "isKept" "[Z") (by decide +kernel)) (fun _ h9 => h9) rfl dX12_again_13 ?_
    refine lv_iload_n hx hb dX12_again_16 rfl (lv_at hl 1 rfl) ?_
    obtain ⟨hi3, h⟩ := gI_some h
    refine ldZ (v := (mIsKept (Int32.toNatClampNeg p1))) hx hb hK.1 hP 16 rfl rfl hi3 rfl dX12_again_17 ?_
    refine lv_if_ne (tgt := 24) hx hb dX12_again_18 (by decide) (fun c4 => ?_) (fun c4 => ?_)
    · have h := iF c4 h
      refine lv_iconst (v := 0) hx hb dX12_again_24 (by decide) ?_
      refine lv_istore_n (lv' := [(2, .int 0), (0, .ref (a 0)), (1, .int p1)]) hx hb dX12_again_25 rfl hl (by decide) rfl (fun ls hl => ?_)
      have L26 : ∀ (n : Nat) (x2_26 : Int32) (mNow_26x : (Nat → Int32)) (H : Heap) (locs : List Loc) (ls : Array Slot) (kx : Int32 → (Nat → Int32) → Option (Int32 × (Nat → Int32) × (Int32))), mm_again_L26 mKept p1 kx n x2_26 mNow_26x = some (rv, mNow_r, mActs_r) → va_P D vwCl (mW a cI cZ mPeople mHours mGrains mKind mWind mWeight mSort mOwner mNow_26x mReadKind mReadWind mReadGrain mReadPeople mReadHours mReadGrains mText mLength mAt mFaultAt mMoved mActs mNext mRow mSeen mSeenKind mSeenLift mSeenFlew mSeed mIsKept mKept) H → va_D A (mW a cI cZ mPeople mHours mGrains mKind mWind mWeight mSort mOwner mNow_26x mReadKind mReadWind mReadGrain mReadPeople mReadHours mReadGrains mText mLength mAt mFaultAt mMoved mActs mNext mRow mSeen mSeenKind mSeenLift mSeenFlew mSeed mIsKept mKept) → va_S A s.heap H locs → lv_has ls 3 [(2, .int x2_26), (0, .ref (a 0)), (1, .int p1)] → (∀ (y2_26 : Int32) (mNow_26 : (Nat → Int32)) (H : Heap) (locs : List Loc) (ls : Array Slot), kx y2_26 mNow_26 = some (rv, mNow_r, mActs_r) → va_P D vwCl (mW a cI cZ mPeople mHours mGrains mKind mWind mWeight mSort mOwner mNow_26 mReadKind mReadWind mReadGrain mReadPeople mReadHours mReadGrains mText mLength mAt mFaultAt mMoved mActs mNext mRow mSeen mSeenKind mSeenLift mSeenFlew mSeed mIsKept mKept) H → va_D A (mW a cI cZ mPeople mHours mGrains mKind mWind mWeight mSort mOwner mNow_26 mReadKind mReadWind mReadGrain mReadPeople mReadHours mReadGrains mText mLength mAt mFaultAt mMoved mActs mNext mRow mSeen mSeenKind mSeenLift mSeenFlew mSeed mIsKept mKept) → va_S A s.heap H locs → lv_has ls 3 [(2, .int y2_26), (0, .ref (a 0)), (1, .int p1)] → W p l e (headSpec wsX12_again ({ frames := 1, cells := 0, slots := 0, locals := 25 } : Room)).room s m ([.ref (a 0), .int p1] : List Value).toArray below meth c H locs 0 0 (MQ below (wQi D (mW a cI cZ mPeople mHours mGrains mKind mWind mWeight mSort mOwner mNow mReadKind mReadWind mReadGrain mReadPeople mReadHours mReadGrains mText mLength mAt mFaultAt mMoved mActs mNext mRow mSeen mSeenKind mSeenLift mSeenFlew mSeed mIsKept mKept) (mW a cI cZ mPeople mHours mGrains mKind mWind mWeight mSort mOwner mNow_r mReadKind mReadWind mReadGrain mReadPeople mReadHours mReadGrains mText mLength mAt mFaultAt mMoved mActs_r mNext mRow mSeen mSeenKind mSeenLift mSeenFlew mSeed mIsKept mKept) s.heap.size rv) ([.ref (a 0), .int p1] : List Value).toArray s 0 0 (va_A (mW a cI cZ mPeople mHours mGrains mKind mWind mWeight mSort mOwner mNow mReadKind mReadWind mReadGrain mReadPeople mReadHours mReadGrains mText mLength mAt mFaultAt mMoved mActs mNext mRow mSeen mSeenKind mSeenLift mSeenFlew mSeed mIsKept mKept) s.heap.size)) (F0 m 55 ls [])) → W p l e (headSpec wsX12_again ({ frames := 1, cells := 0, slots := 0, locals := 25 } : Room)).room s m ([.ref (a 0), .int p1] : List Value).toArray below meth c H locs 0 0 (MQ below (wQi D (mW a cI cZ mPeople mHours mGrains mKind mWind mWeight mSort mOwner mNow mReadKind mReadWind mReadGrain mReadPeople mReadHours mReadGrains mText mLength mAt mFaultAt mMoved mActs mNext mRow mSeen mSeenKind mSeenLift mSeenFlew mSeed mIsKept mKept) (mW a cI cZ mPeople mHours mGrains mKind mWind mWeight mSort mOwner mNow_r mReadKind mReadWind mReadGrain mReadPeople mReadHours mReadGrains mText mLength mAt mFaultAt mMoved mActs_r mNext mRow mSeen mSeenKind mSeenLift mSeenFlew mSeed mIsKept mKept) s.heap.size rv) ([.ref (a 0), .int p1] : List Value).toArray s 0 0 (va_A (mW a cI cZ mPeople mHours mGrains mKind mWind mWeight mSort mOwner mNow mReadKind mReadWind mReadGrain mReadPeople mReadHours mReadGrains mText mLength mAt mFaultAt mMoved mActs mNext mRow mSeen mSeenKind mSeenLift mSeenFlew mSeed mIsKept mKept) s.heap.size)) (F0 m 26 ls []) := by
        intro n
        induction n with
        | zero => intro _ _ _ _ _ _ h; rw [mm_again_L26.eq_1] at h; cases h
        | succ n ih =>
          intro x2_26 mNow_26x H locs ls kx h hP hD hS hl hk
          rw [mm_again_L26.eq_2] at h
          refine lv_iload_n hx hb dX12_again_26 rfl (lv_at hl 0 rfl) ?_
          refine lv_bipush (v := 9) hx hb dX12_again_27 (by decide) ?_
          refine lv_icmp_ge (tgt := 55) hx hb dX12_again_29 (by decide) (fun c5 => ?_) (fun c5 => ?_)
          · have h := iT c5 h
            exact hk _ _ _ _ _ h hP hD hS (lv_sub hl [0, 1, 2] rfl)
          · have h := iF c5 h
            refine lv_aload_n hx hb dX12_again_32 rfl (lv_at hl 1 rfl) ?_
            refine va_get (D := D) (ci := 5) (v := .ref (a 6)) (C := RX12) (T := TX12) (N := 30) hx hb hts hiX12 hown hK.1 hP 0 rfl rfl 8 (by decide) (hts (.fieldLink RX12 25 "WinnowedGuiltModel" "now" "[I") (by decide +kernel)) (fun _ h9 => h9) rfl dX12_again_33 ?_
            refine lv_iload_n hx hb dX12_again_36 rfl (lv_at hl 0 rfl) ?_
            refine lv_aload_n hx hb dX12_again_37 rfl (lv_at hl 1 rfl) ?_
            refine va_get (D := D) (ci := 5) (v := .ref (a 17)) (C := RX12) (T := TX12) (N := 30) hx hb hts hiX12 hown hK.1 hP 0 rfl rfl 29 (by decide) (hts (.fieldLink RX12 59 "WinnowedGuiltModel" "kept" "[I") (by decide +kernel)) (fun _ h9 => h9) rfl dX12_again_38 ?_
            refine lv_bipush (v := 9) hx hb dX12_again_41 (by decide) ?_
            refine lv_iload_n hx hb dX12_again_43 rfl (lv_at hl 2 rfl) ?_
            refine lv_imul hx hb dX12_again_44 ?_
            refine lv_iload_n hx hb dX12_again_45 rfl (lv_at hl 0 rfl) ?_
            refine lv_iadd hx hb dX12_again_46 ?_
            obtain ⟨hi6, h⟩ := gI_some h
            refine ldI (v := (mKept (Int32.toNatClampNeg ((9 * p1) + x2_26)))) hx hb hK.1 hP 17 rfl rfl hi6 rfl dX12_again_47 ?_
            obtain ⟨hi7, h⟩ := gI_some h
            refine va_iast hx hb hK.1 hP hD hS 6 0 rfl rfl hi7 dX12_again_48 (fun H locs hP hD hS => ?_)
            have hP : va_P D vwCl (mW a cI cZ mPeople mHours mGrains mKind mWind mWeight mSort mOwner (upd mNow_26x (Int32.toNatClampNeg x2_26) (mKept (Int32.toNatClampNeg ((9 * p1) + x2_26)))) mReadKind mReadWind mReadGrain mReadPeople mReadHours mReadGrains mText mLength mAt mFaultAt mMoved mActs mNext mRow mSeen mSeenKind mSeenLift mSeenFlew mSeed mIsKept mKept) H := hP
            have hD : va_D A (mW a cI cZ mPeople mHours mGrains mKind mWind mWeight mSort mOwner (upd mNow_26x (Int32.toNatClampNeg x2_26) (mKept (Int32.toNatClampNeg ((9 * p1) + x2_26)))) mReadKind mReadWind mReadGrain mReadPeople mReadHours mReadGrains mText mLength mAt mFaultAt mMoved mActs mNext mRow mSeen mSeenKind mSeenLift mSeenFlew mSeed mIsKept mKept) := hD
            refine lv_iinc (v := (x2_26 + 1)) (lv' := [(2, .int (x2_26 + 1)), (0, .ref (a 0)), (1, .int p1)]) hx hb dX12_again_49 hl (k := 0) rfl rfl (by decide) rfl (fun ls hl => ?_)
            refine lv_goto (tgt := 26) hx hb dX12_again_52 (by decide) ?_
            exact ih _ _ _ _ _ _ h hP hD hS (lv_sub hl [0, 1, 2] rfl) hk
      refine L26 _ _ _ _ _ _ _ h hP hD hS hl (fun y2_26 mNow_26 H locs ls h hP hD hS hl => ?_)
      refine lv_aload_n hx hb dX12_again_55 rfl (lv_at hl 1 rfl) ?_
      refine lv_iconst (v := 0) hx hb dX12_again_56 (by decide) ?_
      refine va_put (D := D) (ci := 5) (v := .int 0) (ty := .int) (C := RX12) (T := TX12) (N := 30) hx hb hts hiX12 tyX12 tyX12_ok nmX12 hown hK.1 hP hD hS 0 rfl rfl 20 (by decide) (hts (.fieldLink RX12 108 "WinnowedGuiltModel" "acts" "I") (by decide +kernel)) (fun _ h9 => h9) rfl (by decide +kernel) rfl rfl (Nat.le_of_ble_eq_true rfl) dX12_again_57 (fun H locs hP hD hS => ?_)
      have hP : va_P D vwCl (mW a cI cZ mPeople mHours mGrains mKind mWind mWeight mSort mOwner mNow_26 mReadKind mReadWind mReadGrain mReadPeople mReadHours mReadGrains mText mLength mAt mFaultAt mMoved 0 mNext mRow mSeen mSeenKind mSeenLift mSeenFlew mSeed mIsKept mKept) H := hP
      have hD : va_D A (mW a cI cZ mPeople mHours mGrains mKind mWind mWeight mSort mOwner mNow_26 mReadKind mReadWind mReadGrain mReadPeople mReadHours mReadGrains mText mLength mAt mFaultAt mMoved 0 mNext mRow mSeen mSeenKind mSeenLift mSeenFlew mSeed mIsKept mKept) := hD
      refine lv_aload_n hx hb dX12_again_60 rfl (lv_at hl 1 rfl) ?_
      refine va_get (D := D) (ci := 5) (v := .ref (a 6)) (C := RX12) (T := TX12) (N := 30) hx hb hts hiX12 hown hK.1 hP 0 rfl rfl 8 (by decide) (hts (.fieldLink RX12 25 "WinnowedGuiltModel" "now" "[I") (by decide +kernel)) (fun _ h9 => h9) rfl dX12_again_61 ?_
      refine lv_bipush (v := 8) hx hb dX12_again_64 (by decide) ?_
      refine ldI (v := (mNow_26 8)) hx hb hK.1 hP 6 rfl rfl (ixOk_in (by decide)) rfl dX12_again_66 ?_
      cases h
      subst hAe
      exact W.iret hx hb hr (fun t ht _ => ⟨⟨_, (), rfl, rfl, by rw [ht]; exact hP, hD⟩, hS.F ht⟩) hS.2.2 dX12_again_67
    · have h := iT c4 h
      refine lv_bipush (v := (-3)) hx hb dX12_again_21 (by decide) ?_
      cases h
      subst hAe
      exact W.iret hx hb hr (fun t ht _ => ⟨⟨_, (), rfl, rfl, by rw [ht]; exact hP, hD⟩, hS.F ht⟩) hS.2.2 dX12_again_23
  · have h := iT c2 h
    refine lv_iconst (v := (-1)) hx hb dX12_again_10 (by decide) ?_
    cases h
    subst hAe
    exact W.iret hx hb hr (fun t ht _ => ⟨⟨_, (), rfl, rfl, by rw [ht]; exact hP, hD⟩, hS.F ht⟩) hS.2.2 dX12_again_11

set_option maxHeartbeats 4000000 in
set_option maxRecDepth 100000 in
theorem c_mm_cleanOnes (l : Launch) (D : va_G) (cI cJ cZ : ClassId) (a : Nat → Nat) (mPeople : Int32) (mHours : Int32) (mGrains : Int32) (mKind : Nat → Int32) (mWind : Nat → Int32) (mWeight : Nat → Int32) (mSort : Nat → Int32) (mOwner : Nat → Int32) (mNow : Nat → Int32) (mReadKind : Nat → Int32) (mReadWind : Nat → Int32) (mReadGrain : Nat → Int32) (mReadPeople : Int32) (mReadHours : Int32) (mReadGrains : Int32) (mText : Nat → Int32) (mLength : Int32) (mAt : Int32) (mFaultAt : Int32) (mMoved : Nat → Int32) (mActs : Int32) (mNext : Int32) (mRow : Nat → Int32) (mSeen : Int32) (mSeenKind : Nat → Int32) (mSeenLift : Nat → Int32) (mSeenFlew : Nat → Int32) (mSeed : Int64) (mIsKept : Nat → Int32) (mKept : Nat → Int32)  (H0 : Heap) (hP : va_P D vwCl (mW a cI cZ mPeople mHours mGrains mKind mWind mWeight mSort mOwner mNow mReadKind mReadWind mReadGrain mReadPeople mReadHours mReadGrains mText mLength mAt mFaultAt mMoved mActs mNext mRow mSeen mSeenKind mSeenLift mSeenFlew mSeed mIsKept mKept) H0)  (rv : Int32) (h : mm_cleanOnes mPeople mGrains mOwner mNow = some rv) : Met l yX12_cleanOnes wsX12_cleanOnes ({ frames := 2, cells := 0, slots := 0, locals := 46 } : Room) (rPc D cI cJ cZ H0 [.ref (a 0)]) (vp_Si (fun r => r = rv)) 0 0 (fun _ => False) := by
  unfold mm_cleanOnes at h
  refine Met.ofW (cc := cX12_cleanOnes) (maxL := 3) (ret := (some .int)) (by decide) rfl ?_
  intro p e s m args below meth c s₁ B hml hv
  obtain ⟨rfl, hH, hK⟩ := hv
  have hx := B.exec
  have hb := B.bytes
  have hr := B.returns
  have hts := atoms_spec (ws := wsX12_cleanOnes) B.pre
  have hown : s.vm.findClass RX12 = some m.cls := findClass_of_methodNamed B.named
  have hlocks := B.notSynchronized
  subst hH
  have hl := lv_entry ([.ref (a 0)]) (n := 3) (Nat.le_of_ble_eq_true rfl)
  rw [lg_entry_eq]
  generalize (lg_sl ([.ref (a 0)]) ++ List.replicate (3 - (lg_sl ([.ref (a 0)])).length) Slot.unset).toArray = ls at hl ⊢
  have hl : lv_has ls 3 [(0, .ref (a 0))] := hl
  have hiX12 : ∀ w ∈ u_ws RX12 TX12 30, w ∈ wsX12_cleanOnes := fun w hw => List.mem_cons_of_mem _ (List.mem_append_right _ hw)
  refine lv_iconst (v := 0) hx hb dX12_cleanOnes_0 (by decide) ?_
  refine lv_istore_n (lv' := [(1, .int 0), (0, .ref (a 0))]) hx hb dX12_cleanOnes_1 rfl hl (by decide) rfl (fun ls hl => ?_)
  refine lv_iconst (v := 0) hx hb dX12_cleanOnes_2 (by decide) ?_
  refine lv_istore_n (lv' := [(2, .int 0), (1, .int 0), (0, .ref (a 0))]) hx hb dX12_cleanOnes_3 rfl hl (by decide) rfl (fun ls hl => ?_)
  have L4 : ∀ (n : Nat) (x2_4 : Int32) (x1_4 : Int32) (ls : Array Slot) (kx : Int32 → Int32 → Option (Int32)), mm_cleanOnes_L4 mPeople mGrains mOwner mNow kx n x2_4 x1_4 = some rv → lv_has ls 3 [(2, .int x2_4), (1, .int x1_4), (0, .ref (a 0))] → (∀ (y2_4 : Int32) (y1_4 : Int32) (ls : Array Slot), kx y2_4 y1_4 = some rv → lv_has ls 3 [(2, .int y2_4), (1, .int y1_4), (0, .ref (a 0))] → W p l e (headSpec wsX12_cleanOnes ({ frames := 2, cells := 0, slots := 0, locals := 46 } : Room)).room s m ([.ref (a 0)] : List Value).toArray below meth c s.heap [] 0 0 (MQ below (vp_Si (fun r => r = rv)) ([.ref (a 0)] : List Value).toArray s 0 0 (fun _ => False)) (F0 m 37 ls [])) → W p l e (headSpec wsX12_cleanOnes ({ frames := 2, cells := 0, slots := 0, locals := 46 } : Room)).room s m ([.ref (a 0)] : List Value).toArray below meth c s.heap [] 0 0 (MQ below (vp_Si (fun r => r = rv)) ([.ref (a 0)] : List Value).toArray s 0 0 (fun _ => False)) (F0 m 4 ls []) := by
    intro n
    induction n with
    | zero => intro _ _ _ _ h; rw [mm_cleanOnes_L4.eq_1] at h; cases h
    | succ n ih =>
      intro x2_4 x1_4 ls kx h hl hk
      rw [mm_cleanOnes_L4.eq_2] at h
      refine lv_iload_n hx hb dX12_cleanOnes_4 rfl (lv_at hl 0 rfl) ?_
      refine lv_aload_n hx hb dX12_cleanOnes_5 rfl (lv_at hl 2 rfl) ?_
      refine va_get (D := D) (ci := 5) (v := .int mPeople) (C := RX12) (T := TX12) (N := 30) hx hb hts hiX12 hown hK.1 hP 0 rfl rfl 0 (by decide) (hts (.fieldLink RX12 99 "WinnowedGuiltModel" "people" "I") (by decide +kernel)) (fun _ h9 => h9) rfl dX12_cleanOnes_6 ?_
      refine lv_icmp_ge (tgt := 37) hx hb dX12_cleanOnes_9 (by decide) (fun c1 => ?_) (fun c1 => ?_)
      · have h := iT c1 h
        exact hk _ _ _ h (lv_sub hl [0, 1, 2] rfl)
      · have h := iF c1 h
        refine lv_iload_n hx hb dX12_cleanOnes_12 rfl (lv_at hl 1 rfl) ?_
        refine lv_aload_n hx hb dX12_cleanOnes_13 rfl (lv_at hl 2 rfl) ?_
        refine lv_iconst (v := 0) hx hb dX12_cleanOnes_14 (by decide) ?_
        refine lv_iload_n hx hb dX12_cleanOnes_15 rfl (lv_at hl 0 rfl) ?_
        obtain ⟨q2, hq2, h⟩ := bS h
        refine rcI (va_runV (As := [.int 0, .int x2_4]) (rest := [.int x1_4]) ⟨hx, hb, hml, hown, hts⟩ (c_mm_isClean l D cI cJ cZ a mPeople mHours mGrains mKind mWind mWeight mSort mOwner mNow mReadKind mReadWind mReadGrain mReadPeople mReadHours mReadGrains mText mLength mAt mFaultAt mMoved mActs mNext mRow mSeen mSeenKind mSeenLift mSeenFlew mSeed mIsKept mKept s.heap hP 0 x2_4 q2 hq2) (cwV 2 hts gX12_cleanOnes_X12_isClean rfl rfl rfl (by decide +kernel) ⟨Nat.le_of_ble_eq_true rfl, Nat.le_of_ble_eq_true rfl⟩) (rPreV hK hP (ci := 5) (q0 := 0) rfl rfl) rfl rfl hl.1 rfl (lv_room (Nat.le_of_ble_eq_true rfl)) dX12_cleanOnes_16 ⟨Nat.zero_le _, Nat.zero_le _⟩) ?_
        refine lv_if_eq (tgt := 28) hx hb dX12_cleanOnes_19 (by decide) (fun c3 => ?_) (fun c3 => ?_)
        · have h := iT c3 h
          refine lv_iconst (v := 0) hx hb dX12_cleanOnes_28 (by decide) ?_
          refine lv_ior hx hb dX12_cleanOnes_29 ?_
          refine lv_istore_n (lv' := [(1, .int (x1_4 ||| 0)), (2, .int x2_4), (0, .ref (a 0))]) hx hb dX12_cleanOnes_30 rfl hl (by decide) rfl (fun ls hl => ?_)
          refine lv_iinc (v := (x2_4 + 1)) (lv' := [(2, .int (x2_4 + 1)), (1, .int (x1_4 ||| 0)), (0, .ref (a 0))]) hx hb dX12_cleanOnes_31 hl (k := 1) rfl rfl (by decide) rfl (fun ls hl => ?_)
          refine lv_goto (tgt := 4) hx hb dX12_cleanOnes_34 (by decide) ?_
          exact ih _ _ _ _ h (lv_sub hl [0, 1, 2] rfl) hk
        · have h := iF c3 h
          refine lv_iconst (v := 1) hx hb dX12_cleanOnes_22 (by decide) ?_
          refine lv_iload_n hx hb dX12_cleanOnes_23 rfl (lv_at hl 0 rfl) ?_
          refine lv_ishl hx hb dX12_cleanOnes_24 ?_
          refine lv_goto (tgt := 29) hx hb dX12_cleanOnes_25 (by decide) ?_
          refine lv_ior hx hb dX12_cleanOnes_29 ?_
          refine lv_istore_n (lv' := [(1, .int (x1_4 ||| (1 <<< (x2_4 &&& 31)))), (2, .int x2_4), (0, .ref (a 0))]) hx hb dX12_cleanOnes_30 rfl hl (by decide) rfl (fun ls hl => ?_)
          refine lv_iinc (v := (x2_4 + 1)) (lv' := [(2, .int (x2_4 + 1)), (1, .int (x1_4 ||| (1 <<< (x2_4 &&& 31)))), (0, .ref (a 0))]) hx hb dX12_cleanOnes_31 hl (k := 1) rfl rfl (by decide) rfl (fun ls hl => ?_)
          refine lv_goto (tgt := 4) hx hb dX12_cleanOnes_34 (by decide) ?_
          exact ih _ _ _ _ h (lv_sub hl [0, 1, 2] rfl) hk
  refine L4 _ _ _ _ _ h hl (fun y2_4 y1_4 ls h hl => ?_)
  refine lv_iload_n hx hb dX12_cleanOnes_37 rfl (lv_at hl 1 rfl) ?_
  exact W.iret hx hb hr (fun t ht _ => ⟨_, rfl, Option.some.inj h, ht⟩) (fun _ q => absurd q List.not_mem_nil) dX12_cleanOnes_38

set_option maxHeartbeats 4000000 in
set_option maxRecDepth 100000 in
theorem c_mm_count (l : Launch) (D : va_G) (cI cJ cZ : ClassId) (a : Nat → Nat) (mPeople : Int32) (mHours : Int32) (mGrains : Int32) (mKind : Nat → Int32) (mWind : Nat → Int32) (mWeight : Nat → Int32) (mSort : Nat → Int32) (mOwner : Nat → Int32) (mNow : Nat → Int32) (mReadKind : Nat → Int32) (mReadWind : Nat → Int32) (mReadGrain : Nat → Int32) (mReadPeople : Int32) (mReadHours : Int32) (mReadGrains : Int32) (mText : Nat → Int32) (mLength : Int32) (mAt : Int32) (mFaultAt : Int32) (mMoved : Nat → Int32) (mActs : Int32) (mNext : Int32) (mRow : Nat → Int32) (mSeen : Int32) (mSeenKind : Nat → Int32) (mSeenLift : Nat → Int32) (mSeenFlew : Nat → Int32) (mSeed : Int64) (mIsKept : Nat → Int32) (mKept : Nat → Int32)  (H0 : Heap) (hP : va_P D vwCl (mW a cI cZ mPeople mHours mGrains mKind mWind mWeight mSort mOwner mNow mReadKind mReadWind mReadGrain mReadPeople mReadHours mReadGrains mText mLength mAt mFaultAt mMoved mActs mNext mRow mSeen mSeenKind mSeenLift mSeenFlew mSeed mIsKept mKept) H0) (p1 : Int32) (rv : Int32) (h : mm_count mPeople mHours mGrains mWind mOwner mNow mLength mActs mSeen p1 = some rv) : Met l yX12_count wsX12_count ({ frames := 3, cells := 0, slots := 0, locals := 68 } : Room) (rPc D cI cJ cZ H0 [.ref (a 0), .int p1]) (vp_Si (fun r => r = rv)) 0 0 (fun _ => False) := by
  unfold mm_count at h
  refine Met.ofW (cc := cX12_count) (maxL := 2) (ret := (some .int)) (by decide) rfl ?_
  intro p e s m args below meth c s₁ B hml hv
  obtain ⟨rfl, hH, hK⟩ := hv
  have hx := B.exec
  have hb := B.bytes
  have hr := B.returns
  have hts := atoms_spec (ws := wsX12_count) B.pre
  have hown : s.vm.findClass RX12 = some m.cls := findClass_of_methodNamed B.named
  have hlocks := B.notSynchronized
  subst hH
  have hl := lv_entry ([.ref (a 0), .int p1]) (n := 2) (Nat.le_of_ble_eq_true rfl)
  rw [lg_entry_eq]
  generalize (lg_sl ([.ref (a 0), .int p1]) ++ List.replicate (2 - (lg_sl ([.ref (a 0), .int p1])).length) Slot.unset).toArray = ls at hl ⊢
  have hl : lv_has ls 2 [(0, .ref (a 0)), (1, .int p1)] := hl
  have hiX12 : ∀ w ∈ u_ws RX12 TX12 30, w ∈ wsX12_count := fun w hw => List.mem_cons_of_mem _ (List.mem_append_right _ hw)
  refine lv_iload_n hx hb dX12_count_0 rfl (lv_at hl 1 rfl) ?_
  by_cases w0_0 : p1 = 0
  · have h := iT w0_0 h
    refine lv_tableIn (tgt := 68) hx hb dX12_count_1 (by rw [w0_0]; decide) (by rw [w0_0]; decide) (by rw [w0_0]; rfl) (by decide) ?_
    refine lv_aload_n hx hb dX12_count_68 rfl (lv_at hl 0 rfl) ?_
    refine va_get (D := D) (ci := 5) (v := .int mLength) (C := RX12) (T := TX12) (N := 30) hx hb hts hiX12 hown hK.1 hP 0 rfl rfl 16 (by decide) (hts (.fieldLink RX12 68 "WinnowedGuiltModel" "length" "I") (by decide +kernel)) (fun _ h9 => h9) rfl dX12_count_69 ?_
    exact W.iret hx hb hr (fun t ht _ => ⟨_, rfl, Option.some.inj h, ht⟩) (fun _ q => absurd q List.not_mem_nil) dX12_count_72
  have h := iF w0_0 h
  by_cases w0_1 : p1 = 1
  · have h := iT w0_1 h
    refine lv_tableIn (tgt := 73) hx hb dX12_count_1 (by rw [w0_1]; decide) (by rw [w0_1]; decide) (by rw [w0_1]; rfl) (by decide) ?_
    refine lv_aload_n hx hb dX12_count_73 rfl (lv_at hl 0 rfl) ?_
    refine va_get (D := D) (ci := 5) (v := .int mPeople) (C := RX12) (T := TX12) (N := 30) hx hb hts hiX12 hown hK.1 hP 0 rfl rfl 0 (by decide) (hts (.fieldLink RX12 99 "WinnowedGuiltModel" "people" "I") (by decide +kernel)) (fun _ h9 => h9) rfl dX12_count_74 ?_
    exact W.iret hx hb hr (fun t ht _ => ⟨_, rfl, Option.some.inj h, ht⟩) (fun _ q => absurd q List.not_mem_nil) dX12_count_77
  have h := iF w0_1 h
  by_cases w0_2 : p1 = 2
  · have h := iT w0_2 h
    refine lv_tableIn (tgt := 78) hx hb dX12_count_1 (by rw [w0_2]; decide) (by rw [w0_2]; decide) (by rw [w0_2]; rfl) (by decide) ?_
    refine lv_aload_n hx hb dX12_count_78 rfl (lv_at hl 0 rfl) ?_
    refine va_get (D := D) (ci := 5) (v := .int mHours) (C := RX12) (T := TX12) (N := 30) hx hb hts hiX12 hown hK.1 hP 0 rfl rfl 1 (by decide) (hts (.fieldLink RX12 102 "WinnowedGuiltModel" "hours" "I") (by decide +kernel)) (fun _ h9 => h9) rfl dX12_count_79 ?_
    exact W.iret hx hb hr (fun t ht _ => ⟨_, rfl, Option.some.inj h, ht⟩) (fun _ q => absurd q List.not_mem_nil) dX12_count_82
  have h := iF w0_2 h
  by_cases w0_3 : p1 = 3
  · have h := iT w0_3 h
    refine lv_tableIn (tgt := 83) hx hb dX12_count_1 (by rw [w0_3]; decide) (by rw [w0_3]; decide) (by rw [w0_3]; rfl) (by decide) ?_
    refine lv_aload_n hx hb dX12_count_83 rfl (lv_at hl 0 rfl) ?_
    refine va_get (D := D) (ci := 5) (v := .int mGrains) (C := RX12) (T := TX12) (N := 30) hx hb hts hiX12 hown hK.1 hP 0 rfl rfl 2 (by decide) (hts (.fieldLink RX12 105 "WinnowedGuiltModel" "grains" "I") (by decide +kernel)) (fun _ h9 => h9) rfl dX12_count_84 ?_
    exact W.iret hx hb hr (fun t ht _ => ⟨_, rfl, Option.some.inj h, ht⟩) (fun _ q => absurd q List.not_mem_nil) dX12_count_87
  have h := iF w0_3 h
  by_cases w0_4 : p1 = 4
  · have h := iT w0_4 h
    refine lv_tableIn (tgt := 88) hx hb dX12_count_1 (by rw [w0_4]; decide) (by rw [w0_4]; decide) (by rw [w0_4]; rfl) (by decide) ?_
    refine lv_aload_n hx hb dX12_count_88 rfl (lv_at hl 0 rfl) ?_
    refine va_get (D := D) (ci := 5) (v := .ref (a 6)) (C := RX12) (T := TX12) (N := 30) hx hb hts hiX12 hown hK.1 hP 0 rfl rfl 8 (by decide) (hts (.fieldLink RX12 25 "WinnowedGuiltModel" "now" "[I") (by decide +kernel)) (fun _ h9 => h9) rfl dX12_count_89 ?_
    refine lv_bipush (v := 8) hx hb dX12_count_92 (by decide) ?_
    refine ldI (v := (mNow 8)) hx hb hK.1 hP 6 rfl rfl (ixOk_in (by decide)) rfl dX12_count_94 ?_
    exact W.iret hx hb hr (fun t ht _ => ⟨_, rfl, Option.some.inj h, ht⟩) (fun _ q => absurd q List.not_mem_nil) dX12_count_95
  have h := iF w0_4 h
  by_cases w0_5 : p1 = 5
  · have h := iT w0_5 h
    refine lv_tableIn (tgt := 96) hx hb dX12_count_1 (by rw [w0_5]; decide) (by rw [w0_5]; decide) (by rw [w0_5]; rfl) (by decide) ?_
    refine lv_aload_n hx hb dX12_count_96 rfl (lv_at hl 0 rfl) ?_
    refine lv_iconst (v := 0) hx hb dX12_count_97 (by decide) ?_
    obtain ⟨q2, hq2, h⟩ := bS h
    refine rcI (va_runV (As := [.int 0]) (rest := []) ⟨hx, hb, hml, hown, hts⟩ (c_mm_windOn l D cI cJ cZ a mPeople mHours mGrains mKind mWind mWeight mSort mOwner mNow mReadKind mReadWind mReadGrain mReadPeople mReadHours mReadGrains mText mLength mAt mFaultAt mMoved mActs mNext mRow mSeen mSeenKind mSeenLift mSeenFlew mSeed mIsKept mKept s.heap hP 0 q2 hq2) (cwV 1 hts gX12_count_X12_windOn rfl rfl rfl (by decide +kernel) ⟨Nat.le_of_ble_eq_true rfl, Nat.le_of_ble_eq_true rfl⟩) (rPreV hK hP (ci := 5) (q0 := 0) rfl rfl) rfl rfl hl.1 rfl (lv_room (Nat.le_of_ble_eq_true rfl)) dX12_count_98 ⟨Nat.zero_le _, Nat.zero_le _⟩) ?_
    exact W.iret hx hb hr (fun t ht _ => ⟨_, rfl, Option.some.inj h, ht⟩) (fun _ q => absurd q List.not_mem_nil) dX12_count_101
  have h := iF w0_5 h
  by_cases w0_6 : p1 = 6
  · have h := iT w0_6 h
    refine lv_tableIn (tgt := 102) hx hb dX12_count_1 (by rw [w0_6]; decide) (by rw [w0_6]; decide) (by rw [w0_6]; rfl) (by decide) ?_
    refine lv_aload_n hx hb dX12_count_102 rfl (lv_at hl 0 rfl) ?_
    refine va_get (D := D) (ci := 5) (v := .ref (a 6)) (C := RX12) (T := TX12) (N := 30) hx hb hts hiX12 hown hK.1 hP 0 rfl rfl 8 (by decide) (hts (.fieldLink RX12 25 "WinnowedGuiltModel" "now" "[I") (by decide +kernel)) (fun _ h9 => h9) rfl dX12_count_103 ?_
    refine lv_bipush (v := 7) hx hb dX12_count_106 (by decide) ?_
    refine ldI (v := (mNow 7)) hx hb hK.1 hP 6 rfl rfl (ixOk_in (by decide)) rfl dX12_count_108 ?_
    exact W.iret hx hb hr (fun t ht _ => ⟨_, rfl, Option.some.inj h, ht⟩) (fun _ q => absurd q List.not_mem_nil) dX12_count_109
  have h := iF w0_6 h
  by_cases w0_7 : p1 = 7
  · have h := iT w0_7 h
    refine lv_tableIn (tgt := 110) hx hb dX12_count_1 (by rw [w0_7]; decide) (by rw [w0_7]; decide) (by rw [w0_7]; rfl) (by decide) ?_
    refine lv_aload_n hx hb dX12_count_110 rfl (lv_at hl 0 rfl) ?_
    refine lv_iconst (v := 0) hx hb dX12_count_111 (by decide) ?_
    obtain ⟨q2, hq2, h⟩ := bS h
    refine rcI (va_runV (As := [.int 0]) (rest := []) ⟨hx, hb, hml, hown, hts⟩ (c_mm_rightOn l D cI cJ cZ a mPeople mHours mGrains mKind mWind mWeight mSort mOwner mNow mReadKind mReadWind mReadGrain mReadPeople mReadHours mReadGrains mText mLength mAt mFaultAt mMoved mActs mNext mRow mSeen mSeenKind mSeenLift mSeenFlew mSeed mIsKept mKept s.heap hP 0 q2 hq2) (cwV 1 hts gX12_count_X12_rightOn rfl rfl rfl (by decide +kernel) ⟨Nat.le_of_ble_eq_true rfl, Nat.le_of_ble_eq_true rfl⟩) (rPreV hK hP (ci := 5) (q0 := 0) rfl rfl) rfl rfl hl.1 rfl (lv_room (Nat.le_of_ble_eq_true rfl)) dX12_count_112 ⟨Nat.zero_le _, Nat.zero_le _⟩) ?_
    exact W.iret hx hb hr (fun t ht _ => ⟨_, rfl, Option.some.inj h, ht⟩) (fun _ q => absurd q List.not_mem_nil) dX12_count_115
  have h := iF w0_7 h
  by_cases w0_8 : p1 = 8
  · have h := iT w0_8 h
    refine lv_tableIn (tgt := 116) hx hb dX12_count_1 (by rw [w0_8]; decide) (by rw [w0_8]; decide) (by rw [w0_8]; rfl) (by decide) ?_
    refine lv_aload_n hx hb dX12_count_116 rfl (lv_at hl 0 rfl) ?_
    refine lv_iconst (v := 0) hx hb dX12_count_117 (by decide) ?_
    refine lv_bipush (v := 8) hx hb dX12_count_118 (by decide) ?_
    obtain ⟨q2, hq2, h⟩ := bS h
    refine rcI (va_runV (As := [.int 0, .int 8]) (rest := []) ⟨hx, hb, hml, hown, hts⟩ (c_mm_lyingAt l D cI cJ cZ a mPeople mHours mGrains mKind mWind mWeight mSort mOwner mNow mReadKind mReadWind mReadGrain mReadPeople mReadHours mReadGrains mText mLength mAt mFaultAt mMoved mActs mNext mRow mSeen mSeenKind mSeenLift mSeenFlew mSeed mIsKept mKept s.heap hP 0 8 q2 hq2) (cwV 2 hts gX12_count_X12_lyingAt rfl rfl rfl (by decide +kernel) ⟨Nat.le_of_ble_eq_true rfl, Nat.le_of_ble_eq_true rfl⟩) (rPreV hK hP (ci := 5) (q0 := 0) rfl rfl) rfl rfl hl.1 rfl (lv_room (Nat.le_of_ble_eq_true rfl)) dX12_count_120 ⟨Nat.zero_le _, Nat.zero_le _⟩) ?_
    exact W.iret hx hb hr (fun t ht _ => ⟨_, rfl, Option.some.inj h, ht⟩) (fun _ q => absurd q List.not_mem_nil) dX12_count_123
  have h := iF w0_8 h
  by_cases w0_9 : p1 = 9
  · have h := iT w0_9 h
    refine lv_tableIn (tgt := 124) hx hb dX12_count_1 (by rw [w0_9]; decide) (by rw [w0_9]; decide) (by rw [w0_9]; rfl) (by decide) ?_
    refine lv_aload_n hx hb dX12_count_124 rfl (lv_at hl 0 rfl) ?_
    refine lv_iconst (v := 0) hx hb dX12_count_125 (by decide) ?_
    refine lv_bipush (v := 9) hx hb dX12_count_126 (by decide) ?_
    obtain ⟨q2, hq2, h⟩ := bS h
    refine rcI (va_runV (As := [.int 0, .int 9]) (rest := []) ⟨hx, hb, hml, hown, hts⟩ (c_mm_lyingAt l D cI cJ cZ a mPeople mHours mGrains mKind mWind mWeight mSort mOwner mNow mReadKind mReadWind mReadGrain mReadPeople mReadHours mReadGrains mText mLength mAt mFaultAt mMoved mActs mNext mRow mSeen mSeenKind mSeenLift mSeenFlew mSeed mIsKept mKept s.heap hP 0 9 q2 hq2) (cwV 2 hts gX12_count_X12_lyingAt rfl rfl rfl (by decide +kernel) ⟨Nat.le_of_ble_eq_true rfl, Nat.le_of_ble_eq_true rfl⟩) (rPreV hK hP (ci := 5) (q0 := 0) rfl rfl) rfl rfl hl.1 rfl (lv_room (Nat.le_of_ble_eq_true rfl)) dX12_count_128 ⟨Nat.zero_le _, Nat.zero_le _⟩) ?_
    exact W.iret hx hb hr (fun t ht _ => ⟨_, rfl, Option.some.inj h, ht⟩) (fun _ q => absurd q List.not_mem_nil) dX12_count_131
  have h := iF w0_9 h
  by_cases w0_10 : p1 = 10
  · have h := iT w0_10 h
    refine lv_tableIn (tgt := 132) hx hb dX12_count_1 (by rw [w0_10]; decide) (by rw [w0_10]; decide) (by rw [w0_10]; rfl) (by decide) ?_
    refine lv_aload_n hx hb dX12_count_132 rfl (lv_at hl 0 rfl) ?_
    obtain ⟨q2, hq2, h⟩ := bS h
    refine rcI (va_runV (As := []) (rest := []) ⟨hx, hb, hml, hown, hts⟩ (c_mm_cleanOnes l D cI cJ cZ a mPeople mHours mGrains mKind mWind mWeight mSort mOwner mNow mReadKind mReadWind mReadGrain mReadPeople mReadHours mReadGrains mText mLength mAt mFaultAt mMoved mActs mNext mRow mSeen mSeenKind mSeenLift mSeenFlew mSeed mIsKept mKept s.heap hP  q2 hq2) (cwV 0 hts gX12_count_X12_cleanOnes rfl rfl rfl (by decide +kernel) ⟨Nat.le_of_ble_eq_true rfl, Nat.le_of_ble_eq_true rfl⟩) (rPreV hK hP (ci := 5) (q0 := 0) rfl rfl) rfl rfl hl.1 rfl (lv_room (Nat.le_of_ble_eq_true rfl)) dX12_count_133 ⟨Nat.zero_le _, Nat.zero_le _⟩) ?_
    exact W.iret hx hb hr (fun t ht _ => ⟨_, rfl, Option.some.inj h, ht⟩) (fun _ q => absurd q List.not_mem_nil) dX12_count_136
  have h := iF w0_10 h
  by_cases w0_11 : p1 = 11
  · have h := iT w0_11 h
    refine lv_tableIn (tgt := 137) hx hb dX12_count_1 (by rw [w0_11]; decide) (by rw [w0_11]; decide) (by rw [w0_11]; rfl) (by decide) ?_
    refine lv_aload_n hx hb dX12_count_137 rfl (lv_at hl 0 rfl) ?_
    refine va_get (D := D) (ci := 5) (v := .int mActs) (C := RX12) (T := TX12) (N := 30) hx hb hts hiX12 hown hK.1 hP 0 rfl rfl 20 (by decide) (hts (.fieldLink RX12 108 "WinnowedGuiltModel" "acts" "I") (by decide +kernel)) (fun _ h9 => h9) rfl dX12_count_138 ?_
    exact W.iret hx hb hr (fun t ht _ => ⟨_, rfl, Option.some.inj h, ht⟩) (fun _ q => absurd q List.not_mem_nil) dX12_count_141
  have h := iF w0_11 h
  by_cases w0_12 : p1 = 12
  · have h := iT w0_12 h
    refine lv_tableIn (tgt := 142) hx hb dX12_count_1 (by rw [w0_12]; decide) (by rw [w0_12]; decide) (by rw [w0_12]; rfl) (by decide) ?_
    refine lv_aload_n hx hb dX12_count_142 rfl (lv_at hl 0 rfl) ?_
    refine va_get (D := D) (ci := 5) (v := .int mSeen) (C := RX12) (T := TX12) (N := 30) hx hb hts hiX12 hown hK.1 hP 0 rfl rfl 23 (by decide) (hts (.fieldLink RX12 207 "WinnowedGuiltModel" "seen" "I") (by decide +kernel)) (fun _ h9 => h9) rfl dX12_count_143 ?_
    exact W.iret hx hb hr (fun t ht _ => ⟨_, rfl, Option.some.inj h, ht⟩) (fun _ q => absurd q List.not_mem_nil) dX12_count_146
  have h := iF w0_12 h
  refine lv_tableOut (tgt := 147) hx hb dX12_count_1 (by have := lv_neT (a := 0) w0_0 (by decide); have := lv_neT (a := 1) w0_1 (by decide); have := lv_neT (a := 2) w0_2 (by decide); have := lv_neT (a := 3) w0_3 (by decide); have := lv_neT (a := 4) w0_4 (by decide); have := lv_neT (a := 5) w0_5 (by decide); have := lv_neT (a := 6) w0_6 (by decide); have := lv_neT (a := 7) w0_7 (by decide); have := lv_neT (a := 8) w0_8 (by decide); have := lv_neT (a := 9) w0_9 (by decide); have := lv_neT (a := 10) w0_10 (by decide); have := lv_neT (a := 11) w0_11 (by decide); have := lv_neT (a := 12) w0_12 (by decide); omega) (by decide) ?_
  refine lv_bipush (v := (-2)) hx hb dX12_count_147 (by decide) ?_
  exact W.iret hx hb hr (fun t ht _ => ⟨_, rfl, Option.some.inj h, ht⟩) (fun _ q => absurd q List.not_mem_nil) dX12_count_149
