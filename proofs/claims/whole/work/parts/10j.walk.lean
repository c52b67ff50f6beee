set_option maxHeartbeats 4000000 in
set_option maxRecDepth 100000 in
theorem c_mm_readText (l : Launch) (D : va_G) (cI cJ cZ : ClassId) (a : Nat → Nat) (mPeople : Int32) (mHours : Int32) (mGrains : Int32) (mKind : Nat → Int32) (mWind : Nat → Int32) (mWeight : Nat → Int32) (mSort : Nat → Int32) (mOwner : Nat → Int32) (mNow : Nat → Int32) (mReadKind : Nat → Int32) (mReadWind : Nat → Int32) (mReadGrain : Nat → Int32) (mReadPeople : Int32) (mReadHours : Int32) (mReadGrains : Int32) (mText : Nat → Int32) (mLength : Int32) (mAt : Int32) (mFaultAt : Int32) (mMoved : Nat → Int32) (mActs : Int32) (mNext : Int32) (mRow : Nat → Int32) (mSeen : Int32) (mSeenKind : Nat → Int32) (mSeenLift : Nat → Int32) (mSeenFlew : Nat → Int32) (mSeed : Int64) (mIsKept : Nat → Int32) (mKept : Nat → Int32)  (sz : Nat)  (rv : Int32) (mReadKind_r : Nat → Int32) (mReadWind_r : Nat → Int32) (mReadGrain_r : Nat → Int32) (mReadPeople_r : Int32) (mReadHours_r : Int32) (mReadGrains_r : Int32) (mAt_r : Int32) (mFaultAt_r : Int32) (h : mm_readText mReadKind mReadWind mReadGrain mText mLength = some (rv, mReadKind_r, mReadWind_r, mReadGrain_r, mReadPeople_r, mReadHours_r, mReadGrains_r, mAt_r, mFaultAt_r)) : Met l yX12_readText wsX12_readText ({ frames := 3, cells := 0, slots := 0, locals := 70 } : Room) (wPc D cI cJ cZ (mW a cI cZ mPeople mHours mGrains mKind mWind mWeight mSort mOwner mNow mReadKind mReadWind mReadGrain mReadPeople mReadHours mReadGrains mText mLength mAt mFaultAt mMoved mActs mNext mRow mSeen mSeenKind mSeenLift mSeenFlew mSeed mIsKept mKept) sz [.ref (a 0)]) (wQi D (mW a cI cZ mPeople mHours mGrains mKind mWind mWeight mSort mOwner mNow mReadKind mReadWind mReadGrain mReadPeople mReadHours mReadGrains mText mLength mAt mFaultAt mMoved mActs mNext mRow mSeen mSeenKind mSeenLift mSeenFlew mSeed mIsKept mKept) (mW a cI cZ mPeople mHours mGrains mKind mWind mWeight mSort mOwner mNow mReadKind_r mReadWind_r mReadGrain_r mReadPeople_r mReadHours_r mReadGrains_r mText mLength mAt_r mFaultAt_r mMoved mActs mNext mRow mSeen mSeenKind mSeenLift mSeenFlew mSeed mIsKept mKept) sz rv) 0 0 (va_A (mW a cI cZ mPeople mHours mGrains mKind mWind mWeight mSort mOwner mNow mReadKind mReadWind mReadGrain mReadPeople mReadHours mReadGrains mText mLength mAt mFaultAt mMoved mActs mNext mRow mSeen mSeenKind mSeenLift mSeenFlew mSeed mIsKept mKept) sz) := by
  unfold mm_readText at h
  refine Met.ofW (cc := cX12_readText) (maxL := 1) (ret := (some .int)) (by decide) rfl ?_
  intro p e s m args below meth c s₁ B hml hv
  obtain ⟨rfl, hsz, hP, hK, hD0⟩ := hv
  have hx := B.exec
  have hb := B.bytes
  have hr := B.returns
  have hts := atoms_spec (ws := wsX12_readText) B.pre
  have hown : s.vm.findClass RX12 = some m.cls := findClass_of_methodNamed B.named
  have hlocks := B.notSynchronized
  subst hsz
  have hD := hD0.self (sz := s.heap.size)
  have hA : ∀ q : Nat, s.heap.size ≤ q → va_A (mW a cI cZ mPeople mHours mGrains mKind mWind mWeight mSort mOwner mNow mReadKind mReadWind mReadGrain mReadPeople mReadHours mReadGrains mText mLength mAt mFaultAt mMoved mActs mNext mRow mSeen mSeenKind mSeenLift mSeenFlew mSeed mIsKept mKept) s.heap.size q := fun q h => Or.inr h
  have hS : va_S (va_A (mW a cI cZ mPeople mHours mGrains mKind mWind mWeight mSort mOwner mNow mReadKind mReadWind mReadGrain mReadPeople mReadHours mReadGrains mText mLength mAt mFaultAt mMoved mActs mNext mRow mSeen mSeenKind mSeenLift mSeenFlew mSeed mIsKept mKept) s.heap.size) s.heap s.heap [] := va_S.rf
  obtain ⟨A, hAe⟩ : ∃ A, A = va_A (mW a cI cZ mPeople mHours mGrains mKind mWind mWeight mSort mOwner mNow mReadKind mReadWind mReadGrain mReadPeople mReadHours mReadGrains mText mLength mAt mFaultAt mMoved mActs mNext mRow mSeen mSeenKind mSeenLift mSeenFlew mSeed mIsKept mKept) s.heap.size := ⟨_, rfl⟩
  rw [← hAe] at hD hA hS
  have hl := lv_entry ([.ref (a 0)]) (n := 1) (Nat.le_of_ble_eq_true rfl)
  rw [lg_entry_eq]
  generalize (lg_sl ([.ref (a 0)]) ++ List.replicate (1 - (lg_sl ([.ref (a 0)])).length) Slot.unset).toArray = ls at hl ⊢
  have hl : lv_has ls 1 [(0, .ref (a 0))] := hl
  have hiX12 : ∀ w ∈ u_ws RX12 TX12 30, w ∈ wsX12_readText := fun w hw => List.mem_cons_of_mem _ (List.mem_append_right _ hw)
  refine lv_aload_n hx hb dX12_readText_0 rfl (lv_at hl 0 rfl) ?_
  refine lv_iconst (v := 0) hx hb dX12_readText_1 (by decide) ?_
  refine va_put (D := D) (ci := 5) (v := .int 0) (ty := .int) (C := RX12) (T := TX12) (N := 30) hx hb hts hiX12 tyX12 tyX12_ok nmX12 hown hK.1 hP hD hS 0 rfl rfl 17 (by decide) (hts (.fieldLink RX12 75 "WinnowedGuiltModel" "at" "I") (by decide +kernel)) (fun _ h9 => h9) rfl (by decide +kernel) rfl rfl (Nat.le_of_ble_eq_true rfl) dX12_readText_2 (fun H locs hP hD hS => ?_)
  have hP : va_P D vwCl (mW a cI cZ mPeople mHours mGrains mKind mWind mWeight mSort mOwner mNow mReadKind mReadWind mReadGrain mReadPeople mReadHours mReadGrains mText mLength 0 mFaultAt mMoved mActs mNext mRow mSeen mSeenKind mSeenLift mSeenFlew mSeed mIsKept mKept) H := hP
  have hD : va_D A (mW a cI cZ mPeople mHours mGrains mKind mWind mWeight mSort mOwner mNow mReadKind mReadWind mReadGrain mReadPeople mReadHours mReadGrains mText mLength 0 mFaultAt mMoved mActs mNext mRow mSeen mSeenKind mSeenLift mSeenFlew mSeed mIsKept mKept) := hD
  refine lv_aload_n hx hb dX12_readText_5 rfl (lv_at hl 0 rfl) ?_
  refine lv_bipush (v := (-9)) hx hb dX12_readText_6 (by decide) ?_
  refine va_put (D := D) (ci := 5) (v := .int (-9)) (ty := .int) (C := RX12) (T := TX12) (N := 30) hx hb hts hiX12 tyX12 tyX12_ok nmX12 hown hK.1 hP hD hS 0 rfl rfl 18 (by decide) (hts (.fieldLink RX12 72 "WinnowedGuiltModel" "faultAt" "I") (by decide +kernel)) (fun _ h9 => h9) rfl (by decide +kernel) rfl rfl (Nat.le_of_ble_eq_true rfl) dX12_readText_8 (fun H locs hP hD hS => ?_)
  have hP : va_P D vwCl (mW a cI cZ mPeople mHours mGrains mKind mWind mWeight mSort mOwner mNow mReadKind mReadWind mReadGrain mReadPeople mReadHours mReadGrains mText mLength 0 (-9) mMoved mActs mNext mRow mSeen mSeenKind mSeenLift mSeenFlew mSeed mIsKept mKept) H := hP
  have hD : va_D A (mW a cI cZ mPeople mHours mGrains mKind mWind mWeight mSort mOwner mNow mReadKind mReadWind mReadGrain mReadPeople mReadHours mReadGrains mText mLength 0 (-9) mMoved mActs mNext mRow mSeen mSeenKind mSeenLift mSeenFlew mSeed mIsKept mKept) := hD
  refine lv_aload_n hx hb dX12_readText_11 rfl (lv_at hl 0 rfl) ?_
  refine lv_iconst (v := 0) hx hb dX12_readText_12 (by decide) ?_
  refine va_put (D := D) (ci := 5) (v := .int 0) (ty := .int) (C := RX12) (T := TX12) (N := 30) hx hb hts hiX12 tyX12 tyX12_ok nmX12 hown hK.1 hP hD hS 0 rfl rfl 12 (by decide) (hts (.fieldLink RX12 78 "WinnowedGuiltModel" "readPeople" "I") (by decide +kernel)) (fun _ h9 => h9) rfl (by decide +kernel) rfl rfl (Nat.le_of_ble_eq_true rfl) dX12_readText_13 (fun H locs hP hD hS => ?_)
  have hP : va_P D vwCl (mW a cI cZ mPeople mHours mGrains mKind mWind mWeight mSort mOwner mNow mReadKind mReadWind mReadGrain 0 mReadHours mReadGrains mText mLength 0 (-9) mMoved mActs mNext mRow mSeen mSeenKind mSeenLift mSeenFlew mSeed mIsKept mKept) H := hP
  have hD : va_D A (mW a cI cZ mPeople mHours mGrains mKind mWind mWeight mSort mOwner mNow mReadKind mReadWind mReadGrain 0 mReadHours mReadGrains mText mLength 0 (-9) mMoved mActs mNext mRow mSeen mSeenKind mSeenLift mSeenFlew mSeed mIsKept mKept) := hD
  refine lv_aload_n hx hb dX12_readText_16 rfl (lv_at hl 0 rfl) ?_
  refine lv_iconst (v := 0) hx hb dX12_readText_17 (by decide) ?_
  refine va_put (D := D) (ci := 5) (v := .int 0) (ty := .int) (C := RX12) (T := TX12) (N := 30) hx hb hts hiX12 tyX12 tyX12_ok nmX12 hown hK.1 hP hD hS 0 rfl rfl 13 (by decide) (hts (.fieldLink RX12 81 "WinnowedGuiltModel" "readHours" "I") (by decide +kernel)) (fun _ h9 => h9) rfl (by decide +kernel) rfl rfl (Nat.le_of_ble_eq_true rfl) dX12_readText_18 (fun H locs hP hD hS => ?_)
  have hP : va_P D vwCl (mW a cI cZ mPeople mHours mGrains mKind mWind mWeight mSort mOwner mNow mReadKind mReadWind mReadGrain 0 0 mReadGrains mText mLength 0 (-9) mMoved mActs mNext mRow mSeen mSeenKind mSeenLift mSeenFlew mSeed mIsKept mKept) H := hP
  have hD : va_D A (mW a cI cZ mPeople mHours mGrains mKind mWind mWeight mSort mOwner mNow mReadKind mReadWind mReadGrain 0 0 mReadGrains mText mLength 0 (-9) mMoved mActs mNext mRow mSeen mSeenKind mSeenLift mSeenFlew mSeed mIsKept mKept) := hD
  refine lv_aload_n hx hb dX12_readText_21 rfl (lv_at hl 0 rfl) ?_
  refine lv_iconst (v := 0) hx hb dX12_readText_22 (by decide) ?_
  refine va_put (D := D) (ci := 5) (v := .int 0) (ty := .int) (C := RX12) (T := TX12) (N := 30) hx hb hts hiX12 tyX12 tyX12_ok nmX12 hown hK.1 hP hD hS 0 rfl rfl 14 (by decide) (hts (.fieldLink RX12 84 "WinnowedGuiltModel" "readGrains" "I") (by decide +kernel)) (fun _ h9 => h9) rfl (by decide +kernel) rfl rfl (Nat.le_of_ble_eq_true rfl) dX12_readText_23 (fun H locs hP hD hS => ?_)
  have hP : va_P D vwCl (mW a cI cZ mPeople mHours mGrains mKind mWind mWeight mSort mOwner mNow mReadKind mReadWind mReadGrain 0 0 0 mText mLength 0 (-9) mMoved mActs mNext mRow mSeen mSeenKind mSeenLift mSeenFlew mSeed mIsKept mKept) H := hP
  have hD : va_D A (mW a cI cZ mPeople mHours mGrains mKind mWind mWeight mSort mOwner mNow mReadKind mReadWind mReadGrain 0 0 0 mText mLength 0 (-9) mMoved mActs mNext mRow mSeen mSeenKind mSeenLift mSeenFlew mSeed mIsKept mKept) := hD
  refine lv_aload_n hx hb dX12_readText_26 rfl (lv_at hl 0 rfl) ?_
  refine va_get (D := D) (ci := 5) (v := .int mLength) (C := RX12) (T := TX12) (N := 30) hx hb hts hiX12 hown hK.1 hP 0 rfl rfl 16 (by decide) (hts (.fieldLink RX12 68 "WinnowedGuiltModel" "length" "I") (by decide +kernel)) (fun _ h9 => h9) rfl dX12_readText_27 ?_
  refine lv_if_eq (tgt := 44) hx hb dX12_readText_30 (by decide) (fun c1 => ?_) (fun c1 => ?_)
  · have h := iT c1 h
    refine lv_iconst (v := 0) hx hb dX12_readText_44 (by decide) ?_
    cases h
    subst hAe
    exact W.iret hx hb hr (fun t ht _ => ⟨⟨_, (), rfl, rfl, by rw [ht]; exact hP, hD⟩, hS.F ht⟩) hS.2.2 dX12_readText_45
  · have h := iF c1 h
    refine lv_aload_n hx hb dX12_readText_33 rfl (lv_at hl 0 rfl) ?_
    refine va_get (D := D) (ci := 5) (v := .ref (a 10)) (C := RX12) (T := TX12) (N := 30) hx hb hts hiX12 hown hK.1 hP 0 rfl rfl 15 (by decide) (hts (.fieldLink RX12 37 "WinnowedGuiltModel" "text" "[I") (by decide +kernel)) (fun _ h9 => h9) rfl dX12_readText_34 ?_
    refine lv_iconst (v := 0) hx hb dX12_readText_37 (by decide) ?_
    refine ldI (v := (mText 0)) hx hb hK.1 hP 10 rfl rfl (ixOk_in (by decide)) rfl dX12_readText_38 ?_
    refine lv_bipush (v := 87) hx hb dX12_readText_39 (by decide) ?_
    refine lv_icmp_eq (tgt := 46) hx hb dX12_readText_41 (by decide) (fun c2 => ?_) (fun c2 => ?_)
    · have h := iT c2 h
      refine lv_aload_n hx hb dX12_readText_46 rfl (lv_at hl 0 rfl) ?_
      refine lv_iconst (v := 1) hx hb dX12_readText_47 (by decide) ?_
      refine va_put (D := D) (ci := 5) (v := .int 1) (ty := .int) (C := RX12) (T := TX12) (N := 30) hx hb hts hiX12 tyX12 tyX12_ok nmX12 hown hK.1 hP hD hS 0 rfl rfl 17 (by decide) (hts (.fieldLink RX12 75 "WinnowedGuiltModel" "at" "I") (by decide +kernel)) (fun _ h9 => h9) rfl (by decide +kernel) rfl rfl (Nat.le_of_ble_eq_true rfl) dX12_readText_48 (fun H locs hP hD hS => ?_)
      have hP : va_P D vwCl (mW a cI cZ mPeople mHours mGrains mKind mWind mWeight mSort mOwner mNow mReadKind mReadWind mReadGrain 0 0 0 mText mLength 1 (-9) mMoved mActs mNext mRow mSeen mSeenKind mSeenLift mSeenFlew mSeed mIsKept mKept) H := hP
      have hD : va_D A (mW a cI cZ mPeople mHours mGrains mKind mWind mWeight mSort mOwner mNow mReadKind mReadWind mReadGrain 0 0 0 mText mLength 1 (-9) mMoved mActs mNext mRow mSeen mSeenKind mSeenLift mSeenFlew mSeed mIsKept mKept) := hD
      have L51 : ∀ (n : Nat) (mReadKind_51x : (Nat → Int32)) (mReadWind_51x : (Nat → Int32)) (mReadGrain_51x : (Nat → Int32)) (mReadPeople_51x : (Int32)) (mReadHours_51x : (Int32)) (mReadGrains_51x : (Int32)) (mAt_51x : (Int32)) (mFaultAt_51x : (Int32)) (H : Heap) (locs : List Loc) (ls : Array Slot) (kx : (Nat → Int32) → (Nat → Int32) → (Nat → Int32) → (Int32) → (Int32) → (Int32) → (Int32) → (Int32) → Option (Int32 × (Nat → Int32) × (Nat → Int32) × (Nat → Int32) × (Int32) × (Int32) × (Int32) × (Int32) × (Int32))), mm_readText_L51 mText mLength kx n mReadKind_51x mReadWind_51x mReadGrain_51x mReadPeople_51x mReadHours_51x mReadGrains_51x mAt_51x mFaultAt_51x = some (rv, mReadKind_r, mReadWind_r, mReadGrain_r, mReadPeople_r, mReadHours_r, mReadGrains_r, mAt_r, mFaultAt_r) → va_P D vwCl (mW a cI cZ mPeople mHours mGrains mKind mWind mWeight mSort mOwner mNow mReadKind_51x mReadWind_51x mReadGrain_51x mReadPeople_51x mReadHours_51x mReadGrains_51x mText mLength mAt_51x mFaultAt_51x mMoved mActs mNext mRow mSeen mSeenKind mSeenLift mSeenFlew mSeed mIsKept mKept) H → va_D A (mW a cI cZ mPeople mHours mGrains mKind mWind mWeight mSort mOwner mNow mReadKind_51x mReadWind_51x mReadGrain_51x mReadPeople_51x mReadHours_51x mReadGrains_51x mText mLength mAt_51x mFaultAt_51x mMoved mActs mNext mRow mSeen mSeenKind mSeenLift mSeenFlew mSeed mIsKept mKept) → va_S A s.heap H locs → lv_has ls 1 [(0, .ref (a 0))] → (∀ (mReadKind_51 : (Nat → Int32)) (mReadWind_51 : (Nat → Int32)) (mReadGrain_51 : (Nat → Int32)) (mReadPeople_51 : (Int32)) (mReadHours_51 : (Int32)) (mReadGrains_51 : (Int32)) (mAt_51 : (Int32)) (mFaultAt_51 : (Int32)) (H : Heap) (locs : List Loc) (ls : Array Slot), kx mReadKind_51 mReadWind_51 mReadGrain_51 mReadPeople_51 mReadHours_51 mReadGrains_51 mAt_51 mFaultAt_51 = some (rv, mReadKind_r, mReadWind_r, mReadGrain_r, mReadPeople_r, mReadHours_r, mReadGrains_r, mAt_r, mFaultAt_r) → va_P D vwCl (mW a cI cZ mPeople mHours mGrains mKind mWind mWeight mSort mOwner mNow mReadKind_51 mReadWind_51 mReadGrain_51 mReadPeople_51 mReadHours_51 mReadGrains_51 mText mLength mAt_51 mFaultAt_51 mMoved mActs mNext mRow mSeen mSeenKind mSeenLift mSeenFlew mSeed mIsKept mKept) H → va_D A (mW a cI cZ mPeople mHours mGrains mKind mWind mWeight mSort mOwner mNow mReadKind_51 mReadWind_51 mReadGrain_51 mReadPeople_51 mReadHours_51 mReadGrains_51 mText mLength mAt_51 mFaultAt_51 mMoved mActs mNext mRow mSeen mSeenKind mSeenLift mSeenFlew mSeed mIsKept mKept) → va_S A s.heap H locs → lv_has ls 1 [(0, .ref (a 0))] → W p l e (headSpec wsX12_readText ({ frames := 3, cells := 0, slots := 0, locals := 70 } : Room)).room s m ([.ref (a 0)] : List Value).toArray below meth c H locs 0 0 (MQ below (wQi D (mW a cI cZ mPeople mHours mGrains mKind mWind mWeight mSort mOwner mNow mReadKind mReadWind mReadGrain mReadPeople mReadHours mReadGrains mText mLength mAt mFaultAt mMoved mActs mNext mRow mSeen mSeenKind mSeenLift mSeenFlew mSeed mIsKept mKept) (mW a cI cZ mPeople mHours mGrains mKind mWind mWeight mSort mOwner mNow mReadKind_r mReadWind_r mReadGrain_r mReadPeople_r mReadHours_r mReadGrains_r mText mLength mAt_r mFaultAt_r mMoved mActs mNext mRow mSeen mSeenKind mSeenLift mSeenFlew mSeed mIsKept mKept) s.heap.size rv) ([.ref (a 0)] : List Value).toArray s 0 0 (va_A (mW a cI cZ mPeople mHours mGrains mKind mWind mWeight mSort mOwner mNow mReadKind mReadWind mReadGrain mReadPeople mReadHours mReadGrains mText mLength mAt mFaultAt mMoved mActs mNext mRow mSeen mSeenKind mSeenLift mSeenFlew mSeed mIsKept mKept) s.heap.size)) (F0 m 87 ls [])) → W p l e (headSpec wsX12_readText ({ frames := 3, cells := 0, slots := 0, locals := 70 } : Room)).room s m ([.ref (a 0)] : List Value).toArray below meth c H locs 0 0 (MQ below (wQi D (mW a cI cZ mPeople mHours mGrains mKind mWind mWeight mSort mOwner mNow mReadKind mReadWind mReadGrain mReadPeople mReadHours mReadGrains mText mLength mAt mFaultAt mMoved mActs mNext mRow mSeen mSeenKind mSeenLift mSeenFlew mSeed mIsKept mKept) (mW a cI cZ mPeople mHours mGrains mKind mWind mWeight mSort mOwner mNow mReadKind_r mReadWind_r mReadGrain_r mReadPeople_r mReadHours_r mReadGrains_r mText mLength mAt_r mFaultAt_r mMoved mActs mNext mRow mSeen mSeenKind mSeenLift mSeenFlew mSeed mIsKept mKept) s.heap.size rv) ([.ref (a 0)] : List Value).toArray s 0 0 (va_A (mW a cI cZ mPeople mHours mGrains mKind mWind mWeight mSort mOwner mNow mReadKind mReadWind mReadGrain mReadPeople mReadHours mReadGrains mText mLength mAt mFaultAt mMoved mActs mNext mRow mSeen mSeenKind mSeenLift mSeenFlew mSeed mIsKept mKept) s.heap.size)) (F0 m 51 ls []) := by
        intro n
        induction n with
        | zero => intro _ _ _ _ _ _ _ _ _ _ _ _ h; rw [mm_readText_L51.eq_1] at h; cases h
        | succ n ih =>
          intro mReadKind_51x mReadWind_51x mReadGrain_51x mReadPeople_51x mReadHours_51x mReadGrains_51x mAt_51x mFaultAt_51x H locs ls kx h hP hD hS hl hk
          rw [mm_readText_L51.eq_2] at h
          refine lv_aload_n hx hb dX12_readText_51 rfl (lv_at hl 0 rfl) ?_
          refine va_get (D := D) (ci := 5) (v := .int mFaultAt_51x) (C := RX12) (T := TX12) (N := 30) hx hb hts hiX12 hown hK.1 hP 0 rfl rfl 18 (by decide) (hts (.fieldLink RX12 72 "WinnowedGuiltModel" "faultAt" "I") (by decide +kernel)) (fun _ h9 => h9) rfl dX12_readText_52 ?_
          refine lv_bipush (v := (-9)) hx hb dX12_readText_55 (by decide) ?_
          refine lv_icmp_ne (tgt := 87) hx hb dX12_readText_57 (by decide) (fun c3 => ?_) (fun c3 => ?_)
          · have h := iF c3 h
            exact hk _ _ _ _ _ _ _ _ _ _ _ h hP hD hS (lv_sub hl [0] rfl)
          · have h := iT c3 h
            refine lv_aload_n hx hb dX12_readText_60 rfl (lv_at hl 0 rfl) ?_
            refine va_get (D := D) (ci := 5) (v := .int mAt_51x) (C := RX12) (T := TX12) (N := 30) hx hb hts hiX12 hown hK.1 hP 0 rfl rfl 17 (by decide) (hts (.fieldLink RX12 75 "WinnowedGuiltModel" "at" "I") (by decide +kernel)) (fun _ h9 => h9) rfl dX12_readText_61 ?_
            refine lv_aload_n hx hb dX12_readText_64 rfl (lv_at hl 0 rfl) ?_
            refine va_get (D := D) (ci := 5) (v := .int mLength) (C := RX12) (T := TX12) (N := 30) hx hb hts hiX12 hown hK.1 hP 0 rfl rfl 16 (by decide) (hts (.fieldLink RX12 68 "WinnowedGuiltModel" "length" "I") (by decide +kernel)) (fun _ h9 => h9) rfl dX12_readText_65 ?_
            refine lv_icmp_ge (tgt := 87) hx hb dX12_readText_68 (by decide) (fun c4 => ?_) (fun c4 => ?_)
            · have h := iT c4 h
              exact hk _ _ _ _ _ _ _ _ _ _ _ h hP hD hS (lv_sub hl [0] rfl)
            · have h := iF c4 h
              refine lv_aload_n hx hb dX12_readText_71 rfl (lv_at hl 0 rfl) ?_
              refine lv_aload_n hx hb dX12_readText_72 rfl (lv_at hl 0 rfl) ?_
              refine va_get (D := D) (ci := 5) (v := .ref (a 10)) (C := RX12) (T := TX12) (N := 30) hx hb hts hiX12 hown hK.1 hP 0 rfl rfl 15 (by decide) (hts (.fieldLink RX12 37 "WinnowedGuiltModel" "text" "[I") (by decide +kernel)) (fun _ h9 => h9) rfl dX12_readText_73 ?_
              refine lv_aload_n hx hb dX12_readText_76 rfl (lv_at hl 0 rfl) ?_
              refine va_get (D := D) (ci := 5) (v := .int mAt_51x) (C := RX12) (T := TX12) (N := 30) hx hb hts hiX12 hown hK.1 hP 0 rfl rfl 17 (by decide) (hts (.fieldLink RX12 75 "WinnowedGuiltModel" "at" "I") (by decide +kernel)) (fun _ h9 => h9) rfl dX12_readText_77 ?_
              obtain ⟨hi5, h⟩ := gI_some h
              refine ldI (v := (mText (Int32.toNatClampNeg mAt_51x))) hx hb hK.1 hP 10 rfl rfl hi5 rfl dX12_readText_80 ?_
              obtain ⟨q6, hq6, h⟩ := bS h
              refine wcV (va_runV (As := [.int (mText (Int32.toNatClampNeg mAt_51x))]) (rest := []) ⟨hx, hb, hml, hown, hts⟩ (c_mm_readPart l D cI cJ cZ a mPeople mHours mGrains mKind mWind mWeight mSort mOwner mNow mReadKind_51x mReadWind_51x mReadGrain_51x mReadPeople_51x mReadHours_51x mReadGrains_51x mText mLength mAt_51x mFaultAt_51x mMoved mActs mNext mRow mSeen mSeenKind mSeenLift mSeenFlew mSeed mIsKept mKept H.size (mText (Int32.toNatClampNeg mAt_51x)) q6.1 q6.2.1 q6.2.2.1 q6.2.2.2.1 q6.2.2.2.2.1 q6.2.2.2.2.2.1 q6.2.2.2.2.2.2.1 q6.2.2.2.2.2.2.2 hq6) (cwV 1 hts gX12_readText_X12_readPart rfl rfl rfl (by decide +kernel) ⟨Nat.le_of_ble_eq_true rfl, Nat.le_of_ble_eq_true rfl⟩) (wPreV hK hP hD (ci := 5) (q0 := 0) rfl rfl) rfl rfl hl.1 rfl (lv_room (Nat.le_of_ble_eq_true rfl)) dX12_readText_81 ⟨Nat.zero_le _, Nat.zero_le _⟩) hD hS hA (fun H locs hP hD hS => ?_)
              have hP : va_P D vwCl (mW a cI cZ mPeople mHours mGrains mKind mWind mWeight mSort mOwner mNow q6.1 q6.2.1 q6.2.2.1 q6.2.2.2.1 q6.2.2.2.2.1 q6.2.2.2.2.2.1 mText mLength q6.2.2.2.2.2.2.1 q6.2.2.2.2.2.2.2 mMoved mActs mNext mRow mSeen mSeenKind mSeenLift mSeenFlew mSeed mIsKept mKept) H := hP
              have hD : va_D A (mW a cI cZ mPeople mHours mGrains mKind mWind mWeight mSort mOwner mNow q6.1 q6.2.1 q6.2.2.1 q6.2.2.2.1 q6.2.2.2.2.1 q6.2.2.2.2.2.1 mText mLength q6.2.2.2.2.2.2.1 q6.2.2.2.2.2.2.2 mMoved mActs mNext mRow mSeen mSeenKind mSeenLift mSeenFlew mSeed mIsKept mKept) := hD
              refine lv_goto (tgt := 51) hx hb dX12_readText_84 (by decide) ?_
              exact ih _ _ _ _ _ _ _ _ _ _ _ _ h hP hD hS (lv_sub hl [0] rfl) hk
      refine L51 _ _ _ _ _ _ _ _ _ _ _ _ _ h hP hD hS hl (fun mReadKind_51 mReadWind_51 mReadGrain_51 mReadPeople_51 mReadHours_51 mReadGrains_51 mAt_51 mFaultAt_51 H locs ls h hP hD hS hl => ?_)
      refine lv_aload_n hx hb dX12_readText_87 rfl (lv_at hl 0 rfl) ?_
      refine va_get (D := D) (ci := 5) (v := .int mFaultAt_51) (C := RX12) (T := TX12) (N := 30) hx hb hts hiX12 hown hK.1 hP 0 rfl rfl 18 (by decide) (hts (.fieldLink RX12 72 "WinnowedGuiltModel" "faultAt" "I") (by decide +kernel)) (fun _ h9 => h9) rfl dX12_readText_88 ?_
      cases h
      subst hAe
      exact W.iret hx hb hr (fun t ht _ => ⟨⟨_, (), rfl, rfl, by rw [ht]; exact hP, hD⟩, hS.F ht⟩) hS.2.2 dX12_readText_91
    · have h := iF c2 h
      refine lv_iconst (v := 0) hx hb dX12_readText_44 (by decide) ?_
      cases h
      subst hAe
      exact W.iret hx hb hr (fun t ht _ => ⟨⟨_, (), rfl, rfl, by rw [ht]; exact hP, hD⟩, hS.F ht⟩) hS.2.2 dX12_readText_45

set_option maxHeartbeats 4000000 in
set_option maxRecDepth 100000 in
theorem c_mm_fault (l : Launch) (D : va_G) (cI cJ cZ : ClassId) (a : Nat → Nat) (mPeople : Int32) (mHours : Int32) (mGrains : Int32) (mKind : Nat → Int32) (mWind : Nat → Int32) (mWeight : Nat → Int32) (mSort : Nat → Int32) (mOwner : Nat → Int32) (mNow : Nat → Int32) (mReadKind : Nat → Int32) (mReadWind : Nat → Int32) (mReadGrain : Nat → Int32) (mReadPeople : Int32) (mReadHours : Int32) (mReadGrains : Int32) (mText : Nat → Int32) (mLength : Int32) (mAt : Int32) (mFaultAt : Int32) (mMoved : Nat → Int32) (mActs : Int32) (mNext : Int32) (mRow : Nat → Int32) (mSeen : Int32) (mSeenKind : Nat → Int32) (mSeenLift : Nat → Int32) (mSeenFlew : Nat → Int32) (mSeed : Int64) (mIsKept : Nat → Int32) (mKept : Nat → Int32)  (sz : Nat)  (rv : Int32) (mReadKind_r : Nat → Int32) (mReadWind_r : Nat → Int32) (mReadGrain_r : Nat → Int32) (mReadPeople_r : Int32) (mReadHours_r : Int32) (mReadGrains_r : Int32) (mAt_r : Int32) (mFaultAt_r : Int32) (h : mm_fault mReadKind mReadWind mReadGrain mText mLength = some (rv, mReadKind_r, mReadWind_r, mReadGrain_r, mReadPeople_r, mReadHours_r, mReadGrains_r, mAt_r, mFaultAt_r)) : Met l yX12_fault wsX12_fault ({ frames := 4, cells := 0, slots := 0, locals := 90 } : Room) (wPc D cI cJ cZ (mW a cI cZ mPeople mHours mGrains mKind mWind mWeight mSort mOwner mNow mReadKind mReadWind mReadGrain mReadPeople mReadHours mReadGrains mText mLength mAt mFaultAt mMoved mActs mNext mRow mSeen mSeenKind mSeenLift mSeenFlew mSeed mIsKept mKept) sz [.ref (a 0)]) (wQi D (mW a cI cZ mPeople mHours mGrains mKind mWind mWeight mSort mOwner mNow mReadKind mReadWind mReadGrain mReadPeople mReadHours mReadGrains mText mLength mAt mFaultAt mMoved mActs mNext mRow mSeen mSeenKind mSeenLift mSeenFlew mSeed mIsKept mKept) (mW a cI cZ mPeople mHours mGrains mKind mWind mWeight mSort mOwner mNow mReadKind_r mReadWind_r mReadGrain_r mReadPeople_r mReadHours_r mReadGrains_r mText mLength mAt_r mFaultAt_r mMoved mActs mNext mRow mSeen mSeenKind mSeenLift mSeenFlew mSeed mIsKept mKept) sz rv) 0 0 (va_A (mW a cI cZ mPeople mHours mGrains mKind mWind mWeight mSort mOwner mNow mReadKind mReadWind mReadGrain mReadPeople mReadHours mReadGrains mText mLength mAt mFaultAt mMoved mActs mNext mRow mSeen mSeenKind mSeenLift mSeenFlew mSeed mIsKept mKept) sz) := by
  unfold mm_fault at h
  refine Met.ofW (cc := cX12_fault) (maxL := 1) (ret := (some .int)) (by decide) rfl ?_
  intro p e s m args below meth c s₁ B hml hv
  obtain ⟨rfl, hsz, hP, hK, hD0⟩ := hv
  have hx := B.exec
  have hb := B.bytes
  have hr := B.returns
  have hts := atoms_spec (ws := wsX12_fault) B.pre
  have hown : s.vm.findClass RX12 = some m.cls := findClass_of_methodNamed B.named
  have hlocks := B.notSynchronized
  subst hsz
  have hD := hD0.self (sz := s.heap.size)
  have hA : ∀ q : Nat, s.heap.size ≤ q → va_A (mW a cI cZ mPeople mHours mGrains mKind mWind mWeight mSort mOwner mNow mReadKind mReadWind mReadGrain mReadPeople mReadHours mReadGrains mText mLength mAt mFaultAt mMoved mActs mNext mRow mSeen mSeenKind mSeenLift mSeenFlew mSeed mIsKept mKept) s.heap.size q := fun q h => Or.inr h
  have hS : va_S (va_A (mW a cI cZ mPeople mHours mGrains mKind mWind mWeight mSort mOwner mNow mReadKind mReadWind mReadGrain mReadPeople mReadHours mReadGrains mText mLength mAt mFaultAt mMoved mActs mNext mRow mSeen mSeenKind mSeenLift mSeenFlew mSeed mIsKept mKept) s.heap.size) s.heap s.heap [] := va_S.rf
  obtain ⟨A, hAe⟩ : ∃ A, A = va_A (mW a cI cZ mPeople mHours mGrains mKind mWind mWeight mSort mOwner mNow mReadKind mReadWind mReadGrain mReadPeople mReadHours mReadGrains mText mLength mAt mFaultAt mMoved mActs mNext mRow mSeen mSeenKind mSeenLift mSeenFlew mSeed mIsKept mKept) s.heap.size := ⟨_, rfl⟩
  rw [← hAe] at hD hA hS
  have hl := lv_entry ([.ref (a 0)]) (n := 1) (Nat.le_of_ble_eq_true rfl)
  rw [lg_entry_eq]
  generalize (lg_sl ([.ref (a 0)]) ++ List.replicate (1 - (lg_sl ([.ref (a 0)])).length) Slot.unset).toArray = ls at hl ⊢
  have hl : lv_has ls 1 [(0, .ref (a 0))] := hl
  refine lv_aload_n hx hb dX12_fault_0 rfl (lv_at hl 0 rfl) ?_
  obtain ⟨q1, hq1, h⟩ := bS h
  refine wcI (va_runV (As := []) (rest := []) ⟨hx, hb, hml, hown, hts⟩ (c_mm_readText l D cI cJ cZ a mPeople mHours mGrains mKind mWind mWeight mSort mOwner mNow mReadKind mReadWind mReadGrain mReadPeople mReadHours mReadGrains mText mLength mAt mFaultAt mMoved mActs mNext mRow mSeen mSeenKind mSeenLift mSeenFlew mSeed mIsKept mKept s.heap.size  q1.1 q1.2.1 q1.2.2.1 q1.2.2.2.1 q1.2.2.2.2.1 q1.2.2.2.2.2.1 q1.2.2.2.2.2.2.1 q1.2.2.2.2.2.2.2.1 q1.2.2.2.2.2.2.2.2 hq1) (cwV 0 hts gX12_fault_X12_readText rfl rfl rfl (by decide +kernel) ⟨Nat.le_of_ble_eq_true rfl, Nat.le_of_ble_eq_true rfl⟩) (wPreV hK hP hD (ci := 5) (q0 := 0) rfl rfl) rfl rfl hl.1 rfl (lv_room (Nat.le_of_ble_eq_true rfl)) dX12_fault_1 ⟨Nat.zero_le _, Nat.zero_le _⟩) hD hS hA (fun H locs hP hD hS => ?_)
  have hP : va_P D vwCl (mW a cI cZ mPeople mHours mGrains mKind mWind mWeight mSort mOwner mNow q1.2.1 q1.2.2.1 q1.2.2.2.1 q1.2.2.2.2.1 q1.2.2.2.2.2.1 q1.2.2.2.2.2.2.1 mText mLength q1.2.2.2.2.2.2.2.1 q1.2.2.2.2.2.2.2.2 mMoved mActs mNext mRow mSeen mSeenKind mSeenLift mSeenFlew mSeed mIsKept mKept) H := hP
  have hD : va_D A (mW a cI cZ mPeople mHours mGrains mKind mWind mWeight mSort mOwner mNow q1.2.1 q1.2.2.1 q1.2.2.2.1 q1.2.2.2.2.1 q1.2.2.2.2.2.1 q1.2.2.2.2.2.2.1 mText mLength q1.2.2.2.2.2.2.2.1 q1.2.2.2.2.2.2.2.2 mMoved mActs mNext mRow mSeen mSeenKind mSeenLift mSeenFlew mSeed mIsKept mKept) := hD
  cases h
  subst hAe
  exact W.iret hx hb hr (fun t ht _ => ⟨⟨_, (), rfl, rfl, by rw [ht]; exact hP, hD⟩, hS.F ht⟩) hS.2.2 dX12_fault_4

set_option maxHeartbeats 4000000 in
set_option maxRecDepth 100000 in
theorem c_mm_floor (l : Launch) (D : va_G) (cI cJ cZ : ClassId) (a : Nat → Nat) (mPeople : Int32) (mHours : Int32) (mGrains : Int32) (mKind : Nat → Int32) (mWind : Nat → Int32) (mWeight : Nat → Int32) (mSort : Nat → Int32) (mOwner : Nat → Int32) (mNow : Nat → Int32) (mReadKind : Nat → Int32) (mReadWind : Nat → Int32) (mReadGrain : Nat → Int32) (mReadPeople : Int32) (mReadHours : Int32) (mReadGrains : Int32) (mText : Nat → Int32) (mLength : Int32) (mAt : Int32) (mFaultAt : Int32) (mMoved : Nat → Int32) (mActs : Int32) (mNext : Int32) (mRow : Nat → Int32) (mSeen : Int32) (mSeenKind : Nat → Int32) (mSeenLift : Nat → Int32) (mSeenFlew : Nat → Int32) (mSeed : Int64) (mIsKept : Nat → Int32) (mKept : Nat → Int32)  (sz : Nat)  (rv : Int32) (mPeople_r : Int32) (mHours_r : Int32) (mGrains_r : Int32) (mKind_r : Nat → Int32) (mWind_r : Nat → Int32) (mWeight_r : Nat → Int32) (mSort_r : Nat → Int32) (mOwner_r : Nat → Int32) (mNow_r : Nat → Int32) (mReadKind_r : Nat → Int32) (mReadWind_r : Nat → Int32) (mReadGrain_r : Nat → Int32) (mReadPeople_r : Int32) (mReadHours_r : Int32) (mReadGrains_r : Int32) (mAt_r : Int32) (mFaultAt_r : Int32) (mActs_r : Int32) (mIsKept_r : Nat → Int32) (h : mm_floor mPeople mHours mGrains mKind mWind mWeight mSort mOwner mNow mReadKind mReadWind mReadGrain mText mLength mActs mIsKept = some (rv, mPeople_r, mHours_r, mGrains_r, mKind_r, mWind_r, mWeight_r, mSort_r, mOwner_r, mNow_r, mReadKind_r, mReadWind_r, mReadGrain_r, mReadPeople_r, mReadHours_r, mReadGrains_r, mAt_r, mFaultAt_r, mActs_r, mIsKept_r)) : Met l yX12_floor wsX12_floor ({ frames := 4, cells := 0, slots := 0, locals := 90 } : Room) (wPc D cI cJ cZ (mW a cI cZ mPeople mHours mGrains mKind mWind mWeight mSort mOwner mNow mReadKind mReadWind mReadGrain mReadPeople mReadHours mReadGrains mText mLength mAt mFaultAt mMoved mActs mNext mRow mSeen mSeenKind mSeenLift mSeenFlew mSeed mIsKept mKept) sz [.ref (a 0)]) (wQi D (mW a cI cZ mPeople mHours mGrains mKind mWind mWeight mSort mOwner mNow mReadKind mReadWind mReadGrain mReadPeople mReadHours mReadGrains mText mLength mAt mFaultAt mMoved mActs mNext mRow mSeen mSeenKind mSeenLift mSeenFlew mSeed mIsKept mKept) (mW a cI cZ mPeople_r mHours_r mGrains_r mKind_r mWind_r mWeight_r mSort_r mOwner_r mNow_r mReadKind_r mReadWind_r mReadGrain_r mReadPeople_r mReadHours_r mReadGrains_r mText mLength mAt_r mFaultAt_r mMoved mActs_r mNext mRow mSeen mSeenKind mSeenLift mSeenFlew mSeed mIsKept_r mKept) sz rv) 0 0 (va_A (mW a cI cZ mPeople mHours mGrains mKind mWind mWeight mSort mOwner mNow mReadKind mReadWind mReadGrain mReadPeople mReadHours mReadGrains mText mLength mAt mFaultAt mMoved mActs mNext mRow mSeen mSeenKind mSeenLift mSeenFlew mSeed mIsKept mKept) sz) := by
  unfold mm_floor at h
  refine Met.ofW (cc := cX12_floor) (maxL := 2) (ret := (some .int)) (by decide) rfl ?_
  intro p e s m args below meth c s₁ B hml hv
  obtain ⟨rfl, hsz, hP, hK, hD0⟩ := hv
  have hx := B.exec
  have hb := B.bytes
  have hr := B.returns
  have hts := atoms_spec (ws := wsX12_floor) B.pre
  have hown : s.vm.findClass RX12 = some m.cls := findClass_of_methodNamed B.named
  have hlocks := B.notSynchronized
  subst hsz
  have hD := hD0.self (sz := s.heap.size)
  have hA : ∀ q : Nat, s.heap.size ≤ q → va_A (mW a cI cZ mPeople mHours mGrains mKind mWind mWeight mSort mOwner mNow mReadKind mReadWind mReadGrain mReadPeople mReadHours mReadGrains mText mLength mAt mFaultAt mMoved mActs mNext mRow mSeen mSeenKind mSeenLift mSeenFlew mSeed mIsKept mKept) s.heap.size q := fun q h => Or.inr h
  have hS : va_S (va_A (mW a cI cZ mPeople mHours mGrains mKind mWind mWeight mSort mOwner mNow mReadKind mReadWind mReadGrain mReadPeople mReadHours mReadGrains mText mLength mAt mFaultAt mMoved mActs mNext mRow mSeen mSeenKind mSeenLift mSeenFlew mSeed mIsKept mKept) s.heap.size) s.heap s.heap [] := va_S.rf
  obtain ⟨A, hAe⟩ : ∃ A, A = va_A (mW a cI cZ mPeople mHours mGrains mKind mWind mWeight mSort mOwner mNow mReadKind mReadWind mReadGrain mReadPeople mReadHours mReadGrains mText mLength mAt mFaultAt mMoved mActs mNext mRow mSeen mSeenKind mSeenLift mSeenFlew mSeed mIsKept mKept) s.heap.size := ⟨_, rfl⟩
  rw [← hAe] at hD hA hS
  have hl := lv_entry ([.ref (a 0)]) (n := 2) (Nat.le_of_ble_eq_true rfl)
  rw [lg_entry_eq]
  generalize (lg_sl ([.ref (a 0)]) ++ List.replicate (2 - (lg_sl ([.ref (a 0)])).length) Slot.unset).toArray = ls at hl ⊢
  have hl : lv_has ls 2 [(0, .ref (a 0))] := hl
  have hiX12 : ∀ w ∈ u_ws RX12 TX12 30, w ∈ wsX12_floor := fun w hw => List.mem_cons_of_mem _ (List.mem_append_right _ hw)
  refine lv_aload_n hx hb dX12_floor_0 rfl (lv_at hl 0 rfl) ?_
  obtain ⟨q1, hq1, h⟩ := bS h
  refine wcI (va_runV (As := []) (rest := []) ⟨hx, hb, hml, hown, hts⟩ (c_mm_readText l D cI cJ cZ a mPeople mHours mGrains mKind mWind mWeight mSort mOwner mNow mReadKind mReadWind mReadGrain mReadPeople mReadHours mReadGrains mText mLength mAt mFaultAt mMoved mActs mNext mRow mSeen mSeenKind mSeenLift mSeenFlew mSeed mIsKept mKept s.heap.size  q1.1 q1.2.1 q1.2.2.1 q1.2.2.2.1 q1.2.2.2.2.1 q1.2.2.2.2.2.1 q1.2.2.2.2.2.2.1 q1.2.2.2.2.2.2.2.1 q1.2.2.2.2.2.2.2.2 hq1) (cwV 0 hts gX12_floor_X12_readText rfl rfl rfl (by decide +kernel) ⟨Nat.le_of_ble_eq_true rfl, Nat.le_of_ble_eq_true rfl⟩) (wPreV hK hP hD (ci := 5) (q0 := 0) rfl rfl) rfl rfl hl.1 rfl (lv_room (Nat.le_of_ble_eq_true rfl)) dX12_floor_1 ⟨Nat.zero_le _, Nat.zero_le _⟩) hD hS hA (fun H locs hP hD hS => ?_)
  have hP : va_P D vwCl (mW a cI cZ mPeople mHours mGrains mKind mWind mWeight mSort mOwner mNow q1.2.1 q1.2.2.1 q1.2.2.2.1 q1.2.2.2.2.1 q1.2.2.2.2.2.1 q1.2.2.2.2.2.2.1 mText mLength q1.2.2.2.2.2.2.2.1 q1.2.2.2.2.2.2.2.2 mMoved mActs mNext mRow mSeen mSeenKind mSeenLift mSeenFlew mSeed mIsKept mKept) H := hP
  have hD : va_D A (mW a cI cZ mPeople mHours mGrains mKind mWind mWeight mSort mOwner mNow q1.2.1 q1.2.2.1 q1.2.2.2.1 q1.2.2.2.2.1 q1.2.2.2.2.2.1 q1.2.2.2.2.2.2.1 mText mLength q1.2.2.2.2.2.2.2.1 q1.2.2.2.2.2.2.2.2 mMoved mActs mNext mRow mSeen mSeenKind mSeenLift mSeenFlew mSeed mIsKept mKept) := hD
  refine lv_bipush (v := (-9)) hx hb dX12_floor_4 (by decide) ?_
  refine lv_icmp_eq (tgt := 12) hx hb dX12_floor_6 (by decide) (fun c2 => ?_) (fun c2 => ?_)
  · have h := iT c2 h
    refine lv_aload_n hx hb dX12_floor_12 rfl (lv_at hl 0 rfl) ?_
    refine lv_aload_n hx hb dX12_floor_13 rfl (lv_at hl 0 rfl) ?_
    refine va_get (D := D) (ci := 5) (v := .int q1.2.2.2.2.1) (C := RX12) (T := TX12) (N := 30) hx hb hts hiX12 hown hK.1 hP 0 rfl rfl 12 (by decide) (hts (.fieldLink RX12 78 "WinnowedGuiltModel" "readPeople" "I") (by decide +kernel)) (fun _ h9 => h9) rfl dX12_floor_14 ?_
    refine va_put (D := D) (ci := 5) (v := .int q1.2.2.2.2.1) (ty := .int) (C := RX12) (T := TX12) (N := 30) hx hb hts hiX12 tyX12 tyX12_ok nmX12 hown hK.1 hP hD hS 0 rfl rfl 0 (by decide) (hts (.fieldLink RX12 99 "WinnowedGuiltModel" "people" "I") (by decide +kernel)) (fun _ h9 => h9) rfl (by decide +kernel) rfl rfl (Nat.le_of_ble_eq_true rfl) dX12_floor_17 (fun H locs hP hD hS => ?_)
    have hP : va_P D vwCl (mW a cI cZ q1.2.2.2.2.1 mHours mGrains mKind mWind mWeight mSort mOwner mNow q1.2.1 q1.2.2.1 q1.2.2.2.1 q1.2.2.2.2.1 q1.2.2.2.2.2.1 q1.2.2.2.2.2.2.1 mText mLength q1.2.2.2.2.2.2.2.1 q1.2.2.2.2.2.2.2.2 mMoved mActs mNext mRow mSeen mSeenKind mSeenLift mSeenFlew mSeed mIsKept mKept) H := hP
    have hD : va_D A (mW a cI cZ q1.2.2.2.2.1 mHours mGrains mKind mWind mWeight mSort mOwner mNow q1.2.1 q1.2.2.1 q1.2.2.2.1 q1.2.2.2.2.1 q1.2.2.2.2.2.1 q1.2.2.2.2.2.2.1 mText mLength q1.2.2.2.2.2.2.2.1 q1.2.2.2.2.2.2.2.2 mMoved mActs mNext mRow mSeen mSeenKind mSeenLift mSeenFlew mSeed mIsKept mKept) := hD
    refine lv_aload_n hx hb dX12_floor_20 rfl (lv_at hl 0 rfl) ?_
    refine lv_aload_n hx hb dX12_floor_21 rfl (lv_at hl 0 rfl) ?_
    refine va_get (D := D) (ci := 5) (v := .int q1.2.2.2.2.2.1) (C := RX12) (T := TX12) (N := 30) hx hb hts hiX12 hown hK.1 hP 0 rfl rfl 13 (by decide) (hts (.fieldLink RX12 81 "WinnowedGuiltModel" "readHours" "I") (by decide +kernel)) (fun _ h9 => h9) rfl dX12_floor_22 ?_
    refine va_put (D := D) (ci := 5) (v := .int q1.2.2.2.2.2.1) (ty := .int) (C := RX12) (T := TX12) (N := 30) hx hb hts hiX12 tyX12 tyX12_ok nmX12 hown hK.1 hP hD hS 0 rfl rfl 1 (by decide) (hts (.fieldLink RX12 102 "WinnowedGuiltModel" "hours" "I") (by decide +kernel)) (fun _ h9 => h9) rfl (by decide +kernel) rfl rfl (Nat.le_of_ble_eq_true rfl) dX12_floor_25 (fun H locs hP hD hS => ?_)
    have hP : va_P D vwCl (mW a cI cZ q1.2.2.2.2.1 q1.2.2.2.2.2.1 mGrains mKind mWind mWeight mSort mOwner mNow q1.2.1 q1.2.2.1 q1.2.2.2.1 q1.2.2.2.2.1 q1.2.2.2.2.2.1 q1.2.2.2.2.2.2.1 mText mLength q1.2.2.2.2.2.2.2.1 q1.2.2.2.2.2.2.2.2 mMoved mActs mNext mRow mSeen mSeenKind mSeenLift mSeenFlew mSeed mIsKept mKept) H := hP
    have hD : va_D A (mW a cI cZ q1.2.2.2.2.1 q1.2.2.2.2.2.1 mGrains mKind mWind mWeight mSort mOwner mNow q1.2.1 q1.2.2.1 q1.2.2.2.1 q1.2.2.2.2.1 q1.2.2.2.2.2.1 q1.2.2.2.2.2.2.1 mText mLength q1.2.2.2.2.2.2.2.1 q1.2.2.2.2.2.2.2.2 mMoved mActs mNext mRow mSeen mSeenKind mSeenLift mSeenFlew mSeed mIsKept mKept) := hD
    refine lv_aload_n hx hb dX12_floor_28 rfl (lv_at hl 0 rfl) ?_
    refine lv_aload_n hx hb dX12_floor_29 rfl (lv_at hl 0 rfl) ?_
    refine va_get (D := D) (ci := 5) (v := .int q1.2.2.2.2.2.2.1) (C := RX12) (T := TX12) (N := 30) hx hb hts hiX12 hown hK.1 hP 0 rfl rfl 14 (by decide) (hts (.fieldLink RX12 84 "WinnowedGuiltModel" "readGrains" "I") (by decide +kernel)) (fun _ h9 => h9) rfl dX12_floor_30 ?_
    refine va_put (D := D) (ci := 5) (v := .int q1.2.2.2.2.2.2.1) (ty := .int) (C := RX12) (T := TX12) (N := 30) hx hb hts hiX12 tyX12 tyX12_ok nmX12 hown hK.1 hP hD hS 0 rfl rfl 2 (by decide) (hts (.fieldLink RX12 105 "WinnowedGuiltModel" "grains" "I") (by decide +kernel)) (fun _ h9 => h9) rfl (by decide +kernel) rfl rfl (Nat.le_of_ble_eq_true rfl) dX12_floor_33 (fun H locs hP hD hS => ?_)
    have hP : va_P D vwCl (mW a cI cZ q1.2.2.2.2.1 q1.2.2.2.2.2.1 q1.2.2.2.2.2.2.1 mKind mWind mWeight mSort mOwner mNow q1.2.1 q1.2.2.1 q1.2.2.2.1 q1.2.2.2.2.1 q1.2.2.2.2.2.1 q1.2.2.2.2.2.2.1 mText mLength q1.2.2.2.2.2.2.2.1 q1.2.2.2.2.2.2.2.2 mMoved mActs mNext mRow mSeen mSeenKind mSeenLift mSeenFlew mSeed mIsKept mKept) H := hP
    have hD : va_D A (mW a cI cZ q1.2.2.2.2.1 q1.2.2.2.2.2.1 q1.2.2.2.2.2.2.1 mKind mWind mWeight mSort mOwner mNow q1.2.1 q1.2.2.1 q1.2.2.2.1 q1.2.2.2.2.1 q1.2.2.2.2.2.1 q1.2.2.2.2.2.2.1 mText mLength q1.2.2.2.2.2.2.2.1 q1.2.2.2.2.2.2.2.2 mMoved mActs mNext mRow mSeen mSeenKind mSeenLift mSeenFlew mSeed mIsKept mKept) := hD
    refine lv_iconst (v := 0) hx hb dX12_floor_36 (by decide) ?_
    refine lv_istore_n (lv' := [(1, .int 0), (0, .ref (a 0))]) hx hb dX12_floor_37 rfl hl (by decide) rfl (fun ls hl => ?_)
    have L38 : ∀ (n : Nat) (x1_38 : Int32) (mKind_38x : (Nat → Int32)) (H : Heap) (locs : List Loc) (ls : Array Slot) (kx : Int32 → (Nat → Int32) → Option (Int32 × (Int32) × (Int32) × (Int32) × (Nat → Int32) × (Nat → Int32) × (Nat → Int32) × (Nat → Int32) × (Nat → Int32) × (Nat → Int32) × (Nat → Int32) × (Nat → Int32) × (Nat → Int32) × (Int32) × (Int32) × (Int32) × (Int32) × (Int32) × (Int32) × (Nat → Int32))), mm_floor_L38 q1.2.2.2.2.1 q1.2.1 kx n x1_38 mKind_38x = some (rv, mPeople_r, mHours_r, mGrains_r, mKind_r, mWind_r, mWeight_r, mSort_r, mOwner_r, mNow_r, mReadKind_r, mReadWind_r, mReadGrain_r, mReadPeople_r, mReadHours_r, mReadGrains_r, mAt_r, mFaultAt_r, mActs_r, mIsKept_r) → va_P D vwCl (mW a cI cZ q1.2.2.2.2.1 q1.2.2.2.2.2.1 q1.2.2.2.2.2.2.1 mKind_38x mWind mWeight mSort mOwner mNow q1.2.1 q1.2.2.1 q1.2.2.2.1 q1.2.2.2.2.1 q1.2.2.2.2.2.1 q1.2.2.2.2.2.2.1 mText mLength q1.2.2.2.2.2.2.2.1 q1.2.2.2.2.2.2.2.2 mMoved mActs mNext mRow mSeen mSeenKind mSeenLift mSeenFlew mSeed mIsKept mKept) H → va_D A (mW a cI cZ q1.2.2.2.2.1 q1.2.2.2.2.2.1 q1.2.2.2.2.2.2.1 mKind_38x mWind mWeight mSort mOwner mNow q1.2.1 q1.2.2.1 q1.2.2.2.1 q1.2.2.2.2.1 q1.2.2.2.2.2.1 q1.2.2.2.2.2.2.1 mText mLength q1.2.2.2.2.2.2.2.1 q1.2.2.2.2.2.2.2.2 mMoved mActs mNext mRow mSeen mSeenKind mSeenLift mSeenFlew mSeed mIsKept mKept) → va_S A s.heap H locs → lv_has ls 2 [(1, .int x1_38), (0, .ref (a 0))] → (∀ (y1_38 : Int32) (mKind_38 : (Nat → Int32)) (H : Heap) (locs : List Loc) (ls : Array Slot), kx y1_38 mKind_38 = some (rv, mPeople_r, mHours_r, mGrains_r, mKind_r, mWind_r, mWeight_r, mSort_r, mOwner_r, mNow_r, mReadKind_r, mReadWind_r, mReadGrain_r, mReadPeople_r, mReadHours_r, mReadGrains_r, mAt_r, mFaultAt_r, mActs_r, mIsKept_r) → va_P D vwCl (mW a cI cZ q1.2.2.2.2.1 q1.2.2.2.2.2.1 q1.2.2.2.2.2.2.1 mKind_38 mWind mWeight mSort mOwner mNow q1.2.1 q1.2.2.1 q1.2.2.2.1 q1.2.2.2.2.1 q1.2.2.2.2.2.1 q1.2.2.2.2.2.2.1 mText mLength q1.2.2.2.2.2.2.2.1 q1.2.2.2.2.2.2.2.2 mMoved mActs mNext mRow mSeen mSeenKind mSeenLift mSeenFlew mSeed mIsKept mKept) H → va_D A (mW a cI cZ q1.2.2.2.2.1 q1.2.2.2.2.2.1 q1.2.2.2.2.2.2.1 mKind_38 mWind mWeight mSort mOwner mNow q1.2.1 q1.2.2.1 q1.2.2.2.1 q1.2.2.2.2.1 q1.2.2.2.2.2.1 q1.2.2.2.2.2.2.1 mText mLength q1.2.2.2.2.2.2.2.1 q1.2.2.2.2.2.2.2.2 mMoved mActs mNext mRow mSeen mSeenKind mSeenLift mSeenFlew mSeed mIsKept mKept) → va_S A s.heap H locs → lv_has ls 2 [(1, .int y1_38), (0, .ref (a 0))] → W p l e (headSpec wsX12_floor ({ frames := 4, cells := 0, slots := 0, locals := 90 } : Room)).room s m ([.ref (a 0)] : List Value).toArray below meth c H locs 0 0 (MQ below (wQi D (mW a cI cZ mPeople mHours mGrains mKind mWind mWeight mSort mOwner mNow mReadKind mReadWind mReadGrain mReadPeople mReadHours mReadGrains mText mLength mAt mFaultAt mMoved mActs mNext mRow mSeen mSeenKind mSeenLift mSeenFlew mSeed mIsKept mKept) (mW a cI cZ mPeople_r mHours_r mGrains_r mKind_r mWind_r mWeight_r mSort_r mOwner_r mNow_r mReadKind_r mReadWind_r mReadGrain_r mReadPeople_r mReadHours_r mReadGrains_r mText mLength mAt_r mFaultAt_r mMoved mActs_r mNext mRow mSeen mSeenKind mSeenLift mSeenFlew mSeed mIsKept_r mKept) s.heap.size rv) ([.ref (a 0)] : List Value).toArray s 0 0 (va_A (mW a cI cZ mPeople mHours mGrains mKind mWind mWeight mSort mOwner mNow mReadKind mReadWind mReadGrain mReadPeople mReadHours mReadGrains mText mLength mAt mFaultAt mMoved mActs mNext mRow mSeen mSeenKind mSeenLift mSeenFlew mSeed mIsKept mKept) s.heap.size)) (F0 m 64 ls [])) → W p l e (headSpec wsX12_floor ({ frames := 4, cells := 0, slots := 0, locals := 90 } : Room)).room s m ([.ref (a 0)] : List Value).toArray below meth c H locs 0 0 (MQ below (wQi D (mW a cI cZ mPeople mHours mGrains mKind mWind mWeight mSort mOwner mNow mReadKind mReadWind mReadGrain mReadPeople mReadHours mReadGrains mText mLength mAt mFaultAt mMoved mActs mNext mRow mSeen mSeenKind mSeenLift mSeenFlew mSeed mIsKept mKept) (mW a cI cZ mPeople_r mHours_r mGrains_r mKind_r mWind_r mWeight_r mSort_r mOwner_r mNow_r mReadKind_r mReadWind_r mReadGrain_r mReadPeople_r mReadHours_r mReadGrains_r mText mLength mAt_r mFaultAt_r mMoved mActs_r mNext mRow mSeen mSeenKind mSeenLift mSeenFlew mSeed mIsKept_r mKept) s.heap.size rv) ([.ref (a 0)] : List Value).toArray s 0 0 (va_A (mW a cI cZ mPeople mHours mGrains mKind mWind mWeight mSort mOwner mNow mReadKind mReadWind mReadGrain mReadPeople mReadHours mReadGrains mText mLength mAt mFaultAt mMoved mActs mNext mRow mSeen mSeenKind mSeenLift mSeenFlew mSeed mIsKept mKept) s.heap.size)) (F0 m 38 ls []) := by
      intro n
      induction n with
      | zero => intro _ _ _ _ _ _ h; rw [mm_floor_L38.eq_1] at h; cases h
      | succ n ih =>
        intro x1_38 mKind_38x H locs ls kx h hP hD hS hl hk
        rw [mm_floor_L38.eq_2] at h
        refine lv_iload_n hx hb dX12_floor_38 rfl (lv_at hl 0 rfl) ?_
        refine lv_aload_n hx hb dX12_floor_39 rfl (lv_at hl 1 rfl) ?_
        refine va_get (D := D) (ci := 5) (v := .int q1.2.2.2.2.1) (C := RX12) (T := TX12) (N := 30) hx hb hts hiX12 hown hK.1 hP 0 rfl rfl 0 (by decide) (hts (.fieldLink RX12 99 "WinnowedGuiltModel" "people" "I") (by decide +kernel)) (fun _ h9 => h9) rfl dX12_floor_40 ?_
        refine lv_icmp_ge (tgt := 64) hx hb dX12_floor_43 (by decide) (fun c3 => ?_) (fun c3 => ?_)
        · have h := iT c3 h
          exact hk _ _ _ _ _ h hP hD hS (lv_sub hl [0, 1] rfl)
        · have h := iF c3 h
          refine lv_aload_n hx hb dX12_floor_46 rfl (lv_at hl 1 rfl) ?_
          refine va_get (D := D) (ci := 5) (v := .ref (a 1)) (C := RX12) (T := TX12) (N := 30) hx hb hts hiX12 hown hK.1 hP 0 rfl rfl 3 (by decide) (hts (.fieldLink RX12 7 "WinnowedGuiltModel" "kind" "[I") (by decide +kernel)) (fun _ h9 => h9) rfl dX12_floor_47 ?_
          refine lv_iload_n hx hb dX12_floor_50 rfl (lv_at hl 0 rfl) ?_
          refine lv_aload_n hx hb dX12_floor_51 rfl (lv_at hl 1 rfl) ?_
          refine va_get (D := D) (ci := 5) (v := .ref (a 7)) (C := RX12) (T := TX12) (N := 30) hx hb hts hiX12 hown hK.1 hP 0 rfl rfl 9 (by decide) (hts (.fieldLink RX12 28 "WinnowedGuiltModel" "readKind" "[I") (by decide +kernel)) (fun _ h9 => h9) rfl dX12_floor_52 ?_
          refine lv_iload_n hx hb dX12_floor_55 rfl (lv_at hl 0 rfl) ?_
          obtain ⟨hi4, h⟩ := gI_some h
          refine ldI (v := (q1.2.1 (Int32.toNatClampNeg x1_38))) hx hb hK.1 hP 7 rfl rfl hi4 rfl dX12_floor_56 ?_
          obtain ⟨hi5, h⟩ := gI_some h
          refine va_iast hx hb hK.1 hP hD hS 1 0 rfl rfl hi5 dX12_floor_57 (fun H locs hP hD hS => ?_)
          have hP : va_P D vwCl (mW a cI cZ q1.2.2.2.2.1 q1.2.2.2.2.2.1 q1.2.2.2.2.2.2.1 (upd mKind_38x (Int32.toNatClampNeg x1_38) (q1.2.1 (Int32.toNatClampNeg x1_38))) mWind mWeight mSort mOwner mNow q1.2.1 q1.2.2.1 q1.2.2.2.1 q1.2.2.2.2.1 q1.2.2.2.2.2.1 q1.2.2.2.2.2.2.1 mText mLength q1.2.2.2.2.2.2.2.1 q1.2.2.2.2.2.2.2.2 mMoved mActs mNext mRow mSeen mSeenKind mSeenLift mSeenFlew mSeed mIsKept mKept) H := hP
          have hD : va_D A (mW a cI cZ q1.2.2.2.2.1 q1.2.2.2.2.2.1 q1.2.2.2.2.2.2.1 (upd mKind_38x (Int32.toNatClampNeg x1_38) (q1.2.1 (Int32.toNatClampNeg x1_38))) mWind mWeight mSort mOwner mNow q1.2.1 q1.2.2.1 q1.2.2.2.1 q1.2.2.2.2.1 q1.2.2.2.2.2.1 q1.2.2.2.2.2.2.1 mText mLength q1.2.2.2.2.2.2.2.1 q1.2.2.2.2.2.2.2.2 mMoved mActs mNext mRow mSeen mSeenKind mSeenLift mSeenFlew mSeed mIsKept mKept) := hD
          refine lv_iinc (v := (x1_38 + 1)) (lv' := [(1, .int (x1_38 + 1)), (0, .ref (a 0))]) hx hb dX12_floor_58 hl (k := 0) rfl rfl (by decide) rfl (fun ls hl => ?_)
          refine lv_goto (tgt := 38) hx hb dX12_floor_61 (by decide) ?_
          exact ih _ _ _ _ _ _ h hP hD hS (lv_sub hl [0, 1] rfl) hk
    refine L38 _ _ _ _ _ _ _ h hP hD hS hl (fun y1_38 mKind_38 H locs ls h hP hD hS hl => ?_)
    refine lv_iconst (v := 0) hx hb dX12_floor_64 (by decide) ?_
    refine lv_istore_n (lv' := [(1, .int 0), (0, .ref (a 0))]) hx hb dX12_floor_65 rfl hl (by decide) rfl (fun ls hl => ?_)
    have L66 : ∀ (n : Nat) (x1_66 : Int32) (mWind_66x : (Nat → Int32)) (H : Heap) (locs : List Loc) (ls : Array Slot) (kx : Int32 → (Nat → Int32) → Option (Int32 × (Int32) × (Int32) × (Int32) × (Nat → Int32) × (Nat → Int32) × (Nat → Int32) × (Nat → Int32) × (Nat → Int32) × (Nat → Int32) × (Nat → Int32) × (Nat → Int32) × (Nat → Int32) × (Int32) × (Int32) × (Int32) × (Int32) × (Int32) × (Int32) × (Nat → Int32))), mm_floor_L66 q1.2.2.2.2.2.1 q1.2.2.1 kx n x1_66 mWind_66x = some (rv, mPeople_r, mHours_r, mGrains_r, mKind_r, mWind_r, mWeight_r, mSort_r, mOwner_r, mNow_r, mReadKind_r, mReadWind_r, mReadGrain_r, mReadPeople_r, mReadHours_r, mReadGrains_r, mAt_r, mFaultAt_r, mActs_r, mIsKept_r) → va_P D vwCl (mW a cI cZ q1.2.2.2.2.1 q1.2.2.2.2.2.1 q1.2.2.2.2.2.2.1 mKind_38 mWind_66x mWeight mSort mOwner mNow q1.2.1 q1.2.2.1 q1.2.2.2.1 q1.2.2.2.2.1 q1.2.2.2.2.2.1 q1.2.2.2.2.2.2.1 mText mLength q1.2.2.2.2.2.2.2.1 q1.2.2.2.2.2.2.2.2 mMoved mActs mNext mRow mSeen mSeenKind mSeenLift mSeenFlew mSeed mIsKept mKept) H → va_D A (mW a cI cZ q1.2.2.2.2.1 q1.2.2.2.2.2.1 q1.2.2.2.2.2.2.1 mKind_38 mWind_66x mWeight mSort mOwner mNow q1.2.1 q1.2.2.1 q1.2.2.2.1 q1.2.2.2.2.1 q1.2.2.2.2.2.1 q1.2.2.2.2.2.2.1 mText mLength q1.2.2.2.2.2.2.2.1 q1.2.2.2.2.2.2.2.2 mMoved mActs mNext mRow mSeen mSeenKind mSeenLift mSeenFlew mSeed mIsKept mKept) → va_S A s.heap H locs → lv_has ls 2 [(1, .int x1_66), (0, .ref (a 0))] → (∀ (y1_66 : Int32) (mWind_66 : (Nat → Int32)) (H : Heap) (locs : List Loc) (ls : Array Slot), kx y1_66 mWind_66 = some (rv, mPeople_r, mHours_r, mGrains_r, mKind_r, mWind_r, mWeight_r, mSort_r, mOwner_r, mNow_r, mReadKind_r, mReadWind_r, mReadGrain_r, mReadPeople_r, mReadHours_r, mReadGrains_r, mAt_r, mFaultAt_r, mActs_r, mIsKept_r) → va_P D vwCl (mW a cI cZ q1.2.2.2.2.1 q1.2.2.2.2.2.1 q1.2.2.2.2.2.2.1 mKind_38 mWind_66 mWeight mSort mOwner mNow q1.2.1 q1.2.2.1 q1.2.2.2.1 q1.2.2.2.2.1 q1.2.2.2.2.2.1 q1.2.2.2.2.2.2.1 mText mLength q1.2.2.2.2.2.2.2.1 q1.2.2.2.2.2.2.2.2 mMoved mActs mNext mRow mSeen mSeenKind mSeenLift mSeenFlew mSeed mIsKept mKept) H → va_D A (mW a cI cZ q1.2.2.2.2.1 q1.2.2.2.2.2.1 q1.2.2.2.2.2.2.1 mKind_38 mWind_66 mWeight mSort mOwner mNow q1.2.1 q1.2.2.1 q1.2.2.2.1 q1.2.2.2.2.1 q1.2.2.2.2.2.1 q1.2.2.2.2.2.2.1 mText mLength q1.2.2.2.2.2.2.2.1 q1.2.2.2.2.2.2.2.2 mMoved mActs mNext mRow mSeen mSeenKind mSeenLift mSeenFlew mSeed mIsKept mKept) → va_S A s.heap H locs → lv_has ls 2 [(1, .int y1_66), (0, .ref (a 0))] → W p l e (headSpec wsX12_floor ({ frames := 4, cells := 0, slots := 0, locals := 90 } : Room)).room s m ([.ref (a 0)] : List Value).toArray below meth c H locs 0 0 (MQ below (wQi D (mW a cI cZ mPeople mHours mGrains mKind mWind mWeight mSort mOwner mNow mReadKind mReadWind mReadGrain mReadPeople mReadHours mReadGrains mText mLength mAt mFaultAt mMoved mActs mNext mRow mSeen mSeenKind mSeenLift mSeenFlew mSeed mIsKept mKept) (mW a cI cZ mPeople_r mHours_r mGrains_r mKind_r mWind_r mWeight_r mSort_r mOwner_r mNow_r mReadKind_r mReadWind_r mReadGrain_r mReadPeople_r mReadHours_r mReadGrains_r mText mLength mAt_r mFaultAt_r mMoved mActs_r mNext mRow mSeen mSeenKind mSeenLift mSeenFlew mSeed mIsKept_r mKept) s.heap.size rv) ([.ref (a 0)] : List Value).toArray s 0 0 (va_A (mW a cI cZ mPeople mHours mGrains mKind mWind mWeight mSort mOwner mNow mReadKind mReadWind mReadGrain mReadPeople mReadHours mReadGrains mText mLength mAt mFaultAt mMoved mActs mNext mRow mSeen mSeenKind mSeenLift mSeenFlew mSeed mIsKept mKept) s.heap.size)) (F0 m 92 ls [])) → W p l e (headSpec wsX12_floor ({ frames := 4, cells := 0, slots := 0, locals := 90 } : Room)).room s m ([.ref (a 0)] : List Value).toArray below meth c H locs 0 0 (MQ below (wQi D (mW a cI cZ mPeople mHours mGrains mKind mWind mWeight mSort mOwner mNow mReadKind mReadWind mReadGrain mReadPeople mReadHours mReadGrains mText mLength mAt mFaultAt mMoved mActs mNext mRow mSeen mSeenKind mSeenLift mSeenFlew mSeed mIsKept mKept) (mW a cI cZ mPeople_r mHours_r mGrains_r mKind_r mWind_r mWeight_r mSort_r mOwner_r mNow_r mReadKind_r mReadWind_r mReadGrain_r mReadPeople_r mReadHours_r mReadGrains_r mText mLength mAt_r mFaultAt_r mMoved mActs_r mNext mRow mSeen mSeenKind mSeenLift mSeenFlew mSeed mIsKept_r mKept) s.heap.size rv) ([.ref (a 0)] : List Value).toArray s 0 0 (va_A (mW a cI cZ mPeople mHours mGrains mKind mWind mWeight mSort mOwner mNow mReadKind mReadWind mReadGrain mReadPeople mReadHours mReadGrains mText mLength mAt mFaultAt mMoved mActs mNext mRow mSeen mSeenKind mSeenLift mSeenFlew mSeed mIsKept mKept) s.heap.size)) (F0 m 66 ls []) := by
      intro n
      induction n with
      | zero => intro _ _ _ _ _ _ h; rw [mm_floor_L66.eq_1] at h; cases h
      | succ n ih =>
        intro x1_66 mWind_66x H locs ls kx h hP hD hS hl hk
        rw [mm_floor_L66.eq_2] at h
        refine lv_iload_n hx hb dX12_floor_66 rfl (lv_at hl 0 rfl) ?_
        refine lv_aload_n hx hb dX12_floor_67 rfl (lv_at hl 1 rfl) ?_
        refine va_get (D := D) (ci := 5) (v := .int q1.2.2.2.2.2.1) (C := RX12) (T := TX12) (N := 30) hx hb hts hiX12 hown hK.1 hP 0 rfl rfl 1 (by decide) (hts (.fieldLink RX12 102 "WinnowedGuiltModel" "hours" "I") (by decide +kernel)) (fun _ h9 => h9) rfl dX12_floor_68 ?_
        refine lv_icmp_ge (tgt := 92) hx hb dX12_floor_71 (by decide) (fun c3 => ?_) (fun c3 => ?_)
        · have h := iT c3 h
          exact hk _ _ _ _ _ h hP hD hS (lv_sub hl [0, 1] rfl)
        · have h := iF c3 h
          refine lv_aload_n hx hb dX12_floor_74 rfl (lv_at hl 1 rfl) ?_
          refine va_get (D := D) (ci := 5) (v := .ref (a 2)) (C := RX12) (T := TX12) (N := 30) hx hb hts hiX12 hown hK.1 hP 0 rfl rfl 4 (by decide) (hts (.fieldLink RX12 13 "WinnowedGuiltModel" "wind" "[I") (by decide +kernel)) (fun _ h9 => h9) rfl dX12_floor_75 ?_
          refine lv_iload_n hx hb dX12_floor_78 rfl (lv_at hl 0 rfl) ?_
          refine lv_aload_n hx hb dX12_floor_79 rfl (lv_at hl 1 rfl) ?_
          refine va_get (D := D) (ci := 5) (v := .ref (a 8)) (C := RX12) (T := TX12) (N := 30) hx hb hts hiX12 hown hK.1 hP 0 rfl rfl 10 (by decide) (hts (.fieldLink RX12 31 "WinnowedGuiltModel" "readWind" "[I") (by decide +kernel)) (fun _ h9 => h9) rfl dX12_floor_80 ?_
          refine lv_iload_n hx hb dX12_floor_83 rfl (lv_at hl 0 rfl) ?_
          obtain ⟨hi4, h⟩ := gI_some h
          refine ldI (v := (q1.2.2.1 (Int32.toNatClampNeg x1_66))) hx hb hK.1 hP 8 rfl rfl hi4 rfl dX12_floor_84 ?_
          obtain ⟨hi5, h⟩ := gI_some h
          refine va_iast hx hb hK.1 hP hD hS 2 0 rfl rfl hi5 dX12_floor_85 (fun H locs hP hD hS => ?_)
          have hP : va_P D vwCl (mW a cI cZ q1.2.2.2.2.1 q1.2.2.2.2.2.1 q1.2.2.2.2.2.2.1 mKind_38 (upd mWind_66x (Int32.toNatClampNeg x1_66) (q1.2.2.1 (Int32.toNatClampNeg x1_66))) mWeight mSort mOwner mNow q1.2.1 q1.2.2.1 q1.2.2.2.1 q1.2.2.2.2.1 q1.2.2.2.2.2.1 q1.2.2.2.2.2.2.1 mText mLength q1.2.2.2.2.2.2.2.1 q1.2.2.2.2.2.2.2.2 mMoved mActs mNext mRow mSeen mSeenKind mSeenLift mSeenFlew mSeed mIsKept mKept) H := hP
          have hD : va_D A (mW a cI cZ q1.2.2.2.2.1 q1.2.2.2.2.2.1 q1.2.2.2.2.2.2.1 mKind_38 (upd mWind_66x (Int32.toNatClampNeg x1_66) (q1.2.2.1 (Int32.toNatClampNeg x1_66))) mWeight mSort mOwner mNow q1.2.1 q1.2.2.1 q1.2.2.2.1 q1.2.2.2.2.1 q1.2.2.2.2.2.1 q1.2.2.2.2.2.2.1 mText mLength q1.2.2.2.2.2.2.2.1 q1.2.2.2.2.2.2.2.2 mMoved mActs mNext mRow mSeen mSeenKind mSeenLift mSeenFlew mSeed mIsKept mKept) := hD
          refine lv_iinc (v := (x1_66 + 1)) (lv' := [(1, .int (x1_66 + 1)), (0, .ref (a 0))]) hx hb dX12_floor_86 hl (k := 0) rfl rfl (by decide) rfl (fun ls hl => ?_)
          refine lv_goto (tgt := 66) hx hb dX12_floor_89 (by decide) ?_
          exact ih _ _ _ _ _ _ h hP hD hS (lv_sub hl [0, 1] rfl) hk
    refine L66 _ _ _ _ _ _ _ h hP hD hS hl (fun y1_66 mWind_66 H locs ls h hP hD hS hl => ?_)
    refine lv_iconst (v := 0) hx hb dX12_floor_92 (by decide) ?_
    refine lv_istore_n (lv' := [(1, .int 0), (0, .ref (a 0))]) hx hb dX12_floor_93 rfl hl (by decide) rfl (fun ls hl => ?_)
    have L94 : ∀ (n : Nat) (x1_94 : Int32) (mNow_94x : (Nat → Int32)) (H : Heap) (locs : List Loc) (ls : Array Slot) (kx : Int32 → (Nat → Int32) → Option (Int32 × (Int32) × (Int32) × (Int32) × (Nat → Int32) × (Nat → Int32) × (Nat → Int32) × (Nat → Int32) × (Nat → Int32) × (Nat → Int32) × (Nat → Int32) × (Nat → Int32) × (Nat → Int32) × (Int32) × (Int32) × (Int32) × (Int32) × (Int32) × (Int32) × (Nat → Int32))), mm_floor_L94  kx n x1_94 mNow_94x = some (rv, mPeople_r, mHours_r, mGrains_r, mKind_r, mWind_r, mWeight_r, mSort_r, mOwner_r, mNow_r, mReadKind_r, mReadWind_r, mReadGrain_r, mReadPeople_r, mReadHours_r, mReadGrains_r, mAt_r, mFaultAt_r, mActs_r, mIsKept_r) → va_P D vwCl (mW a cI cZ q1.2.2.2.2.1 q1.2.2.2.2.2.1 q1.2.2.2.2.2.2.1 mKind_38 mWind_66 mWeight mSort mOwner mNow_94x q1.2.1 q1.2.2.1 q1.2.2.2.1 q1.2.2.2.2.1 q1.2.2.2.2.2.1 q1.2.2.2.2.2.2.1 mText mLength q1.2.2.2.2.2.2.2.1 q1.2.2.2.2.2.2.2.2 mMoved mActs mNext mRow mSeen mSeenKind mSeenLift mSeenFlew mSeed mIsKept mKept) H → va_D A (mW a cI cZ q1.2.2.2.2.1 q1.2.2.2.2.2.1 q1.2.2.2.2.2.2.1 mKind_38 mWind_66 mWeight mSort mOwner mNow_94x q1.2.1 q1.2.2.1 q1.2.2.2.1 q1.2.2.2.2.1 q1.2.2.2.2.2.1 q1.2.2.2.2.2.2.1 mText mLength q1.2.2.2.2.2.2.2.1 q1.2.2.2.2.2.2.2.2 mMoved mActs mNext mRow mSeen mSeenKind mSeenLift mSeenFlew mSeed mIsKept mKept) → va_S A s.heap H locs → lv_has ls 2 [(1, .int x1_94), (0, .ref (a 0))] → (∀ (y1_94 : Int32) (mNow_94 : (Nat → Int32)) (H : Heap) (locs : List Loc) (ls : Array Slot), kx y1_94 mNow_94 = some (rv, mPeople_r, mHours_r, mGrains_r, mKind_r, mWind_r, mWeight_r, mSort_r, mOwner_r, mNow_r, mReadKind_r, mReadWind_r, mReadGrain_r, mReadPeople_r, mReadHours_r, mReadGrains_r, mAt_r, mFaultAt_r, mActs_r, mIsKept_r) → va_P D vwCl (mW a cI cZ q1.2.2.2.2.1 q1.2.2.2.2.2.1 q1.2.2.2.2.2.2.1 mKind_38 mWind_66 mWeight mSort mOwner mNow_94 q1.2.1 q1.2.2.1 q1.2.2.2.1 q1.2.2.2.2.1 q1.2.2.2.2.2.1 q1.2.2.2.2.2.2.1 mText mLength q1.2.2.2.2.2.2.2.1 q1.2.2.2.2.2.2.2.2 mMoved mActs mNext mRow mSeen mSeenKind mSeenLift mSeenFlew mSeed mIsKept mKept) H → va_D A (mW a cI cZ q1.2.2.2.2.1 q1.2.2.2.2.2.1 q1.2.2.2.2.2.2.1 mKind_38 mWind_66 mWeight mSort mOwner mNow_94 q1.2.1 q1.2.2.1 q1.2.2.2.1 q1.2.2.2.2.1 q1.2.2.2.2.2.1 q1.2.2.2.2.2.2.1 mText mLength q1.2.2.2.2.2.2.2.1 q1.2.2.2.2.2.2.2.2 mMoved mActs mNext mRow mSeen mSeenKind mSeenLift mSeenFlew mSeed mIsKept mKept) → va_S A s.heap H locs → lv_has ls 2 [(1, .int y1_94), (0, .ref (a 0))] → W p l e (headSpec wsX12_floor ({ frames := 4, cells := 0, slots := 0, locals := 90 } : Room)).room s m ([.ref (a 0)] : List Value).toArray below meth c H locs 0 0 (MQ below (wQi D (mW a cI cZ mPeople mHours mGrains mKind mWind mWeight mSort mOwner mNow mReadKind mReadWind mReadGrain mReadPeople mReadHours mReadGrains mText mLength mAt mFaultAt mMoved mActs mNext mRow mSeen mSeenKind mSeenLift mSeenFlew mSeed mIsKept mKept) (mW a cI cZ mPeople_r mHours_r mGrains_r mKind_r mWind_r mWeight_r mSort_r mOwner_r mNow_r mReadKind_r mReadWind_r mReadGrain_r mReadPeople_r mReadHours_r mReadGrains_r mText mLength mAt_r mFaultAt_r mMoved mActs_r mNext mRow mSeen mSeenKind mSeenLift mSeenFlew mSeed mIsKept_r mKept) s.heap.size rv) ([.ref (a 0)] : List Value).toArray s 0 0 (va_A (mW a cI cZ mPeople mHours mGrains mKind mWind mWeight mSort mOwner mNow mReadKind mReadWind mReadGrain mReadPeople mReadHours mReadGrains mText mLength mAt mFaultAt mMoved mActs mNext mRow mSeen mSeenKind mSeenLift mSeenFlew mSeed mIsKept mKept) s.heap.size)) (F0 m 113 ls [])) → W p l e (headSpec wsX12_floor ({ frames := 4, cells := 0, slots := 0, locals := 90 } : Room)).room s m ([.ref (a 0)] : List Value).toArray below meth c H locs 0 0 (MQ below (wQi D (mW a cI cZ mPeople mHours mGrains mKind mWind mWeight mSort mOwner mNow mReadKind mReadWind mReadGrain mReadPeople mReadHours mReadGrains mText mLength mAt mFaultAt mMoved mActs mNext mRow mSeen mSeenKind mSeenLift mSeenFlew mSeed mIsKept mKept) (mW a cI cZ mPeople_r mHours_r mGrains_r mKind_r mWind_r mWeight_r mSort_r mOwner_r mNow_r mReadKind_r mReadWind_r mReadGrain_r mReadPeople_r mReadHours_r mReadGrains_r mText mLength mAt_r mFaultAt_r mMoved mActs_r mNext mRow mSeen mSeenKind mSeenLift mSeenFlew mSeed mIsKept_r mKept) s.heap.size rv) ([.ref (a 0)] : List Value).toArray s 0 0 (va_A (mW a cI cZ mPeople mHours mGrains mKind mWind mWeight mSort mOwner mNow mReadKind mReadWind mReadGrain mReadPeople mReadHours mReadGrains mText mLength mAt mFaultAt mMoved mActs mNext mRow mSeen mSeenKind mSeenLift mSeenFlew mSeed mIsKept mKept) s.heap.size)) (F0 m 94 ls []) := by
      intro n
      induction n with
      | zero => intro _ _ _ _ _ _ h; rw [mm_floor_L94.eq_1] at h; cases h
      | succ n ih =>
        intro x1_94 mNow_94x H locs ls kx h hP hD hS hl hk
        rw [mm_floor_L94.eq_2] at h
        refine lv_iload_n hx hb dX12_floor_94 rfl (lv_at hl 0 rfl) ?_
        refine lv_bipush (v := 9) hx hb dX12_floor_95 (by decide) ?_
        refine lv_icmp_ge (tgt := 113) hx hb dX12_floor_97 (by decide) (fun c3 => ?_) (fun c3 => ?_)
        · have h := iT c3 h
          exact hk _ _ _ _ _ h hP hD hS (lv_sub hl [0, 1] rfl)
        · have h := iF c3 h
          refine lv_aload_n hx hb dX12_floor_100 rfl (lv_at hl 1 rfl) ?_
          refine va_get (D := D) (ci := 5) (v := .ref (a 6)) (C := RX12) (T := TX12) (N := 30) hx hb hts hiX12 hown hK.1 hP 0 rfl rfl 8 (by decide) (hts (.fieldLink RX12 25 "WinnowedGuiltModel" "now" "[I") (by decide +kernel)) (fun _ h9 => h9) rfl dX12_floor_101 ?_
          refine lv_iload_n hx hb dX12_floor_104 rfl (lv_at hl 0 rfl) ?_
          refine lv_iconst (v := 0) hx hb dX12_floor_105 (by decide) ?_
          obtain ⟨hi4, h⟩ := gI_some h
          refine va_iast hx hb hK.1 hP hD hS 6 0 rfl rfl hi4 dX12_floor_106 (fun H locs hP hD hS => ?_)
          have hP : va_P D vwCl (mW a cI cZ q1.2.2.2.2.1 q1.2.2.2.2.2.1 q1.2.2.2.2.2.2.1 mKind_38 mWind_66 mWeight mSort mOwner (upd mNow_94x (Int32.toNatClampNeg x1_94) 0) q1.2.1 q1.2.2.1 q1.2.2.2.1 q1.2.2.2.2.1 q1.2.2.2.2.2.1 q1.2.2.2.2.2.2.1 mText mLength q1.2.2.2.2.2.2.2.1 q1.2.2.2.2.2.2.2.2 mMoved mActs mNext mRow mSeen mSeenKind mSeenLift mSeenFlew mSeed mIsKept mKept) H := hP
          have hD : va_D A (mW a cI cZ q1.2.2.2.2.1 q1.2.2.2.2.2.1 q1.2.2.2.2.2.2.1 mKind_38 mWind_66 mWeight mSort mOwner (upd mNow_94x (Int32.toNatClampNeg x1_94) 0) q1.2.1 q1.2.2.1 q1.2.2.2.1 q1.2.2.2.2.1 q1.2.2.2.2.2.1 q1.2.2.2.2.2.2.1 mText mLength q1.2.2.2.2.2.2.2.1 q1.2.2.2.2.2.2.2.2 mMoved mActs mNext mRow mSeen mSeenKind mSeenLift mSeenFlew mSeed mIsKept mKept) := hD
          refine lv_iinc (v := (x1_94 + 1)) (lv' := [(1, .int (x1_94 + 1)), (0, .ref (a 0))]) hx hb dX12_floor_107 hl (k := 0) rfl rfl (by decide) rfl (fun ls hl => ?_)
          refine lv_goto (tgt := 94) hx hb dX12_floor_110 (by decide) ?_
          exact ih _ _ _ _ _ _ h hP hD hS (lv_sub hl [0, 1] rfl) hk
    refine L94 _ _ _ _ _ _ _ h hP hD hS hl (fun y1_94 mNow_94 H locs ls h hP hD hS hl => ?_)
    refine lv_iconst (v := 0) hx hb dX12_floor_113 (by decide) ?_
    refine lv_istore_n (lv' := [(1, .int 0), (0, .ref (a 0))]) hx hb dX12_floor_114 rfl hl (by decide) rfl (fun ls hl => ?_)
    have L115 : ∀ (n : Nat) (x1_115 : Int32) (mWeight_115x : (Nat → Int32)) (mSort_115x : (Nat → Int32)) (mOwner_115x : (Nat → Int32)) (mNow_115x : (Nat → Int32)) (H : Heap) (locs : List Loc) (ls : Array Slot) (kx : Int32 → (Nat → Int32) → (Nat → Int32) → (Nat → Int32) → (Nat → Int32) → Option (Int32 × (Int32) × (Int32) × (Int32) × (Nat → Int32) × (Nat → Int32) × (Nat → Int32) × (Nat → Int32) × (Nat → Int32) × (Nat → Int32) × (Nat → Int32) × (Nat → Int32) × (Nat → Int32) × (Int32) × (Int32) × (Int32) × (Int32) × (Int32) × (Int32) × (Nat → Int32))), mm_floor_L115 q1.2.2.2.2.2.2.1 q1.2.2.2.1 kx n x1_115 mWeight_115x mSort_115x mOwner_115x mNow_115x = some (rv, mPeople_r, mHours_r, mGrains_r, mKind_r, mWind_r, mWeight_r, mSort_r, mOwner_r, mNow_r, mReadKind_r, mReadWind_r, mReadGrain_r, mReadPeople_r, mReadHours_r, mReadGrains_r, mAt_r, mFaultAt_r, mActs_r, mIsKept_r) → va_P D vwCl (mW a cI cZ q1.2.2.2.2.1 q1.2.2.2.2.2.1 q1.2.2.2.2.2.2.1 mKind_38 mWind_66 mWeight_115x mSort_115x mOwner_115x mNow_115x q1.2.1 q1.2.2.1 q1.2.2.2.1 q1.2.2.2.2.1 q1.2.2.2.2.2.1 q1.2.2.2.2.2.2.1 mText mLength q1.2.2.2.2.2.2.2.1 q1.2.2.2.2.2.2.2.2 mMoved mActs mNext mRow mSeen mSeenKind mSeenLift mSeenFlew mSeed mIsKept mKept) H → va_D A (mW a cI cZ q1.2.2.2.2.1 q1.2.2.2.2.2.1 q1.2.2.2.2.2.2.1 mKind_38 mWind_66 mWeight_115x mSort_115x mOwner_115x mNow_115x q1.2.1 q1.2.2.1 q1.2.2.2.1 q1.2.2.2.2.1 q1.2.2.2.2.2.1 q1.2.2.2.2.2.2.1 mText mLength q1.2.2.2.2.2.2.2.1 q1.2.2.2.2.2.2.2.2 mMoved mActs mNext mRow mSeen mSeenKind mSeenLift mSeenFlew mSeed mIsKept mKept) → va_S A s.heap H locs → lv_has ls 2 [(1, .int x1_115), (0, .ref (a 0))] → (∀ (y1_115 : Int32) (mWeight_115 : (Nat → Int32)) (mSort_115 : (Nat → Int32)) (mOwner_115 : (Nat → Int32)) (mNow_115 : (Nat → Int32)) (H : Heap) (locs : List Loc) (ls : Array Slot), kx y1_115 mWeight_115 mSort_115 mOwner_115 mNow_115 = some (rv, mPeople_r, mHours_r, mGrains_r, mKind_r, mWind_r, mWeight_r, mSort_r, mOwner_r, mNow_r, mReadKind_r, mReadWind_r, mReadGrain_r, mReadPeople_r, mReadHours_r, mReadGrains_r, mAt_r, mFaultAt_r, mActs_r, mIsKept_r) → va_P D vwCl (mW a cI cZ q1.2.2.2.2.1 q1.2.2.2.2.2.1 q1.2.2.2.2.2.2.1 mKind_38 mWind_66 mWeight_115 mSort_115 mOwner_115 mNow_115 q1.2.1 q1.2.2.1 q1.2.2.2.1 q1.2.2.2.2.1 q1.2.2.2.2.2.1 q1.2.2.2.2.2.2.1 mText mLength q1.2.2.2.2.2.2.2.1 q1.2.2.2.2.2.2.2.2 mMoved mActs mNext mRow mSeen mSeenKind mSeenLift mSeenFlew mSeed mIsKept mKept) H → va_D A (mW a cI cZ q1.2.2.2.2.1 q1.2.2.2.2.2.1 q1.2.2.2.2.2.2.1 mKind_38 mWind_66 mWeight_115 mSort_115 mOwner_115 mNow_115 q1.2.1 q1.2.2.1 q1.2.2.2.1 q1.2.2.2.2.1 q1.2.2.2.2.2.1 q1.2.2.2.2.2.2.1 mText mLength q1.2.2.2.2.2.2.2.1 q1.2.2.2.2.2.2.2.2 mMoved mActs mNext mRow mSeen mSeenKind mSeenLift mSeenFlew mSeed mIsKept mKept) → va_S A s.heap H locs → lv_has ls 2 [(1, .int y1_115), (0, .ref (a 0))] → W p l e (headSpec wsX12_floor ({ frames := 4, cells := 0, slots := 0, locals := 90 } : Room)).room s m ([.ref (a 0)] : List Value).toArray below meth c H locs 0 0 (MQ below (wQi D (mW a cI cZ mPeople mHours mGrains mKind mWind mWeight mSort mOwner mNow mReadKind mReadWind mReadGrain mReadPeople mReadHours mReadGrains mText mLength mAt mFaultAt mMoved mActs mNext mRow mSeen mSeenKind mSeenLift mSeenFlew mSeed mIsKept mKept) (mW a cI cZ mPeople_r mHours_r mGrains_r mKind_r mWind_r mWeight_r mSort_r mOwner_r mNow_r mReadKind_r mReadWind_r mReadGrain_r mReadPeople_r mReadHours_r mReadGrains_r mText mLength mAt_r mFaultAt_r mMoved mActs_r mNext mRow mSeen mSeenKind mSeenLift mSeenFlew mSeed mIsKept_r mKept) s.heap.size rv) ([.ref (a 0)] : List Value).toArray s 0 0 (va_A (mW a cI cZ mPeople mHours mGrains mKind mWind mWeight mSort mOwner mNow mReadKind mReadWind mReadGrain mReadPeople mReadHours mReadGrains mText mLength mAt mFaultAt mMoved mActs mNext mRow mSeen mSeenKind mSeenLift mSeenFlew mSeed mIsKept mKept) s.heap.size)) (F0 m 191 ls [])) → W p l e (headSpec wsX12_floor ({ frames := 4, cells := 0, slots := 0, locals := 90 } : Room)).room s m ([.ref (a 0)] : List Value).toArray below meth c H locs 0 0 (MQ below (wQi D (mW a cI cZ mPeople mHours mGrains mKind mWind mWeight mSort mOwner mNow mReadKind mReadWind mReadGrain mReadPeople mReadHours mReadGrains mText mLength mAt mFaultAt mMoved mActs mNext mRow mSeen mSeenKind mSeenLift mSeenFlew mSeed mIsKept mKept) (mW a cI cZ mPeople_r mHours_r mGrains_r mKind_r mWind_r mWeight_r mSort_r mOwner_r mNow_r mReadKind_r mReadWind_r mReadGrain_r mReadPeople_r mReadHours_r mReadGrains_r mText mLength mAt_r mFaultAt_r mMoved mActs_r mNext mRow mSeen mSeenKind mSeenLift mSeenFlew mSeed mIsKept_r mKept) s.heap.size rv) ([.ref (a 0)] : List Value).toArray s 0 0 (va_A (mW a cI cZ mPeople mHours mGrains mKind mWind mWeight mSort mOwner mNow mReadKind mReadWind mReadGrain mReadPeople mReadHours mReadGrains mText mLength mAt mFaultAt mMoved mActs mNext mRow mSeen mSeenKind mSeenLift mSeenFlew mSeed mIsKept mKept) s.heap.size)) (F0 m 115 ls []) := by
      intro n
      induction n with
      | zero => intro _ _ _ _ _ _ _ _ _ h; rw [mm_floor_L115.eq_1] at h; cases h
      | succ n ih =>
        intro x1_115 mWeight_115x mSort_115x mOwner_115x mNow_115x H locs ls kx h hP hD hS hl hk
        rw [mm_floor_L115.eq_2] at h
        refine lv_iload_n hx hb dX12_floor_115 rfl (lv_at hl 0 rfl) ?_
        refine lv_aload_n hx hb dX12_floor_116 rfl (lv_at hl 1 rfl) ?_
        refine va_get (D := D) (ci := 5) (v := .int q1.2.2.2.2.2.2.1) (C := RX12) (T := TX12) (N := 30) hx hb hts hiX12 hown hK.1 hP 0 rfl rfl 2 (by decide) (hts (.fieldLink RX12 105 "WinnowedGuiltModel" "grains" "I") (by decide +kernel)) (fun _ h9 => h9) rfl dX12_floor_117 ?_
        refine lv_icmp_ge (tgt := 191) hx hb dX12_floor_120 (by decide) (fun c3 => ?_) (fun c3 => ?_)
        · have h := iT c3 h
          exact hk _ _ _ _ _ _ _ _ h hP hD hS (lv_sub hl [0, 1] rfl)
        · have h := iF c3 h
          refine lv_aload_n hx hb dX12_floor_123 rfl (lv_at hl 1 rfl) ?_
          refine va_get (D := D) (ci := 5) (v := .ref (a 3)) (C := RX12) (T := TX12) (N := 30) hx hb hts hiX12 hown hK.1 hP 0 rfl rfl 5 (by decide) (hts (.fieldLink RX12 16 "WinnowedGuiltModel" "weight" "[I") (by decide +kernel)) (fun _ h9 => h9) rfl dX12_floor_124 ?_
          refine lv_iload_n hx hb dX12_floor_127 rfl (lv_at hl 0 rfl) ?_
          refine lv_aload_n hx hb dX12_floor_128 rfl (lv_at hl 1 rfl) ?_
          refine va_get (D := D) (ci := 5) (v := .ref (a 9)) (C := RX12) (T := TX12) (N := 30) hx hb hts hiX12 hown hK.1 hP 0 rfl rfl 11 (by decide) (hts (.fieldLink RX12 34 "WinnowedGuiltModel" "readGrain" "[I") (by decide +kernel)) (fun _ h9 => h9) rfl dX12_floor_129 ?_
          refine lv_iconst (v := 4) hx hb dX12_floor_132 (by decide) ?_
          refine lv_iload_n hx hb dX12_floor_133 rfl (lv_at hl 0 rfl) ?_
          refine lv_imul hx hb dX12_floor_134 ?_
          obtain ⟨hi4, h⟩ := gI_some h
          refine ldI (v := (q1.2.2.2.1 (Int32.toNatClampNeg (4 * x1_115)))) hx hb hK.1 hP 9 rfl rfl hi4 rfl dX12_floor_135 ?_
          obtain ⟨hi5, h⟩ := gI_some h
          refine va_iast hx hb hK.1 hP hD hS 3 0 rfl rfl hi5 dX12_floor_136 (fun H locs hP hD hS => ?_)
          have hP : va_P D vwCl (mW a cI cZ q1.2.2.2.2.1 q1.2.2.2.2.2.1 q1.2.2.2.2.2.2.1 mKind_38 mWind_66 (upd mWeight_115x (Int32.toNatClampNeg x1_115) (q1.2.2.2.1 (Int32.toNatClampNeg (4 * x1_115)))) mSort_115x mOwner_115x mNow_115x q1.2.1 q1.2.2.1 q1.2.2.2.1 q1.2.2.2.2.1 q1.2.2.2.2.2.1 q1.2.2.2.2.2.2.1 mText mLength q1.2.2.2.2.2.2.2.1 q1.2.2.2.2.2.2.2.2 mMoved mActs mNext mRow mSeen mSeenKind mSeenLift mSeenFlew mSeed mIsKept mKept) H := hP
          have hD : va_D A (mW a cI cZ q1.2.2.2.2.1 q1.2.2.2.2.2.1 q1.2.2.2.2.2.2.1 mKind_38 mWind_66 (upd mWeight_115x (Int32.toNatClampNeg x1_115) (q1.2.2.2.1 (Int32.toNatClampNeg (4 * x1_115)))) mSort_115x mOwner_115x mNow_115x q1.2.1 q1.2.2.1 q1.2.2.2.1 q1.2.2.2.2.1 q1.2.2.2.2.2.1 q1.2.2.2.2.2.2.1 mText mLength q1.2.2.2.2.2.2.2.1 q1.2.2.2.2.2.2.2.2 mMoved mActs mNext mRow mSeen mSeenKind mSeenLift mSeenFlew mSeed mIsKept mKept) := hD
          refine lv_aload_n hx hb dX12_floor_137 rfl (lv_at hl 1 rfl) ?_
          refine va_get (D := D) (ci := 5) (v := .ref (a 4)) (C := RX12) (T := TX12) (N := 30) hx hb hts hiX12 hown hK.1 hP 0 rfl rfl 6 (by decide) (hts (.fieldLink RX12 19 "WinnowedGuiltModel" "sort" "[I") (by decide +kernel)) (fun _ h9 => h9) rfl dX12_floor_138 ?_
          refine lv_iload_n hx hb dX12_floor_141 rfl (lv_at hl 0 rfl) ?_
          refine lv_aload_n hx hb dX12_floor_142 rfl (lv_at hl 1 rfl) ?_
          refine va_get (D := D) (ci := 5) (v := .ref (a 9)) (C := RX12) (T := TX12) (N := 30) hx hb hts hiX12 hown hK.1 hP 0 rfl rfl 11 (by decide) (hts (.fieldLink RX12 34 "WinnowedGuiltModel" "readGrain" "[I") (by decide +kernel)) (fun _ h9 => h9) rfl dX12_floor_143 ?_
          refine lv_iconst (v := 4) hx hb dX12_floor_146 (by decide) ?_
          refine lv_iload_n hx hb dX12_floor_147 rfl (lv_at hl 0 rfl) ?_
          refine lv_imul hx hb dX12_floor_148 ?_
          refine lv_iconst (v := 1) hx hb dX12_floor_149 (by decide) ?_
          refine lv_iadd hx hb dX12_floor_150 ?_
          obtain ⟨hi6, h⟩ := gI_some h
          refine ldI (v := (q1.2.2.2.1 (Int32.toNatClampNeg ((4 * x1_115) + 1)))) hx hb hK.1 hP 9 rfl rfl hi6 rfl dX12_floor_151 ?_
          obtain ⟨hi7, h⟩ := gI_some h
          refine va_iast hx hb hK.1 hP hD hS 4 0 rfl rfl hi7 dX12_floor_152 (fun H locs hP hD hS => ?_)
          have hP : va_P D vwCl (mW a cI cZ q1.2.2.2.2.1 q1.2.2.2.2.2.1 q1.2.2.2.2.2.2.1 mKind_38 mWind_66 (upd mWeight_115x (Int32.toNatClampNeg x1_115) (q1.2.2.2.1 (Int32.toNatClampNeg (4 * x1_115)))) (upd mSort_115x (Int32.toNatClampNeg x1_115) (q1.2.2.2.1 (Int32.toNatClampNeg ((4 * x1_115) + 1)))) mOwner_115x mNow_115x q1.2.1 q1.2.2.1 q1.2.2.2.1 q1.2.2.2.2.1 q1.2.2.2.2.2.1 q1.2.2.2.2.2.2.1 mText mLength q1.2.2.2.2.2.2.2.1 q1.2.2.2.2.2.2.2.2 mMoved mActs mNext mRow mSeen mSeenKind mSeenLift mSeenFlew mSeed mIsKept mKept) H := hP
          have hD : va_D A (mW a cI cZ q1.2.2.2.2.1 q1.2.2.2.2.2.1 q1.2.2.2.2.2.2.1 mKind_38 mWind_66 (upd mWeight_115x (Int32.toNatClampNeg x1_115) (q1.2.2.2.1 (Int32.toNatClampNeg (4 * x1_115)))) (upd mSort_115x (Int32.toNatClampNeg x1_115) (q1.2.2.2.1 (Int32.toNatClampNeg ((4 * x1_115) + 1)))) mOwner_115x mNow_115x q1.2.1 q1.2.2.1 q1.2.2.2.1 q1.2.2.2.2.1 q1.2.2.2.2.2.1 q1.2.2.2.2.2.2.1 mText mLength q1.2.2.2.2.2.2.2.1 q1.2.2.2.2.2.2.2.2 mMoved mActs mNext mRow mSeen mSeenKind mSeenLift mSeenFlew mSeed mIsKept mKept) := hD
          refine lv_aload_n hx hb dX12_floor_153 rfl (lv_at hl 1 rfl) ?_
          refine va_get (D := D) (ci := 5) (v := .ref (a 5)) (C := RX12) (T := TX12) (N := 30) hx hb hts hiX12 hown hK.1 hP 0 rfl rfl 7 (by decide) (hts (.fieldLink RX12 22 "WinnowedGuiltModel" "owner" "[I") (by decide +kernel)) (fun _ h9 => h9) rfl dX12_floor_154 ?_
          refine lv_iload_n hx hb dX12_floor_157 rfl (lv_at hl 0 rfl) ?_
          refine lv_aload_n hx hb dX12_floor_158 rfl (lv_at hl 1 rfl) ?_
          refine va_get (D := D) (ci := 5) (v := .ref (a 9)) (C := RX12) (T := TX12) (N := 30) hx hb hts hiX12 hown hK.1 hP 0 rfl rfl 11 (by decide) (hts (.fieldLink RX12 34 "WinnowedGuiltModel" "readGrain" "[I") (by decide +kernel)) (fun _ h9 => h9) rfl dX12_floor_159 ?_
          refine lv_iconst (v := 4) hx hb dX12_floor_162 (by decide) ?_
          refine lv_iload_n hx hb dX12_floor_163 rfl (lv_at hl 0 rfl) ?_
          refine lv_imul hx hb dX12_floor_164 ?_
          refine lv_iconst (v := 2) hx hb dX12_floor_165 (by decide) ?_
          refine lv_iadd hx hb dX12_floor_166 ?_
          obtain ⟨hi8, h⟩ := gI_some h
          refine ldI (v := (q1.2.2.2.1 (Int32.toNatClampNeg ((4 * x1_115) + 2)))) hx hb hK.1 hP 9 rfl rfl hi8 rfl dX12_floor_167 ?_
          obtain ⟨hi9, h⟩ := gI_some h
          refine va_iast hx hb hK.1 hP hD hS 5 0 rfl rfl hi9 dX12_floor_168 (fun H locs hP hD hS => ?_)
          have hP : va_P D vwCl (mW a cI cZ q1.2.2.2.2.1 q1.2.2.2.2.2.1 q1.2.2.2.2.2.2.1 mKind_38 mWind_66 (upd mWeight_115x (Int32.toNatClampNeg x1_115) (q1.2.2.2.1 (Int32.toNatClampNeg (4 * x1_115)))) (upd mSort_115x (Int32.toNatClampNeg x1_115) (q1.2.2.2.1 (Int32.toNatClampNeg ((4 * x1_115) + 1)))) (upd mOwner_115x (Int32.toNatClampNeg x1_115) (q1.2.2.2.1 (Int32.toNatClampNeg ((4 * x1_115) + 2)))) mNow_115x q1.2.1 q1.2.2.1 q1.2.2.2.1 q1.2.2.2.2.1 q1.2.2.2.2.2.1 q1.2.2.2.2.2.2.1 mText mLength q1.2.2.2.2.2.2.2.1 q1.2.2.2.2.2.2.2.2 mMoved mActs mNext mRow mSeen mSeenKind mSeenLift mSeenFlew mSeed mIsKept mKept) H := hP
          have hD : va_D A (mW a cI cZ q1.2.2.2.2.1 q1.2.2.2.2.2.1 q1.2.2.2.2.2.2.1 mKind_38 mWind_66 (upd mWeight_115x (Int32.toNatClampNeg x1_115) (q1.2.2.2.1 (Int32.toNatClampNeg (4 * x1_115)))) (upd mSort_115x (Int32.toNatClampNeg x1_115) (q1.2.2.2.1 (Int32.toNatClampNeg ((4 * x1_115) + 1)))) (upd mOwner_115x (Int32.toNatClampNeg x1_115) (q1.2.2.2.1 (Int32.toNatClampNeg ((4 * x1_115) + 2)))) mNow_115x q1.2.1 q1.2.2.1 q1.2.2.2.1 q1.2.2.2.2.1 q1.2.2.2.2.2.1 q1.2.2.2.2.2.2.1 mText mLength q1.2.2.2.2.2.2.2.1 q1.2.2.2.2.2.2.2.2 mMoved mActs mNext mRow mSeen mSeenKind mSeenLift mSeenFlew mSeed mIsKept mKept) := hD
          refine lv_aload_n hx hb dX12_floor_169 rfl (lv_at hl 1 rfl) ?_
          refine va_get (D := D) (ci := 5) (v := .ref (a 6)) (C := RX12) (T := TX12) (N := 30) hx hb hts hiX12 hown hK.1 hP 0 rfl rfl 8 (by decide) (hts (.fieldLink RX12 25 "WinnowedGuiltModel" "now" "[I") (by decide +kernel)) (fun _ h9 => h9) rfl dX12_floor_170 ?_
          refine lv_iload_n hx hb dX12_floor_173 rfl (lv_at hl 0 rfl) ?_
          refine lv_aload_n hx hb dX12_floor_174 rfl (lv_at hl 1 rfl) ?_
          refine va_get (D := D) (ci := 5) (v := .ref (a 9)) (C := RX12) (T := TX12) (N := 30) hx hb hts hiX12 hown hK.1 hP 0 rfl rfl 11 (by decide) (hts (.fieldLink RX12 34 "WinnowedGuiltModel" "readGrain" "[I") (by decide +kernel)) (fun _ h9 => h9) rfl dX12_floor_175 ?_
          refine lv_iconst (v := 4) hx hb dX12_floor_178 (by decide) ?_
          refine lv_iload_n hx hb dX12_floor_179 rfl (lv_at hl 0 rfl) ?_
          refine lv_imul hx hb dX12_floor_180 ?_
          refine lv_iconst (v := 3) hx hb dX12_floor_181 (by decide) ?_
          refine lv_iadd hx hb dX12_floor_182 ?_
          obtain ⟨hi10, h⟩ := gI_some h
          refine ldI (v := (q1.2.2.2.1 (Int32.toNatClampNeg ((4 * x1_115) + 3)))) hx hb hK.1 hP 9 rfl rfl hi10 rfl dX12_floor_183 ?_
          obtain ⟨hi11, h⟩ := gI_some h
          refine va_iast hx hb hK.1 hP hD hS 6 0 rfl rfl hi11 dX12_floor_184 (fun H locs hP hD hS => ?_)
          have hP : va_P D vwCl (mW a cI cZ q1.2.2.2.2.1 q1.2.2.2.2.2.1 q1.2.2.2.2.2.2.1 mKind_38 mWind_66 (upd mWeight_115x (Int32.toNatClampNeg x1_115) (q1.2.2.2.1 (Int32.toNatClampNeg (4 * x1_115)))) (upd mSort_115x (Int32.toNatClampNeg x1_115) (q1.2.2.2.1 (Int32.toNatClampNeg ((4 * x1_115) + 1)))) (upd mOwner_115x (Int32.toNatClampNeg x1_115) (q1.2.2.2.1 (Int32.toNatClampNeg ((4 * x1_115) + 2)))) (upd mNow_115x (Int32.toNatClampNeg x1_115) (q1.2.2.2.1 (Int32.toNatClampNeg ((4 * x1_115) + 3)))) q1.2.1 q1.2.2.1 q1.2.2.2.1 q1.2.2.2.2.1 q1.2.2.2.2.2.1 q1.2.2.2.2.2.2.1 mText mLength q1.2.2.2.2.2.2.2.1 q1.2.2.2.2.2.2.2.2 mMoved mActs mNext mRow mSeen mSeenKind mSeenLift mSeenFlew mSeed mIsKept mKept) H := hP
          have hD : va_D A (mW a cI cZ q1.2.2.2.2.1 q1.2.2.2.2.2.1 q1.2.2.2.2.2.2.1 mKind_38 mWind_66 (upd mWeight_115x (Int32.toNatClampNeg x1_115) (q1.2.2.2.1 (Int32.toNatClampNeg (4 * x1_115)))) (upd mSort_115x (Int32.toNatClampNeg x1_115) (q1.2.2.2.1 (Int32.toNatClampNeg ((4 * x1_115) + 1)))) (upd mOwner_115x (Int32.toNatClampNeg x1_115) (q1.2.2.2.1 (Int32.toNatClampNeg ((4 * x1_115) + 2)))) (upd mNow_115x (Int32.toNatClampNeg x1_115) (q1.2.2.2.1 (Int32.toNatClampNeg ((4 * x1_115) + 3)))) q1.2.1 q1.2.2.1 q1.2.2.2.1 q1.2.2.2.2.1 q1.2.2.2.2.2.1 q1.2.2.2.2.2.2.1 mText mLength q1.2.2.2.2.2.2.2.1 q1.2.2.2.2.2.2.2.2 mMoved mActs mNext mRow mSeen mSeenKind mSeenLift mSeenFlew mSeed mIsKept mKept) := hD
          refine lv_iinc (v := (x1_115 + 1)) (lv' := [(1, .int (x1_115 + 1)), (0, .ref (a 0))]) hx hb dX12_floor_185 hl (k := 0) rfl rfl (by decide) rfl (fun ls hl => ?_)
          refine lv_goto (tgt := 115) hx hb dX12_floor_188 (by decide) ?_
          exact ih _ _ _ _ _ _ _ _ _ h hP hD hS (lv_sub hl [0, 1] rfl) hk
    refine L115 _ _ _ _ _ _ _ _ _ _ h hP hD hS hl (fun y1_115 mWeight_115 mSort_115 mOwner_115 mNow_115 H locs ls h hP hD hS hl => ?_)
    refine lv_aload_n hx hb dX12_floor_191 rfl (lv_at hl 1 rfl) ?_
    refine va_get (D := D) (ci := 5) (v := .ref (a 6)) (C := RX12) (T := TX12) (N := 30) hx hb hts hiX12 hown hK.1 hP 0 rfl rfl 8 (by decide) (hts (.fieldLink RX12 25 "WinnowedGuiltModel" "now" "[I") (by decide +kernel)) (fun _ h9 => h9) rfl dX12_floor_192 ?_
    refine lv_bipush (v := 7) hx hb dX12_floor_195 (by decide) ?_
    refine lv_bipush (v := (-9)) hx hb dX12_floor_197 (by decide) ?_
    refine va_iast hx hb hK.1 hP hD hS 6 0 rfl rfl (ixOk_in (by decide)) dX12_floor_199 (fun H locs hP hD hS => ?_)
    have hP : va_P D vwCl (mW a cI cZ q1.2.2.2.2.1 q1.2.2.2.2.2.1 q1.2.2.2.2.2.2.1 mKind_38 mWind_66 mWeight_115 mSort_115 mOwner_115 (upd mNow_115 7 (-9)) q1.2.1 q1.2.2.1 q1.2.2.2.1 q1.2.2.2.2.1 q1.2.2.2.2.2.1 q1.2.2.2.2.2.2.1 mText mLength q1.2.2.2.2.2.2.2.1 q1.2.2.2.2.2.2.2.2 mMoved mActs mNext mRow mSeen mSeenKind mSeenLift mSeenFlew mSeed mIsKept mKept) H := hP
    have hD : va_D A (mW a cI cZ q1.2.2.2.2.1 q1.2.2.2.2.2.1 q1.2.2.2.2.2.2.1 mKind_38 mWind_66 mWeight_115 mSort_115 mOwner_115 (upd mNow_115 7 (-9)) q1.2.1 q1.2.2.1 q1.2.2.2.1 q1.2.2.2.2.1 q1.2.2.2.2.2.1 q1.2.2.2.2.2.2.1 mText mLength q1.2.2.2.2.2.2.2.1 q1.2.2.2.2.2.2.2.2 mMoved mActs mNext mRow mSeen mSeenKind mSeenLift mSeenFlew mSeed mIsKept mKept) := hD
    refine lv_aload_n hx hb dX12_floor_200 rfl (lv_at hl 1 rfl) ?_
    refine lv_iconst (v := 0) hx hb dX12_floor_201 (by decide) ?_
    refine va_put (D := D) (ci := 5) (v := .int 0) (ty := .int) (C := RX12) (T := TX12) (N := 30) hx hb hts hiX12 tyX12 tyX12_ok nmX12 hown hK.1 hP hD hS 0 rfl rfl 20 (by decide) (hts (.fieldLink RX12 108 "WinnowedGuiltModel" "acts" "I") (by decide +kernel)) (fun _ h9 => h9) rfl (by decide +kernel) rfl rfl (Nat.le_of_ble_eq_true rfl) dX12_floor_202 (fun H locs hP hD hS => ?_)
    have hP : va_P D vwCl (mW a cI cZ q1.2.2.2.2.1 q1.2.2.2.2.2.1 q1.2.2.2.2.2.2.1 mKind_38 mWind_66 mWeight_115 mSort_115 mOwner_115 (upd mNow_115 7 (-9)) q1.2.1 q1.2.2.1 q1.2.2.2.1 q1.2.2.2.2.1 q1.2.2.2.2.2.1 q1.2.2.2.2.2.2.1 mText mLength q1.2.2.2.2.2.2.2.1 q1.2.2.2.2.2.2.2.2 mMoved 0 mNext mRow mSeen mSeenKind mSeenLift mSeenFlew mSeed mIsKept mKept) H := hP
    have hD : va_D A (mW a cI cZ q1.2.2.2.2.1 q1.2.2.2.2.2.1 q1.2.2.2.2.2.2.1 mKind_38 mWind_66 mWeight_115 mSort_115 mOwner_115 (upd mNow_115 7 (-9)) q1.2.1 q1.2.2.1 q1.2.2.2.1 q1.2.2.2.2.1 q1.2.2.2.2.2.1 q1.2.2.2.2.2.2.1 mText mLength q1.2.2.2.2.2.2.2.1 q1.2.2.2.2.2.2.2.2 mMoved 0 mNext mRow mSeen mSeenKind mSeenLift mSeenFlew mSeed mIsKept mKept) := hD
    refine lv_aload_n hx hb dX12_floor_205 rfl (lv_at hl 1 rfl) ?_
    refine va_get (D := D) (ci := 5) (v := .ref (a 16)) (C := RX12) (T := TX12) (N := 30) hx hb hts hiX12 hown hK.1 hP 0 rfl rfl 28 (by decide) (hts (.fieldLink RX12 55 "WinnowedGuiltModel" "isKept" "[Z") (by decide +kernel)) (fun _ h9 => h9) rfl dX12_floor_206 ?_
    refine lv_iconst (v := 0) hx hb dX12_floor_209 (by decide) ?_
    refine lv_iconst (v := 0) hx hb dX12_floor_210 (by decide) ?_
    refine va_zast hx hb hK.1 hP hD hS 16 2 rfl rfl (ixOk_in (by decide)) dX12_floor_211 (fun H locs hP hD hS => ?_)
    have hP : va_P D vwCl (mW a cI cZ q1.2.2.2.2.1 q1.2.2.2.2.2.1 q1.2.2.2.2.2.2.1 mKind_38 mWind_66 mWeight_115 mSort_115 mOwner_115 (upd mNow_115 7 (-9)) q1.2.1 q1.2.2.1 q1.2.2.2.1 q1.2.2.2.2.1 q1.2.2.2.2.2.1 q1.2.2.2.2.2.2.1 mText mLength q1.2.2.2.2.2.2.2.1 q1.2.2.2.2.2.2.2.2 mMoved 0 mNext mRow mSeen mSeenKind mSeenLift mSeenFlew mSeed (upd mIsKept 0 0) mKept) H := hP
    have hD : va_D A (mW a cI cZ q1.2.2.2.2.1 q1.2.2.2.2.2.1 q1.2.2.2.2.2.2.1 mKind_38 mWind_66 mWeight_115 mSort_115 mOwner_115 (upd mNow_115 7 (-9)) q1.2.1 q1.2.2.1 q1.2.2.2.1 q1.2.2.2.2.1 q1.2.2.2.2.2.1 q1.2.2.2.2.2.2.1 mText mLength q1.2.2.2.2.2.2.2.1 q1.2.2.2.2.2.2.2.2 mMoved 0 mNext mRow mSeen mSeenKind mSeenLift mSeenFlew mSeed (upd mIsKept 0 0) mKept) := hD
    refine lv_aload_n hx hb dX12_floor_212 rfl (lv_at hl 1 rfl) ?_
    refine va_get (D := D) (ci := 5) (v := .ref (a 16)) (C := RX12) (T := TX12) (N := 30) hx hb hts hiX12 hown hK.1 hP 0 rfl rfl 28 (by decide) (hts (.fieldLink RX12 55 "WinnowedGuiltModel" "isKept" "[Z") (by decide +kernel)) (fun _ h9 => h9) rfl dX12_floor_213 ?_
    refine lv_iconst (v := 1) hx hb dX12_floor_216 (by decide) ?_
    refine lv_iconst (v := 0) hx hb dX12_floor_217 (by decide) ?_
    refine va_zast hx hb hK.1 hP hD hS 16 2 rfl rfl (ixOk_in (by decide)) dX12_floor_218 (fun H locs hP hD hS => ?_)
    have hP : va_P D vwCl (mW a cI cZ q1.2.2.2.2.1 q1.2.2.2.2.2.1 q1.2.2.2.2.2.2.1 mKind_38 mWind_66 mWeight_115 mSort_115 mOwner_115 (upd mNow_115 7 (-9)) q1.2.1 q1.2.2.1 q1.2.2.2.1 q1.2.2.2.2.1 q1.2.2.2.2.2.1 q1.2.2.2.2.2.2.1 mText mLength q1.2.2.2.2.2.2.2.1 q1.2.2.2.2.2.2.2.2 mMoved 0 mNext mRow mSeen mSeenKind mSeenLift mSeenFlew mSeed (upd (upd mIsKept 0 0) 1 0) mKept) H := hP
    have hD : va_D A (mW a cI cZ q1.2.2.2.2.1 q1.2.2.2.2.2.1 q1.2.2.2.2.2.2.1 mKind_38 mWind_66 mWeight_115 mSort_115 mOwner_115 (upd mNow_115 7 (-9)) q1.2.1 q1.2.2.1 q1.2.2.2.1 q1.2.2.2.2.1 q1.2.2.2.2.2.1 q1.2.2.2.2.2.2.1 mText mLength q1.2.2.2.2.2.2.2.1 q1.2.2.2.2.2.2.2.2 mMoved 0 mNext mRow mSeen mSeenKind mSeenLift mSeenFlew mSeed (upd (upd mIsKept 0 0) 1 0) mKept) := hD
    refine lv_bipush (v := 100) hx hb dX12_floor_219 (by decide) ?_
    refine lv_aload_n hx hb dX12_floor_221 rfl (lv_at hl 1 rfl) ?_
    refine va_get (D := D) (ci := 5) (v := .int q1.2.2.2.2.1) (C := RX12) (T := TX12) (N := 30) hx hb hts hiX12 hown hK.1 hP 0 rfl rfl 0 (by decide) (hts (.fieldLink RX12 99 "WinnowedGuiltModel" "people" "I") (by decide +kernel)) (fun _ h9 => h9) rfl dX12_floor_222 ?_
    refine lv_imul hx hb dX12_floor_225 ?_
    refine lv_bipush (v := 10) hx hb dX12_floor_226 (by decide) ?_
    refine lv_aload_n hx hb dX12_floor_228 rfl (lv_at hl 1 rfl) ?_
    refine va_get (D := D) (ci := 5) (v := .int q1.2.2.2.2.2.1) (C := RX12) (T := TX12) (N := 30) hx hb hts hiX12 hown hK.1 hP 0 rfl rfl 1 (by decide) (hts (.fieldLink RX12 102 "WinnowedGuiltModel" "hours" "I") (by decide +kernel)) (fun _ h9 => h9) rfl dX12_floor_229 ?_
    refine lv_imul hx hb dX12_floor_232 ?_
    refine lv_iadd hx hb dX12_floor_233 ?_
    refine lv_aload_n hx hb dX12_floor_234 rfl (lv_at hl 1 rfl) ?_
    refine va_get (D := D) (ci := 5) (v := .int q1.2.2.2.2.2.2.1) (C := RX12) (T := TX12) (N := 30) hx hb hts hiX12 hown hK.1 hP 0 rfl rfl 2 (by decide) (hts (.fieldLink RX12 105 "WinnowedGuiltModel" "grains" "I") (by decide +kernel)) (fun _ h9 => h9) rfl dX12_floor_235 ?_
    refine lv_iadd hx hb dX12_floor_238 ?_
    cases h
    subst hAe
    exact W.iret hx hb hr (fun t ht _ => ⟨⟨_, (), rfl, rfl, by rw [ht]; exact hP, hD⟩, hS.F ht⟩) hS.2.2 dX12_floor_239
  · have h := iF c2 h
    refine lv_bipush (v := (-3)) hx hb dX12_floor_9 (by decide) ?_
    cases h
    subst hAe
    exact W.iret hx hb hr (fun t ht _ => ⟨⟨_, (), rfl, rfl, by rw [ht]; exact hP, hD⟩, hS.F ht⟩) hS.2.2 dX12_floor_11

set_option maxHeartbeats 4000000 in
set_option maxRecDepth 100000 in
theorem c_mm_isPerson (l : Launch) (D : va_G) (cI cJ cZ : ClassId) (a : Nat → Nat) (mPeople : Int32) (mHours : Int32) (mGrains : Int32) (mKind : Nat → Int32) (mWind : Nat → Int32) (mWeight : Nat → Int32) (mSort : Nat → Int32) (mOwner : Nat → Int32) (mNow : Nat → Int32) (mReadKind : Nat → Int32) (mReadWind : Nat → Int32) (mReadGrain : Nat → Int32) (mReadPeople : Int32) (mReadHours : Int32) (mReadGrains : Int32) (mText : Nat → Int32) (mLength : Int32) (mAt : Int32) (mFaultAt : Int32) (mMoved : Nat → Int32) (mActs : Int32) (mNext : Int32) (mRow : Nat → Int32) (mSeen : Int32) (mSeenKind : Nat → Int32) (mSeenLift : Nat → Int32) (mSeenFlew : Nat → Int32) (mSeed : Int64) (mIsKept : Nat → Int32) (mKept : Nat → Int32)  (H0 : Heap) (hP : va_P D vwCl (mW a cI cZ mPeople mHours mGrains mKind mWind mWeight mSort mOwner mNow mReadKind mReadWind mReadGrain mReadPeople mReadHours mReadGrains mText mLength mAt mFaultAt mMoved mActs mNext mRow mSeen mSeenKind mSeenLift mSeenFlew mSeed mIsKept mKept) H0) (p1 : Int32) (rv : Int32) (h : mm_isPerson mPeople p1 = some rv) : Met l yX12_isPerson wsX12_isPerson ({ frames := 1, cells := 0, slots := 0, locals := 25 } : Room) (rPc D cI cJ cZ H0 [.ref (a 0), .int p1]) (vp_Si (fun r => r = rv)) 0 0 (fun _ => False) := by
  unfold mm_isPerson at h
  refine Met.ofW (cc := cX12_isPerson) (maxL := 2) (ret := (some .boolean)) (by decide) rfl ?_
  intro p e s m args below meth c s₁ B hml hv
  obtain ⟨rfl, hH, hK⟩ := hv
  have hx := B.exec
  have hb := B.bytes
  have hr := B.returns
  have hts := atoms_spec (ws := wsX12_isPerson) B.pre
  have hown : s.vm.findClass RX12 = some m.cls := findClass_of_methodNamed B.named
  have hlocks := B.notSynchronized
  subst hH
  have hl := lv_entry ([.ref (a 0), .int p1]) (n := 2) (Nat.le_of_ble_eq_true rfl)
  rw [lg_entry_eq]
  generalize (lg_sl ([.ref (a 0), .int p1]) ++ List.replicate (2 - (lg_sl ([.ref (a 0), .int p1])).length) Slot.unset).toArray = ls at hl ⊢
  have hl : lv_has ls 2 [(0, .ref (a 0)), (1, .int p1)] := hl
  have hiX12 : ∀ w ∈ u_ws RX12 TX12 30, w ∈ wsX12_isPerson := fun w hw => List.mem_cons_of_mem _ (List.mem_append_right _ hw)
  refine lv_iload_n hx hb dX12_isPerson_0 rfl (lv_at hl 1 rfl) ?_
  refine lv_i2l (v := (Int32.toInt64 p1)) hx hb dX12_isPerson_1 rfl ?_
  refine lv_lconst (v := 0) hx hb dX12_isPerson_2 (by decide) ?_
  refine lv_aload_n hx hb dX12_isPerson_3 rfl (lv_at hl 0 rfl) ?_
  refine va_get (D := D) (ci := 5) (v := .int mPeople) (C := RX12) (T := TX12) (N := 30) hx hb hts hiX12 hown hK.1 hP 0 rfl rfl 0 (by decide) (hts (.fieldLink RX12 99 "WinnowedGuiltModel" "people" "I") (by decide +kernel)) (fun _ h9 => h9) rfl dX12_isPerson_4 ?_
  refine lv_iconst (v := 1) hx hb dX12_isPerson_7 (by decide) ?_
  refine lv_isub hx hb dX12_isPerson_8 ?_
  refine lv_i2l (v := (Int32.toInt64 (mPeople - 1))) hx hb dX12_isPerson_9 rfl ?_
  obtain ⟨q1, hq1, h⟩ := bS h
  refine rcI (va_runS (As := [.long (Int32.toInt64 p1), .long 0, .long (Int32.toInt64 (mPeople - 1))]) (rest := []) ⟨hx, hb, hml, hown, hts⟩ (c_mm_in l D cI cJ cZ   s.heap (Int32.toInt64 p1) 0 (Int32.toInt64 (mPeople - 1)) q1 hq1) (va_cwS 3 hts gX12_isPerson_X12_in rfl rfl rfl (by decide +kernel) ⟨Nat.le_of_ble_eq_true rfl, Nat.le_of_ble_eq_true rfl⟩) (rPreS hK) rfl rfl hl.1 rfl (lv_room (Nat.le_of_ble_eq_true rfl)) dX12_isPerson_10 ⟨Nat.zero_le _, Nat.zero_le _⟩) ?_
  obtain ⟨hz, h⟩ := gZ_some h
  exact W.zret hx hb hr hz (fun t ht _ => ⟨_, rfl, Option.some.inj h, ht⟩) (fun _ q => absurd q List.not_mem_nil) dX12_isPerson_13

set_option maxHeartbeats 4000000 in
set_option maxRecDepth 100000 in
theorem c_mm_isGrain (l : Launch) (D : va_G) (cI cJ cZ : ClassId) (a : Nat → Nat) (mPeople : Int32) (mHours : Int32) (mGrains : Int32) (mKind : Nat → Int32) (mWind : Nat → Int32) (mWeight : Nat → Int32) (mSort : Nat → Int32) (mOwner : Nat → Int32) (mNow : Nat → Int32) (mReadKind : Nat → Int32) (mReadWind : Nat → Int32) (mReadGrain : Nat → Int32) (mReadPeople : Int32) (mReadHours : Int32) (mReadGrains : Int32) (mText : Nat → Int32) (mLength : Int32) (mAt : Int32) (mFaultAt : Int32) (mMoved : Nat → Int32) (mActs : Int32) (mNext : Int32) (mRow : Nat → Int32) (mSeen : Int32) (mSeenKind : Nat → Int32) (mSeenLift : Nat → Int32) (mSeenFlew : Nat → Int32) (mSeed : Int64) (mIsKept : Nat → Int32) (mKept : Nat → Int32)  (H0 : Heap) (hP : va_P D vwCl (mW a cI cZ mPeople mHours mGrains mKind mWind mWeight mSort mOwner mNow mReadKind mReadWind mReadGrain mReadPeople mReadHours mReadGrains mText mLength mAt mFaultAt mMoved mActs mNext mRow mSeen mSeenKind mSeenLift mSeenFlew mSeed mIsKept mKept) H0) (p1 : Int32) (rv : Int32) (h : mm_isGrain mGrains p1 = some rv) : Met l yX12_isGrain wsX12_isGrain ({ frames := 1, cells := 0, slots := 0, locals := 25 } : Room) (rPc D cI cJ cZ H0 [.ref (a 0), .int p1]) (vp_Si (fun r => r = rv)) 0 0 (fun _ => False) := by
  unfold mm_isGrain at h
  refine Met.ofW (cc := cX12_isGrain) (maxL := 2) (ret := (some .boolean)) (by decide) rfl ?_
  intro p e s m args below meth c s₁ B hml hv
  obtain ⟨rfl, hH, hK⟩ := hv
  have hx := B.exec
  have hb := B.bytes
  have hr := B.returns
  have hts := atoms_spec (ws := wsX12_isGrain) B.pre
  have hown : s.vm.findClass RX12 = some m.cls := findClass_of_methodNamed B.named
  have hlocks := B.notSynchronized
  subst hH
  have hl := lv_entry ([.ref (a 0), .int p1]) (n := 2) (Nat.le_of_ble_eq_true rfl)
  rw [lg_entry_eq]
  generalize (lg_sl ([.ref (a 0), .int p1]) ++ List.replicate (2 - (lg_sl ([.ref (a 0), .int p1])).length) Slot.unset).toArray = ls at hl ⊢
  have hl : lv_has ls 2 [(0, .ref (a 0)), (1, .int p1)] := hl
  have hiX12 : ∀ w ∈ u_ws RX12 TX12 30, w ∈ wsX12_isGrain := fun w hw => List.mem_cons_of_mem _ (List.mem_append_right _ hw)
  refine lv_iload_n hx hb dX12_isGrain_0 rfl (lv_at hl 1 rfl) ?_
  refine lv_i2l (v := (Int32.toInt64 p1)) hx hb dX12_isGrain_1 rfl ?_
  refine lv_lconst (v := 0) hx hb dX12_isGrain_2 (by decide) ?_
  refine lv_aload_n hx hb dX12_isGrain_3 rfl (lv_at hl 0 rfl) ?_
  refine va_get (D := D) (ci := 5) (v := .int mGrains) (C := RX12) (T := TX12) (N := 30) hx hb hts hiX12 hown hK.1 hP 0 rfl rfl 2 (by decide) (hts (.fieldLink RX12 105 "WinnowedGuiltModel" "grains" "I") (by decide +kernel)) (fun _ h9 => h9) rfl dX12_isGrain_4 ?_
  refine lv_iconst (v := 1) hx hb dX12_isGrain_7 (by decide) ?_
  refine lv_isub hx hb dX12_isGrain_8 ?_
  refine lv_i2l (v := (Int32.toInt64 (mGrains - 1))) hx hb dX12_isGrain_9 rfl ?_
  obtain ⟨q1, hq1, h⟩ := bS h
  refine rcI (va_runS (As := [.long (Int32.toInt64 p1), .long 0, .long (Int32.toInt64 (mGrains - 1))]) (rest := []) ⟨hx, hb, hml, hown, hts⟩ (c_mm_in l D cI cJ cZ   s.heap (Int32.toInt64 p1) 0 (Int32.toInt64 (mGrains - 1)) q1 hq1) (va_cwS 3 hts gX12_isGrain_X12_in rfl rfl rfl (by decide +kernel) ⟨Nat.le_of_ble_eq_true rfl, Nat.le_of_ble_eq_true rfl⟩) (rPreS hK) rfl rfl hl.1 rfl (lv_room (Nat.le_of_ble_eq_true rfl)) dX12_isGrain_10 ⟨Nat.zero_le _, Nat.zero_le _⟩) ?_
  obtain ⟨hz, h⟩ := gZ_some h
  exact W.zret hx hb hr hz (fun t ht _ => ⟨_, rfl, Option.some.inj h, ht⟩) (fun _ q => absurd q List.not_mem_nil) dX12_isGrain_13

set_option maxHeartbeats 4000000 in
set_option maxRecDepth 100000 in
theorem c_mm_windOn (l : Launch) (D : va_G) (cI cJ cZ : ClassId) (a : Nat → Nat) (mPeople : Int32) (mHours : Int32) (mGrains : Int32) (mKind : Nat → Int32) (mWind : Nat → Int32) (mWeight : Nat → Int32) (mSort : Nat → Int32) (mOwner : Nat → Int32) (mNow : Nat → Int32) (mReadKind : Nat → Int32) (mReadWind : Nat → Int32) (mReadGrain : Nat → Int32) (mReadPeople : Int32) (mReadHours : Int32) (mReadGrains : Int32) (mText : Nat → Int32) (mLength : Int32) (mAt : Int32) (mFaultAt : Int32) (mMoved : Nat → Int32) (mActs : Int32) (mNext : Int32) (mRow : Nat → Int32) (mSeen : Int32) (mSeenKind : Nat → Int32) (mSeenLift : Nat → Int32) (mSeenFlew : Nat → Int32) (mSeed : Int64) (mIsKept : Nat → Int32) (mKept : Nat → Int32)  (H0 : Heap) (hP : va_P D vwCl (mW a cI cZ mPeople mHours mGrains mKind mWind mWeight mSort mOwner mNow mReadKind mReadWind mReadGrain mReadPeople mReadHours mReadGrains mText mLength mAt mFaultAt mMoved mActs mNext mRow mSeen mSeenKind mSeenLift mSeenFlew mSeed mIsKept mKept) H0) (p1 : Int32) (rv : Int32) (h : mm_windOn mHours mWind mNow p1 = some rv) : Met l yX12_windOn wsX12_windOn ({ frames := 0, cells := 0, slots := 0, locals := 0 } : Room) (rPc D cI cJ cZ H0 [.ref (a 0), .int p1]) (vp_Si (fun r => r = rv)) 0 0 (fun _ => False) := by
  unfold mm_windOn at h
  refine Met.ofW (cc := cX12_windOn) (maxL := 2) (ret := (some .int)) (by decide) rfl ?_
  intro p e s m args below meth c s₁ B hml hv
  obtain ⟨rfl, hH, hK⟩ := hv
  have hx := B.exec
  have hb := B.bytes
  have hr := B.returns
  have hts := atoms_spec (ws := wsX12_windOn) B.pre
  have hown : s.vm.findClass RX12 = some m.cls := findClass_of_methodNamed B.named
  have hlocks := B.notSynchronized
  subst hH
  have hl := lv_entry ([.ref (a 0), .int p1]) (n := 2) (Nat.le_of_ble_eq_true rfl)
  rw [lg_entry_eq]
  generalize (lg_sl ([.ref (a 0), .int p1]) ++ List.replicate (2 - (lg_sl ([.ref (a 0), .int p1])).length) Slot.unset).toArray = ls at hl ⊢
  have hl : lv_has ls 2 [(0, .ref (a 0)), (1, .int p1)] := hl
  have hiX12 : ∀ w ∈ u_ws RX12 TX12 30, w ∈ wsX12_windOn := fun w hw => List.mem_cons_of_mem _ (List.mem_append_right _ hw)
  refine lv_aload_n hx hb dX12_windOn_0 rfl (lv_at hl 0 rfl) ?_
  refine va_get (D := D) (ci := 5) (v := .int mHours) (C := RX12) (T := TX12) (N := 30) hx hb hts hiX12 hown hK.1 hP 0 rfl rfl 1 (by decide) (hts (.fieldLink RX12 102 "WinnowedGuiltModel" "hours" "I") (by decide +kernel)) (fun _ h9 => h9) rfl dX12_windOn_1 ?_
  refine lv_if_ne (tgt := 11) hx hb dX12_windOn_4 (by decide) (fun c1 => ?_) (fun c1 => ?_)
  · have h := iF c1 h
    refine lv_aload_n hx hb dX12_windOn_11 rfl (lv_at hl 0 rfl) ?_
    refine va_get (D := D) (ci := 5) (v := .ref (a 2)) (C := RX12) (T := TX12) (N := 30) hx hb hts hiX12 hown hK.1 hP 0 rfl rfl 4 (by decide) (hts (.fieldLink RX12 13 "WinnowedGuiltModel" "wind" "[I") (by decide +kernel)) (fun _ h9 => h9) rfl dX12_windOn_12 ?_
    refine lv_aload_n hx hb dX12_windOn_15 rfl (lv_at hl 0 rfl) ?_
    refine va_get (D := D) (ci := 5) (v := .ref (a 6)) (C := RX12) (T := TX12) (N := 30) hx hb hts hiX12 hown hK.1 hP 0 rfl rfl 8 (by decide) (hts (.fieldLink RX12 25 "WinnowedGuiltModel" "now" "[I") (by decide +kernel)) (fun _ h9 => h9) rfl dX12_windOn_16 ?_
    refine lv_bipush (v := 9) hx hb dX12_windOn_19 (by decide) ?_
    refine lv_iload_n hx hb dX12_windOn_21 rfl (lv_at hl 1 rfl) ?_
    refine lv_imul hx hb dX12_windOn_22 ?_
    refine lv_bipush (v := 8) hx hb dX12_windOn_23 (by decide) ?_
    refine lv_iadd hx hb dX12_windOn_25 ?_
    obtain ⟨hi2, h⟩ := gI_some h
    refine ldI (v := (mNow (Int32.toNatClampNeg ((9 * p1) + 8)))) hx hb hK.1 hP 6 rfl rfl hi2 rfl dX12_windOn_26 ?_
    refine lv_aload_n hx hb dX12_windOn_27 rfl (lv_at hl 0 rfl) ?_
    refine va_get (D := D) (ci := 5) (v := .int mHours) (C := RX12) (T := TX12) (N := 30) hx hb hts hiX12 hown hK.1 hP 0 rfl rfl 1 (by decide) (hts (.fieldLink RX12 102 "WinnowedGuiltModel" "hours" "I") (by decide +kernel)) (fun _ h9 => h9) rfl dX12_windOn_28 ?_
    obtain ⟨hd3, h⟩ := gD_some h
    refine lv_irem hx hb dX12_windOn_31 hd3 ?_
    obtain ⟨hi4, h⟩ := gI_some h
    refine ldI (v := (mWind (Int32.toNatClampNeg ((mNow (Int32.toNatClampNeg ((9 * p1) + 8))) - (mNow (Int32.toNatClampNeg ((9 * p1) + 8))) / mHours * mHours)))) hx hb hK.1 hP 2 rfl rfl hi4 rfl dX12_windOn_32 ?_
    exact W.iret hx hb hr (fun t ht _ => ⟨_, rfl, Option.some.inj h, ht⟩) (fun _ q => absurd q List.not_mem_nil) dX12_windOn_33
  · have h := iT c1 h
    refine lv_iconst (v := 0) hx hb dX12_windOn_7 (by decide) ?_
    refine lv_goto (tgt := 33) hx hb dX12_windOn_8 (by decide) ?_
    exact W.iret hx hb hr (fun t ht _ => ⟨_, rfl, Option.some.inj h, ht⟩) (fun _ q => absurd q List.not_mem_nil) dX12_windOn_33

set_option maxHeartbeats 4000000 in
set_option maxRecDepth 100000 in
theorem c_mm_liftAt (l : Launch) (D : va_G) (cI cJ cZ : ClassId) (a : Nat → Nat) (mPeople : Int32) (mHours : Int32) (mGrains : Int32) (mKind : Nat → Int32) (mWind : Nat → Int32) (mWeight : Nat → Int32) (mSort : Nat → Int32) (mOwner : Nat → Int32) (mNow : Nat → Int32) (mReadKind : Nat → Int32) (mReadWind : Nat → Int32) (mReadGrain : Nat → Int32) (mReadPeople : Int32) (mReadHours : Int32) (mReadGrains : Int32) (mText : Nat → Int32) (mLength : Int32) (mAt : Int32) (mFaultAt : Int32) (mMoved : Nat → Int32) (mActs : Int32) (mNext : Int32) (mRow : Nat → Int32) (mSeen : Int32) (mSeenKind : Nat → Int32) (mSeenLift : Nat → Int32) (mSeenFlew : Nat → Int32) (mSeed : Int64) (mIsKept : Nat → Int32) (mKept : Nat → Int32)  (H0 : Heap) (hP : va_P D vwCl (mW a cI cZ mPeople mHours mGrains mKind mWind mWeight mSort mOwner mNow mReadKind mReadWind mReadGrain mReadPeople mReadHours mReadGrains mText mLength mAt mFaultAt mMoved mActs mNext mRow mSeen mSeenKind mSeenLift mSeenFlew mSeed mIsKept mKept) H0) (p1 : Int32) (p2 : Int32) (p3 : Int32) (rv : Int32) (h : mm_liftAt mHours mKind mWind mNow p1 p2 p3 = some rv) : Met l yX12_liftAt wsX12_liftAt ({ frames := 1, cells := 0, slots := 0, locals := 21 } : Room) (rPc D cI cJ cZ H0 [.ref (a 0), .int p1, .int p2, .int p3]) (vp_Si (fun r => r = rv)) 0 0 (fun _ => False) := by
  unfold mm_liftAt at h
  refine Met.ofW (cc := cX12_liftAt) (maxL := 4) (ret := (some .int)) (by decide) rfl ?_
  intro p e s m args below meth c s₁ B hml hv
  obtain ⟨rfl, hH, hK⟩ := hv
  have hx := B.exec
  have hb := B.bytes
  have hr := B.returns
  have hts := atoms_spec (ws := wsX12_liftAt) B.pre
  have hown : s.vm.findClass RX12 = some m.cls := findClass_of_methodNamed B.named
  have hlocks := B.notSynchronized
  subst hH
  have hl := lv_entry ([.ref (a 0), .int p1, .int p2, .int p3]) (n := 4) (Nat.le_of_ble_eq_true rfl)
  rw [lg_entry_eq]
  generalize (lg_sl ([.ref (a 0), .int p1, .int p2, .int p3]) ++ List.replicate (4 - (lg_sl ([.ref (a 0), .int p1, .int p2, .int p3])).length) Slot.unset).toArray = ls at hl ⊢
  have hl : lv_has ls 4 [(0, .ref (a 0)), (1, .int p1), (2, .int p2), (3, .int p3)] := hl
  have hiX12 : ∀ w ∈ u_ws RX12 TX12 30, w ∈ wsX12_liftAt := fun w hw => List.mem_cons_of_mem _ (List.mem_append_right _ hw)
  refine lv_aload_n hx hb dX12_liftAt_0 rfl (lv_at hl 0 rfl) ?_
  refine lv_iload_n hx hb dX12_liftAt_1 rfl (lv_at hl 1 rfl) ?_
  obtain ⟨q1, hq1, h⟩ := bS h
  refine rcI (va_runV (As := [.int p1]) (rest := []) ⟨hx, hb, hml, hown, hts⟩ (c_mm_windOn l D cI cJ cZ a mPeople mHours mGrains mKind mWind mWeight mSort mOwner mNow mReadKind mReadWind mReadGrain mReadPeople mReadHours mReadGrains mText mLength mAt mFaultAt mMoved mActs mNext mRow mSeen mSeenKind mSeenLift mSeenFlew mSeed mIsKept mKept s.heap hP p1 q1 hq1) (cwV 1 hts gX12_liftAt_X12_windOn rfl rfl rfl (by decide +kernel) ⟨Nat.le_of_ble_eq_true rfl, Nat.le_of_ble_eq_true rfl⟩) (rPreV hK hP (ci := 5) (q0 := 0) rfl rfl) rfl rfl hl.1 rfl (lv_room (Nat.le_of_ble_eq_true rfl)) dX12_liftAt_2 ⟨Nat.zero_le _, Nat.zero_le _⟩) ?_
  refine lv_iload_n hx hb dX12_liftAt_5 rfl (lv_at hl 3 rfl) ?_
  refine lv_iadd hx hb dX12_liftAt_6 ?_
  refine lv_aload_n hx hb dX12_liftAt_7 rfl (lv_at hl 0 rfl) ?_
  refine va_get (D := D) (ci := 5) (v := .ref (a 6)) (C := RX12) (T := TX12) (N := 30) hx hb hts hiX12 hown hK.1 hP 0 rfl rfl 8 (by decide) (hts (.fieldLink RX12 25 "WinnowedGuiltModel" "now" "[I") (by decide +kernel)) (fun _ h9 => h9) rfl dX12_liftAt_8 ?_
  refine lv_bipush (v := 9) hx hb dX12_liftAt_11 (by decide) ?_
  refine lv_iload_n hx hb dX12_liftAt_13 rfl (lv_at hl 1 rfl) ?_
  refine lv_imul hx hb dX12_liftAt_14 ?_
  refine lv_bipush (v := 7) hx hb dX12_liftAt_15 (by decide) ?_
  refine lv_iadd hx hb dX12_liftAt_17 ?_
  obtain ⟨hi2, h⟩ := gI_some h
  refine ldI (v := (mNow (Int32.toNatClampNeg ((9 * p1) + 7)))) hx hb hK.1 hP 6 rfl rfl hi2 rfl dX12_liftAt_18 ?_
  refine lv_iload_n hx hb dX12_liftAt_19 rfl (lv_at hl 2 rfl) ?_
  refine lv_icmp_ne (tgt := 27) hx hb dX12_liftAt_20 (by decide) (fun c3 => ?_) (fun c3 => ?_)
  · have h := iF c3 h
    refine lv_iconst (v := 0) hx hb dX12_liftAt_27 (by decide) ?_
    refine lv_iadd hx hb dX12_liftAt_28 ?_
    refine lv_aload_n hx hb dX12_liftAt_29 rfl (lv_at hl 0 rfl) ?_
    refine va_get (D := D) (ci := 5) (v := .ref (a 1)) (C := RX12) (T := TX12) (N := 30) hx hb hts hiX12 hown hK.1 hP 0 rfl rfl 3 (by decide) (hts (.fieldLink RX12 7 "WinnowedGuiltModel" "kind" "[I") (by decide +kernel)) (fun _ h9 => h9) rfl dX12_liftAt_30 ?_
    refine lv_iload_n hx hb dX12_liftAt_33 rfl (lv_at hl 2 rfl) ?_
    obtain ⟨hi4, h⟩ := gI_some h
    refine ldI (v := (mKind (Int32.toNatClampNeg p2))) hx hb hK.1 hP 1 rfl rfl hi4 rfl dX12_liftAt_34 ?_
    refine lv_iconst (v := 1) hx hb dX12_liftAt_35 (by decide) ?_
    refine lv_icmp_ne (tgt := 43) hx hb dX12_liftAt_36 (by decide) (fun c5 => ?_) (fun c5 => ?_)
    · have h := iF c5 h
      refine lv_iconst (v := 0) hx hb dX12_liftAt_43 (by decide) ?_
      refine lv_iadd hx hb dX12_liftAt_44 ?_
      exact W.iret hx hb hr (fun t ht _ => ⟨_, rfl, Option.some.inj h, ht⟩) (fun _ q => absurd q List.not_mem_nil) dX12_liftAt_45
    · have h := iT c5 h
      refine lv_iconst (v := 1) hx hb dX12_liftAt_39 (by decide) ?_
      refine lv_goto (tgt := 44) hx hb dX12_liftAt_40 (by decide) ?_
      refine lv_iadd hx hb dX12_liftAt_44 ?_
      exact W.iret hx hb hr (fun t ht _ => ⟨_, rfl, Option.some.inj h, ht⟩) (fun _ q => absurd q List.not_mem_nil) dX12_liftAt_45
  · have h := iT c3 h
    refine lv_iconst (v := 2) hx hb dX12_liftAt_23 (by decide) ?_
    refine lv_goto (tgt := 28) hx hb dX12_liftAt_24 (by decide) ?_
    refine lv_iadd hx hb dX12_liftAt_28 ?_
    refine lv_aload_n hx hb dX12_liftAt_29 rfl (lv_at hl 0 rfl) ?_
    refine va_get (D := D) (ci := 5) (v := .ref (a 1)) (C := RX12) (T := TX12) (N := 30) hx hb hts hiX12 hown hK.1 hP 0 rfl rfl 3 (by decide) (hts (.fieldLink RX12 7 "WinnowedGuiltModel" "kind" "[I") (by decide +kernel)) (fun _ h9 => h9) rfl dX12_liftAt_30 ?_
    refine lv_iload_n hx hb dX12_liftAt_33 rfl (lv_at hl 2 rfl) ?_
    obtain ⟨hi4, h⟩ := gI_some h
    refine ldI (v := (mKind (Int32.toNatClampNeg p2))) hx hb hK.1 hP 1 rfl rfl hi4 rfl dX12_liftAt_34 ?_
    refine lv_iconst (v := 1) hx hb dX12_liftAt_35 (by decide) ?_
    refine lv_icmp_ne (tgt := 43) hx hb dX12_liftAt_36 (by decide) (fun c5 => ?_) (fun c5 => ?_)
    · have h := iF c5 h
      refine lv_iconst (v := 0) hx hb dX12_liftAt_43 (by decide) ?_
      refine lv_iadd hx hb dX12_liftAt_44 ?_
      exact W.iret hx hb hr (fun t ht _ => ⟨_, rfl, Option.some.inj h, ht⟩) (fun _ q => absurd q List.not_mem_nil) dX12_liftAt_45
    · have h := iT c5 h
      refine lv_iconst (v := 1) hx hb dX12_liftAt_39 (by decide) ?_
      refine lv_goto (tgt := 44) hx hb dX12_liftAt_40 (by decide) ?_
      refine lv_iadd hx hb dX12_liftAt_44 ?_
      exact W.iret hx hb hr (fun t ht _ => ⟨_, rfl, Option.some.inj h, ht⟩) (fun _ q => absurd q List.not_mem_nil) dX12_liftAt_45

set_option maxHeartbeats 4000000 in
set_option maxRecDepth 100000 in
theorem c_mm_liftOf (l : Launch) (D : va_G) (cI cJ cZ : ClassId)  (H0 : Heap) (p0 : Int32) (p1 : Int32) (rv : Int32) (h : mm_liftOf p0 p1 = some rv) : Met l yX12_liftOf wsX12_liftOf ({ frames := 0, cells := 0, slots := 0, locals := 0 } : Room) (rPc D cI cJ cZ H0 [.int p0, .int p1]) (vp_Si (fun r => r = rv)) 0 0 (fun _ => False) := by
  unfold mm_liftOf at h
  refine Met.ofW (cc := cX12_liftOf) (maxL := 2) (ret := (some .int)) (by decide) rfl ?_
  intro p e s m args below meth c s₁ B hml hv
  obtain ⟨rfl, hH, hK⟩ := hv
  have hx := B.exec
  have hb := B.bytes
  have hr := B.returns
  have hts := atoms_spec (ws := wsX12_liftOf) B.pre
  have hown : s.vm.findClass RX12 = some m.cls := findClass_of_methodNamed B.named
  have hlocks := B.notSynchronized
  subst hH
  have hl := lv_entry ([.int p0, .int p1]) (n := 2) (Nat.le_of_ble_eq_true rfl)
  rw [lg_entry_eq]
  generalize (lg_sl ([.int p0, .int p1]) ++ List.replicate (2 - (lg_sl ([.int p0, .int p1])).length) Slot.unset).toArray = ls at hl ⊢
  have hl : lv_has ls 2 [(0, .int p0), (1, .int p1)] := hl
  refine lv_iload_n hx hb dX12_liftOf_0 rfl (lv_at hl 1 rfl) ?_
  refine lv_iconst (v := 1) hx hb dX12_liftOf_1 (by decide) ?_
  refine lv_icmp_ne (tgt := 11) hx hb dX12_liftOf_2 (by decide) (fun c1 => ?_) (fun c1 => ?_)
  · have h := iF c1 h
    refine lv_iload_n hx hb dX12_liftOf_11 rfl (lv_at hl 1 rfl) ?_
    refine lv_iconst (v := 3) hx hb dX12_liftOf_12 (by decide) ?_
    refine lv_icmp_ne (tgt := 22) hx hb dX12_liftOf_13 (by decide) (fun c2 => ?_) (fun c2 => ?_)
    · have h := iF c2 h
      refine lv_iload_n hx hb dX12_liftOf_22 rfl (lv_at hl 0 rfl) ?_
      exact W.iret hx hb hr (fun t ht _ => ⟨_, rfl, Option.some.inj h, ht⟩) (fun _ q => absurd q List.not_mem_nil) dX12_liftOf_23
    · have h := iT c2 h
      refine lv_iload_n hx hb dX12_liftOf_16 rfl (lv_at hl 0 rfl) ?_
      refine lv_iconst (v := 2) hx hb dX12_liftOf_17 (by decide) ?_
      refine lv_idiv hx hb dX12_liftOf_18 (by decide) ?_
      refine lv_goto (tgt := 23) hx hb dX12_liftOf_19 (by decide) ?_
      exact W.iret hx hb hr (fun t ht _ => ⟨_, rfl, Option.some.inj h, ht⟩) (fun _ q => absurd q List.not_mem_nil) dX12_liftOf_23
  · have h := iT c1 h
    refine lv_iload_n hx hb dX12_liftOf_5 rfl (lv_at hl 0 rfl) ?_
    refine lv_iconst (v := 2) hx hb dX12_liftOf_6 (by decide) ?_
    refine lv_iadd hx hb dX12_liftOf_7 ?_
    refine lv_goto (tgt := 23) hx hb dX12_liftOf_8 (by decide) ?_
    exact W.iret hx hb hr (fun t ht _ => ⟨_, rfl, Option.some.inj h, ht⟩) (fun _ q => absurd q List.not_mem_nil) dX12_liftOf_23
