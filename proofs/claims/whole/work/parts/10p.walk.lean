set_option maxHeartbeats 4000000 in
set_option maxRecDepth 100000 in
theorem c_mm_gain (l : Launch) (D : va_G) (cI cJ cZ : ClassId) (a : Nat → Nat) (mPeople : Int32) (mHours : Int32) (mGrains : Int32) (mKind : Nat → Int32) (mWind : Nat → Int32) (mWeight : Nat → Int32) (mSort : Nat → Int32) (mOwner : Nat → Int32) (mNow : Nat → Int32) (mReadKind : Nat → Int32) (mReadWind : Nat → Int32) (mReadGrain : Nat → Int32) (mReadPeople : Int32) (mReadHours : Int32) (mReadGrains : Int32) (mText : Nat → Int32) (mLength : Int32) (mAt : Int32) (mFaultAt : Int32) (mMoved : Nat → Int32) (mActs : Int32) (mNext : Int32) (mRow : Nat → Int32) (mSeen : Int32) (mSeenKind : Nat → Int32) (mSeenLift : Nat → Int32) (mSeenFlew : Nat → Int32) (mSeed : Int64) (mIsKept : Nat → Int32) (mKept : Nat → Int32)  (sz : Nat) (p1 : Int32) (p2 : Int32) (p3 : Int32) (rv : Int32) (mNow_r : Nat → Int32) (h : mm_gain mHours mGrains mKind mWind mWeight mSort mOwner mNow p1 p2 p3 = some (rv, mNow_r)) : Met l yX12_gain wsX12_gain ({ frames := 4, cells := 0, slots := 0, locals := 93 } : Room) (wPc D cI cJ cZ (mW a cI cZ mPeople mHours mGrains mKind mWind mWeight mSort mOwner mNow mReadKind mReadWind mReadGrain mReadPeople mReadHours mReadGrains mText mLength mAt mFaultAt mMoved mActs mNext mRow mSeen mSeenKind mSeenLift mSeenFlew mSeed mIsKept mKept) sz [.ref (a 0), .int p1, .int p2, .int p3]) (wQi D (mW a cI cZ mPeople mHours mGrains mKind mWind mWeight mSort mOwner mNow mReadKind mReadWind mReadGrain mReadPeople mReadHours mReadGrains mText mLength mAt mFaultAt mMoved mActs mNext mRow mSeen mSeenKind mSeenLift mSeenFlew mSeed mIsKept mKept) (mW a cI cZ mPeople mHours mGrains mKind mWind mWeight mSort mOwner mNow_r mReadKind mReadWind mReadGrain mReadPeople mReadHours mReadGrains mText mLength mAt mFaultAt mMoved mActs mNext mRow mSeen mSeenKind mSeenLift mSeenFlew mSeed mIsKept mKept) sz rv) 0 0 (va_A (mW a cI cZ mPeople mHours mGrains mKind mWind mWeight mSort mOwner mNow mReadKind mReadWind mReadGrain mReadPeople mReadHours mReadGrains mText mLength mAt mFaultAt mMoved mActs mNext mRow mSeen mSeenKind mSeenLift mSeenFlew mSeed mIsKept mKept) sz) := by
  unfold mm_gain at h
  refine Met.ofW (cc := cX12_gain) (maxL := 4) (ret := (some .int)) (by decide) rfl ?_
  intro p e s m args below meth c s₁ B hml hv
  obtain ⟨rfl, hsz, hP, hK, hD0⟩ := hv
  have hx := B.exec
  have hb := B.bytes
  have hr := B.returns
  have hts := atoms_spec (ws := wsX12_gain) B.pre
  have hown : s.vm.findClass RX12 = some m.cls := findClass_of_methodNamed B.named
  have hlocks := B.notSynchronized
  subst hsz
  have hD := hD0.self (sz := s.heap.size)
  have hA : ∀ q : Nat, s.heap.size ≤ q → va_A (mW a cI cZ mPeople mHours mGrains mKind mWind mWeight mSort mOwner mNow mReadKind mReadWind mReadGrain mReadPeople mReadHours mReadGrains mText mLength mAt mFaultAt mMoved mActs mNext mRow mSeen mSeenKind mSeenLift mSeenFlew mSeed mIsKept mKept) s.heap.size q := fun q h => Or.inr h
  have hS : va_S (va_A (mW a cI cZ mPeople mHours mGrains mKind mWind mWeight mSort mOwner mNow mReadKind mReadWind mReadGrain mReadPeople mReadHours mReadGrains mText mLength mAt mFaultAt mMoved mActs mNext mRow mSeen mSeenKind mSeenLift mSeenFlew mSeed mIsKept mKept) s.heap.size) s.heap s.heap [] := va_S.rf
  obtain ⟨A, hAe⟩ : ∃ A, A = va_A (mW a cI cZ mPeople mHours mGrains mKind mWind mWeight mSort mOwner mNow mReadKind mReadWind mReadGrain mReadPeople mReadHours mReadGrains mText mLength mAt mFaultAt mMoved mActs mNext mRow mSeen mSeenKind mSeenLift mSeenFlew mSeed mIsKept mKept) s.heap.size := ⟨_, rfl⟩
  rw [← hAe] at hD hA hS
  have hl := lv_entry ([.ref (a 0), .int p1, .int p2, .int p3]) (n := 4) (Nat.le_of_ble_eq_true rfl)
  rw [lg_entry_eq]
  generalize (lg_sl ([.ref (a 0), .int p1, .int p2, .int p3]) ++ List.replicate (4 - (lg_sl ([.ref (a 0), .int p1, .int p2, .int p3])).length) Slot.unset).toArray = ls at hl ⊢
  have hl : lv_has ls 4 [(0, .ref (a 0)), (1, .int p1), (2, .int p2), (3, .int p3)] := hl
  refine lv_iload_n hx hb dX12_gain_0 rfl (lv_at hl 2 rfl) ?_
  refine lv_iconst (v := 1) hx hb dX12_gain_1 (by decide) ?_
  refine lv_icmp_ne (tgt := 15) hx hb dX12_gain_2 (by decide) (fun c1 => ?_) (fun c1 => ?_)
  · have h := iF c1 h
    refine lv_aload_n hx hb dX12_gain_15 rfl (lv_at hl 0 rfl) ?_
    refine lv_iload_n hx hb dX12_gain_16 rfl (lv_at hl 1 rfl) ?_
    refine lv_iload_n hx hb dX12_gain_17 rfl (lv_at hl 2 rfl) ?_
    refine lv_iconst (v := 1) hx hb dX12_gain_18 (by decide) ?_
    refine lv_icmp_ne (tgt := 26) hx hb dX12_gain_19 (by decide) (fun c2 => ?_) (fun c2 => ?_)
    · have h := iF c2 h
      refine lv_iconst (v := 0) hx hb dX12_gain_26 (by decide) ?_
      obtain ⟨q3, hq3, h⟩ := bS h
      refine wcI (va_runV (As := [.int p1, .int 0]) (rest := []) ⟨hx, hb, hml, hown, hts⟩ (c_mm_lightens l D cI cJ cZ a mPeople mHours mGrains mKind mWind mWeight mSort mOwner mNow mReadKind mReadWind mReadGrain mReadPeople mReadHours mReadGrains mText mLength mAt mFaultAt mMoved mActs mNext mRow mSeen mSeenKind mSeenLift mSeenFlew mSeed mIsKept mKept s.heap.size p1 0 q3.1 q3.2 hq3) (cwV 2 hts gX12_gain_X12_lightens rfl rfl rfl (by decide +kernel) ⟨Nat.le_of_ble_eq_true rfl, Nat.le_of_ble_eq_true rfl⟩) (wPreV hK hP hD (ci := 5) (q0 := 0) rfl rfl) rfl rfl hl.1 rfl (lv_room (Nat.le_of_ble_eq_true rfl)) dX12_gain_27 ⟨Nat.zero_le _, Nat.zero_le _⟩) hD hS hA (fun H locs hP hD hS => ?_)
      have hP : va_P D vwCl (mW a cI cZ mPeople mHours mGrains mKind mWind mWeight mSort mOwner q3.2 mReadKind mReadWind mReadGrain mReadPeople mReadHours mReadGrains mText mLength mAt mFaultAt mMoved mActs mNext mRow mSeen mSeenKind mSeenLift mSeenFlew mSeed mIsKept mKept) H := hP
      have hD : va_D A (mW a cI cZ mPeople mHours mGrains mKind mWind mWeight mSort mOwner q3.2 mReadKind mReadWind mReadGrain mReadPeople mReadHours mReadGrains mText mLength mAt mFaultAt mMoved mActs mNext mRow mSeen mSeenKind mSeenLift mSeenFlew mSeed mIsKept mKept) := hD
      cases h
      subst hAe
      exact W.iret hx hb hr (fun t ht _ => ⟨⟨_, (), rfl, rfl, by rw [ht]; exact hP, hD⟩, hS.F ht⟩) hS.2.2 dX12_gain_30
    · have h := iT c2 h
      refine lv_iconst (v := 1) hx hb dX12_gain_22 (by decide) ?_
      refine lv_goto (tgt := 27) hx hb dX12_gain_23 (by decide) ?_
      obtain ⟨q3, hq3, h⟩ := bS h
      refine wcI (va_runV (As := [.int p1, .int 1]) (rest := []) ⟨hx, hb, hml, hown, hts⟩ (c_mm_lightens l D cI cJ cZ a mPeople mHours mGrains mKind mWind mWeight mSort mOwner mNow mReadKind mReadWind mReadGrain mReadPeople mReadHours mReadGrains mText mLength mAt mFaultAt mMoved mActs mNext mRow mSeen mSeenKind mSeenLift mSeenFlew mSeed mIsKept mKept s.heap.size p1 1 q3.1 q3.2 hq3) (cwV 2 hts gX12_gain_X12_lightens rfl rfl rfl (by decide +kernel) ⟨Nat.le_of_ble_eq_true rfl, Nat.le_of_ble_eq_true rfl⟩) (wPreV hK hP hD (ci := 5) (q0 := 0) rfl rfl) rfl rfl hl.1 rfl (lv_room (Nat.le_of_ble_eq_true rfl)) dX12_gain_27 ⟨Nat.zero_le _, Nat.zero_le _⟩) hD hS hA (fun H locs hP hD hS => ?_)
      have hP : va_P D vwCl (mW a cI cZ mPeople mHours mGrains mKind mWind mWeight mSort mOwner q3.2 mReadKind mReadWind mReadGrain mReadPeople mReadHours mReadGrains mText mLength mAt mFaultAt mMoved mActs mNext mRow mSeen mSeenKind mSeenLift mSeenFlew mSeed mIsKept mKept) H := hP
      have hD : va_D A (mW a cI cZ mPeople mHours mGrains mKind mWind mWeight mSort mOwner q3.2 mReadKind mReadWind mReadGrain mReadPeople mReadHours mReadGrains mText mLength mAt mFaultAt mMoved mActs mNext mRow mSeen mSeenKind mSeenLift mSeenFlew mSeed mIsKept mKept) := hD
      cases h
      subst hAe
      exact W.iret hx hb hr (fun t ht _ => ⟨⟨_, (), rfl, rfl, by rw [ht]; exact hP, hD⟩, hS.F ht⟩) hS.2.2 dX12_gain_30
  · have h := iT c1 h
    refine lv_iload_n hx hb dX12_gain_5 rfl (lv_at hl 3 rfl) ?_
    refine lv_iconst (v := 1) hx hb dX12_gain_6 (by decide) ?_
    refine lv_icmp_ne (tgt := 15) hx hb dX12_gain_7 (by decide) (fun c2 => ?_) (fun c2 => ?_)
    · have h := iF c2 h
      refine lv_aload_n hx hb dX12_gain_15 rfl (lv_at hl 0 rfl) ?_
      refine lv_iload_n hx hb dX12_gain_16 rfl (lv_at hl 1 rfl) ?_
      refine lv_iload_n hx hb dX12_gain_17 rfl (lv_at hl 2 rfl) ?_
      refine lv_iconst (v := 1) hx hb dX12_gain_18 (by decide) ?_
      refine lv_icmp_ne (tgt := 26) hx hb dX12_gain_19 (by decide) (fun c => absurd c (by rw [c1]; decide)) (fun _ => ?_)
      refine lv_iconst (v := 1) hx hb dX12_gain_22 (by decide) ?_
      refine lv_goto (tgt := 27) hx hb dX12_gain_23 (by decide) ?_
      obtain ⟨q3, hq3, h⟩ := bS h
      refine wcI (va_runV (As := [.int p1, .int 1]) (rest := []) ⟨hx, hb, hml, hown, hts⟩ (c_mm_lightens l D cI cJ cZ a mPeople mHours mGrains mKind mWind mWeight mSort mOwner mNow mReadKind mReadWind mReadGrain mReadPeople mReadHours mReadGrains mText mLength mAt mFaultAt mMoved mActs mNext mRow mSeen mSeenKind mSeenLift mSeenFlew mSeed mIsKept mKept s.heap.size p1 1 q3.1 q3.2 hq3) (cwV 2 hts gX12_gain_X12_lightens rfl rfl rfl (by decide +kernel) ⟨Nat.le_of_ble_eq_true rfl, Nat.le_of_ble_eq_true rfl⟩) (wPreV hK hP hD (ci := 5) (q0 := 0) rfl rfl) rfl rfl hl.1 rfl (lv_room (Nat.le_of_ble_eq_true rfl)) dX12_gain_27 ⟨Nat.zero_le _, Nat.zero_le _⟩) hD hS hA (fun H locs hP hD hS => ?_)
      have hP : va_P D vwCl (mW a cI cZ mPeople mHours mGrains mKind mWind mWeight mSort mOwner q3.2 mReadKind mReadWind mReadGrain mReadPeople mReadHours mReadGrains mText mLength mAt mFaultAt mMoved mActs mNext mRow mSeen mSeenKind mSeenLift mSeenFlew mSeed mIsKept mKept) H := hP
      have hD : va_D A (mW a cI cZ mPeople mHours mGrains mKind mWind mWeight mSort mOwner q3.2 mReadKind mReadWind mReadGrain mReadPeople mReadHours mReadGrains mText mLength mAt mFaultAt mMoved mActs mNext mRow mSeen mSeenKind mSeenLift mSeenFlew mSeed mIsKept mKept) := hD
      cases h
      subst hAe
      exact W.iret hx hb hr (fun t ht _ => ⟨⟨_, (), rfl, rfl, by rw [ht]; exact hP, hD⟩, hS.F ht⟩) hS.2.2 dX12_gain_30
    · have h := iT c2 h
      refine lv_bipush (v := (-2)) hx hb dX12_gain_10 (by decide) ?_
      refine lv_goto (tgt := 30) hx hb dX12_gain_12 (by decide) ?_
      cases h
      subst hAe
      exact W.iret hx hb hr (fun t ht _ => ⟨⟨_, (), rfl, rfl, by rw [ht]; exact hP, hD⟩, hS.F ht⟩) hS.2.2 dX12_gain_30

set_option maxHeartbeats 4000000 in
set_option maxRecDepth 100000 in
theorem c_mm_isRest (l : Launch) (D : va_G) (cI cJ cZ : ClassId) (a : Nat → Nat) (mPeople : Int32) (mHours : Int32) (mGrains : Int32) (mKind : Nat → Int32) (mWind : Nat → Int32) (mWeight : Nat → Int32) (mSort : Nat → Int32) (mOwner : Nat → Int32) (mNow : Nat → Int32) (mReadKind : Nat → Int32) (mReadWind : Nat → Int32) (mReadGrain : Nat → Int32) (mReadPeople : Int32) (mReadHours : Int32) (mReadGrains : Int32) (mText : Nat → Int32) (mLength : Int32) (mAt : Int32) (mFaultAt : Int32) (mMoved : Nat → Int32) (mActs : Int32) (mNext : Int32) (mRow : Nat → Int32) (mSeen : Int32) (mSeenKind : Nat → Int32) (mSeenLift : Nat → Int32) (mSeenFlew : Nat → Int32) (mSeed : Int64) (mIsKept : Nat → Int32) (mKept : Nat → Int32)  (sz : Nat) (p1 : Int32) (p2 : Int32) (p3 : Int32) (p4 : Int32) (rv : Int32) (mNow_r : Nat → Int32) (h : mm_isRest mHours mGrains mKind mWind mWeight mSort mOwner mNow p1 p2 p3 p4 = some (rv, mNow_r)) : Met l yX12_isRest wsX12_isRest ({ frames := 5, cells := 0, slots := 0, locals := 116 } : Room) (wPc D cI cJ cZ (mW a cI cZ mPeople mHours mGrains mKind mWind mWeight mSort mOwner mNow mReadKind mReadWind mReadGrain mReadPeople mReadHours mReadGrains mText mLength mAt mFaultAt mMoved mActs mNext mRow mSeen mSeenKind mSeenLift mSeenFlew mSeed mIsKept mKept) sz [.ref (a 0), .int p1, .int p2, .int p3, .int p4]) (wQi D (mW a cI cZ mPeople mHours mGrains mKind mWind mWeight mSort mOwner mNow mReadKind mReadWind mReadGrain mReadPeople mReadHours mReadGrains mText mLength mAt mFaultAt mMoved mActs mNext mRow mSeen mSeenKind mSeenLift mSeenFlew mSeed mIsKept mKept) (mW a cI cZ mPeople mHours mGrains mKind mWind mWeight mSort mOwner mNow_r mReadKind mReadWind mReadGrain mReadPeople mReadHours mReadGrains mText mLength mAt mFaultAt mMoved mActs mNext mRow mSeen mSeenKind mSeenLift mSeenFlew mSeed mIsKept mKept) sz rv) 0 0 (va_A (mW a cI cZ mPeople mHours mGrains mKind mWind mWeight mSort mOwner mNow mReadKind mReadWind mReadGrain mReadPeople mReadHours mReadGrains mText mLength mAt mFaultAt mMoved mActs mNext mRow mSeen mSeenKind mSeenLift mSeenFlew mSeed mIsKept mKept) sz) := by
  unfold mm_isRest at h
  refine Met.ofW (cc := cX12_isRest) (maxL := 5) (ret := (some .boolean)) (by decide) rfl ?_
  intro p e s m args below meth c s₁ B hml hv
  obtain ⟨rfl, hsz, hP, hK, hD0⟩ := hv
  have hx := B.exec
  have hb := B.bytes
  have hr := B.returns
  have hts := atoms_spec (ws := wsX12_isRest) B.pre
  have hown : s.vm.findClass RX12 = some m.cls := findClass_of_methodNamed B.named
  have hlocks := B.notSynchronized
  subst hsz
  have hD := hD0.self (sz := s.heap.size)
  have hA : ∀ q : Nat, s.heap.size ≤ q → va_A (mW a cI cZ mPeople mHours mGrains mKind mWind mWeight mSort mOwner mNow mReadKind mReadWind mReadGrain mReadPeople mReadHours mReadGrains mText mLength mAt mFaultAt mMoved mActs mNext mRow mSeen mSeenKind mSeenLift mSeenFlew mSeed mIsKept mKept) s.heap.size q := fun q h => Or.inr h
  have hS : va_S (va_A (mW a cI cZ mPeople mHours mGrains mKind mWind mWeight mSort mOwner mNow mReadKind mReadWind mReadGrain mReadPeople mReadHours mReadGrains mText mLength mAt mFaultAt mMoved mActs mNext mRow mSeen mSeenKind mSeenLift mSeenFlew mSeed mIsKept mKept) s.heap.size) s.heap s.heap [] := va_S.rf
  obtain ⟨A, hAe⟩ : ∃ A, A = va_A (mW a cI cZ mPeople mHours mGrains mKind mWind mWeight mSort mOwner mNow mReadKind mReadWind mReadGrain mReadPeople mReadHours mReadGrains mText mLength mAt mFaultAt mMoved mActs mNext mRow mSeen mSeenKind mSeenLift mSeenFlew mSeed mIsKept mKept) s.heap.size := ⟨_, rfl⟩
  rw [← hAe] at hD hA hS
  have hl := lv_entry ([.ref (a 0), .int p1, .int p2, .int p3, .int p4]) (n := 5) (Nat.le_of_ble_eq_true rfl)
  rw [lg_entry_eq]
  generalize (lg_sl ([.ref (a 0), .int p1, .int p2, .int p3, .int p4]) ++ List.replicate (5 - (lg_sl ([.ref (a 0), .int p1, .int p2, .int p3, .int p4])).length) Slot.unset).toArray = ls at hl ⊢
  have hl : lv_has ls 5 [(0, .ref (a 0)), (1, .int p1), (2, .int p2), (3, .int p3), (4, .int p4)] := hl
  refine lv_aload_n hx hb dX12_isRest_0 rfl (lv_at hl 0 rfl) ?_
  refine lv_iload_n hx hb dX12_isRest_1 rfl (lv_at hl 1 rfl) ?_
  refine lv_iconst (v := 1) hx hb dX12_isRest_2 (by decide) ?_
  refine lv_iload_n hx hb dX12_isRest_3 rfl (lv_at hl 3 rfl) ?_
  refine lv_isub hx hb dX12_isRest_4 ?_
  refine lv_iload hx hb dX12_isRest_5 (lv_at hl 4 rfl) ?_
  obtain ⟨q1, hq1, h⟩ := bS h
  refine wcI (va_runV (As := [.int p1, .int (1 - p3), .int p4]) (rest := []) ⟨hx, hb, hml, hown, hts⟩ (c_mm_gain l D cI cJ cZ a mPeople mHours mGrains mKind mWind mWeight mSort mOwner mNow mReadKind mReadWind mReadGrain mReadPeople mReadHours mReadGrains mText mLength mAt mFaultAt mMoved mActs mNext mRow mSeen mSeenKind mSeenLift mSeenFlew mSeed mIsKept mKept s.heap.size p1 (1 - p3) p4 q1.1 q1.2 hq1) (cwV 3 hts gX12_isRest_X12_gain rfl rfl rfl (by decide +kernel) ⟨Nat.le_of_ble_eq_true rfl, Nat.le_of_ble_eq_true rfl⟩) (wPreV hK hP hD (ci := 5) (q0 := 0) rfl rfl) rfl rfl hl.1 rfl (lv_room (Nat.le_of_ble_eq_true rfl)) dX12_isRest_7 ⟨Nat.zero_le _, Nat.zero_le _⟩) hD hS hA (fun H locs hP hD hS => ?_)
  have hP : va_P D vwCl (mW a cI cZ mPeople mHours mGrains mKind mWind mWeight mSort mOwner q1.2 mReadKind mReadWind mReadGrain mReadPeople mReadHours mReadGrains mText mLength mAt mFaultAt mMoved mActs mNext mRow mSeen mSeenKind mSeenLift mSeenFlew mSeed mIsKept mKept) H := hP
  have hD : va_D A (mW a cI cZ mPeople mHours mGrains mKind mWind mWeight mSort mOwner q1.2 mReadKind mReadWind mReadGrain mReadPeople mReadHours mReadGrains mText mLength mAt mFaultAt mMoved mActs mNext mRow mSeen mSeenKind mSeenLift mSeenFlew mSeed mIsKept mKept) := hD
  refine lv_aload_n hx hb dX12_isRest_10 rfl (lv_at hl 0 rfl) ?_
  refine lv_iload_n hx hb dX12_isRest_11 rfl (lv_at hl 1 rfl) ?_
  refine lv_iload_n hx hb dX12_isRest_12 rfl (lv_at hl 3 rfl) ?_
  refine lv_iload hx hb dX12_isRest_13 (lv_at hl 4 rfl) ?_
  obtain ⟨q2, hq2, h⟩ := bS h
  refine wcI (va_runV (As := [.int p1, .int p3, .int p4]) (rest := [.int q1.1]) ⟨hx, hb, hml, hown, hts⟩ (c_mm_gain l D cI cJ cZ a mPeople mHours mGrains mKind mWind mWeight mSort mOwner q1.2 mReadKind mReadWind mReadGrain mReadPeople mReadHours mReadGrains mText mLength mAt mFaultAt mMoved mActs mNext mRow mSeen mSeenKind mSeenLift mSeenFlew mSeed mIsKept mKept H.size p1 p3 p4 q2.1 q2.2 hq2) (cwV 3 hts gX12_isRest_X12_gain rfl rfl rfl (by decide +kernel) ⟨Nat.le_of_ble_eq_true rfl, Nat.le_of_ble_eq_true rfl⟩) (wPreV hK hP hD (ci := 5) (q0 := 0) rfl rfl) rfl rfl hl.1 rfl (lv_room (Nat.le_of_ble_eq_true rfl)) dX12_isRest_15 ⟨Nat.zero_le _, Nat.zero_le _⟩) hD hS hA (fun H locs hP hD hS => ?_)
  have hP : va_P D vwCl (mW a cI cZ mPeople mHours mGrains mKind mWind mWeight mSort mOwner q2.2 mReadKind mReadWind mReadGrain mReadPeople mReadHours mReadGrains mText mLength mAt mFaultAt mMoved mActs mNext mRow mSeen mSeenKind mSeenLift mSeenFlew mSeed mIsKept mKept) H := hP
  have hD : va_D A (mW a cI cZ mPeople mHours mGrains mKind mWind mWeight mSort mOwner q2.2 mReadKind mReadWind mReadGrain mReadPeople mReadHours mReadGrains mText mLength mAt mFaultAt mMoved mActs mNext mRow mSeen mSeenKind mSeenLift mSeenFlew mSeed mIsKept mKept) := hD
  refine lv_icmp_gt (tgt := 46) hx hb dX12_isRest_18 (by decide) (fun c3 => ?_) (fun c3 => ?_)
  · have h := iT c3 h
    refine lv_iconst (v := 0) hx hb dX12_isRest_46 (by decide) ?_
    cases h
    subst hAe
    exact W.zret hx hb hr (by decide) (fun t ht _ => ⟨⟨_, (), rfl, rfl, by rw [ht]; exact hP, hD⟩, hS.F ht⟩) hS.2.2 dX12_isRest_47
  · have h := iF c3 h
    refine lv_aload_n hx hb dX12_isRest_21 rfl (lv_at hl 0 rfl) ?_
    refine lv_iload_n hx hb dX12_isRest_22 rfl (lv_at hl 2 rfl) ?_
    refine lv_iconst (v := 1) hx hb dX12_isRest_23 (by decide) ?_
    refine lv_iload hx hb dX12_isRest_24 (lv_at hl 4 rfl) ?_
    refine lv_isub hx hb dX12_isRest_26 ?_
    refine lv_iload_n hx hb dX12_isRest_27 rfl (lv_at hl 3 rfl) ?_
    obtain ⟨q4, hq4, h⟩ := bS h
    refine wcI (va_runV (As := [.int p2, .int (1 - p4), .int p3]) (rest := []) ⟨hx, hb, hml, hown, hts⟩ (c_mm_gain l D cI cJ cZ a mPeople mHours mGrains mKind mWind mWeight mSort mOwner q2.2 mReadKind mReadWind mReadGrain mReadPeople mReadHours mReadGrains mText mLength mAt mFaultAt mMoved mActs mNext mRow mSeen mSeenKind mSeenLift mSeenFlew mSeed mIsKept mKept H.size p2 (1 - p4) p3 q4.1 q4.2 hq4) (cwV 3 hts gX12_isRest_X12_gain rfl rfl rfl (by decide +kernel) ⟨Nat.le_of_ble_eq_true rfl, Nat.le_of_ble_eq_true rfl⟩) (wPreV hK hP hD (ci := 5) (q0 := 0) rfl rfl) rfl rfl hl.1 rfl (lv_room (Nat.le_of_ble_eq_true rfl)) dX12_isRest_28 ⟨Nat.zero_le _, Nat.zero_le _⟩) hD hS hA (fun H locs hP hD hS => ?_)
    have hP : va_P D vwCl (mW a cI cZ mPeople mHours mGrains mKind mWind mWeight mSort mOwner q4.2 mReadKind mReadWind mReadGrain mReadPeople mReadHours mReadGrains mText mLength mAt mFaultAt mMoved mActs mNext mRow mSeen mSeenKind mSeenLift mSeenFlew mSeed mIsKept mKept) H := hP
    have hD : va_D A (mW a cI cZ mPeople mHours mGrains mKind mWind mWeight mSort mOwner q4.2 mReadKind mReadWind mReadGrain mReadPeople mReadHours mReadGrains mText mLength mAt mFaultAt mMoved mActs mNext mRow mSeen mSeenKind mSeenLift mSeenFlew mSeed mIsKept mKept) := hD
    refine lv_aload_n hx hb dX12_isRest_31 rfl (lv_at hl 0 rfl) ?_
    refine lv_iload_n hx hb dX12_isRest_32 rfl (lv_at hl 2 rfl) ?_
    refine lv_iload hx hb dX12_isRest_33 (lv_at hl 4 rfl) ?_
    refine lv_iload_n hx hb dX12_isRest_35 rfl (lv_at hl 3 rfl) ?_
    obtain ⟨q5, hq5, h⟩ := bS h
    refine wcI (va_runV (As := [.int p2, .int p4, .int p3]) (rest := [.int q4.1]) ⟨hx, hb, hml, hown, hts⟩ (c_mm_gain l D cI cJ cZ a mPeople mHours mGrains mKind mWind mWeight mSort mOwner q4.2 mReadKind mReadWind mReadGrain mReadPeople mReadHours mReadGrains mText mLength mAt mFaultAt mMoved mActs mNext mRow mSeen mSeenKind mSeenLift mSeenFlew mSeed mIsKept mKept H.size p2 p4 p3 q5.1 q5.2 hq5) (cwV 3 hts gX12_isRest_X12_gain rfl rfl rfl (by decide +kernel) ⟨Nat.le_of_ble_eq_true rfl, Nat.le_of_ble_eq_true rfl⟩) (wPreV hK hP hD (ci := 5) (q0 := 0) rfl rfl) rfl rfl hl.1 rfl (lv_room (Nat.le_of_ble_eq_true rfl)) dX12_isRest_36 ⟨Nat.zero_le _, Nat.zero_le _⟩) hD hS hA (fun H locs hP hD hS => ?_)
    have hP : va_P D vwCl (mW a cI cZ mPeople mHours mGrains mKind mWind mWeight mSort mOwner q5.2 mReadKind mReadWind mReadGrain mReadPeople mReadHours mReadGrains mText mLength mAt mFaultAt mMoved mActs mNext mRow mSeen mSeenKind mSeenLift mSeenFlew mSeed mIsKept mKept) H := hP
    have hD : va_D A (mW a cI cZ mPeople mHours mGrains mKind mWind mWeight mSort mOwner q5.2 mReadKind mReadWind mReadGrain mReadPeople mReadHours mReadGrains mText mLength mAt mFaultAt mMoved mActs mNext mRow mSeen mSeenKind mSeenLift mSeenFlew mSeed mIsKept mKept) := hD
    refine lv_icmp_gt (tgt := 46) hx hb dX12_isRest_39 (by decide) (fun c6 => ?_) (fun c6 => ?_)
    · have h := iT c6 h
      refine lv_iconst (v := 0) hx hb dX12_isRest_46 (by decide) ?_
      cases h
      subst hAe
      exact W.zret hx hb hr (by decide) (fun t ht _ => ⟨⟨_, (), rfl, rfl, by rw [ht]; exact hP, hD⟩, hS.F ht⟩) hS.2.2 dX12_isRest_47
    · have h := iF c6 h
      refine lv_iconst (v := 1) hx hb dX12_isRest_42 (by decide) ?_
      refine lv_goto (tgt := 47) hx hb dX12_isRest_43 (by decide) ?_
      cases h
      subst hAe
      exact W.zret hx hb hr (by decide) (fun t ht _ => ⟨⟨_, (), rfl, rfl, by rw [ht]; exact hP, hD⟩, hS.F ht⟩) hS.2.2 dX12_isRest_47

set_option maxHeartbeats 4000000 in
set_option maxRecDepth 100000 in
theorem c_mm_rests (l : Launch) (D : va_G) (cI cJ cZ : ClassId) (a : Nat → Nat) (mPeople : Int32) (mHours : Int32) (mGrains : Int32) (mKind : Nat → Int32) (mWind : Nat → Int32) (mWeight : Nat → Int32) (mSort : Nat → Int32) (mOwner : Nat → Int32) (mNow : Nat → Int32) (mReadKind : Nat → Int32) (mReadWind : Nat → Int32) (mReadGrain : Nat → Int32) (mReadPeople : Int32) (mReadHours : Int32) (mReadGrains : Int32) (mText : Nat → Int32) (mLength : Int32) (mAt : Int32) (mFaultAt : Int32) (mMoved : Nat → Int32) (mActs : Int32) (mNext : Int32) (mRow : Nat → Int32) (mSeen : Int32) (mSeenKind : Nat → Int32) (mSeenLift : Nat → Int32) (mSeenFlew : Nat → Int32) (mSeed : Int64) (mIsKept : Nat → Int32) (mKept : Nat → Int32)  (sz : Nat) (p1 : Int32) (p2 : Int32) (p3 : Int32) (rv : Int32) (mNow_r : Nat → Int32) (h : mm_rests mPeople mHours mGrains mKind mWind mWeight mSort mOwner mNow p1 p2 p3 = some (rv, mNow_r)) : Met l yX12_rests wsX12_rests ({ frames := 6, cells := 0, slots := 0, locals := 140 } : Room) (wPc D cI cJ cZ (mW a cI cZ mPeople mHours mGrains mKind mWind mWeight mSort mOwner mNow mReadKind mReadWind mReadGrain mReadPeople mReadHours mReadGrains mText mLength mAt mFaultAt mMoved mActs mNext mRow mSeen mSeenKind mSeenLift mSeenFlew mSeed mIsKept mKept) sz [.ref (a 0), .int p1, .int p2, .int p3]) (wQi D (mW a cI cZ mPeople mHours mGrains mKind mWind mWeight mSort mOwner mNow mReadKind mReadWind mReadGrain mReadPeople mReadHours mReadGrains mText mLength mAt mFaultAt mMoved mActs mNext mRow mSeen mSeenKind mSeenLift mSeenFlew mSeed mIsKept mKept) (mW a cI cZ mPeople mHours mGrains mKind mWind mWeight mSort mOwner mNow_r mReadKind mReadWind mReadGrain mReadPeople mReadHours mReadGrains mText mLength mAt mFaultAt mMoved mActs mNext mRow mSeen mSeenKind mSeenLift mSeenFlew mSeed mIsKept mKept) sz rv) 0 0 (va_A (mW a cI cZ mPeople mHours mGrains mKind mWind mWeight mSort mOwner mNow mReadKind mReadWind mReadGrain mReadPeople mReadHours mReadGrains mText mLength mAt mFaultAt mMoved mActs mNext mRow mSeen mSeenKind mSeenLift mSeenFlew mSeed mIsKept mKept) sz) := by
  unfold mm_rests at h
  refine Met.ofW (cc := cX12_rests) (maxL := 7) (ret := (some .int)) (by decide) rfl ?_
  intro p e s m args below meth c s₁ B hml hv
  obtain ⟨rfl, hsz, hP, hK, hD0⟩ := hv
  have hx := B.exec
  have hb := B.bytes
  have hr := B.returns
  have hts := atoms_spec (ws := wsX12_rests) B.pre
  have hown : s.vm.findClass RX12 = some m.cls := findClass_of_methodNamed B.named
  have hlocks := B.notSynchronized
  subst hsz
  have hD := hD0.self (sz := s.heap.size)
  have hA : ∀ q : Nat, s.heap.size ≤ q → va_A (mW a cI cZ mPeople mHours mGrains mKind mWind mWeight mSort mOwner mNow mReadKind mReadWind mReadGrain mReadPeople mReadHours mReadGrains mText mLength mAt mFaultAt mMoved mActs mNext mRow mSeen mSeenKind mSeenLift mSeenFlew mSeed mIsKept mKept) s.heap.size q := fun q h => Or.inr h
  have hS : va_S (va_A (mW a cI cZ mPeople mHours mGrains mKind mWind mWeight mSort mOwner mNow mReadKind mReadWind mReadGrain mReadPeople mReadHours mReadGrains mText mLength mAt mFaultAt mMoved mActs mNext mRow mSeen mSeenKind mSeenLift mSeenFlew mSeed mIsKept mKept) s.heap.size) s.heap s.heap [] := va_S.rf
  obtain ⟨A, hAe⟩ : ∃ A, A = va_A (mW a cI cZ mPeople mHours mGrains mKind mWind mWeight mSort mOwner mNow mReadKind mReadWind mReadGrain mReadPeople mReadHours mReadGrains mText mLength mAt mFaultAt mMoved mActs mNext mRow mSeen mSeenKind mSeenLift mSeenFlew mSeed mIsKept mKept) s.heap.size := ⟨_, rfl⟩
  rw [← hAe] at hD hA hS
  have hl := lv_entry ([.ref (a 0), .int p1, .int p2, .int p3]) (n := 7) (Nat.le_of_ble_eq_true rfl)
  rw [lg_entry_eq]
  generalize (lg_sl ([.ref (a 0), .int p1, .int p2, .int p3]) ++ List.replicate (7 - (lg_sl ([.ref (a 0), .int p1, .int p2, .int p3])).length) Slot.unset).toArray = ls at hl ⊢
  have hl : lv_has ls 7 [(0, .ref (a 0)), (1, .int p1), (2, .int p2), (3, .int p3)] := hl
  refine lv_aload_n hx hb dX12_rests_0 rfl (lv_at hl 0 rfl) ?_
  refine lv_iload_n hx hb dX12_rests_1 rfl (lv_at hl 1 rfl) ?_
  obtain ⟨q1, hq1, h⟩ := bS h
  refine rcI (va_runV (As := [.int p1]) (rest := []) ⟨hx, hb, hml, hown, hts⟩ (c_mm_isPerson l D cI cJ cZ a mPeople mHours mGrains mKind mWind mWeight mSort mOwner mNow mReadKind mReadWind mReadGrain mReadPeople mReadHours mReadGrains mText mLength mAt mFaultAt mMoved mActs mNext mRow mSeen mSeenKind mSeenLift mSeenFlew mSeed mIsKept mKept s.heap hP p1 q1 hq1) (cwV 1 hts gX12_rests_X12_isPerson rfl rfl rfl (by decide +kernel) ⟨Nat.le_of_ble_eq_true rfl, Nat.le_of_ble_eq_true rfl⟩) (rPreV hK hP (ci := 5) (q0 := 0) rfl rfl) rfl rfl hl.1 rfl (lv_room (Nat.le_of_ble_eq_true rfl)) dX12_rests_2 ⟨Nat.zero_le _, Nat.zero_le _⟩) ?_
  refine lv_if_eq (tgt := 16) hx hb dX12_rests_5 (by decide) (fun c2 => ?_) (fun c2 => ?_)
  · have h := iT c2 h
    refine lv_iconst (v := (-1)) hx hb dX12_rests_16 (by decide) ?_
    cases h
    subst hAe
    exact W.iret hx hb hr (fun t ht _ => ⟨⟨_, (), rfl, rfl, by rw [ht]; exact hP, hD⟩, hS.F ht⟩) hS.2.2 dX12_rests_17
  · have h := iF c2 h
    refine lv_aload_n hx hb dX12_rests_8 rfl (lv_at hl 0 rfl) ?_
    refine lv_iload_n hx hb dX12_rests_9 rfl (lv_at hl 2 rfl) ?_
    obtain ⟨q3, hq3, h⟩ := bS h
    refine rcI (va_runV (As := [.int p2]) (rest := []) ⟨hx, hb, hml, hown, hts⟩ (c_mm_isPerson l D cI cJ cZ a mPeople mHours mGrains mKind mWind mWeight mSort mOwner mNow mReadKind mReadWind mReadGrain mReadPeople mReadHours mReadGrains mText mLength mAt mFaultAt mMoved mActs mNext mRow mSeen mSeenKind mSeenLift mSeenFlew mSeed mIsKept mKept s.heap hP p2 q3 hq3) (cwV 1 hts gX12_rests_X12_isPerson rfl rfl rfl (by decide +kernel) ⟨Nat.le_of_ble_eq_true rfl, Nat.le_of_ble_eq_true rfl⟩) (rPreV hK hP (ci := 5) (q0 := 0) rfl rfl) rfl rfl hl.1 rfl (lv_room (Nat.le_of_ble_eq_true rfl)) dX12_rests_10 ⟨Nat.zero_le _, Nat.zero_le _⟩) ?_
    refine lv_if_ne (tgt := 18) hx hb dX12_rests_13 (by decide) (fun c4 => ?_) (fun c4 => ?_)
    · have h := iF c4 h
      refine lv_iload_n hx hb dX12_rests_18 rfl (lv_at hl 1 rfl) ?_
      refine lv_iload_n hx hb dX12_rests_19 rfl (lv_at hl 2 rfl) ?_
      refine lv_icmp_eq (tgt := 33) hx hb dX12_rests_20 (by decide) (fun c5 => ?_) (fun c5 => ?_)
      · have h := iT c5 h
        refine lv_bipush (v := (-2)) hx hb dX12_rests_33 (by decide) ?_
        cases h
        subst hAe
        exact W.iret hx hb hr (fun t ht _ => ⟨⟨_, (), rfl, rfl, by rw [ht]; exact hP, hD⟩, hS.F ht⟩) hS.2.2 dX12_rests_35
      · have h := iF c5 h
        refine lv_iload_n hx hb dX12_rests_23 rfl (lv_at hl 3 rfl) ?_
        refine lv_i2l (v := (Int32.toInt64 p3)) hx hb dX12_rests_24 rfl ?_
        refine lv_lconst (v := 0) hx hb dX12_rests_25 (by decide) ?_
        refine lv_lconst (v := 1) hx hb dX12_rests_26 (by decide) ?_
        obtain ⟨q6, hq6, h⟩ := bS h
        refine rcI (va_runS (As := [.long (Int32.toInt64 p3), .long 0, .long 1]) (rest := []) ⟨hx, hb, hml, hown, hts⟩ (c_mm_in l D cI cJ cZ   s.heap (Int32.toInt64 p3) 0 1 q6 hq6) (va_cwS 3 hts gX12_rests_X12_in rfl rfl rfl (by decide +kernel) ⟨Nat.le_of_ble_eq_true rfl, Nat.le_of_ble_eq_true rfl⟩) (rPreS hK) rfl rfl hl.1 rfl (lv_room (Nat.le_of_ble_eq_true rfl)) dX12_rests_27 ⟨Nat.zero_le _, Nat.zero_le _⟩) ?_
        refine lv_if_ne (tgt := 36) hx hb dX12_rests_30 (by decide) (fun c7 => ?_) (fun c7 => ?_)
        · have h := iF c7 h
          refine lv_iconst (v := 0) hx hb dX12_rests_36 (by decide) ?_
          refine lv_istore (lv' := [(4, .int 0), (0, .ref (a 0)), (1, .int p1), (2, .int p2), (3, .int p3)]) hx hb dX12_rests_37 hl (by decide) rfl (fun ls hl => ?_)
          refine lv_bipush (v := (-9)) hx hb dX12_rests_39 (by decide) ?_
          refine lv_istore (lv' := [(5, .int (-9)), (4, .int 0), (0, .ref (a 0)), (1, .int p1), (2, .int p2), (3, .int p3)]) hx hb dX12_rests_41 hl (by decide) rfl (fun ls hl => ?_)
          refine lv_iconst (v := 0) hx hb dX12_rests_43 (by decide) ?_
          refine lv_istore (lv' := [(6, .int 0), (5, .int (-9)), (4, .int 0), (0, .ref (a 0)), (1, .int p1), (2, .int p2), (3, .int p3)]) hx hb dX12_rests_44 hl (by decide) rfl (fun ls hl => ?_)
          have L46 : ∀ (n : Nat) (x6_46 : Int32) (x5_46 : Int32) (x4_46 : Int32) (mNow_46x : (Nat → Int32)) (H : Heap) (locs : List Loc) (ls : Array Slot) (kx : Int32 → Int32 → Int32 → (Nat → Int32) → Option (Int32 × (Nat → Int32))), mm_rests_L46 mHours mGrains mKind mWind mWeight mSort mOwner p1 p2 kx n x6_46 x5_46 x4_46 mNow_46x = some (rv, mNow_r) → va_P D vwCl (mW a cI cZ mPeople mHours mGrains mKind mWind mWeight mSort mOwner mNow_46x mReadKind mReadWind mReadGrain mReadPeople mReadHours mReadGrains mText mLength mAt mFaultAt mMoved mActs mNext mRow mSeen mSeenKind mSeenLift mSeenFlew mSeed mIsKept mKept) H → va_D A (mW a cI cZ mPeople mHours mGrains mKind mWind mWeight mSort mOwner mNow_46x mReadKind mReadWind mReadGrain mReadPeople mReadHours mReadGrains mText mLength mAt mFaultAt mMoved mActs mNext mRow mSeen mSeenKind mSeenLift mSeenFlew mSeed mIsKept mKept) → va_S A s.heap H locs → lv_has ls 7 [(6, .int x6_46), (5, .int x5_46), (4, .int x4_46), (0, .ref (a 0)), (1, .int p1), (2, .int p2), (3, .int p3)] → (∀ (y6_46 : Int32) (y5_46 : Int32) (y4_46 : Int32) (mNow_46 : (Nat → Int32)) (H : Heap) (locs : List Loc) (ls : Array Slot), kx y6_46 y5_46 y4_46 mNow_46 = some (rv, mNow_r) → va_P D vwCl (mW a cI cZ mPeople mHours mGrains mKind mWind mWeight mSort mOwner mNow_46 mReadKind mReadWind mReadGrain mReadPeople mReadHours mReadGrains mText mLength mAt mFaultAt mMoved mActs mNext mRow mSeen mSeenKind mSeenLift mSeenFlew mSeed mIsKept mKept) H → va_D A (mW a cI cZ mPeople mHours mGrains mKind mWind mWeight mSort mOwner mNow_46 mReadKind mReadWind mReadGrain mReadPeople mReadHours mReadGrains mText mLength mAt mFaultAt mMoved mActs mNext mRow mSeen mSeenKind mSeenLift mSeenFlew mSeed mIsKept mKept) → va_S A s.heap H locs → lv_has ls 7 [(6, .int y6_46), (5, .int y5_46), (4, .int y4_46), (0, .ref (a 0)), (1, .int p1), (2, .int p2), (3, .int p3)] → W p l e (headSpec wsX12_rests ({ frames := 6, cells := 0, slots := 0, locals := 140 } : Room)).room s m ([.ref (a 0), .int p1, .int p2, .int p3] : List Value).toArray below meth c H locs 0 0 (MQ below (wQi D (mW a cI cZ mPeople mHours mGrains mKind mWind mWeight mSort mOwner mNow mReadKind mReadWind mReadGrain mReadPeople mReadHours mReadGrains mText mLength mAt mFaultAt mMoved mActs mNext mRow mSeen mSeenKind mSeenLift mSeenFlew mSeed mIsKept mKept) (mW a cI cZ mPeople mHours mGrains mKind mWind mWeight mSort mOwner mNow_r mReadKind mReadWind mReadGrain mReadPeople mReadHours mReadGrains mText mLength mAt mFaultAt mMoved mActs mNext mRow mSeen mSeenKind mSeenLift mSeenFlew mSeed mIsKept mKept) s.heap.size rv) ([.ref (a 0), .int p1, .int p2, .int p3] : List Value).toArray s 0 0 (va_A (mW a cI cZ mPeople mHours mGrains mKind mWind mWeight mSort mOwner mNow mReadKind mReadWind mReadGrain mReadPeople mReadHours mReadGrains mText mLength mAt mFaultAt mMoved mActs mNext mRow mSeen mSeenKind mSeenLift mSeenFlew mSeed mIsKept mKept) s.heap.size)) (F0 m 102 ls [])) → W p l e (headSpec wsX12_rests ({ frames := 6, cells := 0, slots := 0, locals := 140 } : Room)).room s m ([.ref (a 0), .int p1, .int p2, .int p3] : List Value).toArray below meth c H locs 0 0 (MQ below (wQi D (mW a cI cZ mPeople mHours mGrains mKind mWind mWeight mSort mOwner mNow mReadKind mReadWind mReadGrain mReadPeople mReadHours mReadGrains mText mLength mAt mFaultAt mMoved mActs mNext mRow mSeen mSeenKind mSeenLift mSeenFlew mSeed mIsKept mKept) (mW a cI cZ mPeople mHours mGrains mKind mWind mWeight mSort mOwner mNow_r mReadKind mReadWind mReadGrain mReadPeople mReadHours mReadGrains mText mLength mAt mFaultAt mMoved mActs mNext mRow mSeen mSeenKind mSeenLift mSeenFlew mSeed mIsKept mKept) s.heap.size rv) ([.ref (a 0), .int p1, .int p2, .int p3] : List Value).toArray s 0 0 (va_A (mW a cI cZ mPeople mHours mGrains mKind mWind mWeight mSort mOwner mNow mReadKind mReadWind mReadGrain mReadPeople mReadHours mReadGrains mText mLength mAt mFaultAt mMoved mActs mNext mRow mSeen mSeenKind mSeenLift mSeenFlew mSeed mIsKept mKept) s.heap.size)) (F0 m 46 ls []) := by
            intro n
            induction n with
            | zero => intro _ _ _ _ _ _ _ _ h; rw [mm_rests_L46.eq_1] at h; cases h
            | succ n ih =>
              intro x6_46 x5_46 x4_46 mNow_46x H locs ls kx h hP hD hS hl hk
              rw [mm_rests_L46.eq_2] at h
              refine lv_iload hx hb dX12_rests_46 (lv_at hl 0 rfl) ?_
              refine lv_iconst (v := 4) hx hb dX12_rests_48 (by decide) ?_
              refine lv_icmp_ge (tgt := 102) hx hb dX12_rests_49 (by decide) (fun c8 => ?_) (fun c8 => ?_)
              · have h := iT c8 h
                exact hk _ _ _ _ _ _ _ h hP hD hS (lv_sub hl [0, 1, 2, 3, 4, 5, 6] rfl)
              · have h := iF c8 h
                refine lv_aload_n hx hb dX12_rests_52 rfl (lv_at hl 3 rfl) ?_
                refine lv_iload_n hx hb dX12_rests_53 rfl (lv_at hl 4 rfl) ?_
                refine lv_iload_n hx hb dX12_rests_54 rfl (lv_at hl 5 rfl) ?_
                refine lv_iload hx hb dX12_rests_55 (lv_at hl 0 rfl) ?_
                refine lv_iconst (v := 2) hx hb dX12_rests_57 (by decide) ?_
                refine lv_idiv hx hb dX12_rests_58 (by decide) ?_
                refine lv_iload hx hb dX12_rests_59 (lv_at hl 0 rfl) ?_
                refine lv_iconst (v := 2) hx hb dX12_rests_61 (by decide) ?_
                refine lv_irem hx hb dX12_rests_62 (by decide) ?_
                obtain ⟨q9, hq9, h⟩ := bS h
                refine wcI (va_runV (As := [.int p1, .int p2, .int (x6_46 / 2), .int (x6_46 - x6_46 / 2 * 2)]) (rest := []) ⟨hx, hb, hml, hown, hts⟩ (c_mm_isRest l D cI cJ cZ a mPeople mHours mGrains mKind mWind mWeight mSort mOwner mNow_46x mReadKind mReadWind mReadGrain mReadPeople mReadHours mReadGrains mText mLength mAt mFaultAt mMoved mActs mNext mRow mSeen mSeenKind mSeenLift mSeenFlew mSeed mIsKept mKept H.size p1 p2 (x6_46 / 2) (x6_46 - x6_46 / 2 * 2) q9.1 q9.2 hq9) (cwV 4 hts gX12_rests_X12_isRest rfl rfl rfl (by decide +kernel) ⟨Nat.le_of_ble_eq_true rfl, Nat.le_of_ble_eq_true rfl⟩) (wPreV hK hP hD (ci := 5) (q0 := 0) rfl rfl) rfl rfl hl.1 rfl (lv_room (Nat.le_of_ble_eq_true rfl)) dX12_rests_63 ⟨Nat.zero_le _, Nat.zero_le _⟩) hD hS hA (fun H locs hP hD hS => ?_)
                have hP : va_P D vwCl (mW a cI cZ mPeople mHours mGrains mKind mWind mWeight mSort mOwner q9.2 mReadKind mReadWind mReadGrain mReadPeople mReadHours mReadGrains mText mLength mAt mFaultAt mMoved mActs mNext mRow mSeen mSeenKind mSeenLift mSeenFlew mSeed mIsKept mKept) H := hP
                have hD : va_D A (mW a cI cZ mPeople mHours mGrains mKind mWind mWeight mSort mOwner q9.2 mReadKind mReadWind mReadGrain mReadPeople mReadHours mReadGrains mText mLength mAt mFaultAt mMoved mActs mNext mRow mSeen mSeenKind mSeenLift mSeenFlew mSeed mIsKept mKept) := hD
                refine lv_if_eq (tgt := 96) hx hb dX12_rests_66 (by decide) (fun c10 => ?_) (fun c10 => ?_)
                · have h := iT c10 h
                  refine lv_iinc (v := (x6_46 + 1)) (lv' := [(6, .int (x6_46 + 1)), (5, .int x5_46), (4, .int x4_46), (0, .ref (a 0)), (1, .int p1), (2, .int p2), (3, .int p3)]) hx hb dX12_rests_96 hl (k := 0) rfl rfl (by decide) rfl (fun ls hl => ?_)
                  refine lv_goto (tgt := 46) hx hb dX12_rests_99 (by decide) ?_
                  exact ih _ _ _ _ _ _ _ _ h hP hD hS (lv_sub hl [0, 1, 2, 3, 4, 5, 6] rfl) hk
                · have h := iF c10 h
                  refine lv_iload hx hb dX12_rests_69 (lv_at hl 2 rfl) ?_
                  refine lv_if_ne (tgt := 89) hx hb dX12_rests_71 (by decide) (fun c11 => ?_) (fun c11 => ?_)
                  · have h := iF c11 h
                    refine lv_iload hx hb dX12_rests_89 (lv_at hl 1 rfl) ?_
                    refine lv_istore (lv' := [(5, .int x5_46), (6, .int x6_46), (4, .int x4_46), (0, .ref (a 0)), (1, .int p1), (2, .int p2), (3, .int p3)]) hx hb dX12_rests_91 hl (by decide) rfl (fun ls hl => ?_)
                    refine lv_iinc (v := (x4_46 + 1)) (lv' := [(4, .int (x4_46 + 1)), (5, .int x5_46), (6, .int x6_46), (0, .ref (a 0)), (1, .int p1), (2, .int p2), (3, .int p3)]) hx hb dX12_rests_93 hl (k := 2) rfl rfl (by decide) rfl (fun ls hl => ?_)
                    refine lv_iinc (v := (x6_46 + 1)) (lv' := [(6, .int (x6_46 + 1)), (4, .int (x4_46 + 1)), (5, .int x5_46), (0, .ref (a 0)), (1, .int p1), (2, .int p2), (3, .int p3)]) hx hb dX12_rests_96 hl (k := 2) rfl rfl (by decide) rfl (fun ls hl => ?_)
                    refine lv_goto (tgt := 46) hx hb dX12_rests_99 (by decide) ?_
                    exact ih _ _ _ _ _ _ _ _ h hP hD hS (lv_sub hl [0, 2, 1, 3, 4, 5, 6] rfl) hk
                  · have h := iT c11 h
                    refine lv_bipush (v := 10) hx hb dX12_rests_74 (by decide) ?_
                    refine lv_iload hx hb dX12_rests_76 (lv_at hl 0 rfl) ?_
                    refine lv_iconst (v := 2) hx hb dX12_rests_78 (by decide) ?_
                    refine lv_idiv hx hb dX12_rests_79 (by decide) ?_
                    refine lv_imul hx hb dX12_rests_80 ?_
                    refine lv_iload hx hb dX12_rests_81 (lv_at hl 0 rfl) ?_
                    refine lv_iconst (v := 2) hx hb dX12_rests_83 (by decide) ?_
                    refine lv_irem hx hb dX12_rests_84 (by decide) ?_
                    refine lv_iadd hx hb dX12_rests_85 ?_
                    refine lv_goto (tgt := 91) hx hb dX12_rests_86 (by decide) ?_
                    refine lv_istore (lv' := [(5, .int ((10 * (x6_46 / 2)) + (x6_46 - x6_46 / 2 * 2))), (6, .int x6_46), (4, .int x4_46), (0, .ref (a 0)), (1, .int p1), (2, .int p2), (3, .int p3)]) hx hb dX12_rests_91 hl (by decide) rfl (fun ls hl => ?_)
                    refine lv_iinc (v := (x4_46 + 1)) (lv' := [(4, .int (x4_46 + 1)), (5, .int ((10 * (x6_46 / 2)) + (x6_46 - x6_46 / 2 * 2))), (6, .int x6_46), (0, .ref (a 0)), (1, .int p1), (2, .int p2), (3, .int p3)]) hx hb dX12_rests_93 hl (k := 2) rfl rfl (by decide) rfl (fun ls hl => ?_)
                    refine lv_iinc (v := (x6_46 + 1)) (lv' := [(6, .int (x6_46 + 1)), (4, .int (x4_46 + 1)), (5, .int ((10 * (x6_46 / 2)) + (x6_46 - x6_46 / 2 * 2))), (0, .ref (a 0)), (1, .int p1), (2, .int p2), (3, .int p3)]) hx hb dX12_rests_96 hl (k := 2) rfl rfl (by decide) rfl (fun ls hl => ?_)
                    refine lv_goto (tgt := 46) hx hb dX12_rests_99 (by decide) ?_
                    exact ih _ _ _ _ _ _ _ _ h hP hD hS (lv_sub hl [0, 2, 1, 3, 4, 5, 6] rfl) hk
          refine L46 _ _ _ _ _ _ _ _ _ h hP hD hS hl (fun y6_46 y5_46 y4_46 mNow_46 H locs ls h hP hD hS hl => ?_)
          refine lv_iload_n hx hb dX12_rests_102 rfl (lv_at hl 6 rfl) ?_
          refine lv_if_ne (tgt := 111) hx hb dX12_rests_103 (by decide) (fun c8 => ?_) (fun c8 => ?_)
          · have h := iF c8 h
            refine lv_iload hx hb dX12_rests_111 (lv_at hl 1 rfl) ?_
            cases h
            subst hAe
            exact W.iret hx hb hr (fun t ht _ => ⟨⟨_, (), rfl, rfl, by rw [ht]; exact hP, hD⟩, hS.F ht⟩) hS.2.2 dX12_rests_113
          · have h := iT c8 h
            refine lv_iload hx hb dX12_rests_106 (lv_at hl 2 rfl) ?_
            refine lv_goto (tgt := 113) hx hb dX12_rests_108 (by decide) ?_
            cases h
            subst hAe
            exact W.iret hx hb hr (fun t ht _ => ⟨⟨_, (), rfl, rfl, by rw [ht]; exact hP, hD⟩, hS.F ht⟩) hS.2.2 dX12_rests_113
        · have h := iT c7 h
          refine lv_bipush (v := (-2)) hx hb dX12_rests_33 (by decide) ?_
          cases h
          subst hAe
          exact W.iret hx hb hr (fun t ht _ => ⟨⟨_, (), rfl, rfl, by rw [ht]; exact hP, hD⟩, hS.F ht⟩) hS.2.2 dX12_rests_35
    · have h := iT c4 h
      refine lv_iconst (v := (-1)) hx hb dX12_rests_16 (by decide) ?_
      cases h
      subst hAe
      exact W.iret hx hb hr (fun t ht _ => ⟨⟨_, (), rfl, rfl, by rw [ht]; exact hP, hD⟩, hS.F ht⟩) hS.2.2 dX12_rests_17

set_option maxHeartbeats 4000000 in
set_option maxRecDepth 100000 in
theorem c_mm_gust (l : Launch) (D : va_G) (cI cJ cZ : ClassId) (a : Nat → Nat) (mPeople : Int32) (mHours : Int32) (mGrains : Int32) (mKind : Nat → Int32) (mWind : Nat → Int32) (mWeight : Nat → Int32) (mSort : Nat → Int32) (mOwner : Nat → Int32) (mNow : Nat → Int32) (mReadKind : Nat → Int32) (mReadWind : Nat → Int32) (mReadGrain : Nat → Int32) (mReadPeople : Int32) (mReadHours : Int32) (mReadGrains : Int32) (mText : Nat → Int32) (mLength : Int32) (mAt : Int32) (mFaultAt : Int32) (mMoved : Nat → Int32) (mActs : Int32) (mNext : Int32) (mRow : Nat → Int32) (mSeen : Int32) (mSeenKind : Nat → Int32) (mSeenLift : Nat → Int32) (mSeenFlew : Nat → Int32) (mSeed : Int64) (mIsKept : Nat → Int32) (mKept : Nat → Int32)  (sz : Nat) (p1 : Int32) (p2 : Int32) (p3 : Int32) (p4 : Int32) (rv : Int32) (mNow_r : Nat → Int32) (mMoved_r : Nat → Int32) (h : mm_gust mPeople mHours mGrains mKind mWind mWeight mSort mOwner mNow mMoved p1 p2 p3 p4 = some (rv, mNow_r, mMoved_r)) : Met l yX12_gust wsX12_gust ({ frames := 5, cells := 0, slots := 0, locals := 120 } : Room) (wPc D cI cJ cZ (mW a cI cZ mPeople mHours mGrains mKind mWind mWeight mSort mOwner mNow mReadKind mReadWind mReadGrain mReadPeople mReadHours mReadGrains mText mLength mAt mFaultAt mMoved mActs mNext mRow mSeen mSeenKind mSeenLift mSeenFlew mSeed mIsKept mKept) sz [.ref (a 0), .int p1, .int p2, .int p3, .int p4]) (wQi D (mW a cI cZ mPeople mHours mGrains mKind mWind mWeight mSort mOwner mNow mReadKind mReadWind mReadGrain mReadPeople mReadHours mReadGrains mText mLength mAt mFaultAt mMoved mActs mNext mRow mSeen mSeenKind mSeenLift mSeenFlew mSeed mIsKept mKept) (mW a cI cZ mPeople mHours mGrains mKind mWind mWeight mSort mOwner mNow_r mReadKind mReadWind mReadGrain mReadPeople mReadHours mReadGrains mText mLength mAt mFaultAt mMoved_r mActs mNext mRow mSeen mSeenKind mSeenLift mSeenFlew mSeed mIsKept mKept) sz rv) 0 0 (va_A (mW a cI cZ mPeople mHours mGrains mKind mWind mWeight mSort mOwner mNow mReadKind mReadWind mReadGrain mReadPeople mReadHours mReadGrains mText mLength mAt mFaultAt mMoved mActs mNext mRow mSeen mSeenKind mSeenLift mSeenFlew mSeed mIsKept mKept) sz) := by
  unfold mm_gust at h
  refine Met.ofW (cc := cX12_gust) (maxL := 10) (ret := (some .int)) (by decide) rfl ?_
  intro p e s m args below meth c s₁ B hml hv
  obtain ⟨rfl, hsz, hP, hK, hD0⟩ := hv
  have hx := B.exec
  have hb := B.bytes
  have hr := B.returns
  have hts := atoms_spec (ws := wsX12_gust) B.pre
  have hown : s.vm.findClass RX12 = some m.cls := findClass_of_methodNamed B.named
  have hlocks := B.notSynchronized
  subst hsz
  have hD := hD0.self (sz := s.heap.size)
  have hA : ∀ q : Nat, s.heap.size ≤ q → va_A (mW a cI cZ mPeople mHours mGrains mKind mWind mWeight mSort mOwner mNow mReadKind mReadWind mReadGrain mReadPeople mReadHours mReadGrains mText mLength mAt mFaultAt mMoved mActs mNext mRow mSeen mSeenKind mSeenLift mSeenFlew mSeed mIsKept mKept) s.heap.size q := fun q h => Or.inr h
  have hS : va_S (va_A (mW a cI cZ mPeople mHours mGrains mKind mWind mWeight mSort mOwner mNow mReadKind mReadWind mReadGrain mReadPeople mReadHours mReadGrains mText mLength mAt mFaultAt mMoved mActs mNext mRow mSeen mSeenKind mSeenLift mSeenFlew mSeed mIsKept mKept) s.heap.size) s.heap s.heap [] := va_S.rf
  obtain ⟨A, hAe⟩ : ∃ A, A = va_A (mW a cI cZ mPeople mHours mGrains mKind mWind mWeight mSort mOwner mNow mReadKind mReadWind mReadGrain mReadPeople mReadHours mReadGrains mText mLength mAt mFaultAt mMoved mActs mNext mRow mSeen mSeenKind mSeenLift mSeenFlew mSeed mIsKept mKept) s.heap.size := ⟨_, rfl⟩
  rw [← hAe] at hD hA hS
  have hl := lv_entry ([.ref (a 0), .int p1, .int p2, .int p3, .int p4]) (n := 10) (Nat.le_of_ble_eq_true rfl)
  rw [lg_entry_eq]
  generalize (lg_sl ([.ref (a 0), .int p1, .int p2, .int p3, .int p4]) ++ List.replicate (10 - (lg_sl ([.ref (a 0), .int p1, .int p2, .int p3, .int p4])).length) Slot.unset).toArray = ls at hl ⊢
  have hl : lv_has ls 10 [(0, .ref (a 0)), (1, .int p1), (2, .int p2), (3, .int p3), (4, .int p4)] := hl
  have hiX12 : ∀ w ∈ u_ws RX12 TX12 30, w ∈ wsX12_gust := fun w hw => List.mem_cons_of_mem _ (List.mem_append_right _ hw)
  refine lv_aload_n hx hb dX12_gust_0 rfl (lv_at hl 0 rfl) ?_
  refine lv_iload_n hx hb dX12_gust_1 rfl (lv_at hl 1 rfl) ?_
  obtain ⟨q1, hq1, h⟩ := bS h
  refine rcI (va_runV (As := [.int p1]) (rest := []) ⟨hx, hb, hml, hown, hts⟩ (c_mm_isGrain l D cI cJ cZ a mPeople mHours mGrains mKind mWind mWeight mSort mOwner mNow mReadKind mReadWind mReadGrain mReadPeople mReadHours mReadGrains mText mLength mAt mFaultAt mMoved mActs mNext mRow mSeen mSeenKind mSeenLift mSeenFlew mSeed mIsKept mKept s.heap hP p1 q1 hq1) (cwV 1 hts gX12_gust_X12_isGrain rfl rfl rfl (by decide +kernel) ⟨Nat.le_of_ble_eq_true rfl, Nat.le_of_ble_eq_true rfl⟩) (rPreV hK hP (ci := 5) (q0 := 0) rfl rfl) rfl rfl hl.1 rfl (lv_room (Nat.le_of_ble_eq_true rfl)) dX12_gust_2 ⟨Nat.zero_le _, Nat.zero_le _⟩) ?_
  refine lv_if_ne (tgt := 10) hx hb dX12_gust_5 (by decide) (fun c2 => ?_) (fun c2 => ?_)
  · have h := iF c2 h
    refine lv_iload_n hx hb dX12_gust_10 rfl (lv_at hl 2 rfl) ?_
    refine lv_i2l (v := (Int32.toInt64 p2)) hx hb dX12_gust_11 rfl ?_
    refine lv_lconst (v := 1) hx hb dX12_gust_12 (by decide) ?_
    refine lv_ldc2 (own := RX12) (v := 5) hx hb hown (hts (.constantLong RX12 205 (5)) (by decide +kernel)) dX12_gust_13 ?_
    obtain ⟨q3, hq3, h⟩ := bS h
    refine rcI (va_runS (As := [.long (Int32.toInt64 p2), .long 1, .long 5]) (rest := []) ⟨hx, hb, hml, hown, hts⟩ (c_mm_in l D cI cJ cZ   s.heap (Int32.toInt64 p2) 1 5 q3 hq3) (va_cwS 3 hts gX12_gust_X12_in rfl rfl rfl (by decide +kernel) ⟨Nat.le_of_ble_eq_true rfl, Nat.le_of_ble_eq_true rfl⟩) (rPreS hK) rfl rfl hl.1 rfl (lv_room (Nat.le_of_ble_eq_true rfl)) dX12_gust_16 ⟨Nat.zero_le _, Nat.zero_le _⟩) ?_
    refine lv_if_eq (tgt := 34) hx hb dX12_gust_19 (by decide) (fun c4 => ?_) (fun c4 => ?_)
    · have h := iT c4 h
      refine lv_bipush (v := (-2)) hx hb dX12_gust_34 (by decide) ?_
      cases h
      subst hAe
      exact W.iret hx hb hr (fun t ht _ => ⟨⟨_, (), rfl, rfl, by rw [ht]; exact hP, hD⟩, hS.F ht⟩) hS.2.2 dX12_gust_36
    · have h := iF c4 h
      refine lv_iload_n hx hb dX12_gust_22 rfl (lv_at hl 3 rfl) ?_
      refine lv_i2l (v := (Int32.toInt64 p3)) hx hb dX12_gust_23 rfl ?_
      refine lv_lconst (v := 0) hx hb dX12_gust_24 (by decide) ?_
      refine lv_ldc2 (own := RX12) (v := 10) hx hb hown (hts (.constantLong RX12 230 (10)) (by decide +kernel)) dX12_gust_25 ?_
      obtain ⟨q5, hq5, h⟩ := bS h
      refine rcI (va_runS (As := [.long (Int32.toInt64 p3), .long 0, .long 10]) (rest := []) ⟨hx, hb, hml, hown, hts⟩ (c_mm_in l D cI cJ cZ   s.heap (Int32.toInt64 p3) 0 10 q5 hq5) (va_cwS 3 hts gX12_gust_X12_in rfl rfl rfl (by decide +kernel) ⟨Nat.le_of_ble_eq_true rfl, Nat.le_of_ble_eq_true rfl⟩) (rPreS hK) rfl rfl hl.1 rfl (lv_room (Nat.le_of_ble_eq_true rfl)) dX12_gust_28 ⟨Nat.zero_le _, Nat.zero_le _⟩) ?_
      refine lv_if_ne (tgt := 37) hx hb dX12_gust_31 (by decide) (fun c6 => ?_) (fun c6 => ?_)
      · have h := iF c6 h
        refine lv_iconst (v := 0) hx hb dX12_gust_37 (by decide) ?_
        refine lv_istore (lv' := [(5, .int 0), (0, .ref (a 0)), (1, .int p1), (2, .int p2), (3, .int p3), (4, .int p4)]) hx hb dX12_gust_38 hl (by decide) rfl (fun ls hl => ?_)
        refine lv_iconst (v := 0) hx hb dX12_gust_40 (by decide) ?_
        refine lv_istore (lv' := [(6, .int 0), (5, .int 0), (0, .ref (a 0)), (1, .int p1), (2, .int p2), (3, .int p3), (4, .int p4)]) hx hb dX12_gust_41 hl (by decide) rfl (fun ls hl => ?_)
        refine lv_iconst (v := 0) hx hb dX12_gust_43 (by decide) ?_
        refine lv_istore (lv' := [(7, .int 0), (6, .int 0), (5, .int 0), (0, .ref (a 0)), (1, .int p1), (2, .int p2), (3, .int p3), (4, .int p4)]) hx hb dX12_gust_44 hl (by decide) rfl (fun ls hl => ?_)
        have L46 : ∀ (n : Nat) (x7_46 : Int32) (x6_46 : Int32) (x5_46 : Int32) (mNow_46x : (Nat → Int32)) (mMoved_46x : (Nat → Int32)) (H : Heap) (locs : List Loc) (ls : Array Slot) (kx : Int32 → Int32 → Int32 → (Nat → Int32) → (Nat → Int32) → Option (Int32 × (Nat → Int32) × (Nat → Int32))), mm_gust_L46 mPeople mHours mGrains mKind mWind mWeight mSort mOwner p1 p2 p3 kx n x7_46 x6_46 x5_46 mNow_46x mMoved_46x = some (rv, mNow_r, mMoved_r) → va_P D vwCl (mW a cI cZ mPeople mHours mGrains mKind mWind mWeight mSort mOwner mNow_46x mReadKind mReadWind mReadGrain mReadPeople mReadHours mReadGrains mText mLength mAt mFaultAt mMoved_46x mActs mNext mRow mSeen mSeenKind mSeenLift mSeenFlew mSeed mIsKept mKept) H → va_D A (mW a cI cZ mPeople mHours mGrains mKind mWind mWeight mSort mOwner mNow_46x mReadKind mReadWind mReadGrain mReadPeople mReadHours mReadGrains mText mLength mAt mFaultAt mMoved_46x mActs mNext mRow mSeen mSeenKind mSeenLift mSeenFlew mSeed mIsKept mKept) → va_S A s.heap H locs → lv_has ls 10 [(7, .int x7_46), (6, .int x6_46), (5, .int x5_46), (0, .ref (a 0)), (1, .int p1), (2, .int p2), (3, .int p3), (4, .int p4)] → (∀ (y7_46 : Int32) (y6_46 : Int32) (y5_46 : Int32) (mNow_46 : (Nat → Int32)) (mMoved_46 : (Nat → Int32)) (H : Heap) (locs : List Loc) (ls : Array Slot), kx y7_46 y6_46 y5_46 mNow_46 mMoved_46 = some (rv, mNow_r, mMoved_r) → va_P D vwCl (mW a cI cZ mPeople mHours mGrains mKind mWind mWeight mSort mOwner mNow_46 mReadKind mReadWind mReadGrain mReadPeople mReadHours mReadGrains mText mLength mAt mFaultAt mMoved_46 mActs mNext mRow mSeen mSeenKind mSeenLift mSeenFlew mSeed mIsKept mKept) H → va_D A (mW a cI cZ mPeople mHours mGrains mKind mWind mWeight mSort mOwner mNow_46 mReadKind mReadWind mReadGrain mReadPeople mReadHours mReadGrains mText mLength mAt mFaultAt mMoved_46 mActs mNext mRow mSeen mSeenKind mSeenLift mSeenFlew mSeed mIsKept mKept) → va_S A s.heap H locs → lv_has ls 10 [(7, .int y7_46), (6, .int y6_46), (5, .int y5_46), (0, .ref (a 0)), (1, .int p1), (2, .int p2), (3, .int p3), (4, .int p4)] → W p l e (headSpec wsX12_gust ({ frames := 5, cells := 0, slots := 0, locals := 120 } : Room)).room s m ([.ref (a 0), .int p1, .int p2, .int p3, .int p4] : List Value).toArray below meth c H locs 0 0 (MQ below (wQi D (mW a cI cZ mPeople mHours mGrains mKind mWind mWeight mSort mOwner mNow mReadKind mReadWind mReadGrain mReadPeople mReadHours mReadGrains mText mLength mAt mFaultAt mMoved mActs mNext mRow mSeen mSeenKind mSeenLift mSeenFlew mSeed mIsKept mKept) (mW a cI cZ mPeople mHours mGrains mKind mWind mWeight mSort mOwner mNow_r mReadKind mReadWind mReadGrain mReadPeople mReadHours mReadGrains mText mLength mAt mFaultAt mMoved_r mActs mNext mRow mSeen mSeenKind mSeenLift mSeenFlew mSeed mIsKept mKept) s.heap.size rv) ([.ref (a 0), .int p1, .int p2, .int p3, .int p4] : List Value).toArray s 0 0 (va_A (mW a cI cZ mPeople mHours mGrains mKind mWind mWeight mSort mOwner mNow mReadKind mReadWind mReadGrain mReadPeople mReadHours mReadGrains mText mLength mAt mFaultAt mMoved mActs mNext mRow mSeen mSeenKind mSeenLift mSeenFlew mSeed mIsKept mKept) s.heap.size)) (F0 m 176 ls [])) → W p l e (headSpec wsX12_gust ({ frames := 5, cells := 0, slots := 0, locals := 120 } : Room)).room s m ([.ref (a 0), .int p1, .int p2, .int p3, .int p4] : List Value).toArray below meth c H locs 0 0 (MQ below (wQi D (mW a cI cZ mPeople mHours mGrains mKind mWind mWeight mSort mOwner mNow mReadKind mReadWind mReadGrain mReadPeople mReadHours mReadGrains mText mLength mAt mFaultAt mMoved mActs mNext mRow mSeen mSeenKind mSeenLift mSeenFlew mSeed mIsKept mKept) (mW a cI cZ mPeople mHours mGrains mKind mWind mWeight mSort mOwner mNow_r mReadKind mReadWind mReadGrain mReadPeople mReadHours mReadGrains mText mLength mAt mFaultAt mMoved_r mActs mNext mRow mSeen mSeenKind mSeenLift mSeenFlew mSeed mIsKept mKept) s.heap.size rv) ([.ref (a 0), .int p1, .int p2, .int p3, .int p4] : List Value).toArray s 0 0 (va_A (mW a cI cZ mPeople mHours mGrains mKind mWind mWeight mSort mOwner mNow mReadKind mReadWind mReadGrain mReadPeople mReadHours mReadGrains mText mLength mAt mFaultAt mMoved mActs mNext mRow mSeen mSeenKind mSeenLift mSeenFlew mSeed mIsKept mKept) s.heap.size)) (F0 m 46 ls []) := by
          intro n
          induction n with
          | zero => intro _ _ _ _ _ _ _ _ _ h; rw [mm_gust_L46.eq_1] at h; cases h
          | succ n ih =>
            intro x7_46 x6_46 x5_46 mNow_46x mMoved_46x H locs ls kx h hP hD hS hl hk
            rw [mm_gust_L46.eq_2] at h
            refine lv_iload hx hb dX12_gust_46 (lv_at hl 0 rfl) ?_
            refine lv_iconst (v := 1) hx hb dX12_gust_48 (by decide) ?_
            refine lv_iload_n hx hb dX12_gust_49 rfl (lv_at hl 5 rfl) ?_
            refine lv_ishl hx hb dX12_gust_50 ?_
            refine lv_icmp_ge (tgt := 176) hx hb dX12_gust_51 (by decide) (fun c7 => ?_) (fun c7 => ?_)
            · have h := iT c7 h
              exact hk _ _ _ _ _ _ _ _ h hP hD hS (lv_sub hl [0, 1, 2, 3, 4, 5, 6, 7] rfl)
            · have h := iF c7 h
              refine lv_aload_n hx hb dX12_gust_54 rfl (lv_at hl 3 rfl) ?_
              obtain ⟨q8, hq8, h⟩ := bS h
              refine wcV (va_runV (As := []) (rest := []) ⟨hx, hb, hml, hown, hts⟩ (c_mm_layTrial l D cI cJ cZ a mPeople mHours mGrains mKind mWind mWeight mSort mOwner mNow_46x mReadKind mReadWind mReadGrain mReadPeople mReadHours mReadGrains mText mLength mAt mFaultAt mMoved_46x mActs mNext mRow mSeen mSeenKind mSeenLift mSeenFlew mSeed mIsKept mKept H.size  q8 hq8) (cwV 0 hts gX12_gust_X12_layTrial rfl rfl rfl (by decide +kernel) ⟨Nat.le_of_ble_eq_true rfl, Nat.le_of_ble_eq_true rfl⟩) (wPreV hK hP hD (ci := 5) (q0 := 0) rfl rfl) rfl rfl hl.1 rfl (lv_room (Nat.le_of_ble_eq_true rfl)) dX12_gust_55 ⟨Nat.zero_le _, Nat.zero_le _⟩) hD hS hA (fun H locs hP hD hS => ?_)
              have hP : va_P D vwCl (mW a cI cZ mPeople mHours mGrains mKind mWind mWeight mSort mOwner q8 mReadKind mReadWind mReadGrain mReadPeople mReadHours mReadGrains mText mLength mAt mFaultAt mMoved_46x mActs mNext mRow mSeen mSeenKind mSeenLift mSeenFlew mSeed mIsKept mKept) H := hP
              have hD : va_D A (mW a cI cZ mPeople mHours mGrains mKind mWind mWeight mSort mOwner q8 mReadKind mReadWind mReadGrain mReadPeople mReadHours mReadGrains mText mLength mAt mFaultAt mMoved_46x mActs mNext mRow mSeen mSeenKind mSeenLift mSeenFlew mSeed mIsKept mKept) := hD
              refine lv_iconst (v := 1) hx hb dX12_gust_58 (by decide) ?_
              refine lv_istore (lv' := [(8, .int 1), (7, .int x7_46), (6, .int x6_46), (5, .int x5_46), (0, .ref (a 0)), (1, .int p1), (2, .int p2), (3, .int p3), (4, .int p4)]) hx hb dX12_gust_59 hl (by decide) rfl (fun ls hl => ?_)
              refine lv_iconst (v := 0) hx hb dX12_gust_61 (by decide) ?_
              refine lv_istore (lv' := [(9, .int 0), (8, .int 1), (7, .int x7_46), (6, .int x6_46), (5, .int x5_46), (0, .ref (a 0)), (1, .int p1), (2, .int p2), (3, .int p3), (4, .int p4)]) hx hb dX12_gust_62 hl (by decide) rfl (fun ls hl => ?_)
              have L64 : ∀ (n : Nat) (x9_64 : Int32) (x8_64 : Int32) (mNow_64x : (Nat → Int32)) (mMoved_64x : (Nat → Int32)) (H : Heap) (locs : List Loc) (ls : Array Slot) (kx : Int32 → Int32 → (Nat → Int32) → (Nat → Int32) → Option (Int32 × (Nat → Int32) × (Nat → Int32))), mm_gust_L64 mPeople mHours mGrains mKind mWind mWeight mSort mOwner p1 p2 p3 x7_46 kx n x9_64 x8_64 mNow_64x mMoved_64x = some (rv, mNow_r, mMoved_r) → va_P D vwCl (mW a cI cZ mPeople mHours mGrains mKind mWind mWeight mSort mOwner mNow_64x mReadKind mReadWind mReadGrain mReadPeople mReadHours mReadGrains mText mLength mAt mFaultAt mMoved_64x mActs mNext mRow mSeen mSeenKind mSeenLift mSeenFlew mSeed mIsKept mKept) H → va_D A (mW a cI cZ mPeople mHours mGrains mKind mWind mWeight mSort mOwner mNow_64x mReadKind mReadWind mReadGrain mReadPeople mReadHours mReadGrains mText mLength mAt mFaultAt mMoved_64x mActs mNext mRow mSeen mSeenKind mSeenLift mSeenFlew mSeed mIsKept mKept) → va_S A s.heap H locs → lv_has ls 10 [(9, .int x9_64), (8, .int x8_64), (7, .int x7_46), (6, .int x6_46), (5, .int x5_46), (0, .ref (a 0)), (1, .int p1), (2, .int p2), (3, .int p3), (4, .int p4)] → (∀ (y9_64 : Int32) (y8_64 : Int32) (mNow_64 : (Nat → Int32)) (mMoved_64 : (Nat → Int32)) (H : Heap) (locs : List Loc) (ls : Array Slot), kx y9_64 y8_64 mNow_64 mMoved_64 = some (rv, mNow_r, mMoved_r) → va_P D vwCl (mW a cI cZ mPeople mHours mGrains mKind mWind mWeight mSort mOwner mNow_64 mReadKind mReadWind mReadGrain mReadPeople mReadHours mReadGrains mText mLength mAt mFaultAt mMoved_64 mActs mNext mRow mSeen mSeenKind mSeenLift mSeenFlew mSeed mIsKept mKept) H → va_D A (mW a cI cZ mPeople mHours mGrains mKind mWind mWeight mSort mOwner mNow_64 mReadKind mReadWind mReadGrain mReadPeople mReadHours mReadGrains mText mLength mAt mFaultAt mMoved_64 mActs mNext mRow mSeen mSeenKind mSeenLift mSeenFlew mSeed mIsKept mKept) → va_S A s.heap H locs → lv_has ls 10 [(9, .int y9_64), (8, .int y8_64), (7, .int x7_46), (6, .int x6_46), (5, .int x5_46), (0, .ref (a 0)), (1, .int p1), (2, .int p2), (3, .int p3), (4, .int p4)] → W p l e (headSpec wsX12_gust ({ frames := 5, cells := 0, slots := 0, locals := 120 } : Room)).room s m ([.ref (a 0), .int p1, .int p2, .int p3, .int p4] : List Value).toArray below meth c H locs 0 0 (MQ below (wQi D (mW a cI cZ mPeople mHours mGrains mKind mWind mWeight mSort mOwner mNow mReadKind mReadWind mReadGrain mReadPeople mReadHours mReadGrains mText mLength mAt mFaultAt mMoved mActs mNext mRow mSeen mSeenKind mSeenLift mSeenFlew mSeed mIsKept mKept) (mW a cI cZ mPeople mHours mGrains mKind mWind mWeight mSort mOwner mNow_r mReadKind mReadWind mReadGrain mReadPeople mReadHours mReadGrains mText mLength mAt mFaultAt mMoved_r mActs mNext mRow mSeen mSeenKind mSeenLift mSeenFlew mSeed mIsKept mKept) s.heap.size rv) ([.ref (a 0), .int p1, .int p2, .int p3, .int p4] : List Value).toArray s 0 0 (va_A (mW a cI cZ mPeople mHours mGrains mKind mWind mWeight mSort mOwner mNow mReadKind mReadWind mReadGrain mReadPeople mReadHours mReadGrains mText mLength mAt mFaultAt mMoved mActs mNext mRow mSeen mSeenKind mSeenLift mSeenFlew mSeed mIsKept mKept) s.heap.size)) (F0 m 138 ls [])) → W p l e (headSpec wsX12_gust ({ frames := 5, cells := 0, slots := 0, locals := 120 } : Room)).room s m ([.ref (a 0), .int p1, .int p2, .int p3, .int p4] : List Value).toArray below meth c H locs 0 0 (MQ below (wQi D (mW a cI cZ mPeople mHours mGrains mKind mWind mWeight mSort mOwner mNow mReadKind mReadWind mReadGrain mReadPeople mReadHours mReadGrains mText mLength mAt mFaultAt mMoved mActs mNext mRow mSeen mSeenKind mSeenLift mSeenFlew mSeed mIsKept mKept) (mW a cI cZ mPeople mHours mGrains mKind mWind mWeight mSort mOwner mNow_r mReadKind mReadWind mReadGrain mReadPeople mReadHours mReadGrains mText mLength mAt mFaultAt mMoved_r mActs mNext mRow mSeen mSeenKind mSeenLift mSeenFlew mSeed mIsKept mKept) s.heap.size rv) ([.ref (a 0), .int p1, .int p2, .int p3, .int p4] : List Value).toArray s 0 0 (va_A (mW a cI cZ mPeople mHours mGrains mKind mWind mWeight mSort mOwner mNow mReadKind mReadWind mReadGrain mReadPeople mReadHours mReadGrains mText mLength mAt mFaultAt mMoved mActs mNext mRow mSeen mSeenKind mSeenLift mSeenFlew mSeed mIsKept mKept) s.heap.size)) (F0 m 64 ls []) := by
                intro n
                induction n with
                | zero => intro _ _ _ _ _ _ _ _ h; rw [mm_gust_L64.eq_1] at h; cases h
                | succ n ih =>
                  intro x9_64 x8_64 mNow_64x mMoved_64x H locs ls kx h hP hD hS hl hk
                  rw [mm_gust_L64.eq_2] at h
                  refine lv_iload hx hb dX12_gust_64 (lv_at hl 0 rfl) ?_
                  refine lv_iload_n hx hb dX12_gust_66 rfl (lv_at hl 7 rfl) ?_
                  refine lv_icmp_ge (tgt := 138) hx hb dX12_gust_67 (by decide) (fun c9 => ?_) (fun c9 => ?_)
                  · have h := iT c9 h
                    exact hk _ _ _ _ _ _ _ h hP hD hS (lv_sub hl [0, 1, 2, 3, 4, 5, 6, 7, 8, 9] rfl)
                  · have h := iF c9 h
                    refine lv_iload hx hb dX12_gust_70 (lv_at hl 1 rfl) ?_
                    refine lv_iload hx hb dX12_gust_72 (lv_at hl 2 rfl) ?_
                    refine lv_iload hx hb dX12_gust_74 (lv_at hl 0 rfl) ?_
                    obtain ⟨q10, hq10, h⟩ := bS h
                    refine rcI (va_runS (As := [.int x7_46, .int x9_64]) (rest := [.int x8_64]) ⟨hx, hb, hml, hown, hts⟩ (c_mm_has l D cI cJ cZ   H x7_46 x9_64 q10 hq10) (va_cwS 2 hts gX12_gust_X12_has rfl rfl rfl (by decide +kernel) ⟨Nat.le_of_ble_eq_true rfl, Nat.le_of_ble_eq_true rfl⟩) (rPreS hK) rfl rfl hl.1 rfl (lv_room (Nat.le_of_ble_eq_true rfl)) dX12_gust_76 ⟨Nat.zero_le _, Nat.zero_le _⟩) ?_
                    refine lv_if_eq (tgt := 86) hx hb dX12_gust_79 (by decide) (fun c11 => ?_) (fun c11 => ?_)
                    · have h := iT c11 h
                      refine lv_bipush (v := 10) hx hb dX12_gust_86 (by decide) ?_
                      refine lv_iload_n hx hb dX12_gust_88 rfl (lv_at hl 8 rfl) ?_
                      refine lv_isub hx hb dX12_gust_89 ?_
                      refine lv_imul hx hb dX12_gust_90 ?_
                      refine lv_istore (lv' := [(8, .int (x8_64 * (10 - p3))), (9, .int x9_64), (7, .int x7_46), (6, .int x6_46), (5, .int x5_46), (0, .ref (a 0)), (1, .int p1), (2, .int p2), (3, .int p3), (4, .int p4)]) hx hb dX12_gust_91 hl (by decide) rfl (fun ls hl => ?_)
                      refine lv_aload_n hx hb dX12_gust_93 rfl (lv_at hl 5 rfl) ?_
                      refine lv_iconst (v := 1) hx hb dX12_gust_94 (by decide) ?_
                      refine lv_iload_n hx hb dX12_gust_95 rfl (lv_at hl 6 rfl) ?_
                      obtain ⟨q12, hq12, h⟩ := bS h
                      refine rcI (va_runV (As := [.int 1, .int p1]) (rest := []) ⟨hx, hb, hml, hown, hts⟩ (c_mm_lies l D cI cJ cZ a mPeople mHours mGrains mKind mWind mWeight mSort mOwner mNow_64x mReadKind mReadWind mReadGrain mReadPeople mReadHours mReadGrains mText mLength mAt mFaultAt mMoved_64x mActs mNext mRow mSeen mSeenKind mSeenLift mSeenFlew mSeed mIsKept mKept H hP 1 p1 q12 hq12) (cwV 2 hts gX12_gust_X12_lies rfl rfl rfl (by decide +kernel) ⟨Nat.le_of_ble_eq_true rfl, Nat.le_of_ble_eq_true rfl⟩) (rPreV hK hP (ci := 5) (q0 := 0) rfl rfl) rfl rfl hl.1 rfl (lv_room (Nat.le_of_ble_eq_true rfl)) dX12_gust_96 ⟨Nat.zero_le _, Nat.zero_le _⟩) ?_
                      refine lv_if_eq (tgt := 132) hx hb dX12_gust_99 (by decide) (fun c13 => ?_) (fun c13 => ?_)
                      · have h := iT c13 h
                        refine lv_iinc (v := (x9_64 + 1)) (lv' := [(9, .int (x9_64 + 1)), (8, .int (x8_64 * (10 - p3))), (7, .int x7_46), (6, .int x6_46), (5, .int x5_46), (0, .ref (a 0)), (1, .int p1), (2, .int p2), (3, .int p3), (4, .int p4)]) hx hb dX12_gust_132 hl (k := 1) rfl rfl (by decide) rfl (fun ls hl => ?_)
                        refine lv_goto (tgt := 64) hx hb dX12_gust_135 (by decide) ?_
                        exact ih _ _ _ _ _ _ _ _ h hP hD hS (lv_sub hl [0, 1, 2, 3, 4, 5, 6, 7, 8, 9] rfl) hk
                      · have h := iF c13 h
                        refine lv_aload_n hx hb dX12_gust_102 rfl (lv_at hl 5 rfl) ?_
                        refine lv_iconst (v := 1) hx hb dX12_gust_103 (by decide) ?_
                        refine lv_aload_n hx hb dX12_gust_104 rfl (lv_at hl 5 rfl) ?_
                        refine va_get (D := D) (ci := 5) (v := .ref (a 6)) (C := RX12) (T := TX12) (N := 30) hx hb hts hiX12 hown hK.1 hP 0 rfl rfl 8 (by decide) (hts (.fieldLink RX12 25 "WinnowedGuiltModel" "now" "[I") (by decide +kernel)) (fun _ h9 => h9) rfl dX12_gust_105 ?_
                        refine lv_bipush (v := 9) hx hb dX12_gust_108 (by decide) ?_
                        refine lv_iload_n hx hb dX12_gust_110 rfl (lv_at hl 6 rfl) ?_
                        refine lv_iadd hx hb dX12_gust_111 ?_
                        obtain ⟨hi14, h⟩ := gI_some h
                        refine ldI (v := (mNow_64x (Int32.toNatClampNeg (9 + p1)))) hx hb hK.1 hP 6 rfl rfl hi14 rfl dX12_gust_112 ?_
                        refine lv_iload hx hb dX12_gust_113 (lv_at hl 2 rfl) ?_
                        refine lv_iload hx hb dX12_gust_115 (lv_at hl 1 rfl) ?_
                        obtain ⟨q15, hq15, h⟩ := bS h
                        refine rcI (va_runS (As := [.int x7_46, .int x9_64]) (rest := [.int (mNow_64x (Int32.toNatClampNeg (9 + p1))), .int 1, .ref (a 0)]) ⟨hx, hb, hml, hown, hts⟩ (c_mm_has l D cI cJ cZ   H x7_46 x9_64 q15 hq15) (va_cwS 2 hts gX12_gust_X12_has rfl rfl rfl (by decide +kernel) ⟨Nat.le_of_ble_eq_true rfl, Nat.le_of_ble_eq_true rfl⟩) (rPreS hK) rfl rfl hl.1 rfl (lv_room (Nat.le_of_ble_eq_true rfl)) dX12_gust_117 ⟨Nat.zero_le _, Nat.zero_le _⟩) ?_
                        refine lv_if_eq (tgt := 127) hx hb dX12_gust_120 (by decide) (fun c16 => ?_) (fun c16 => ?_)
                        · have h := iT c16 h
                          refine lv_iconst (v := 0) hx hb dX12_gust_127 (by decide) ?_
                          obtain ⟨q17, hq17, h⟩ := bS h
                          refine wcI (va_runV (As := [.int 1, .int (mNow_64x (Int32.toNatClampNeg (9 + p1))), .int 0]) (rest := []) ⟨hx, hb, hml, hown, hts⟩ (c_mm_tossBy l D cI cJ cZ a mPeople mHours mGrains mKind mWind mWeight mSort mOwner mNow_64x mReadKind mReadWind mReadGrain mReadPeople mReadHours mReadGrains mText mLength mAt mFaultAt mMoved_64x mActs mNext mRow mSeen mSeenKind mSeenLift mSeenFlew mSeed mIsKept mKept H.size 1 (mNow_64x (Int32.toNatClampNeg (9 + p1))) 0 q17.1 q17.2.1 q17.2.2 hq17) (cwV 3 hts gX12_gust_X12_tossBy rfl rfl rfl (by decide +kernel) ⟨Nat.le_of_ble_eq_true rfl, Nat.le_of_ble_eq_true rfl⟩) (wPreV hK hP hD (ci := 5) (q0 := 0) rfl rfl) rfl rfl hl.1 rfl (lv_room (Nat.le_of_ble_eq_true rfl)) dX12_gust_128 ⟨Nat.zero_le _, Nat.zero_le _⟩) hD hS hA (fun H locs hP hD hS => ?_)
                          have hP : va_P D vwCl (mW a cI cZ mPeople mHours mGrains mKind mWind mWeight mSort mOwner q17.2.1 mReadKind mReadWind mReadGrain mReadPeople mReadHours mReadGrains mText mLength mAt mFaultAt q17.2.2 mActs mNext mRow mSeen mSeenKind mSeenLift mSeenFlew mSeed mIsKept mKept) H := hP
                          have hD : va_D A (mW a cI cZ mPeople mHours mGrains mKind mWind mWeight mSort mOwner q17.2.1 mReadKind mReadWind mReadGrain mReadPeople mReadHours mReadGrains mText mLength mAt mFaultAt q17.2.2 mActs mNext mRow mSeen mSeenKind mSeenLift mSeenFlew mSeed mIsKept mKept) := hD
                          refine lv_pop hx hb dX12_gust_131 rfl ?_
                          refine lv_iinc (v := (x9_64 + 1)) (lv' := [(9, .int (x9_64 + 1)), (8, .int (x8_64 * (10 - p3))), (7, .int x7_46), (6, .int x6_46), (5, .int x5_46), (0, .ref (a 0)), (1, .int p1), (2, .int p2), (3, .int p3), (4, .int p4)]) hx hb dX12_gust_132 hl (k := 1) rfl rfl (by decide) rfl (fun ls hl => ?_)
                          refine lv_goto (tgt := 64) hx hb dX12_gust_135 (by decide) ?_
                          exact ih _ _ _ _ _ _ _ _ h hP hD hS (lv_sub hl [0, 1, 2, 3, 4, 5, 6, 7, 8, 9] rfl) hk
                        · have h := iF c16 h
                          refine lv_iconst (v := 3) hx hb dX12_gust_123 (by decide) ?_
                          refine lv_goto (tgt := 128) hx hb dX12_gust_124 (by decide) ?_
                          obtain ⟨q17, hq17, h⟩ := bS h
                          refine wcI (va_runV (As := [.int 1, .int (mNow_64x (Int32.toNatClampNeg (9 + p1))), .int 3]) (rest := []) ⟨hx, hb, hml, hown, hts⟩ (c_mm_tossBy l D cI cJ cZ a mPeople mHours mGrains mKind mWind mWeight mSort mOwner mNow_64x mReadKind mReadWind mReadGrain mReadPeople mReadHours mReadGrains mText mLength mAt mFaultAt mMoved_64x mActs mNext mRow mSeen mSeenKind mSeenLift mSeenFlew mSeed mIsKept mKept H.size 1 (mNow_64x (Int32.toNatClampNeg (9 + p1))) 3 q17.1 q17.2.1 q17.2.2 hq17) (cwV 3 hts gX12_gust_X12_tossBy rfl rfl rfl (by decide +kernel) ⟨Nat.le_of_ble_eq_true rfl, Nat.le_of_ble_eq_true rfl⟩) (wPreV hK hP hD (ci := 5) (q0 := 0) rfl rfl) rfl rfl hl.1 rfl (lv_room (Nat.le_of_ble_eq_true rfl)) dX12_gust_128 ⟨Nat.zero_le _, Nat.zero_le _⟩) hD hS hA (fun H locs hP hD hS => ?_)
                          have hP : va_P D vwCl (mW a cI cZ mPeople mHours mGrains mKind mWind mWeight mSort mOwner q17.2.1 mReadKind mReadWind mReadGrain mReadPeople mReadHours mReadGrains mText mLength mAt mFaultAt q17.2.2 mActs mNext mRow mSeen mSeenKind mSeenLift mSeenFlew mSeed mIsKept mKept) H := hP
                          have hD : va_D A (mW a cI cZ mPeople mHours mGrains mKind mWind mWeight mSort mOwner q17.2.1 mReadKind mReadWind mReadGrain mReadPeople mReadHours mReadGrains mText mLength mAt mFaultAt q17.2.2 mActs mNext mRow mSeen mSeenKind mSeenLift mSeenFlew mSeed mIsKept mKept) := hD
                          refine lv_pop hx hb dX12_gust_131 rfl ?_
                          refine lv_iinc (v := (x9_64 + 1)) (lv' := [(9, .int (x9_64 + 1)), (8, .int (x8_64 * (10 - p3))), (7, .int x7_46), (6, .int x6_46), (5, .int x5_46), (0, .ref (a 0)), (1, .int p1), (2, .int p2), (3, .int p3), (4, .int p4)]) hx hb dX12_gust_132 hl (k := 1) rfl rfl (by decide) rfl (fun ls hl => ?_)
                          refine lv_goto (tgt := 64) hx hb dX12_gust_135 (by decide) ?_
                          exact ih _ _ _ _ _ _ _ _ h hP hD hS (lv_sub hl [0, 1, 2, 3, 4, 5, 6, 7, 8, 9] rfl) hk
                    · have h := iF c11 h
                      refine lv_iload_n hx hb dX12_gust_82 rfl (lv_at hl 8 rfl) ?_
                      refine lv_goto (tgt := 90) hx hb dX12_gust_83 (by decide) ?_
                      refine lv_imul hx hb dX12_gust_90 ?_
                      refine lv_istore (lv' := [(8, .int (x8_64 * p3)), (9, .int x9_64), (7, .int x7_46), (6, .int x6_46), (5, .int x5_46), (0, .ref (a 0)), (1, .int p1), (2, .int p2), (3, .int p3), (4, .int p4)]) hx hb dX12_gust_91 hl (by decide) rfl (fun ls hl => ?_)
                      refine lv_aload_n hx hb dX12_gust_93 rfl (lv_at hl 5 rfl) ?_
                      refine lv_iconst (v := 1) hx hb dX12_gust_94 (by decide) ?_
                      refine lv_iload_n hx hb dX12_gust_95 rfl (lv_at hl 6 rfl) ?_
                      obtain ⟨q12, hq12, h⟩ := bS h
                      refine rcI (va_runV (As := [.int 1, .int p1]) (rest := []) ⟨hx, hb, hml, hown, hts⟩ (c_mm_lies l D cI cJ cZ a mPeople mHours mGrains mKind mWind mWeight mSort mOwner mNow_64x mReadKind mReadWind mReadGrain mReadPeople mReadHours mReadGrains mText mLength mAt mFaultAt mMoved_64x mActs mNext mRow mSeen mSeenKind mSeenLift mSeenFlew mSeed mIsKept mKept H hP 1 p1 q12 hq12) (cwV 2 hts gX12_gust_X12_lies rfl rfl rfl (by decide +kernel) ⟨Nat.le_of_ble_eq_true rfl, Nat.le_of_ble_eq_true rfl⟩) (rPreV hK hP (ci := 5) (q0 := 0) rfl rfl) rfl rfl hl.1 rfl (lv_room (Nat.le_of_ble_eq_true rfl)) dX12_gust_96 ⟨Nat.zero_le _, Nat.zero_le _⟩) ?_
                      refine lv_if_eq (tgt := 132) hx hb dX12_gust_99 (by decide) (fun c13 => ?_) (fun c13 => ?_)
                      · have h := iT c13 h
                        refine lv_iinc (v := (x9_64 + 1)) (lv' := [(9, .int (x9_64 + 1)), (8, .int (x8_64 * p3)), (7, .int x7_46), (6, .int x6_46), (5, .int x5_46), (0, .ref (a 0)), (1, .int p1), (2, .int p2), (3, .int p3), (4, .int p4)]) hx hb dX12_gust_132 hl (k := 1) rfl rfl (by decide) rfl (fun ls hl => ?_)
                        refine lv_goto (tgt := 64) hx hb dX12_gust_135 (by decide) ?_
                        exact ih _ _ _ _ _ _ _ _ h hP hD hS (lv_sub hl [0, 1, 2, 3, 4, 5, 6, 7, 8, 9] rfl) hk
                      · have h := iF c13 h
                        refine lv_aload_n hx hb dX12_gust_102 rfl (lv_at hl 5 rfl) ?_
                        refine lv_iconst (v := 1) hx hb dX12_gust_103 (by decide) ?_
                        refine lv_aload_n hx hb dX12_gust_104 rfl (lv_at hl 5 rfl) ?_
                        refine va_get (D := D) (ci := 5) (v := .ref (a 6)) (C := RX12) (T := TX12) (N := 30) hx hb hts hiX12 hown hK.1 hP 0 rfl rfl 8 (by decide) (hts (.fieldLink RX12 25 "WinnowedGuiltModel" "now" "[I") (by decide +kernel)) (fun _ h9 => h9) rfl dX12_gust_105 ?_
                        refine lv_bipush (v := 9) hx hb dX12_gust_108 (by decide) ?_
                        refine lv_iload_n hx hb dX12_gust_110 rfl (lv_at hl 6 rfl) ?_
                        refine lv_iadd hx hb dX12_gust_111 ?_
                        obtain ⟨hi14, h⟩ := gI_some h
                        refine ldI (v := (mNow_64x (Int32.toNatClampNeg (9 + p1)))) hx hb hK.1 hP 6 rfl rfl hi14 rfl dX12_gust_112 ?_
                        refine lv_iload hx hb dX12_gust_113 (lv_at hl 2 rfl) ?_
                        refine lv_iload hx hb dX12_gust_115 (lv_at hl 1 rfl) ?_
                        obtain ⟨q15, hq15, h⟩ := bS h
                        refine rcI (va_runS (As := [.int x7_46, .int x9_64]) (rest := [.int (mNow_64x (Int32.toNatClampNeg (9 + p1))), .int 1, .ref (a 0)]) ⟨hx, hb, hml, hown, hts⟩ (c_mm_has l D cI cJ cZ   H x7_46 x9_64 q15 hq15) (va_cwS 2 hts gX12_gust_X12_has rfl rfl rfl (by decide +kernel) ⟨Nat.le_of_ble_eq_true rfl, Nat.le_of_ble_eq_true rfl⟩) (rPreS hK) rfl rfl hl.1 rfl (lv_room (Nat.le_of_ble_eq_true rfl)) dX12_gust_117 ⟨Nat.zero_le _, Nat.zero_le _⟩) ?_
                        refine lv_if_eq (tgt := 127) hx hb dX12_gust_120 (by decide) (fun c16 => ?_) (fun c16 => ?_)
                        · have h := iT c16 h
                          refine lv_iconst (v := 0) hx hb dX12_gust_127 (by decide) ?_
                          obtain ⟨q17, hq17, h⟩ := bS h
                          refine wcI (va_runV (As := [.int 1, .int (mNow_64x (Int32.toNatClampNeg (9 + p1))), .int 0]) (rest := []) ⟨hx, hb, hml, hown, hts⟩ (c_mm_tossBy l D cI cJ cZ a mPeople mHours mGrains mKind mWind mWeight mSort mOwner mNow_64x mReadKind mReadWind mReadGrain mReadPeople mReadHours mReadGrains mText mLength mAt mFaultAt mMoved_64x mActs mNext mRow mSeen mSeenKind mSeenLift mSeenFlew mSeed mIsKept mKept H.size 1 (mNow_64x (Int32.toNatClampNeg (9 + p1))) 0 q17.1 q17.2.1 q17.2.2 hq17) (cwV 3 hts gX12_gust_X12_tossBy rfl rfl rfl (by decide +kernel) ⟨Nat.le_of_ble_eq_true rfl, Nat.le_of_ble_eq_true rfl⟩) (wPreV hK hP hD (ci := 5) (q0 := 0) rfl rfl) rfl rfl hl.1 rfl (lv_room (Nat.le_of_ble_eq_true rfl)) dX12_gust_128 ⟨Nat.zero_le _, Nat.zero_le _⟩) hD hS hA (fun H locs hP hD hS => ?_)
                          have hP : va_P D vwCl (mW a cI cZ mPeople mHours mGrains mKind mWind mWeight mSort mOwner q17.2.1 mReadKind mReadWind mReadGrain mReadPeople mReadHours mReadGrains mText mLength mAt mFaultAt q17.2.2 mActs mNext mRow mSeen mSeenKind mSeenLift mSeenFlew mSeed mIsKept mKept) H := hP
                          have hD : va_D A (mW a cI cZ mPeople mHours mGrains mKind mWind mWeight mSort mOwner q17.2.1 mReadKind mReadWind mReadGrain mReadPeople mReadHours mReadGrains mText mLength mAt mFaultAt q17.2.2 mActs mNext mRow mSeen mSeenKind mSeenLift mSeenFlew mSeed mIsKept mKept) := hD
                          refine lv_pop hx hb dX12_gust_131 rfl ?_
                          refine lv_iinc (v := (x9_64 + 1)) (lv' := [(9, .int (x9_64 + 1)), (8, .int (x8_64 * p3)), (7, .int x7_46), (6, .int x6_46), (5, .int x5_46), (0, .ref (a 0)), (1, .int p1), (2, .int p2), (3, .int p3), (4, .int p4)]) hx hb dX12_gust_132 hl (k := 1) rfl rfl (by decide) rfl (fun ls hl => ?_)
                          refine lv_goto (tgt := 64) hx hb dX12_gust_135 (by decide) ?_
                          exact ih _ _ _ _ _ _ _ _ h hP hD hS (lv_sub hl [0, 1, 2, 3, 4, 5, 6, 7, 8, 9] rfl) hk
                        · have h := iF c16 h
                          refine lv_iconst (v := 3) hx hb dX12_gust_123 (by decide) ?_
                          refine lv_goto (tgt := 128) hx hb dX12_gust_124 (by decide) ?_
                          obtain ⟨q17, hq17, h⟩ := bS h
                          refine wcI (va_runV (As := [.int 1, .int (mNow_64x (Int32.toNatClampNeg (9 + p1))), .int 3]) (rest := []) ⟨hx, hb, hml, hown, hts⟩ (c_mm_tossBy l D cI cJ cZ a mPeople mHours mGrains mKind mWind mWeight mSort mOwner mNow_64x mReadKind mReadWind mReadGrain mReadPeople mReadHours mReadGrains mText mLength mAt mFaultAt mMoved_64x mActs mNext mRow mSeen mSeenKind mSeenLift mSeenFlew mSeed mIsKept mKept H.size 1 (mNow_64x (Int32.toNatClampNeg (9 + p1))) 3 q17.1 q17.2.1 q17.2.2 hq17) (cwV 3 hts gX12_gust_X12_tossBy rfl rfl rfl (by decide +kernel) ⟨Nat.le_of_ble_eq_true rfl, Nat.le_of_ble_eq_true rfl⟩) (wPreV hK hP hD (ci := 5) (q0 := 0) rfl rfl) rfl rfl hl.1 rfl (lv_room (Nat.le_of_ble_eq_true rfl)) dX12_gust_128 ⟨Nat.zero_le _, Nat.zero_le _⟩) hD hS hA (fun H locs hP hD hS => ?_)
                          have hP : va_P D vwCl (mW a cI cZ mPeople mHours mGrains mKind mWind mWeight mSort mOwner q17.2.1 mReadKind mReadWind mReadGrain mReadPeople mReadHours mReadGrains mText mLength mAt mFaultAt q17.2.2 mActs mNext mRow mSeen mSeenKind mSeenLift mSeenFlew mSeed mIsKept mKept) H := hP
                          have hD : va_D A (mW a cI cZ mPeople mHours mGrains mKind mWind mWeight mSort mOwner q17.2.1 mReadKind mReadWind mReadGrain mReadPeople mReadHours mReadGrains mText mLength mAt mFaultAt q17.2.2 mActs mNext mRow mSeen mSeenKind mSeenLift mSeenFlew mSeed mIsKept mKept) := hD
                          refine lv_pop hx hb dX12_gust_131 rfl ?_
                          refine lv_iinc (v := (x9_64 + 1)) (lv' := [(9, .int (x9_64 + 1)), (8, .int (x8_64 * p3)), (7, .int x7_46), (6, .int x6_46), (5, .int x5_46), (0, .ref (a 0)), (1, .int p1), (2, .int p2), (3, .int p3), (4, .int p4)]) hx hb dX12_gust_132 hl (k := 1) rfl rfl (by decide) rfl (fun ls hl => ?_)
                          refine lv_goto (tgt := 64) hx hb dX12_gust_135 (by decide) ?_
                          exact ih _ _ _ _ _ _ _ _ h hP hD hS (lv_sub hl [0, 1, 2, 3, 4, 5, 6, 7, 8, 9] rfl) hk
              refine L64 _ _ _ _ _ _ _ _ _ h hP hD hS hl (fun y9_64 y8_64 mNow_64 mMoved_64 H locs ls h hP hD hS hl => ?_)
              refine lv_iload hx hb dX12_gust_138 (lv_at hl 3 rfl) ?_
              refine lv_iload hx hb dX12_gust_140 (lv_at hl 1 rfl) ?_
              refine lv_iadd hx hb dX12_gust_142 ?_
              refine lv_istore (lv' := [(6, .int (x6_46 + y8_64)), (9, .int y9_64), (8, .int y8_64), (7, .int x7_46), (5, .int x5_46), (0, .ref (a 0)), (1, .int p1), (2, .int p2), (3, .int p3), (4, .int p4)]) hx hb dX12_gust_143 hl (by decide) rfl (fun ls hl => ?_)
              refine lv_iload hx hb dX12_gust_145 (lv_at hl 4 rfl) ?_
              refine lv_aload_n hx hb dX12_gust_147 rfl (lv_at hl 5 rfl) ?_
              refine va_get (D := D) (ci := 5) (v := .ref (a 6)) (C := RX12) (T := TX12) (N := 30) hx hb hts hiX12 hown hK.1 hP 0 rfl rfl 8 (by decide) (hts (.fieldLink RX12 25 "WinnowedGuiltModel" "now" "[I") (by decide +kernel)) (fun _ h9 => h9) rfl dX12_gust_148 ?_
              refine lv_bipush (v := 9) hx hb dX12_gust_151 (by decide) ?_
              refine lv_iload_n hx hb dX12_gust_153 rfl (lv_at hl 6 rfl) ?_
              refine lv_iadd hx hb dX12_gust_154 ?_
              obtain ⟨hi9, h⟩ := gI_some h
              refine ldI (v := (mNow_64 (Int32.toNatClampNeg (9 + p1)))) hx hb hK.1 hP 6 rfl rfl hi9 rfl dX12_gust_155 ?_
              refine lv_bipush (v := 8) hx hb dX12_gust_156 (by decide) ?_
              refine lv_icmp_ne (tgt := 166) hx hb dX12_gust_158 (by decide) (fun c10 => ?_) (fun c10 => ?_)
              · have h := iF c10 h
                refine lv_iconst (v := 0) hx hb dX12_gust_166 (by decide) ?_
                refine lv_iadd hx hb dX12_gust_167 ?_
                refine lv_istore (lv' := [(5, .int (x5_46 + 0)), (6, .int (x6_46 + y8_64)), (9, .int y9_64), (8, .int y8_64), (7, .int x7_46), (0, .ref (a 0)), (1, .int p1), (2, .int p2), (3, .int p3), (4, .int p4)]) hx hb dX12_gust_168 hl (by decide) rfl (fun ls hl => ?_)
                refine lv_iinc (v := (x7_46 + 1)) (lv' := [(7, .int (x7_46 + 1)), (5, .int (x5_46 + 0)), (6, .int (x6_46 + y8_64)), (9, .int y9_64), (8, .int y8_64), (0, .ref (a 0)), (1, .int p1), (2, .int p2), (3, .int p3), (4, .int p4)]) hx hb dX12_gust_170 hl (k := 4) rfl rfl (by decide) rfl (fun ls hl => ?_)
                refine lv_goto (tgt := 46) hx hb dX12_gust_173 (by decide) ?_
                exact ih _ _ _ _ _ _ _ _ _ h hP hD hS (lv_sub hl [0, 2, 1, 5, 6, 7, 8, 9] rfl) hk
              · have h := iT c10 h
                refine lv_iload hx hb dX12_gust_161 (lv_at hl 2 rfl) ?_
                refine lv_goto (tgt := 167) hx hb dX12_gust_163 (by decide) ?_
                refine lv_iadd hx hb dX12_gust_167 ?_
                refine lv_istore (lv' := [(5, .int (x5_46 + y8_64)), (6, .int (x6_46 + y8_64)), (9, .int y9_64), (8, .int y8_64), (7, .int x7_46), (0, .ref (a 0)), (1, .int p1), (2, .int p2), (3, .int p3), (4, .int p4)]) hx hb dX12_gust_168 hl (by decide) rfl (fun ls hl => ?_)
                refine lv_iinc (v := (x7_46 + 1)) (lv' := [(7, .int (x7_46 + 1)), (5, .int (x5_46 + y8_64)), (6, .int (x6_46 + y8_64)), (9, .int y9_64), (8, .int y8_64), (0, .ref (a 0)), (1, .int p1), (2, .int p2), (3, .int p3), (4, .int p4)]) hx hb dX12_gust_170 hl (k := 4) rfl rfl (by decide) rfl (fun ls hl => ?_)
                refine lv_goto (tgt := 46) hx hb dX12_gust_173 (by decide) ?_
                exact ih _ _ _ _ _ _ _ _ _ h hP hD hS (lv_sub hl [0, 2, 1, 5, 6, 7, 8, 9] rfl) hk
        refine L46 _ _ _ _ _ _ _ _ _ _ h hP hD hS hl (fun y7_46 y6_46 y5_46 mNow_46 mMoved_46 H locs ls h hP hD hS hl => ?_)
        refine lv_iload hx hb dX12_gust_176 (lv_at hl 2 rfl) ?_
        refine lv_iload hx hb dX12_gust_178 (lv_at hl 1 rfl) ?_
        obtain ⟨q7, hq7, h⟩ := bS h
        refine rcI (va_runS (As := [.int y5_46, .int y6_46]) (rest := []) ⟨hx, hb, hml, hown, hts⟩ (c_mm_common l D cI cJ cZ   H y5_46 y6_46 q7 hq7) (va_cwS 2 hts gX12_gust_X12_common rfl rfl rfl (by decide +kernel) ⟨Nat.le_of_ble_eq_true rfl, Nat.le_of_ble_eq_true rfl⟩) (rPreS hK) rfl rfl hl.1 rfl (lv_room (Nat.le_of_ble_eq_true rfl)) dX12_gust_180 ⟨Nat.zero_le _, Nat.zero_le _⟩) ?_
        refine lv_istore (lv' := [(7, .int q7), (6, .int y6_46), (5, .int y5_46), (0, .ref (a 0)), (1, .int p1), (2, .int p2), (3, .int p3), (4, .int p4)]) hx hb dX12_gust_183 hl (by decide) rfl (fun ls hl => ?_)
        refine lv_iload hx hb dX12_gust_185 (lv_at hl 7 rfl) ?_
        refine lv_if_eq (tgt := 198) hx hb dX12_gust_187 (by decide) (fun c8 => ?_) (fun c8 => ?_)
        · have h := iT c8 h
          refine lv_iload hx hb dX12_gust_198 (lv_at hl 1 rfl) ?_
          refine lv_iload hx hb dX12_gust_200 (lv_at hl 0 rfl) ?_
          obtain ⟨hd9, h⟩ := gD_some h
          refine lv_idiv hx hb dX12_gust_202 hd9 ?_
          cases h
          subst hAe
          exact W.iret hx hb hr (fun t ht _ => ⟨⟨_, (), rfl, rfl, by rw [ht]; exact hP, hD⟩, hS.F ht⟩) hS.2.2 dX12_gust_203
        · have h := iF c8 h
          refine lv_iload hx hb dX12_gust_190 (lv_at hl 2 rfl) ?_
          refine lv_iload hx hb dX12_gust_192 (lv_at hl 0 rfl) ?_
          obtain ⟨hd9, h⟩ := gD_some h
          refine lv_idiv hx hb dX12_gust_194 hd9 ?_
          refine lv_goto (tgt := 203) hx hb dX12_gust_195 (by decide) ?_
          cases h
          subst hAe
          exact W.iret hx hb hr (fun t ht _ => ⟨⟨_, (), rfl, rfl, by rw [ht]; exact hP, hD⟩, hS.F ht⟩) hS.2.2 dX12_gust_203
      · have h := iT c6 h
        refine lv_bipush (v := (-2)) hx hb dX12_gust_34 (by decide) ?_
        cases h
        subst hAe
        exact W.iret hx hb hr (fun t ht _ => ⟨⟨_, (), rfl, rfl, by rw [ht]; exact hP, hD⟩, hS.F ht⟩) hS.2.2 dX12_gust_36
  · have h := iT c2 h
    refine lv_iconst (v := (-1)) hx hb dX12_gust_8 (by decide) ?_
    cases h
    subst hAe
    exact W.iret hx hb hr (fun t ht _ => ⟨⟨_, (), rfl, rfl, by rw [ht]; exact hP, hD⟩, hS.F ht⟩) hS.2.2 dX12_gust_9

set_option maxHeartbeats 4000000 in
set_option maxRecDepth 100000 in
theorem c_mm_seed (l : Launch) (D : va_G) (cI cJ cZ : ClassId) (a : Nat → Nat) (mPeople : Int32) (mHours : Int32) (mGrains : Int32) (mKind : Nat → Int32) (mWind : Nat → Int32) (mWeight : Nat → Int32) (mSort : Nat → Int32) (mOwner : Nat → Int32) (mNow : Nat → Int32) (mReadKind : Nat → Int32) (mReadWind : Nat → Int32) (mReadGrain : Nat → Int32) (mReadPeople : Int32) (mReadHours : Int32) (mReadGrains : Int32) (mText : Nat → Int32) (mLength : Int32) (mAt : Int32) (mFaultAt : Int32) (mMoved : Nat → Int32) (mActs : Int32) (mNext : Int32) (mRow : Nat → Int32) (mSeen : Int32) (mSeenKind : Nat → Int32) (mSeenLift : Nat → Int32) (mSeenFlew : Nat → Int32) (mSeed : Int64) (mIsKept : Nat → Int32) (mKept : Nat → Int32)  (sz : Nat) (p1 : Int64) (rv : Int64) (mSeed_r : Int64) (h : mm_seed mSeed p1 = some (rv, mSeed_r)) : Met l yX12_seed wsX12_seed ({ frames := 0, cells := 0, slots := 0, locals := 0 } : Room) (wPc D cI cJ cZ (mW a cI cZ mPeople mHours mGrains mKind mWind mWeight mSort mOwner mNow mReadKind mReadWind mReadGrain mReadPeople mReadHours mReadGrains mText mLength mAt mFaultAt mMoved mActs mNext mRow mSeen mSeenKind mSeenLift mSeenFlew mSeed mIsKept mKept) sz [.ref (a 0), .long p1]) (wQl D (mW a cI cZ mPeople mHours mGrains mKind mWind mWeight mSort mOwner mNow mReadKind mReadWind mReadGrain mReadPeople mReadHours mReadGrains mText mLength mAt mFaultAt mMoved mActs mNext mRow mSeen mSeenKind mSeenLift mSeenFlew mSeed mIsKept mKept) (mW a cI cZ mPeople mHours mGrains mKind mWind mWeight mSort mOwner mNow mReadKind mReadWind mReadGrain mReadPeople mReadHours mReadGrains mText mLength mAt mFaultAt mMoved mActs mNext mRow mSeen mSeenKind mSeenLift mSeenFlew mSeed_r mIsKept mKept) sz rv) 0 0 (va_A (mW a cI cZ mPeople mHours mGrains mKind mWind mWeight mSort mOwner mNow mReadKind mReadWind mReadGrain mReadPeople mReadHours mReadGrains mText mLength mAt mFaultAt mMoved mActs mNext mRow mSeen mSeenKind mSeenLift mSeenFlew mSeed mIsKept mKept) sz) := by
  unfold mm_seed at h
  refine Met.ofW (cc := cX12_seed) (maxL := 5) (ret := (some .long)) (by decide) rfl ?_
  intro p e s m args below meth c s₁ B hml hv
  obtain ⟨rfl, hsz, hP, hK, hD0⟩ := hv
  have hx := B.exec
  have hb := B.bytes
  have hr := B.returns
  have hts := atoms_spec (ws := wsX12_seed) B.pre
  have hown : s.vm.findClass RX12 = some m.cls := findClass_of_methodNamed B.named
  have hlocks := B.notSynchronized
  subst hsz
  have hD := hD0.self (sz := s.heap.size)
  have hA : ∀ q : Nat, s.heap.size ≤ q → va_A (mW a cI cZ mPeople mHours mGrains mKind mWind mWeight mSort mOwner mNow mReadKind mReadWind mReadGrain mReadPeople mReadHours mReadGrains mText mLength mAt mFaultAt mMoved mActs mNext mRow mSeen mSeenKind mSeenLift mSeenFlew mSeed mIsKept mKept) s.heap.size q := fun q h => Or.inr h
  have hS : va_S (va_A (mW a cI cZ mPeople mHours mGrains mKind mWind mWeight mSort mOwner mNow mReadKind mReadWind mReadGrain mReadPeople mReadHours mReadGrains mText mLength mAt mFaultAt mMoved mActs mNext mRow mSeen mSeenKind mSeenLift mSeenFlew mSeed mIsKept mKept) s.heap.size) s.heap s.heap [] := va_S.rf
  obtain ⟨A, hAe⟩ : ∃ A, A = va_A (mW a cI cZ mPeople mHours mGrains mKind mWind mWeight mSort mOwner mNow mReadKind mReadWind mReadGrain mReadPeople mReadHours mReadGrains mText mLength mAt mFaultAt mMoved mActs mNext mRow mSeen mSeenKind mSeenLift mSeenFlew mSeed mIsKept mKept) s.heap.size := ⟨_, rfl⟩
  rw [← hAe] at hD hA hS
  have hl := lv_entry ([.ref (a 0), .long p1]) (n := 5) (Nat.le_of_ble_eq_true rfl)
  rw [lg_entry_eq]
  generalize (lg_sl ([.ref (a 0), .long p1]) ++ List.replicate (5 - (lg_sl ([.ref (a 0), .long p1])).length) Slot.unset).toArray = ls at hl ⊢
  have hl : lv_has ls 5 [(0, .ref (a 0)), (1, .long p1)] := hl
  have hiX12 : ∀ w ∈ u_ws RX12 TX12 30, w ∈ wsX12_seed := fun w hw => List.mem_cons_of_mem _ (List.mem_append_right _ hw)
  refine lv_aload_n hx hb dX12_seed_0 rfl (lv_at hl 0 rfl) ?_
  refine va_get (D := D) (ci := 5) (v := .long mSeed) (C := RX12) (T := TX12) (N := 30) hx hb hts hiX12 hown hK.1 hP 0 rfl rfl 27 (by decide) (hts (.fieldLink RX12 232 "WinnowedGuiltModel" "seed" "J") (by decide +kernel)) (fun _ h9 => h9) rfl dX12_seed_1 ?_
  refine lv_lstore_n (lv' := [(3, .long mSeed), (0, .ref (a 0)), (1, .long p1)]) hx hb dX12_seed_4 rfl hl (by decide) rfl (fun ls hl => ?_)
  refine lv_aload_n hx hb dX12_seed_5 rfl (lv_at hl 1 rfl) ?_
  refine lv_lload_n hx hb dX12_seed_6 rfl (lv_at hl 2 rfl) ?_
  refine va_put (D := D) (ci := 5) (v := .long p1) (ty := .long) (C := RX12) (T := TX12) (N := 30) hx hb hts hiX12 tyX12 tyX12_ok nmX12 hown hK.1 hP hD hS 0 rfl rfl 27 (by decide) (hts (.fieldLink RX12 232 "WinnowedGuiltModel" "seed" "J") (by decide +kernel)) (fun _ h9 => h9) rfl (by decide +kernel) rfl rfl (Nat.le_of_ble_eq_true rfl) dX12_seed_7 (fun H locs hP hD hS => ?_)
  have hP : va_P D vwCl (mW a cI cZ mPeople mHours mGrains mKind mWind mWeight mSort mOwner mNow mReadKind mReadWind mReadGrain mReadPeople mReadHours mReadGrains mText mLength mAt mFaultAt mMoved mActs mNext mRow mSeen mSeenKind mSeenLift mSeenFlew p1 mIsKept mKept) H := hP
  have hD : va_D A (mW a cI cZ mPeople mHours mGrains mKind mWind mWeight mSort mOwner mNow mReadKind mReadWind mReadGrain mReadPeople mReadHours mReadGrains mText mLength mAt mFaultAt mMoved mActs mNext mRow mSeen mSeenKind mSeenLift mSeenFlew p1 mIsKept mKept) := hD
  refine lv_lload_n hx hb dX12_seed_10 rfl (lv_at hl 0 rfl) ?_
  cases h
  subst hAe
  exact W.lret hx hb hr (fun t ht _ => ⟨⟨_, (), rfl, rfl, by rw [ht]; exact hP, hD⟩, hS.F ht⟩) hS.2.2 dX12_seed_11
