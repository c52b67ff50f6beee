set_option maxHeartbeats 4000000 in
set_option maxRecDepth 100000 in
theorem c_mm_voteOf (l : Launch) (D : va_G) (cI cJ cZ : ClassId) (a : Nat → Nat) (mPeople : Int32) (mHours : Int32) (mGrains : Int32) (mKind : Nat → Int32) (mWind : Nat → Int32) (mWeight : Nat → Int32) (mSort : Nat → Int32) (mOwner : Nat → Int32) (mNow : Nat → Int32) (mReadKind : Nat → Int32) (mReadWind : Nat → Int32) (mReadGrain : Nat → Int32) (mReadPeople : Int32) (mReadHours : Int32) (mReadGrains : Int32) (mText : Nat → Int32) (mLength : Int32) (mAt : Int32) (mFaultAt : Int32) (mMoved : Nat → Int32) (mActs : Int32) (mNext : Int32) (mRow : Nat → Int32) (mSeen : Int32) (mSeenKind : Nat → Int32) (mSeenLift : Nat → Int32) (mSeenFlew : Nat → Int32) (mSeed : Int64) (mIsKept : Nat → Int32) (mKept : Nat → Int32)  (sz : Nat) (p1 : Int32) (rv : Int32) (mNow_r : Nat → Int32) (mMoved_r : Nat → Int32) (h : mm_voteOf mPeople mHours mGrains mKind mWind mWeight mSort mOwner mNow mMoved p1 = some (rv, mNow_r, mMoved_r)) : Met l yX12_voteOf wsX12_voteOf ({ frames := 6, cells := 0, slots := 0, locals := 143 } : Room) (wPc D cI cJ cZ (mW a cI cZ mPeople mHours mGrains mKind mWind mWeight mSort mOwner mNow mReadKind mReadWind mReadGrain mReadPeople mReadHours mReadGrains mText mLength mAt mFaultAt mMoved mActs mNext mRow mSeen mSeenKind mSeenLift mSeenFlew mSeed mIsKept mKept) sz [.ref (a 0), .int p1]) (wQi D (mW a cI cZ mPeople mHours mGrains mKind mWind mWeight mSort mOwner mNow mReadKind mReadWind mReadGrain mReadPeople mReadHours mReadGrains mText mLength mAt mFaultAt mMoved mActs mNext mRow mSeen mSeenKind mSeenLift mSeenFlew mSeed mIsKept mKept) (mW a cI cZ mPeople mHours mGrains mKind mWind mWeight mSort mOwner mNow_r mReadKind mReadWind mReadGrain mReadPeople mReadHours mReadGrains mText mLength mAt mFaultAt mMoved_r mActs mNext mRow mSeen mSeenKind mSeenLift mSeenFlew mSeed mIsKept mKept) sz rv) 0 0 (va_A (mW a cI cZ mPeople mHours mGrains mKind mWind mWeight mSort mOwner mNow mReadKind mReadWind mReadGrain mReadPeople mReadHours mReadGrains mText mLength mAt mFaultAt mMoved mActs mNext mRow mSeen mSeenKind mSeenLift mSeenFlew mSeed mIsKept mKept) sz) := by
  unfold mm_voteOf at h
  refine Met.ofW (cc := cX12_voteOf) (maxL := 4) (ret := (some .int)) (by decide) rfl ?_
  intro p e s m args below meth c s₁ B hml hv
  obtain ⟨rfl, hsz, hP, hK, hD0⟩ := hv
  have hx := B.exec
  have hb := B.bytes
  have hr := B.returns
  have hts := atoms_spec (ws := wsX12_voteOf) B.pre
  have hown : s.vm.findClass RX12 = some m.cls := findClass_of_methodNamed B.named
  have hlocks := B.notSynchronized
  subst hsz
  have hD := hD0.self (sz := s.heap.size)
  have hA : ∀ q : Nat, s.heap.size ≤ q → va_A (mW a cI cZ mPeople mHours mGrains mKind mWind mWeight mSort mOwner mNow mReadKind mReadWind mReadGrain mReadPeople mReadHours mReadGrains mText mLength mAt mFaultAt mMoved mActs mNext mRow mSeen mSeenKind mSeenLift mSeenFlew mSeed mIsKept mKept) s.heap.size q := fun q h => Or.inr h
  have hS : va_S (va_A (mW a cI cZ mPeople mHours mGrains mKind mWind mWeight mSort mOwner mNow mReadKind mReadWind mReadGrain mReadPeople mReadHours mReadGrains mText mLength mAt mFaultAt mMoved mActs mNext mRow mSeen mSeenKind mSeenLift mSeenFlew mSeed mIsKept mKept) s.heap.size) s.heap s.heap [] := va_S.rf
  obtain ⟨A, hAe⟩ : ∃ A, A = va_A (mW a cI cZ mPeople mHours mGrains mKind mWind mWeight mSort mOwner mNow mReadKind mReadWind mReadGrain mReadPeople mReadHours mReadGrains mText mLength mAt mFaultAt mMoved mActs mNext mRow mSeen mSeenKind mSeenLift mSeenFlew mSeed mIsKept mKept) s.heap.size := ⟨_, rfl⟩
  rw [← hAe] at hD hA hS
  have hl := lv_entry ([.ref (a 0), .int p1]) (n := 4) (Nat.le_of_ble_eq_true rfl)
  rw [lg_entry_eq]
  generalize (lg_sl ([.ref (a 0), .int p1]) ++ List.replicate (4 - (lg_sl ([.ref (a 0), .int p1])).length) Slot.unset).toArray = ls at hl ⊢
  have hl : lv_has ls 4 [(0, .ref (a 0)), (1, .int p1)] := hl
  have hiX12 : ∀ w ∈ u_ws RX12 TX12 30, w ∈ wsX12_voteOf := fun w hw => List.mem_cons_of_mem _ (List.mem_append_right _ hw)
  refine lv_iconst (v := 0) hx hb dX12_voteOf_0 (by decide) ?_
  refine lv_istore_n (lv' := [(2, .int 0), (0, .ref (a 0)), (1, .int p1)]) hx hb dX12_voteOf_1 rfl hl (by decide) rfl (fun ls hl => ?_)
  refine lv_iconst (v := 1) hx hb dX12_voteOf_2 (by decide) ?_
  refine lv_istore_n (lv' := [(3, .int 1), (2, .int 0), (0, .ref (a 0)), (1, .int p1)]) hx hb dX12_voteOf_3 rfl hl (by decide) rfl (fun ls hl => ?_)
  have L4 : ∀ (n : Nat) (x3_4 : Int32) (x2_4 : Int32) (mNow_4x : (Nat → Int32)) (mMoved_4x : (Nat → Int32)) (H : Heap) (locs : List Loc) (ls : Array Slot) (kx : Int32 → Int32 → (Nat → Int32) → (Nat → Int32) → Option (Int32 × (Nat → Int32) × (Nat → Int32))), mm_voteOf_L4 mPeople mHours mGrains mKind mWind mWeight mSort mOwner p1 kx n x3_4 x2_4 mNow_4x mMoved_4x = some (rv, mNow_r, mMoved_r) → va_P D vwCl (mW a cI cZ mPeople mHours mGrains mKind mWind mWeight mSort mOwner mNow_4x mReadKind mReadWind mReadGrain mReadPeople mReadHours mReadGrains mText mLength mAt mFaultAt mMoved_4x mActs mNext mRow mSeen mSeenKind mSeenLift mSeenFlew mSeed mIsKept mKept) H → va_D A (mW a cI cZ mPeople mHours mGrains mKind mWind mWeight mSort mOwner mNow_4x mReadKind mReadWind mReadGrain mReadPeople mReadHours mReadGrains mText mLength mAt mFaultAt mMoved_4x mActs mNext mRow mSeen mSeenKind mSeenLift mSeenFlew mSeed mIsKept mKept) → va_S A s.heap H locs → lv_has ls 4 [(3, .int x3_4), (2, .int x2_4), (0, .ref (a 0)), (1, .int p1)] → (∀ (y3_4 : Int32) (y2_4 : Int32) (mNow_4 : (Nat → Int32)) (mMoved_4 : (Nat → Int32)) (H : Heap) (locs : List Loc) (ls : Array Slot), kx y3_4 y2_4 mNow_4 mMoved_4 = some (rv, mNow_r, mMoved_r) → va_P D vwCl (mW a cI cZ mPeople mHours mGrains mKind mWind mWeight mSort mOwner mNow_4 mReadKind mReadWind mReadGrain mReadPeople mReadHours mReadGrains mText mLength mAt mFaultAt mMoved_4 mActs mNext mRow mSeen mSeenKind mSeenLift mSeenFlew mSeed mIsKept mKept) H → va_D A (mW a cI cZ mPeople mHours mGrains mKind mWind mWeight mSort mOwner mNow_4 mReadKind mReadWind mReadGrain mReadPeople mReadHours mReadGrains mText mLength mAt mFaultAt mMoved_4 mActs mNext mRow mSeen mSeenKind mSeenLift mSeenFlew mSeed mIsKept mKept) → va_S A s.heap H locs → lv_has ls 4 [(3, .int y3_4), (2, .int y2_4), (0, .ref (a 0)), (1, .int p1)] → W p l e (headSpec wsX12_voteOf ({ frames := 6, cells := 0, slots := 0, locals := 143 } : Room)).room s m ([.ref (a 0), .int p1] : List Value).toArray below meth c H locs 0 0 (MQ below (wQi D (mW a cI cZ mPeople mHours mGrains mKind mWind mWeight mSort mOwner mNow mReadKind mReadWind mReadGrain mReadPeople mReadHours mReadGrains mText mLength mAt mFaultAt mMoved mActs mNext mRow mSeen mSeenKind mSeenLift mSeenFlew mSeed mIsKept mKept) (mW a cI cZ mPeople mHours mGrains mKind mWind mWeight mSort mOwner mNow_r mReadKind mReadWind mReadGrain mReadPeople mReadHours mReadGrains mText mLength mAt mFaultAt mMoved_r mActs mNext mRow mSeen mSeenKind mSeenLift mSeenFlew mSeed mIsKept mKept) s.heap.size rv) ([.ref (a 0), .int p1] : List Value).toArray s 0 0 (va_A (mW a cI cZ mPeople mHours mGrains mKind mWind mWeight mSort mOwner mNow mReadKind mReadWind mReadGrain mReadPeople mReadHours mReadGrains mText mLength mAt mFaultAt mMoved mActs mNext mRow mSeen mSeenKind mSeenLift mSeenFlew mSeed mIsKept mKept) s.heap.size)) (F0 m 39 ls [])) → W p l e (headSpec wsX12_voteOf ({ frames := 6, cells := 0, slots := 0, locals := 143 } : Room)).room s m ([.ref (a 0), .int p1] : List Value).toArray below meth c H locs 0 0 (MQ below (wQi D (mW a cI cZ mPeople mHours mGrains mKind mWind mWeight mSort mOwner mNow mReadKind mReadWind mReadGrain mReadPeople mReadHours mReadGrains mText mLength mAt mFaultAt mMoved mActs mNext mRow mSeen mSeenKind mSeenLift mSeenFlew mSeed mIsKept mKept) (mW a cI cZ mPeople mHours mGrains mKind mWind mWeight mSort mOwner mNow_r mReadKind mReadWind mReadGrain mReadPeople mReadHours mReadGrains mText mLength mAt mFaultAt mMoved_r mActs mNext mRow mSeen mSeenKind mSeenLift mSeenFlew mSeed mIsKept mKept) s.heap.size rv) ([.ref (a 0), .int p1] : List Value).toArray s 0 0 (va_A (mW a cI cZ mPeople mHours mGrains mKind mWind mWeight mSort mOwner mNow mReadKind mReadWind mReadGrain mReadPeople mReadHours mReadGrains mText mLength mAt mFaultAt mMoved mActs mNext mRow mSeen mSeenKind mSeenLift mSeenFlew mSeed mIsKept mKept) s.heap.size)) (F0 m 4 ls []) := by
    intro n
    induction n with
    | zero => intro _ _ _ _ _ _ _ _ h; rw [mm_voteOf_L4.eq_1] at h; cases h
    | succ n ih =>
      intro x3_4 x2_4 mNow_4x mMoved_4x H locs ls kx h hP hD hS hl hk
      rw [mm_voteOf_L4.eq_2] at h
      refine lv_iload_n hx hb dX12_voteOf_4 rfl (lv_at hl 0 rfl) ?_
      refine lv_aload_n hx hb dX12_voteOf_5 rfl (lv_at hl 2 rfl) ?_
      refine va_get (D := D) (ci := 5) (v := .int mPeople) (C := RX12) (T := TX12) (N := 30) hx hb hts hiX12 hown hK.1 hP 0 rfl rfl 0 (by decide) (hts (.fieldLink RX12 99 "WinnowedGuiltModel" "people" "I") (by decide +kernel)) (fun _ h9 => h9) rfl dX12_voteOf_6 ?_
      refine lv_icmp_ge (tgt := 39) hx hb dX12_voteOf_9 (by decide) (fun c1 => ?_) (fun c1 => ?_)
      · have h := iT c1 h
        exact hk _ _ _ _ _ _ _ h hP hD hS (lv_sub hl [0, 1, 2, 3] rfl)
      · have h := iF c1 h
        refine lv_aload_n hx hb dX12_voteOf_12 rfl (lv_at hl 2 rfl) ?_
        refine lv_iload_n hx hb dX12_voteOf_13 rfl (lv_at hl 3 rfl) ?_
        refine lv_iload_n hx hb dX12_voteOf_14 rfl (lv_at hl 0 rfl) ?_
        obtain ⟨q2, hq2, h⟩ := bS h
        refine wcI (va_runV (As := [.int p1, .int x3_4]) (rest := []) ⟨hx, hb, hml, hown, hts⟩ (c_mm_guiltBy l D cI cJ cZ a mPeople mHours mGrains mKind mWind mWeight mSort mOwner mNow_4x mReadKind mReadWind mReadGrain mReadPeople mReadHours mReadGrains mText mLength mAt mFaultAt mMoved_4x mActs mNext mRow mSeen mSeenKind mSeenLift mSeenFlew mSeed mIsKept mKept H.size p1 x3_4 q2.1 q2.2.1 q2.2.2 hq2) (cwV 2 hts gX12_voteOf_X12_guiltBy rfl rfl rfl (by decide +kernel) ⟨Nat.le_of_ble_eq_true rfl, Nat.le_of_ble_eq_true rfl⟩) (wPreV hK hP hD (ci := 5) (q0 := 0) rfl rfl) rfl rfl hl.1 rfl (lv_room (Nat.le_of_ble_eq_true rfl)) dX12_voteOf_15 ⟨Nat.zero_le _, Nat.zero_le _⟩) hD hS hA (fun H locs hP hD hS => ?_)
        have hP : va_P D vwCl (mW a cI cZ mPeople mHours mGrains mKind mWind mWeight mSort mOwner q2.2.1 mReadKind mReadWind mReadGrain mReadPeople mReadHours mReadGrains mText mLength mAt mFaultAt q2.2.2 mActs mNext mRow mSeen mSeenKind mSeenLift mSeenFlew mSeed mIsKept mKept) H := hP
        have hD : va_D A (mW a cI cZ mPeople mHours mGrains mKind mWind mWeight mSort mOwner q2.2.1 mReadKind mReadWind mReadGrain mReadPeople mReadHours mReadGrains mText mLength mAt mFaultAt q2.2.2 mActs mNext mRow mSeen mSeenKind mSeenLift mSeenFlew mSeed mIsKept mKept) := hD
        refine lv_aload_n hx hb dX12_voteOf_18 rfl (lv_at hl 2 rfl) ?_
        refine lv_iload_n hx hb dX12_voteOf_19 rfl (lv_at hl 3 rfl) ?_
        refine lv_iload_n hx hb dX12_voteOf_20 rfl (lv_at hl 1 rfl) ?_
        obtain ⟨q3, hq3, h⟩ := bS h
        refine wcI (va_runV (As := [.int p1, .int x2_4]) (rest := [.int q2.1]) ⟨hx, hb, hml, hown, hts⟩ (c_mm_guiltBy l D cI cJ cZ a mPeople mHours mGrains mKind mWind mWeight mSort mOwner q2.2.1 mReadKind mReadWind mReadGrain mReadPeople mReadHours mReadGrains mText mLength mAt mFaultAt q2.2.2 mActs mNext mRow mSeen mSeenKind mSeenLift mSeenFlew mSeed mIsKept mKept H.size p1 x2_4 q3.1 q3.2.1 q3.2.2 hq3) (cwV 2 hts gX12_voteOf_X12_guiltBy rfl rfl rfl (by decide +kernel) ⟨Nat.le_of_ble_eq_true rfl, Nat.le_of_ble_eq_true rfl⟩) (wPreV hK hP hD (ci := 5) (q0 := 0) rfl rfl) rfl rfl hl.1 rfl (lv_room (Nat.le_of_ble_eq_true rfl)) dX12_voteOf_21 ⟨Nat.zero_le _, Nat.zero_le _⟩) hD hS hA (fun H locs hP hD hS => ?_)
        have hP : va_P D vwCl (mW a cI cZ mPeople mHours mGrains mKind mWind mWeight mSort mOwner q3.2.1 mReadKind mReadWind mReadGrain mReadPeople mReadHours mReadGrains mText mLength mAt mFaultAt q3.2.2 mActs mNext mRow mSeen mSeenKind mSeenLift mSeenFlew mSeed mIsKept mKept) H := hP
        have hD : va_D A (mW a cI cZ mPeople mHours mGrains mKind mWind mWeight mSort mOwner q3.2.1 mReadKind mReadWind mReadGrain mReadPeople mReadHours mReadGrains mText mLength mAt mFaultAt q3.2.2 mActs mNext mRow mSeen mSeenKind mSeenLift mSeenFlew mSeed mIsKept mKept) := hD
        refine lv_icmp_ge (tgt := 31) hx hb dX12_voteOf_24 (by decide) (fun c4 => ?_) (fun c4 => ?_)
        · have h := iT c4 h
          refine lv_iload_n hx hb dX12_voteOf_31 rfl (lv_at hl 1 rfl) ?_
          refine lv_istore_n (lv' := [(2, .int x2_4), (3, .int x3_4), (0, .ref (a 0)), (1, .int p1)]) hx hb dX12_voteOf_32 rfl hl (by decide) rfl (fun ls hl => ?_)
          refine lv_iinc (v := (x3_4 + 1)) (lv' := [(3, .int (x3_4 + 1)), (2, .int x2_4), (0, .ref (a 0)), (1, .int p1)]) hx hb dX12_voteOf_33 hl (k := 1) rfl rfl (by decide) rfl (fun ls hl => ?_)
          refine lv_goto (tgt := 4) hx hb dX12_voteOf_36 (by decide) ?_
          exact ih _ _ _ _ _ _ _ _ h hP hD hS (lv_sub hl [0, 1, 2, 3] rfl) hk
        · have h := iF c4 h
          refine lv_iload_n hx hb dX12_voteOf_27 rfl (lv_at hl 0 rfl) ?_
          refine lv_goto (tgt := 32) hx hb dX12_voteOf_28 (by decide) ?_
          refine lv_istore_n (lv' := [(2, .int x3_4), (3, .int x3_4), (0, .ref (a 0)), (1, .int p1)]) hx hb dX12_voteOf_32 rfl hl (by decide) rfl (fun ls hl => ?_)
          refine lv_iinc (v := (x3_4 + 1)) (lv' := [(3, .int (x3_4 + 1)), (2, .int x3_4), (0, .ref (a 0)), (1, .int p1)]) hx hb dX12_voteOf_33 hl (k := 1) rfl rfl (by decide) rfl (fun ls hl => ?_)
          refine lv_goto (tgt := 4) hx hb dX12_voteOf_36 (by decide) ?_
          exact ih _ _ _ _ _ _ _ _ h hP hD hS (lv_sub hl [0, 1, 2, 3] rfl) hk
  refine L4 _ _ _ _ _ _ _ _ _ h hP hD hS hl (fun y3_4 y2_4 mNow_4 mMoved_4 H locs ls h hP hD hS hl => ?_)
  refine lv_iload_n hx hb dX12_voteOf_39 rfl (lv_at hl 1 rfl) ?_
  cases h
  subst hAe
  exact W.iret hx hb hr (fun t ht _ => ⟨⟨_, (), rfl, rfl, by rw [ht]; exact hP, hD⟩, hS.F ht⟩) hS.2.2 dX12_voteOf_40

set_option maxHeartbeats 4000000 in
set_option maxRecDepth 100000 in
theorem c_mm_votesFor (l : Launch) (D : va_G) (cI cJ cZ : ClassId) (a : Nat → Nat) (mPeople : Int32) (mHours : Int32) (mGrains : Int32) (mKind : Nat → Int32) (mWind : Nat → Int32) (mWeight : Nat → Int32) (mSort : Nat → Int32) (mOwner : Nat → Int32) (mNow : Nat → Int32) (mReadKind : Nat → Int32) (mReadWind : Nat → Int32) (mReadGrain : Nat → Int32) (mReadPeople : Int32) (mReadHours : Int32) (mReadGrains : Int32) (mText : Nat → Int32) (mLength : Int32) (mAt : Int32) (mFaultAt : Int32) (mMoved : Nat → Int32) (mActs : Int32) (mNext : Int32) (mRow : Nat → Int32) (mSeen : Int32) (mSeenKind : Nat → Int32) (mSeenLift : Nat → Int32) (mSeenFlew : Nat → Int32) (mSeed : Int64) (mIsKept : Nat → Int32) (mKept : Nat → Int32)  (sz : Nat) (p1 : Int32) (rv : Int32) (mNow_r : Nat → Int32) (mMoved_r : Nat → Int32) (h : mm_votesFor mPeople mHours mGrains mKind mWind mWeight mSort mOwner mNow mMoved p1 = some (rv, mNow_r, mMoved_r)) : Met l yX12_votesFor wsX12_votesFor ({ frames := 7, cells := 0, slots := 0, locals := 166 } : Room) (wPc D cI cJ cZ (mW a cI cZ mPeople mHours mGrains mKind mWind mWeight mSort mOwner mNow mReadKind mReadWind mReadGrain mReadPeople mReadHours mReadGrains mText mLength mAt mFaultAt mMoved mActs mNext mRow mSeen mSeenKind mSeenLift mSeenFlew mSeed mIsKept mKept) sz [.ref (a 0), .int p1]) (wQi D (mW a cI cZ mPeople mHours mGrains mKind mWind mWeight mSort mOwner mNow mReadKind mReadWind mReadGrain mReadPeople mReadHours mReadGrains mText mLength mAt mFaultAt mMoved mActs mNext mRow mSeen mSeenKind mSeenLift mSeenFlew mSeed mIsKept mKept) (mW a cI cZ mPeople mHours mGrains mKind mWind mWeight mSort mOwner mNow_r mReadKind mReadWind mReadGrain mReadPeople mReadHours mReadGrains mText mLength mAt mFaultAt mMoved_r mActs mNext mRow mSeen mSeenKind mSeenLift mSeenFlew mSeed mIsKept mKept) sz rv) 0 0 (va_A (mW a cI cZ mPeople mHours mGrains mKind mWind mWeight mSort mOwner mNow mReadKind mReadWind mReadGrain mReadPeople mReadHours mReadGrains mText mLength mAt mFaultAt mMoved mActs mNext mRow mSeen mSeenKind mSeenLift mSeenFlew mSeed mIsKept mKept) sz) := by
  unfold mm_votesFor at h
  refine Met.ofW (cc := cX12_votesFor) (maxL := 4) (ret := (some .int)) (by decide) rfl ?_
  intro p e s m args below meth c s₁ B hml hv
  obtain ⟨rfl, hsz, hP, hK, hD0⟩ := hv
  have hx := B.exec
  have hb := B.bytes
  have hr := B.returns
  have hts := atoms_spec (ws := wsX12_votesFor) B.pre
  have hown : s.vm.findClass RX12 = some m.cls := findClass_of_methodNamed B.named
  have hlocks := B.notSynchronized
  subst hsz
  have hD := hD0.self (sz := s.heap.size)
  have hA : ∀ q : Nat, s.heap.size ≤ q → va_A (mW a cI cZ mPeople mHours mGrains mKind mWind mWeight mSort mOwner mNow mReadKind mReadWind mReadGrain mReadPeople mReadHours mReadGrains mText mLength mAt mFaultAt mMoved mActs mNext mRow mSeen mSeenKind mSeenLift mSeenFlew mSeed mIsKept mKept) s.heap.size q := fun q h => Or.inr h
  have hS : va_S (va_A (mW a cI cZ mPeople mHours mGrains mKind mWind mWeight mSort mOwner mNow mReadKind mReadWind mReadGrain mReadPeople mReadHours mReadGrains mText mLength mAt mFaultAt mMoved mActs mNext mRow mSeen mSeenKind mSeenLift mSeenFlew mSeed mIsKept mKept) s.heap.size) s.heap s.heap [] := va_S.rf
  obtain ⟨A, hAe⟩ : ∃ A, A = va_A (mW a cI cZ mPeople mHours mGrains mKind mWind mWeight mSort mOwner mNow mReadKind mReadWind mReadGrain mReadPeople mReadHours mReadGrains mText mLength mAt mFaultAt mMoved mActs mNext mRow mSeen mSeenKind mSeenLift mSeenFlew mSeed mIsKept mKept) s.heap.size := ⟨_, rfl⟩
  rw [← hAe] at hD hA hS
  have hl := lv_entry ([.ref (a 0), .int p1]) (n := 4) (Nat.le_of_ble_eq_true rfl)
  rw [lg_entry_eq]
  generalize (lg_sl ([.ref (a 0), .int p1]) ++ List.replicate (4 - (lg_sl ([.ref (a 0), .int p1])).length) Slot.unset).toArray = ls at hl ⊢
  have hl : lv_has ls 4 [(0, .ref (a 0)), (1, .int p1)] := hl
  have hiX12 : ∀ w ∈ u_ws RX12 TX12 30, w ∈ wsX12_votesFor := fun w hw => List.mem_cons_of_mem _ (List.mem_append_right _ hw)
  refine lv_iconst (v := 0) hx hb dX12_votesFor_0 (by decide) ?_
  refine lv_istore_n (lv' := [(2, .int 0), (0, .ref (a 0)), (1, .int p1)]) hx hb dX12_votesFor_1 rfl hl (by decide) rfl (fun ls hl => ?_)
  refine lv_iconst (v := 0) hx hb dX12_votesFor_2 (by decide) ?_
  refine lv_istore_n (lv' := [(3, .int 0), (2, .int 0), (0, .ref (a 0)), (1, .int p1)]) hx hb dX12_votesFor_3 rfl hl (by decide) rfl (fun ls hl => ?_)
  have L4 : ∀ (n : Nat) (x3_4 : Int32) (x2_4 : Int32) (mNow_4x : (Nat → Int32)) (mMoved_4x : (Nat → Int32)) (H : Heap) (locs : List Loc) (ls : Array Slot) (kx : Int32 → Int32 → (Nat → Int32) → (Nat → Int32) → Option (Int32 × (Nat → Int32) × (Nat → Int32))), mm_votesFor_L4 mPeople mHours mGrains mKind mWind mWeight mSort mOwner p1 kx n x3_4 x2_4 mNow_4x mMoved_4x = some (rv, mNow_r, mMoved_r) → va_P D vwCl (mW a cI cZ mPeople mHours mGrains mKind mWind mWeight mSort mOwner mNow_4x mReadKind mReadWind mReadGrain mReadPeople mReadHours mReadGrains mText mLength mAt mFaultAt mMoved_4x mActs mNext mRow mSeen mSeenKind mSeenLift mSeenFlew mSeed mIsKept mKept) H → va_D A (mW a cI cZ mPeople mHours mGrains mKind mWind mWeight mSort mOwner mNow_4x mReadKind mReadWind mReadGrain mReadPeople mReadHours mReadGrains mText mLength mAt mFaultAt mMoved_4x mActs mNext mRow mSeen mSeenKind mSeenLift mSeenFlew mSeed mIsKept mKept) → va_S A s.heap H locs → lv_has ls 4 [(3, .int x3_4), (2, .int x2_4), (0, .ref (a 0)), (1, .int p1)] → (∀ (y3_4 : Int32) (y2_4 : Int32) (mNow_4 : (Nat → Int32)) (mMoved_4 : (Nat → Int32)) (H : Heap) (locs : List Loc) (ls : Array Slot), kx y3_4 y2_4 mNow_4 mMoved_4 = some (rv, mNow_r, mMoved_r) → va_P D vwCl (mW a cI cZ mPeople mHours mGrains mKind mWind mWeight mSort mOwner mNow_4 mReadKind mReadWind mReadGrain mReadPeople mReadHours mReadGrains mText mLength mAt mFaultAt mMoved_4 mActs mNext mRow mSeen mSeenKind mSeenLift mSeenFlew mSeed mIsKept mKept) H → va_D A (mW a cI cZ mPeople mHours mGrains mKind mWind mWeight mSort mOwner mNow_4 mReadKind mReadWind mReadGrain mReadPeople mReadHours mReadGrains mText mLength mAt mFaultAt mMoved_4 mActs mNext mRow mSeen mSeenKind mSeenLift mSeenFlew mSeed mIsKept mKept) → va_S A s.heap H locs → lv_has ls 4 [(3, .int y3_4), (2, .int y2_4), (0, .ref (a 0)), (1, .int p1)] → W p l e (headSpec wsX12_votesFor ({ frames := 7, cells := 0, slots := 0, locals := 166 } : Room)).room s m ([.ref (a 0), .int p1] : List Value).toArray below meth c H locs 0 0 (MQ below (wQi D (mW a cI cZ mPeople mHours mGrains mKind mWind mWeight mSort mOwner mNow mReadKind mReadWind mReadGrain mReadPeople mReadHours mReadGrains mText mLength mAt mFaultAt mMoved mActs mNext mRow mSeen mSeenKind mSeenLift mSeenFlew mSeed mIsKept mKept) (mW a cI cZ mPeople mHours mGrains mKind mWind mWeight mSort mOwner mNow_r mReadKind mReadWind mReadGrain mReadPeople mReadHours mReadGrains mText mLength mAt mFaultAt mMoved_r mActs mNext mRow mSeen mSeenKind mSeenLift mSeenFlew mSeed mIsKept mKept) s.heap.size rv) ([.ref (a 0), .int p1] : List Value).toArray s 0 0 (va_A (mW a cI cZ mPeople mHours mGrains mKind mWind mWeight mSort mOwner mNow mReadKind mReadWind mReadGrain mReadPeople mReadHours mReadGrains mText mLength mAt mFaultAt mMoved mActs mNext mRow mSeen mSeenKind mSeenLift mSeenFlew mSeed mIsKept mKept) s.heap.size)) (F0 m 35 ls [])) → W p l e (headSpec wsX12_votesFor ({ frames := 7, cells := 0, slots := 0, locals := 166 } : Room)).room s m ([.ref (a 0), .int p1] : List Value).toArray below meth c H locs 0 0 (MQ below (wQi D (mW a cI cZ mPeople mHours mGrains mKind mWind mWeight mSort mOwner mNow mReadKind mReadWind mReadGrain mReadPeople mReadHours mReadGrains mText mLength mAt mFaultAt mMoved mActs mNext mRow mSeen mSeenKind mSeenLift mSeenFlew mSeed mIsKept mKept) (mW a cI cZ mPeople mHours mGrains mKind mWind mWeight mSort mOwner mNow_r mReadKind mReadWind mReadGrain mReadPeople mReadHours mReadGrains mText mLength mAt mFaultAt mMoved_r mActs mNext mRow mSeen mSeenKind mSeenLift mSeenFlew mSeed mIsKept mKept) s.heap.size rv) ([.ref (a 0), .int p1] : List Value).toArray s 0 0 (va_A (mW a cI cZ mPeople mHours mGrains mKind mWind mWeight mSort mOwner mNow mReadKind mReadWind mReadGrain mReadPeople mReadHours mReadGrains mText mLength mAt mFaultAt mMoved mActs mNext mRow mSeen mSeenKind mSeenLift mSeenFlew mSeed mIsKept mKept) s.heap.size)) (F0 m 4 ls []) := by
    intro n
    induction n with
    | zero => intro _ _ _ _ _ _ _ _ h; rw [mm_votesFor_L4.eq_1] at h; cases h
    | succ n ih =>
      intro x3_4 x2_4 mNow_4x mMoved_4x H locs ls kx h hP hD hS hl hk
      rw [mm_votesFor_L4.eq_2] at h
      refine lv_iload_n hx hb dX12_votesFor_4 rfl (lv_at hl 0 rfl) ?_
      refine lv_aload_n hx hb dX12_votesFor_5 rfl (lv_at hl 2 rfl) ?_
      refine va_get (D := D) (ci := 5) (v := .int mPeople) (C := RX12) (T := TX12) (N := 30) hx hb hts hiX12 hown hK.1 hP 0 rfl rfl 0 (by decide) (hts (.fieldLink RX12 99 "WinnowedGuiltModel" "people" "I") (by decide +kernel)) (fun _ h9 => h9) rfl dX12_votesFor_6 ?_
      refine lv_icmp_ge (tgt := 35) hx hb dX12_votesFor_9 (by decide) (fun c1 => ?_) (fun c1 => ?_)
      · have h := iT c1 h
        exact hk _ _ _ _ _ _ _ h hP hD hS (lv_sub hl [0, 1, 2, 3] rfl)
      · have h := iF c1 h
        refine lv_iload_n hx hb dX12_votesFor_12 rfl (lv_at hl 1 rfl) ?_
        refine lv_aload_n hx hb dX12_votesFor_13 rfl (lv_at hl 2 rfl) ?_
        refine lv_iload_n hx hb dX12_votesFor_14 rfl (lv_at hl 0 rfl) ?_
        obtain ⟨q2, hq2, h⟩ := bS h
        refine wcI (va_runV (As := [.int x3_4]) (rest := [.int x2_4]) ⟨hx, hb, hml, hown, hts⟩ (c_mm_voteOf l D cI cJ cZ a mPeople mHours mGrains mKind mWind mWeight mSort mOwner mNow_4x mReadKind mReadWind mReadGrain mReadPeople mReadHours mReadGrains mText mLength mAt mFaultAt mMoved_4x mActs mNext mRow mSeen mSeenKind mSeenLift mSeenFlew mSeed mIsKept mKept H.size x3_4 q2.1 q2.2.1 q2.2.2 hq2) (cwV 1 hts gX12_votesFor_X12_voteOf rfl rfl rfl (by decide +kernel) ⟨Nat.le_of_ble_eq_true rfl, Nat.le_of_ble_eq_true rfl⟩) (wPreV hK hP hD (ci := 5) (q0 := 0) rfl rfl) rfl rfl hl.1 rfl (lv_room (Nat.le_of_ble_eq_true rfl)) dX12_votesFor_15 ⟨Nat.zero_le _, Nat.zero_le _⟩) hD hS hA (fun H locs hP hD hS => ?_)
        have hP : va_P D vwCl (mW a cI cZ mPeople mHours mGrains mKind mWind mWeight mSort mOwner q2.2.1 mReadKind mReadWind mReadGrain mReadPeople mReadHours mReadGrains mText mLength mAt mFaultAt q2.2.2 mActs mNext mRow mSeen mSeenKind mSeenLift mSeenFlew mSeed mIsKept mKept) H := hP
        have hD : va_D A (mW a cI cZ mPeople mHours mGrains mKind mWind mWeight mSort mOwner q2.2.1 mReadKind mReadWind mReadGrain mReadPeople mReadHours mReadGrains mText mLength mAt mFaultAt q2.2.2 mActs mNext mRow mSeen mSeenKind mSeenLift mSeenFlew mSeed mIsKept mKept) := hD
        refine lv_iload_n hx hb dX12_votesFor_18 rfl (lv_at hl 3 rfl) ?_
        refine lv_icmp_ne (tgt := 26) hx hb dX12_votesFor_19 (by decide) (fun c3 => ?_) (fun c3 => ?_)
        · have h := iF c3 h
          refine lv_iconst (v := 0) hx hb dX12_votesFor_26 (by decide) ?_
          refine lv_iadd hx hb dX12_votesFor_27 ?_
          refine lv_istore_n (lv' := [(2, .int (x2_4 + 0)), (3, .int x3_4), (0, .ref (a 0)), (1, .int p1)]) hx hb dX12_votesFor_28 rfl hl (by decide) rfl (fun ls hl => ?_)
          refine lv_iinc (v := (x3_4 + 1)) (lv' := [(3, .int (x3_4 + 1)), (2, .int (x2_4 + 0)), (0, .ref (a 0)), (1, .int p1)]) hx hb dX12_votesFor_29 hl (k := 1) rfl rfl (by decide) rfl (fun ls hl => ?_)
          refine lv_goto (tgt := 4) hx hb dX12_votesFor_32 (by decide) ?_
          exact ih _ _ _ _ _ _ _ _ h hP hD hS (lv_sub hl [0, 1, 2, 3] rfl) hk
        · have h := iT c3 h
          refine lv_iconst (v := 1) hx hb dX12_votesFor_22 (by decide) ?_
          refine lv_goto (tgt := 27) hx hb dX12_votesFor_23 (by decide) ?_
          refine lv_iadd hx hb dX12_votesFor_27 ?_
          refine lv_istore_n (lv' := [(2, .int (x2_4 + 1)), (3, .int x3_4), (0, .ref (a 0)), (1, .int p1)]) hx hb dX12_votesFor_28 rfl hl (by decide) rfl (fun ls hl => ?_)
          refine lv_iinc (v := (x3_4 + 1)) (lv' := [(3, .int (x3_4 + 1)), (2, .int (x2_4 + 1)), (0, .ref (a 0)), (1, .int p1)]) hx hb dX12_votesFor_29 hl (k := 1) rfl rfl (by decide) rfl (fun ls hl => ?_)
          refine lv_goto (tgt := 4) hx hb dX12_votesFor_32 (by decide) ?_
          exact ih _ _ _ _ _ _ _ _ h hP hD hS (lv_sub hl [0, 1, 2, 3] rfl) hk
  refine L4 _ _ _ _ _ _ _ _ _ h hP hD hS hl (fun y3_4 y2_4 mNow_4 mMoved_4 H locs ls h hP hD hS hl => ?_)
  refine lv_iload_n hx hb dX12_votesFor_35 rfl (lv_at hl 1 rfl) ?_
  cases h
  subst hAe
  exact W.iret hx hb hr (fun t ht _ => ⟨⟨_, (), rfl, rfl, by rw [ht]; exact hP, hD⟩, hS.F ht⟩) hS.2.2 dX12_votesFor_36

set_option maxHeartbeats 4000000 in
set_option maxRecDepth 100000 in
theorem c_mm_votes (l : Launch) (D : va_G) (cI cJ cZ : ClassId) (a : Nat → Nat) (mPeople : Int32) (mHours : Int32) (mGrains : Int32) (mKind : Nat → Int32) (mWind : Nat → Int32) (mWeight : Nat → Int32) (mSort : Nat → Int32) (mOwner : Nat → Int32) (mNow : Nat → Int32) (mReadKind : Nat → Int32) (mReadWind : Nat → Int32) (mReadGrain : Nat → Int32) (mReadPeople : Int32) (mReadHours : Int32) (mReadGrains : Int32) (mText : Nat → Int32) (mLength : Int32) (mAt : Int32) (mFaultAt : Int32) (mMoved : Nat → Int32) (mActs : Int32) (mNext : Int32) (mRow : Nat → Int32) (mSeen : Int32) (mSeenKind : Nat → Int32) (mSeenLift : Nat → Int32) (mSeenFlew : Nat → Int32) (mSeed : Int64) (mIsKept : Nat → Int32) (mKept : Nat → Int32)  (sz : Nat) (p1 : Int32) (rv : Int32) (mNow_r : Nat → Int32) (mMoved_r : Nat → Int32) (h : mm_votes mPeople mHours mGrains mKind mWind mWeight mSort mOwner mNow mMoved p1 = some (rv, mNow_r, mMoved_r)) : Met l yX12_votes wsX12_votes ({ frames := 8, cells := 0, slots := 0, locals := 189 } : Room) (wPc D cI cJ cZ (mW a cI cZ mPeople mHours mGrains mKind mWind mWeight mSort mOwner mNow mReadKind mReadWind mReadGrain mReadPeople mReadHours mReadGrains mText mLength mAt mFaultAt mMoved mActs mNext mRow mSeen mSeenKind mSeenLift mSeenFlew mSeed mIsKept mKept) sz [.ref (a 0), .int p1]) (wQi D (mW a cI cZ mPeople mHours mGrains mKind mWind mWeight mSort mOwner mNow mReadKind mReadWind mReadGrain mReadPeople mReadHours mReadGrains mText mLength mAt mFaultAt mMoved mActs mNext mRow mSeen mSeenKind mSeenLift mSeenFlew mSeed mIsKept mKept) (mW a cI cZ mPeople mHours mGrains mKind mWind mWeight mSort mOwner mNow_r mReadKind mReadWind mReadGrain mReadPeople mReadHours mReadGrains mText mLength mAt mFaultAt mMoved_r mActs mNext mRow mSeen mSeenKind mSeenLift mSeenFlew mSeed mIsKept mKept) sz rv) 0 0 (va_A (mW a cI cZ mPeople mHours mGrains mKind mWind mWeight mSort mOwner mNow mReadKind mReadWind mReadGrain mReadPeople mReadHours mReadGrains mText mLength mAt mFaultAt mMoved mActs mNext mRow mSeen mSeenKind mSeenLift mSeenFlew mSeed mIsKept mKept) sz) := by
  unfold mm_votes at h
  refine Met.ofW (cc := cX12_votes) (maxL := 2) (ret := (some .int)) (by decide) rfl ?_
  intro p e s m args below meth c s₁ B hml hv
  obtain ⟨rfl, hsz, hP, hK, hD0⟩ := hv
  have hx := B.exec
  have hb := B.bytes
  have hr := B.returns
  have hts := atoms_spec (ws := wsX12_votes) B.pre
  have hown : s.vm.findClass RX12 = some m.cls := findClass_of_methodNamed B.named
  have hlocks := B.notSynchronized
  subst hsz
  have hD := hD0.self (sz := s.heap.size)
  have hA : ∀ q : Nat, s.heap.size ≤ q → va_A (mW a cI cZ mPeople mHours mGrains mKind mWind mWeight mSort mOwner mNow mReadKind mReadWind mReadGrain mReadPeople mReadHours mReadGrains mText mLength mAt mFaultAt mMoved mActs mNext mRow mSeen mSeenKind mSeenLift mSeenFlew mSeed mIsKept mKept) s.heap.size q := fun q h => Or.inr h
  have hS : va_S (va_A (mW a cI cZ mPeople mHours mGrains mKind mWind mWeight mSort mOwner mNow mReadKind mReadWind mReadGrain mReadPeople mReadHours mReadGrains mText mLength mAt mFaultAt mMoved mActs mNext mRow mSeen mSeenKind mSeenLift mSeenFlew mSeed mIsKept mKept) s.heap.size) s.heap s.heap [] := va_S.rf
  obtain ⟨A, hAe⟩ : ∃ A, A = va_A (mW a cI cZ mPeople mHours mGrains mKind mWind mWeight mSort mOwner mNow mReadKind mReadWind mReadGrain mReadPeople mReadHours mReadGrains mText mLength mAt mFaultAt mMoved mActs mNext mRow mSeen mSeenKind mSeenLift mSeenFlew mSeed mIsKept mKept) s.heap.size := ⟨_, rfl⟩
  rw [← hAe] at hD hA hS
  have hl := lv_entry ([.ref (a 0), .int p1]) (n := 2) (Nat.le_of_ble_eq_true rfl)
  rw [lg_entry_eq]
  generalize (lg_sl ([.ref (a 0), .int p1]) ++ List.replicate (2 - (lg_sl ([.ref (a 0), .int p1])).length) Slot.unset).toArray = ls at hl ⊢
  have hl : lv_has ls 2 [(0, .ref (a 0)), (1, .int p1)] := hl
  refine lv_aload_n hx hb dX12_votes_0 rfl (lv_at hl 0 rfl) ?_
  refine lv_iload_n hx hb dX12_votes_1 rfl (lv_at hl 1 rfl) ?_
  obtain ⟨q1, hq1, h⟩ := bS h
  refine rcI (va_runV (As := [.int p1]) (rest := []) ⟨hx, hb, hml, hown, hts⟩ (c_mm_isPerson l D cI cJ cZ a mPeople mHours mGrains mKind mWind mWeight mSort mOwner mNow mReadKind mReadWind mReadGrain mReadPeople mReadHours mReadGrains mText mLength mAt mFaultAt mMoved mActs mNext mRow mSeen mSeenKind mSeenLift mSeenFlew mSeed mIsKept mKept s.heap hP p1 q1 hq1) (cwV 1 hts gX12_votes_X12_isPerson rfl rfl rfl (by decide +kernel) ⟨Nat.le_of_ble_eq_true rfl, Nat.le_of_ble_eq_true rfl⟩) (rPreV hK hP (ci := 5) (q0 := 0) rfl rfl) rfl rfl hl.1 rfl (lv_room (Nat.le_of_ble_eq_true rfl)) dX12_votes_2 ⟨Nat.zero_le _, Nat.zero_le _⟩) ?_
  refine lv_if_eq (tgt := 16) hx hb dX12_votes_5 (by decide) (fun c2 => ?_) (fun c2 => ?_)
  · have h := iT c2 h
    refine lv_iconst (v := (-1)) hx hb dX12_votes_16 (by decide) ?_
    cases h
    subst hAe
    exact W.iret hx hb hr (fun t ht _ => ⟨⟨_, (), rfl, rfl, by rw [ht]; exact hP, hD⟩, hS.F ht⟩) hS.2.2 dX12_votes_17
  · have h := iF c2 h
    refine lv_aload_n hx hb dX12_votes_8 rfl (lv_at hl 0 rfl) ?_
    refine lv_iload_n hx hb dX12_votes_9 rfl (lv_at hl 1 rfl) ?_
    obtain ⟨q3, hq3, h⟩ := bS h
    refine wcI (va_runV (As := [.int p1]) (rest := []) ⟨hx, hb, hml, hown, hts⟩ (c_mm_votesFor l D cI cJ cZ a mPeople mHours mGrains mKind mWind mWeight mSort mOwner mNow mReadKind mReadWind mReadGrain mReadPeople mReadHours mReadGrains mText mLength mAt mFaultAt mMoved mActs mNext mRow mSeen mSeenKind mSeenLift mSeenFlew mSeed mIsKept mKept s.heap.size p1 q3.1 q3.2.1 q3.2.2 hq3) (cwV 1 hts gX12_votes_X12_votesFor rfl rfl rfl (by decide +kernel) ⟨Nat.le_of_ble_eq_true rfl, Nat.le_of_ble_eq_true rfl⟩) (wPreV hK hP hD (ci := 5) (q0 := 0) rfl rfl) rfl rfl hl.1 rfl (lv_room (Nat.le_of_ble_eq_true rfl)) dX12_votes_10 ⟨Nat.zero_le _, Nat.zero_le _⟩) hD hS hA (fun H locs hP hD hS => ?_)
    have hP : va_P D vwCl (mW a cI cZ mPeople mHours mGrains mKind mWind mWeight mSort mOwner q3.2.1 mReadKind mReadWind mReadGrain mReadPeople mReadHours mReadGrains mText mLength mAt mFaultAt q3.2.2 mActs mNext mRow mSeen mSeenKind mSeenLift mSeenFlew mSeed mIsKept mKept) H := hP
    have hD : va_D A (mW a cI cZ mPeople mHours mGrains mKind mWind mWeight mSort mOwner q3.2.1 mReadKind mReadWind mReadGrain mReadPeople mReadHours mReadGrains mText mLength mAt mFaultAt q3.2.2 mActs mNext mRow mSeen mSeenKind mSeenLift mSeenFlew mSeed mIsKept mKept) := hD
    refine lv_goto (tgt := 17) hx hb dX12_votes_13 (by decide) ?_
    cases h
    subst hAe
    exact W.iret hx hb hr (fun t ht _ => ⟨⟨_, (), rfl, rfl, by rw [ht]; exact hP, hD⟩, hS.F ht⟩) hS.2.2 dX12_votes_17

set_option maxHeartbeats 4000000 in
set_option maxRecDepth 100000 in
theorem c_mm_chosen (l : Launch) (D : va_G) (cI cJ cZ : ClassId) (a : Nat → Nat) (mPeople : Int32) (mHours : Int32) (mGrains : Int32) (mKind : Nat → Int32) (mWind : Nat → Int32) (mWeight : Nat → Int32) (mSort : Nat → Int32) (mOwner : Nat → Int32) (mNow : Nat → Int32) (mReadKind : Nat → Int32) (mReadWind : Nat → Int32) (mReadGrain : Nat → Int32) (mReadPeople : Int32) (mReadHours : Int32) (mReadGrains : Int32) (mText : Nat → Int32) (mLength : Int32) (mAt : Int32) (mFaultAt : Int32) (mMoved : Nat → Int32) (mActs : Int32) (mNext : Int32) (mRow : Nat → Int32) (mSeen : Int32) (mSeenKind : Nat → Int32) (mSeenLift : Nat → Int32) (mSeenFlew : Nat → Int32) (mSeed : Int64) (mIsKept : Nat → Int32) (mKept : Nat → Int32)  (sz : Nat)  (rv : Int32) (mNow_r : Nat → Int32) (mMoved_r : Nat → Int32) (h : mm_chosen mPeople mHours mGrains mKind mWind mWeight mSort mOwner mNow mMoved = some (rv, mNow_r, mMoved_r)) : Met l yX12_chosen wsX12_chosen ({ frames := 8, cells := 0, slots := 0, locals := 189 } : Room) (wPc D cI cJ cZ (mW a cI cZ mPeople mHours mGrains mKind mWind mWeight mSort mOwner mNow mReadKind mReadWind mReadGrain mReadPeople mReadHours mReadGrains mText mLength mAt mFaultAt mMoved mActs mNext mRow mSeen mSeenKind mSeenLift mSeenFlew mSeed mIsKept mKept) sz [.ref (a 0)]) (wQi D (mW a cI cZ mPeople mHours mGrains mKind mWind mWeight mSort mOwner mNow mReadKind mReadWind mReadGrain mReadPeople mReadHours mReadGrains mText mLength mAt mFaultAt mMoved mActs mNext mRow mSeen mSeenKind mSeenLift mSeenFlew mSeed mIsKept mKept) (mW a cI cZ mPeople mHours mGrains mKind mWind mWeight mSort mOwner mNow_r mReadKind mReadWind mReadGrain mReadPeople mReadHours mReadGrains mText mLength mAt mFaultAt mMoved_r mActs mNext mRow mSeen mSeenKind mSeenLift mSeenFlew mSeed mIsKept mKept) sz rv) 0 0 (va_A (mW a cI cZ mPeople mHours mGrains mKind mWind mWeight mSort mOwner mNow mReadKind mReadWind mReadGrain mReadPeople mReadHours mReadGrains mText mLength mAt mFaultAt mMoved mActs mNext mRow mSeen mSeenKind mSeenLift mSeenFlew mSeed mIsKept mKept) sz) := by
  unfold mm_chosen at h
  refine Met.ofW (cc := cX12_chosen) (maxL := 3) (ret := (some .int)) (by decide) rfl ?_
  intro p e s m args below meth c s₁ B hml hv
  obtain ⟨rfl, hsz, hP, hK, hD0⟩ := hv
  have hx := B.exec
  have hb := B.bytes
  have hr := B.returns
  have hts := atoms_spec (ws := wsX12_chosen) B.pre
  have hown : s.vm.findClass RX12 = some m.cls := findClass_of_methodNamed B.named
  have hlocks := B.notSynchronized
  subst hsz
  have hD := hD0.self (sz := s.heap.size)
  have hA : ∀ q : Nat, s.heap.size ≤ q → va_A (mW a cI cZ mPeople mHours mGrains mKind mWind mWeight mSort mOwner mNow mReadKind mReadWind mReadGrain mReadPeople mReadHours mReadGrains mText mLength mAt mFaultAt mMoved mActs mNext mRow mSeen mSeenKind mSeenLift mSeenFlew mSeed mIsKept mKept) s.heap.size q := fun q h => Or.inr h
  have hS : va_S (va_A (mW a cI cZ mPeople mHours mGrains mKind mWind mWeight mSort mOwner mNow mReadKind mReadWind mReadGrain mReadPeople mReadHours mReadGrains mText mLength mAt mFaultAt mMoved mActs mNext mRow mSeen mSeenKind mSeenLift mSeenFlew mSeed mIsKept mKept) s.heap.size) s.heap s.heap [] := va_S.rf
  obtain ⟨A, hAe⟩ : ∃ A, A = va_A (mW a cI cZ mPeople mHours mGrains mKind mWind mWeight mSort mOwner mNow mReadKind mReadWind mReadGrain mReadPeople mReadHours mReadGrains mText mLength mAt mFaultAt mMoved mActs mNext mRow mSeen mSeenKind mSeenLift mSeenFlew mSeed mIsKept mKept) s.heap.size := ⟨_, rfl⟩
  rw [← hAe] at hD hA hS
  have hl := lv_entry ([.ref (a 0)]) (n := 3) (Nat.le_of_ble_eq_true rfl)
  rw [lg_entry_eq]
  generalize (lg_sl ([.ref (a 0)]) ++ List.replicate (3 - (lg_sl ([.ref (a 0)])).length) Slot.unset).toArray = ls at hl ⊢
  have hl : lv_has ls 3 [(0, .ref (a 0))] := hl
  have hiX12 : ∀ w ∈ u_ws RX12 TX12 30, w ∈ wsX12_chosen := fun w hw => List.mem_cons_of_mem _ (List.mem_append_right _ hw)
  refine lv_bipush (v := (-9)) hx hb dX12_chosen_0 (by decide) ?_
  refine lv_istore_n (lv' := [(1, .int (-9)), (0, .ref (a 0))]) hx hb dX12_chosen_2 rfl hl (by decide) rfl (fun ls hl => ?_)
  refine lv_iconst (v := 0) hx hb dX12_chosen_3 (by decide) ?_
  refine lv_istore_n (lv' := [(2, .int 0), (1, .int (-9)), (0, .ref (a 0))]) hx hb dX12_chosen_4 rfl hl (by decide) rfl (fun ls hl => ?_)
  have L5 : ∀ (n : Nat) (x2_5 : Int32) (x1_5 : Int32) (mNow_5x : (Nat → Int32)) (mMoved_5x : (Nat → Int32)) (H : Heap) (locs : List Loc) (ls : Array Slot) (kx : Int32 → Int32 → (Nat → Int32) → (Nat → Int32) → Option (Int32 × (Nat → Int32) × (Nat → Int32))), mm_chosen_L5 mPeople mHours mGrains mKind mWind mWeight mSort mOwner kx n x2_5 x1_5 mNow_5x mMoved_5x = some (rv, mNow_r, mMoved_r) → va_P D vwCl (mW a cI cZ mPeople mHours mGrains mKind mWind mWeight mSort mOwner mNow_5x mReadKind mReadWind mReadGrain mReadPeople mReadHours mReadGrains mText mLength mAt mFaultAt mMoved_5x mActs mNext mRow mSeen mSeenKind mSeenLift mSeenFlew mSeed mIsKept mKept) H → va_D A (mW a cI cZ mPeople mHours mGrains mKind mWind mWeight mSort mOwner mNow_5x mReadKind mReadWind mReadGrain mReadPeople mReadHours mReadGrains mText mLength mAt mFaultAt mMoved_5x mActs mNext mRow mSeen mSeenKind mSeenLift mSeenFlew mSeed mIsKept mKept) → va_S A s.heap H locs → lv_has ls 3 [(2, .int x2_5), (1, .int x1_5), (0, .ref (a 0))] → (∀ (y2_5 : Int32) (y1_5 : Int32) (mNow_5 : (Nat → Int32)) (mMoved_5 : (Nat → Int32)) (H : Heap) (locs : List Loc) (ls : Array Slot), kx y2_5 y1_5 mNow_5 mMoved_5 = some (rv, mNow_r, mMoved_r) → va_P D vwCl (mW a cI cZ mPeople mHours mGrains mKind mWind mWeight mSort mOwner mNow_5 mReadKind mReadWind mReadGrain mReadPeople mReadHours mReadGrains mText mLength mAt mFaultAt mMoved_5 mActs mNext mRow mSeen mSeenKind mSeenLift mSeenFlew mSeed mIsKept mKept) H → va_D A (mW a cI cZ mPeople mHours mGrains mKind mWind mWeight mSort mOwner mNow_5 mReadKind mReadWind mReadGrain mReadPeople mReadHours mReadGrains mText mLength mAt mFaultAt mMoved_5 mActs mNext mRow mSeen mSeenKind mSeenLift mSeenFlew mSeed mIsKept mKept) → va_S A s.heap H locs → lv_has ls 3 [(2, .int y2_5), (1, .int y1_5), (0, .ref (a 0))] → W p l e (headSpec wsX12_chosen ({ frames := 8, cells := 0, slots := 0, locals := 189 } : Room)).room s m ([.ref (a 0)] : List Value).toArray below meth c H locs 0 0 (MQ below (wQi D (mW a cI cZ mPeople mHours mGrains mKind mWind mWeight mSort mOwner mNow mReadKind mReadWind mReadGrain mReadPeople mReadHours mReadGrains mText mLength mAt mFaultAt mMoved mActs mNext mRow mSeen mSeenKind mSeenLift mSeenFlew mSeed mIsKept mKept) (mW a cI cZ mPeople mHours mGrains mKind mWind mWeight mSort mOwner mNow_r mReadKind mReadWind mReadGrain mReadPeople mReadHours mReadGrains mText mLength mAt mFaultAt mMoved_r mActs mNext mRow mSeen mSeenKind mSeenLift mSeenFlew mSeed mIsKept mKept) s.heap.size rv) ([.ref (a 0)] : List Value).toArray s 0 0 (va_A (mW a cI cZ mPeople mHours mGrains mKind mWind mWeight mSort mOwner mNow mReadKind mReadWind mReadGrain mReadPeople mReadHours mReadGrains mText mLength mAt mFaultAt mMoved mActs mNext mRow mSeen mSeenKind mSeenLift mSeenFlew mSeed mIsKept mKept) s.heap.size)) (F0 m 44 ls [])) → W p l e (headSpec wsX12_chosen ({ frames := 8, cells := 0, slots := 0, locals := 189 } : Room)).room s m ([.ref (a 0)] : List Value).toArray below meth c H locs 0 0 (MQ below (wQi D (mW a cI cZ mPeople mHours mGrains mKind mWind mWeight mSort mOwner mNow mReadKind mReadWind mReadGrain mReadPeople mReadHours mReadGrains mText mLength mAt mFaultAt mMoved mActs mNext mRow mSeen mSeenKind mSeenLift mSeenFlew mSeed mIsKept mKept) (mW a cI cZ mPeople mHours mGrains mKind mWind mWeight mSort mOwner mNow_r mReadKind mReadWind mReadGrain mReadPeople mReadHours mReadGrains mText mLength mAt mFaultAt mMoved_r mActs mNext mRow mSeen mSeenKind mSeenLift mSeenFlew mSeed mIsKept mKept) s.heap.size rv) ([.ref (a 0)] : List Value).toArray s 0 0 (va_A (mW a cI cZ mPeople mHours mGrains mKind mWind mWeight mSort mOwner mNow mReadKind mReadWind mReadGrain mReadPeople mReadHours mReadGrains mText mLength mAt mFaultAt mMoved mActs mNext mRow mSeen mSeenKind mSeenLift mSeenFlew mSeed mIsKept mKept) s.heap.size)) (F0 m 5 ls []) := by
    intro n
    induction n with
    | zero => intro _ _ _ _ _ _ _ _ h; rw [mm_chosen_L5.eq_1] at h; cases h
    | succ n ih =>
      intro x2_5 x1_5 mNow_5x mMoved_5x H locs ls kx h hP hD hS hl hk
      rw [mm_chosen_L5.eq_2] at h
      refine lv_iload_n hx hb dX12_chosen_5 rfl (lv_at hl 0 rfl) ?_
      refine lv_aload_n hx hb dX12_chosen_6 rfl (lv_at hl 2 rfl) ?_
      refine va_get (D := D) (ci := 5) (v := .int mPeople) (C := RX12) (T := TX12) (N := 30) hx hb hts hiX12 hown hK.1 hP 0 rfl rfl 0 (by decide) (hts (.fieldLink RX12 99 "WinnowedGuiltModel" "people" "I") (by decide +kernel)) (fun _ h9 => h9) rfl dX12_chosen_7 ?_
      refine lv_icmp_ge (tgt := 44) hx hb dX12_chosen_10 (by decide) (fun c1 => ?_) (fun c1 => ?_)
      · have h := iT c1 h
        exact hk _ _ _ _ _ _ _ h hP hD hS (lv_sub hl [0, 1, 2] rfl)
      · have h := iF c1 h
        refine lv_iload_n hx hb dX12_chosen_13 rfl (lv_at hl 1 rfl) ?_
        refine lv_bipush (v := (-9)) hx hb dX12_chosen_14 (by decide) ?_
        refine lv_icmp_eq (tgt := 32) hx hb dX12_chosen_16 (by decide) (fun c2 => ?_) (fun c2 => ?_)
        · have h := iT c2 h
          refine lv_iload_n hx hb dX12_chosen_32 rfl (lv_at hl 0 rfl) ?_
          refine lv_goto (tgt := 37) hx hb dX12_chosen_33 (by decide) ?_
          refine lv_istore_n (lv' := [(1, .int x2_5), (2, .int x2_5), (0, .ref (a 0))]) hx hb dX12_chosen_37 rfl hl (by decide) rfl (fun ls hl => ?_)
          refine lv_iinc (v := (x2_5 + 1)) (lv' := [(2, .int (x2_5 + 1)), (1, .int x2_5), (0, .ref (a 0))]) hx hb dX12_chosen_38 hl (k := 1) rfl rfl (by decide) rfl (fun ls hl => ?_)
          refine lv_goto (tgt := 5) hx hb dX12_chosen_41 (by decide) ?_
          exact ih _ _ _ _ _ _ _ _ h hP hD hS (lv_sub hl [0, 1, 2] rfl) hk
        · have h := iF c2 h
          refine lv_aload_n hx hb dX12_chosen_19 rfl (lv_at hl 2 rfl) ?_
          refine lv_iload_n hx hb dX12_chosen_20 rfl (lv_at hl 0 rfl) ?_
          obtain ⟨q3, hq3, h⟩ := bS h
          refine wcI (va_runV (As := [.int x2_5]) (rest := []) ⟨hx, hb, hml, hown, hts⟩ (c_mm_votesFor l D cI cJ cZ a mPeople mHours mGrains mKind mWind mWeight mSort mOwner mNow_5x mReadKind mReadWind mReadGrain mReadPeople mReadHours mReadGrains mText mLength mAt mFaultAt mMoved_5x mActs mNext mRow mSeen mSeenKind mSeenLift mSeenFlew mSeed mIsKept mKept H.size x2_5 q3.1 q3.2.1 q3.2.2 hq3) (cwV 1 hts gX12_chosen_X12_votesFor rfl rfl rfl (by decide +kernel) ⟨Nat.le_of_ble_eq_true rfl, Nat.le_of_ble_eq_true rfl⟩) (wPreV hK hP hD (ci := 5) (q0 := 0) rfl rfl) rfl rfl hl.1 rfl (lv_room (Nat.le_of_ble_eq_true rfl)) dX12_chosen_21 ⟨Nat.zero_le _, Nat.zero_le _⟩) hD hS hA (fun H locs hP hD hS => ?_)
          have hP : va_P D vwCl (mW a cI cZ mPeople mHours mGrains mKind mWind mWeight mSort mOwner q3.2.1 mReadKind mReadWind mReadGrain mReadPeople mReadHours mReadGrains mText mLength mAt mFaultAt q3.2.2 mActs mNext mRow mSeen mSeenKind mSeenLift mSeenFlew mSeed mIsKept mKept) H := hP
          have hD : va_D A (mW a cI cZ mPeople mHours mGrains mKind mWind mWeight mSort mOwner q3.2.1 mReadKind mReadWind mReadGrain mReadPeople mReadHours mReadGrains mText mLength mAt mFaultAt q3.2.2 mActs mNext mRow mSeen mSeenKind mSeenLift mSeenFlew mSeed mIsKept mKept) := hD
          refine lv_aload_n hx hb dX12_chosen_24 rfl (lv_at hl 2 rfl) ?_
          refine lv_iload_n hx hb dX12_chosen_25 rfl (lv_at hl 1 rfl) ?_
          obtain ⟨q4, hq4, h⟩ := bS h
          refine wcI (va_runV (As := [.int x1_5]) (rest := [.int q3.1]) ⟨hx, hb, hml, hown, hts⟩ (c_mm_votesFor l D cI cJ cZ a mPeople mHours mGrains mKind mWind mWeight mSort mOwner q3.2.1 mReadKind mReadWind mReadGrain mReadPeople mReadHours mReadGrains mText mLength mAt mFaultAt q3.2.2 mActs mNext mRow mSeen mSeenKind mSeenLift mSeenFlew mSeed mIsKept mKept H.size x1_5 q4.1 q4.2.1 q4.2.2 hq4) (cwV 1 hts gX12_chosen_X12_votesFor rfl rfl rfl (by decide +kernel) ⟨Nat.le_of_ble_eq_true rfl, Nat.le_of_ble_eq_true rfl⟩) (wPreV hK hP hD (ci := 5) (q0 := 0) rfl rfl) rfl rfl hl.1 rfl (lv_room (Nat.le_of_ble_eq_true rfl)) dX12_chosen_26 ⟨Nat.zero_le _, Nat.zero_le _⟩) hD hS hA (fun H locs hP hD hS => ?_)
          have hP : va_P D vwCl (mW a cI cZ mPeople mHours mGrains mKind mWind mWeight mSort mOwner q4.2.1 mReadKind mReadWind mReadGrain mReadPeople mReadHours mReadGrains mText mLength mAt mFaultAt q4.2.2 mActs mNext mRow mSeen mSeenKind mSeenLift mSeenFlew mSeed mIsKept mKept) H := hP
          have hD : va_D A (mW a cI cZ mPeople mHours mGrains mKind mWind mWeight mSort mOwner q4.2.1 mReadKind mReadWind mReadGrain mReadPeople mReadHours mReadGrains mText mLength mAt mFaultAt q4.2.2 mActs mNext mRow mSeen mSeenKind mSeenLift mSeenFlew mSeed mIsKept mKept) := hD
          refine lv_icmp_le (tgt := 36) hx hb dX12_chosen_29 (by decide) (fun c5 => ?_) (fun c5 => ?_)
          · have h := iT c5 h
            refine lv_iload_n hx hb dX12_chosen_36 rfl (lv_at hl 1 rfl) ?_
            refine lv_istore_n (lv' := [(1, .int x1_5), (2, .int x2_5), (0, .ref (a 0))]) hx hb dX12_chosen_37 rfl hl (by decide) rfl (fun ls hl => ?_)
            refine lv_iinc (v := (x2_5 + 1)) (lv' := [(2, .int (x2_5 + 1)), (1, .int x1_5), (0, .ref (a 0))]) hx hb dX12_chosen_38 hl (k := 1) rfl rfl (by decide) rfl (fun ls hl => ?_)
            refine lv_goto (tgt := 5) hx hb dX12_chosen_41 (by decide) ?_
            exact ih _ _ _ _ _ _ _ _ h hP hD hS (lv_sub hl [0, 1, 2] rfl) hk
          · have h := iF c5 h
            refine lv_iload_n hx hb dX12_chosen_32 rfl (lv_at hl 0 rfl) ?_
            refine lv_goto (tgt := 37) hx hb dX12_chosen_33 (by decide) ?_
            refine lv_istore_n (lv' := [(1, .int x2_5), (2, .int x2_5), (0, .ref (a 0))]) hx hb dX12_chosen_37 rfl hl (by decide) rfl (fun ls hl => ?_)
            refine lv_iinc (v := (x2_5 + 1)) (lv' := [(2, .int (x2_5 + 1)), (1, .int x2_5), (0, .ref (a 0))]) hx hb dX12_chosen_38 hl (k := 1) rfl rfl (by decide) rfl (fun ls hl => ?_)
            refine lv_goto (tgt := 5) hx hb dX12_chosen_41 (by decide) ?_
            exact ih _ _ _ _ _ _ _ _ h hP hD hS (lv_sub hl [0, 1, 2] rfl) hk
  refine L5 _ _ _ _ _ _ _ _ _ h hP hD hS hl (fun y2_5 y1_5 mNow_5 mMoved_5 H locs ls h hP hD hS hl => ?_)
  refine lv_iload_n hx hb dX12_chosen_44 rfl (lv_at hl 1 rfl) ?_
  cases h
  subst hAe
  exact W.iret hx hb hr (fun t ht _ => ⟨⟨_, (), rfl, rfl, by rw [ht]; exact hP, hD⟩, hS.F ht⟩) hS.2.2 dX12_chosen_45

set_option maxHeartbeats 4000000 in
set_option maxRecDepth 100000 in
theorem c_mm_tryThing (l : Launch) (D : va_G) (cI cJ cZ : ClassId) (a : Nat → Nat) (mPeople : Int32) (mHours : Int32) (mGrains : Int32) (mKind : Nat → Int32) (mWind : Nat → Int32) (mWeight : Nat → Int32) (mSort : Nat → Int32) (mOwner : Nat → Int32) (mNow : Nat → Int32) (mReadKind : Nat → Int32) (mReadWind : Nat → Int32) (mReadGrain : Nat → Int32) (mReadPeople : Int32) (mReadHours : Int32) (mReadGrains : Int32) (mText : Nat → Int32) (mLength : Int32) (mAt : Int32) (mFaultAt : Int32) (mMoved : Nat → Int32) (mActs : Int32) (mNext : Int32) (mRow : Nat → Int32) (mSeen : Int32) (mSeenKind : Nat → Int32) (mSeenLift : Nat → Int32) (mSeenFlew : Nat → Int32) (mSeed : Int64) (mIsKept : Nat → Int32) (mKept : Nat → Int32)  (sz : Nat) (p1 : Int32) (p2 : Int32) (rv : Int32) (mNow_r : Nat → Int32) (mMoved_r : Nat → Int32) (h : mm_tryThing mPeople mHours mGrains mKind mWind mWeight mSort mOwner mNow mMoved p1 p2 = some (rv, mNow_r, mMoved_r)) : Met l yX12_tryThing wsX12_tryThing ({ frames := 6, cells := 0, slots := 0, locals := 141 } : Room) (wPc D cI cJ cZ (mW a cI cZ mPeople mHours mGrains mKind mWind mWeight mSort mOwner mNow mReadKind mReadWind mReadGrain mReadPeople mReadHours mReadGrains mText mLength mAt mFaultAt mMoved mActs mNext mRow mSeen mSeenKind mSeenLift mSeenFlew mSeed mIsKept mKept) sz [.ref (a 0), .int p1, .int p2]) (wQi D (mW a cI cZ mPeople mHours mGrains mKind mWind mWeight mSort mOwner mNow mReadKind mReadWind mReadGrain mReadPeople mReadHours mReadGrains mText mLength mAt mFaultAt mMoved mActs mNext mRow mSeen mSeenKind mSeenLift mSeenFlew mSeed mIsKept mKept) (mW a cI cZ mPeople mHours mGrains mKind mWind mWeight mSort mOwner mNow_r mReadKind mReadWind mReadGrain mReadPeople mReadHours mReadGrains mText mLength mAt mFaultAt mMoved_r mActs mNext mRow mSeen mSeenKind mSeenLift mSeenFlew mSeed mIsKept mKept) sz rv) 0 0 (va_A (mW a cI cZ mPeople mHours mGrains mKind mWind mWeight mSort mOwner mNow mReadKind mReadWind mReadGrain mReadPeople mReadHours mReadGrains mText mLength mAt mFaultAt mMoved mActs mNext mRow mSeen mSeenKind mSeenLift mSeenFlew mSeed mIsKept mKept) sz) := by
  unfold mm_tryThing at h
  refine Met.ofW (cc := cX12_tryThing) (maxL := 4) (ret := (some .boolean)) (by decide) rfl ?_
  intro p e s m args below meth c s₁ B hml hv
  obtain ⟨rfl, hsz, hP, hK, hD0⟩ := hv
  have hx := B.exec
  have hb := B.bytes
  have hr := B.returns
  have hts := atoms_spec (ws := wsX12_tryThing) B.pre
  have hown : s.vm.findClass RX12 = some m.cls := findClass_of_methodNamed B.named
  have hlocks := B.notSynchronized
  subst hsz
  have hD := hD0.self (sz := s.heap.size)
  have hA : ∀ q : Nat, s.heap.size ≤ q → va_A (mW a cI cZ mPeople mHours mGrains mKind mWind mWeight mSort mOwner mNow mReadKind mReadWind mReadGrain mReadPeople mReadHours mReadGrains mText mLength mAt mFaultAt mMoved mActs mNext mRow mSeen mSeenKind mSeenLift mSeenFlew mSeed mIsKept mKept) s.heap.size q := fun q h => Or.inr h
  have hS : va_S (va_A (mW a cI cZ mPeople mHours mGrains mKind mWind mWeight mSort mOwner mNow mReadKind mReadWind mReadGrain mReadPeople mReadHours mReadGrains mText mLength mAt mFaultAt mMoved mActs mNext mRow mSeen mSeenKind mSeenLift mSeenFlew mSeed mIsKept mKept) s.heap.size) s.heap s.heap [] := va_S.rf
  obtain ⟨A, hAe⟩ : ∃ A, A = va_A (mW a cI cZ mPeople mHours mGrains mKind mWind mWeight mSort mOwner mNow mReadKind mReadWind mReadGrain mReadPeople mReadHours mReadGrains mText mLength mAt mFaultAt mMoved mActs mNext mRow mSeen mSeenKind mSeenLift mSeenFlew mSeed mIsKept mKept) s.heap.size := ⟨_, rfl⟩
  rw [← hAe] at hD hA hS
  have hl := lv_entry ([.ref (a 0), .int p1, .int p2]) (n := 4) (Nat.le_of_ble_eq_true rfl)
  rw [lg_entry_eq]
  generalize (lg_sl ([.ref (a 0), .int p1, .int p2]) ++ List.replicate (4 - (lg_sl ([.ref (a 0), .int p1, .int p2])).length) Slot.unset).toArray = ls at hl ⊢
  have hl : lv_has ls 4 [(0, .ref (a 0)), (1, .int p1), (2, .int p2)] := hl
  have hiX12 : ∀ w ∈ u_ws RX12 TX12 30, w ∈ wsX12_tryThing := fun w hw => List.mem_cons_of_mem _ (List.mem_append_right _ hw)
  refine lv_iload_n hx hb dX12_tryThing_0 rfl (lv_at hl 1 rfl) ?_
  refine lv_if_ne (tgt := 10) hx hb dX12_tryThing_1 (by decide) (fun c1 => ?_) (fun c1 => ?_)
  · have h := iF c1 h
    refine lv_iload_n hx hb dX12_tryThing_10 rfl (lv_at hl 1 rfl) ?_
    refine lv_iconst (v := 1) hx hb dX12_tryThing_11 (by decide) ?_
    refine lv_icmp_ne (tgt := 24) hx hb dX12_tryThing_12 (by decide) (fun c2 => ?_) (fun c2 => ?_)
    · have h := iF c2 h
      refine lv_iload_n hx hb dX12_tryThing_24 rfl (lv_at hl 1 rfl) ?_
      refine lv_iconst (v := 2) hx hb dX12_tryThing_25 (by decide) ?_
      refine lv_icmp_ne (tgt := 56) hx hb dX12_tryThing_26 (by decide) (fun c3 => ?_) (fun c3 => ?_)
      · have h := iF c3 h
        refine lv_iload_n hx hb dX12_tryThing_56 rfl (lv_at hl 1 rfl) ?_
        refine lv_iconst (v := 3) hx hb dX12_tryThing_57 (by decide) ?_
        refine lv_icmp_ne (tgt := 82) hx hb dX12_tryThing_58 (by decide) (fun c4 => ?_) (fun c4 => ?_)
        · have h := iF c4 h
          refine lv_iconst (v := 0) hx hb dX12_tryThing_82 (by decide) ?_
          refine lv_istore_n (lv' := [(3, .int 0), (0, .ref (a 0)), (1, .int p1), (2, .int p2)]) hx hb dX12_tryThing_83 rfl hl (by decide) rfl (fun ls hl => ?_)
          refine lv_iload_n hx hb dX12_tryThing_84 rfl (lv_at hl 0 rfl) ?_
          refine lv_if_eq (tgt := 111) hx hb dX12_tryThing_85 (by decide) (fun _ => ?_) (fun c => absurd c (by decide))
          refine lv_iload_n hx hb dX12_tryThing_111 rfl (lv_at hl 0 rfl) ?_
          refine lv_if_eq (tgt := 128) hx hb dX12_tryThing_112 (by decide) (fun _ => ?_) (fun c => absurd c (by decide))
          refine lv_iload_n hx hb dX12_tryThing_128 rfl (lv_at hl 0 rfl) ?_
          cases h
          subst hAe
          exact W.zret hx hb hr (by decide) (fun t ht _ => ⟨⟨_, (), rfl, rfl, by rw [ht]; exact hP, hD⟩, hS.F ht⟩) hS.2.2 dX12_tryThing_129
        · have h := iT c4 h
          refine lv_aload_n hx hb dX12_tryThing_61 rfl (lv_at hl 0 rfl) ?_
          refine lv_iload_n hx hb dX12_tryThing_62 rfl (lv_at hl 2 rfl) ?_
          obtain ⟨q5, hq5, h⟩ := bS h
          refine rcI (va_runV (As := [.int p2]) (rest := []) ⟨hx, hb, hml, hown, hts⟩ (c_mm_isPerson l D cI cJ cZ a mPeople mHours mGrains mKind mWind mWeight mSort mOwner mNow mReadKind mReadWind mReadGrain mReadPeople mReadHours mReadGrains mText mLength mAt mFaultAt mMoved mActs mNext mRow mSeen mSeenKind mSeenLift mSeenFlew mSeed mIsKept mKept s.heap hP p2 q5 hq5) (cwV 1 hts gX12_tryThing_X12_isPerson rfl rfl rfl (by decide +kernel) ⟨Nat.le_of_ble_eq_true rfl, Nat.le_of_ble_eq_true rfl⟩) (rPreV hK hP (ci := 5) (q0 := 0) rfl rfl) rfl rfl hl.1 rfl (lv_room (Nat.le_of_ble_eq_true rfl)) dX12_tryThing_63 ⟨Nat.zero_le _, Nat.zero_le _⟩) ?_
          refine lv_if_eq (tgt := 82) hx hb dX12_tryThing_66 (by decide) (fun c6 => ?_) (fun c6 => ?_)
          · have h := iT c6 h
            refine lv_iconst (v := 0) hx hb dX12_tryThing_82 (by decide) ?_
            refine lv_istore_n (lv' := [(3, .int 0), (0, .ref (a 0)), (1, .int p1), (2, .int p2)]) hx hb dX12_tryThing_83 rfl hl (by decide) rfl (fun ls hl => ?_)
            refine lv_iload_n hx hb dX12_tryThing_84 rfl (lv_at hl 0 rfl) ?_
            refine lv_if_eq (tgt := 111) hx hb dX12_tryThing_85 (by decide) (fun _ => ?_) (fun c => absurd c (by decide))
            refine lv_iload_n hx hb dX12_tryThing_111 rfl (lv_at hl 0 rfl) ?_
            refine lv_if_eq (tgt := 128) hx hb dX12_tryThing_112 (by decide) (fun _ => ?_) (fun c => absurd c (by decide))
            refine lv_iload_n hx hb dX12_tryThing_128 rfl (lv_at hl 0 rfl) ?_
            cases h
            subst hAe
            exact W.zret hx hb hr (by decide) (fun t ht _ => ⟨⟨_, (), rfl, rfl, by rw [ht]; exact hP, hD⟩, hS.F ht⟩) hS.2.2 dX12_tryThing_129
          · have h := iF c6 h
            refine lv_aload_n hx hb dX12_tryThing_69 rfl (lv_at hl 0 rfl) ?_
            refine lv_iconst (v := 1) hx hb dX12_tryThing_70 (by decide) ?_
            refine lv_iload_n hx hb dX12_tryThing_71 rfl (lv_at hl 2 rfl) ?_
            obtain ⟨q7, hq7, h⟩ := bS h
            refine rcI (va_runV (As := [.int 1, .int p2]) (rest := []) ⟨hx, hb, hml, hown, hts⟩ (c_mm_isClean l D cI cJ cZ a mPeople mHours mGrains mKind mWind mWeight mSort mOwner mNow mReadKind mReadWind mReadGrain mReadPeople mReadHours mReadGrains mText mLength mAt mFaultAt mMoved mActs mNext mRow mSeen mSeenKind mSeenLift mSeenFlew mSeed mIsKept mKept s.heap hP 1 p2 q7 hq7) (cwV 2 hts gX12_tryThing_X12_isClean rfl rfl rfl (by decide +kernel) ⟨Nat.le_of_ble_eq_true rfl, Nat.le_of_ble_eq_true rfl⟩) (rPreV hK hP (ci := 5) (q0 := 0) rfl rfl) rfl rfl hl.1 rfl (lv_room (Nat.le_of_ble_eq_true rfl)) dX12_tryThing_72 ⟨Nat.zero_le _, Nat.zero_le _⟩) ?_
            refine lv_if_eq (tgt := 82) hx hb dX12_tryThing_75 (by decide) (fun c8 => ?_) (fun c8 => ?_)
            · have h := iT c8 h
              refine lv_iconst (v := 0) hx hb dX12_tryThing_82 (by decide) ?_
              refine lv_istore_n (lv' := [(3, .int 0), (0, .ref (a 0)), (1, .int p1), (2, .int p2)]) hx hb dX12_tryThing_83 rfl hl (by decide) rfl (fun ls hl => ?_)
              refine lv_iload_n hx hb dX12_tryThing_84 rfl (lv_at hl 0 rfl) ?_
              refine lv_if_eq (tgt := 111) hx hb dX12_tryThing_85 (by decide) (fun _ => ?_) (fun c => absurd c (by decide))
              refine lv_iload_n hx hb dX12_tryThing_111 rfl (lv_at hl 0 rfl) ?_
              refine lv_if_eq (tgt := 128) hx hb dX12_tryThing_112 (by decide) (fun _ => ?_) (fun c => absurd c (by decide))
              refine lv_iload_n hx hb dX12_tryThing_128 rfl (lv_at hl 0 rfl) ?_
              cases h
              subst hAe
              exact W.zret hx hb hr (by decide) (fun t ht _ => ⟨⟨_, (), rfl, rfl, by rw [ht]; exact hP, hD⟩, hS.F ht⟩) hS.2.2 dX12_tryThing_129
            · have h := iF c8 h
              refine lv_iconst (v := 1) hx hb dX12_tryThing_78 (by decide) ?_
              refine lv_goto (tgt := 83) hx hb dX12_tryThing_79 (by decide) ?_
              refine lv_istore_n (lv' := [(3, .int 1), (0, .ref (a 0)), (1, .int p1), (2, .int p2)]) hx hb dX12_tryThing_83 rfl hl (by decide) rfl (fun ls hl => ?_)
              refine lv_iload_n hx hb dX12_tryThing_84 rfl (lv_at hl 0 rfl) ?_
              refine lv_if_eq (tgt := 111) hx hb dX12_tryThing_85 (by decide) (fun c => absurd c (by decide)) (fun _ => ?_)
              refine lv_iload_n hx hb dX12_tryThing_88 rfl (lv_at hl 2 rfl) ?_
              refine lv_iconst (v := 1) hx hb dX12_tryThing_89 (by decide) ?_
              refine lv_icmp_ne (tgt := 111) hx hb dX12_tryThing_90 (by decide) (fun _ => ?_) (fun c => absurd c (by rw [c4]; decide))
              refine lv_iload_n hx hb dX12_tryThing_111 rfl (lv_at hl 0 rfl) ?_
              refine lv_if_eq (tgt := 128) hx hb dX12_tryThing_112 (by decide) (fun c => absurd c (by decide)) (fun _ => ?_)
              refine lv_iload_n hx hb dX12_tryThing_115 rfl (lv_at hl 2 rfl) ?_
              refine lv_iconst (v := 2) hx hb dX12_tryThing_116 (by decide) ?_
              refine lv_icmp_ne (tgt := 128) hx hb dX12_tryThing_117 (by decide) (fun _ => ?_) (fun c => absurd c (by rw [c4]; decide))
              refine lv_iload_n hx hb dX12_tryThing_128 rfl (lv_at hl 0 rfl) ?_
              cases h
              subst hAe
              exact W.zret hx hb hr (by decide) (fun t ht _ => ⟨⟨_, (), rfl, rfl, by rw [ht]; exact hP, hD⟩, hS.F ht⟩) hS.2.2 dX12_tryThing_129
      · have h := iT c3 h
        refine lv_aload_n hx hb dX12_tryThing_29 rfl (lv_at hl 0 rfl) ?_
        refine lv_iload_n hx hb dX12_tryThing_30 rfl (lv_at hl 2 rfl) ?_
        obtain ⟨q4, hq4, h⟩ := bS h
        refine rcI (va_runV (As := [.int p2]) (rest := []) ⟨hx, hb, hml, hown, hts⟩ (c_mm_isPerson l D cI cJ cZ a mPeople mHours mGrains mKind mWind mWeight mSort mOwner mNow mReadKind mReadWind mReadGrain mReadPeople mReadHours mReadGrains mText mLength mAt mFaultAt mMoved mActs mNext mRow mSeen mSeenKind mSeenLift mSeenFlew mSeed mIsKept mKept s.heap hP p2 q4 hq4) (cwV 1 hts gX12_tryThing_X12_isPerson rfl rfl rfl (by decide +kernel) ⟨Nat.le_of_ble_eq_true rfl, Nat.le_of_ble_eq_true rfl⟩) (rPreV hK hP (ci := 5) (q0 := 0) rfl rfl) rfl rfl hl.1 rfl (lv_room (Nat.le_of_ble_eq_true rfl)) dX12_tryThing_31 ⟨Nat.zero_le _, Nat.zero_le _⟩) ?_
        refine lv_if_eq (tgt := 52) hx hb dX12_tryThing_34 (by decide) (fun c5 => ?_) (fun c5 => ?_)
        · have h := iT c5 h
          refine lv_iconst (v := 0) hx hb dX12_tryThing_52 (by decide) ?_
          refine lv_goto (tgt := 83) hx hb dX12_tryThing_53 (by decide) ?_
          refine lv_istore_n (lv' := [(3, .int 0), (0, .ref (a 0)), (1, .int p1), (2, .int p2)]) hx hb dX12_tryThing_83 rfl hl (by decide) rfl (fun ls hl => ?_)
          refine lv_iload_n hx hb dX12_tryThing_84 rfl (lv_at hl 0 rfl) ?_
          refine lv_if_eq (tgt := 111) hx hb dX12_tryThing_85 (by decide) (fun _ => ?_) (fun c => absurd c (by decide))
          refine lv_iload_n hx hb dX12_tryThing_111 rfl (lv_at hl 0 rfl) ?_
          refine lv_if_eq (tgt := 128) hx hb dX12_tryThing_112 (by decide) (fun _ => ?_) (fun c => absurd c (by decide))
          refine lv_iload_n hx hb dX12_tryThing_128 rfl (lv_at hl 0 rfl) ?_
          cases h
          subst hAe
          exact W.zret hx hb hr (by decide) (fun t ht _ => ⟨⟨_, (), rfl, rfl, by rw [ht]; exact hP, hD⟩, hS.F ht⟩) hS.2.2 dX12_tryThing_129
        · have h := iF c5 h
          refine lv_aload_n hx hb dX12_tryThing_37 rfl (lv_at hl 0 rfl) ?_
          refine va_get (D := D) (ci := 5) (v := .ref (a 6)) (C := RX12) (T := TX12) (N := 30) hx hb hts hiX12 hown hK.1 hP 0 rfl rfl 8 (by decide) (hts (.fieldLink RX12 25 "WinnowedGuiltModel" "now" "[I") (by decide +kernel)) (fun _ h9 => h9) rfl dX12_tryThing_38 ?_
          refine lv_bipush (v := 16) hx hb dX12_tryThing_41 (by decide) ?_
          refine ldI (v := (mNow 16)) hx hb hK.1 hP 6 rfl rfl (ixOk_in (by decide)) rfl dX12_tryThing_43 ?_
          refine lv_iload_n hx hb dX12_tryThing_44 rfl (lv_at hl 2 rfl) ?_
          refine lv_icmp_eq (tgt := 52) hx hb dX12_tryThing_45 (by decide) (fun c6 => ?_) (fun c6 => ?_)
          · have h := iT c6 h
            refine lv_iconst (v := 0) hx hb dX12_tryThing_52 (by decide) ?_
            refine lv_goto (tgt := 83) hx hb dX12_tryThing_53 (by decide) ?_
            refine lv_istore_n (lv' := [(3, .int 0), (0, .ref (a 0)), (1, .int p1), (2, .int p2)]) hx hb dX12_tryThing_83 rfl hl (by decide) rfl (fun ls hl => ?_)
            refine lv_iload_n hx hb dX12_tryThing_84 rfl (lv_at hl 0 rfl) ?_
            refine lv_if_eq (tgt := 111) hx hb dX12_tryThing_85 (by decide) (fun _ => ?_) (fun c => absurd c (by decide))
            refine lv_iload_n hx hb dX12_tryThing_111 rfl (lv_at hl 0 rfl) ?_
            refine lv_if_eq (tgt := 128) hx hb dX12_tryThing_112 (by decide) (fun _ => ?_) (fun c => absurd c (by decide))
            refine lv_iload_n hx hb dX12_tryThing_128 rfl (lv_at hl 0 rfl) ?_
            cases h
            subst hAe
            exact W.zret hx hb hr (by decide) (fun t ht _ => ⟨⟨_, (), rfl, rfl, by rw [ht]; exact hP, hD⟩, hS.F ht⟩) hS.2.2 dX12_tryThing_129
          · have h := iF c6 h
            refine lv_iconst (v := 1) hx hb dX12_tryThing_48 (by decide) ?_
            refine lv_goto (tgt := 83) hx hb dX12_tryThing_49 (by decide) ?_
            refine lv_istore_n (lv' := [(3, .int 1), (0, .ref (a 0)), (1, .int p1), (2, .int p2)]) hx hb dX12_tryThing_83 rfl hl (by decide) rfl (fun ls hl => ?_)
            refine lv_iload_n hx hb dX12_tryThing_84 rfl (lv_at hl 0 rfl) ?_
            refine lv_if_eq (tgt := 111) hx hb dX12_tryThing_85 (by decide) (fun c => absurd c (by decide)) (fun _ => ?_)
            refine lv_iload_n hx hb dX12_tryThing_88 rfl (lv_at hl 2 rfl) ?_
            refine lv_iconst (v := 1) hx hb dX12_tryThing_89 (by decide) ?_
            refine lv_icmp_ne (tgt := 111) hx hb dX12_tryThing_90 (by decide) (fun _ => ?_) (fun c => absurd c (by rw [c3]; decide))
            refine lv_iload_n hx hb dX12_tryThing_111 rfl (lv_at hl 0 rfl) ?_
            refine lv_if_eq (tgt := 128) hx hb dX12_tryThing_112 (by decide) (fun c => absurd c (by decide)) (fun _ => ?_)
            refine lv_iload_n hx hb dX12_tryThing_115 rfl (lv_at hl 2 rfl) ?_
            refine lv_iconst (v := 2) hx hb dX12_tryThing_116 (by decide) ?_
            refine lv_icmp_ne (tgt := 128) hx hb dX12_tryThing_117 (by decide) (fun c => absurd c (by rw [c3]; decide)) (fun _ => ?_)
            refine lv_aload_n hx hb dX12_tryThing_120 rfl (lv_at hl 1 rfl) ?_
            refine va_get (D := D) (ci := 5) (v := .ref (a 6)) (C := RX12) (T := TX12) (N := 30) hx hb hts hiX12 hown hK.1 hP 0 rfl rfl 8 (by decide) (hts (.fieldLink RX12 25 "WinnowedGuiltModel" "now" "[I") (by decide +kernel)) (fun _ h9 => h9) rfl dX12_tryThing_121 ?_
            refine lv_bipush (v := 16) hx hb dX12_tryThing_124 (by decide) ?_
            refine lv_iload_n hx hb dX12_tryThing_126 rfl (lv_at hl 3 rfl) ?_
            refine va_iast hx hb hK.1 hP hD hS 6 0 rfl rfl (ixOk_in (by decide)) dX12_tryThing_127 (fun H locs hP hD hS => ?_)
            have hP : va_P D vwCl (mW a cI cZ mPeople mHours mGrains mKind mWind mWeight mSort mOwner (upd mNow 16 p2) mReadKind mReadWind mReadGrain mReadPeople mReadHours mReadGrains mText mLength mAt mFaultAt mMoved mActs mNext mRow mSeen mSeenKind mSeenLift mSeenFlew mSeed mIsKept mKept) H := hP
            have hD : va_D A (mW a cI cZ mPeople mHours mGrains mKind mWind mWeight mSort mOwner (upd mNow 16 p2) mReadKind mReadWind mReadGrain mReadPeople mReadHours mReadGrains mText mLength mAt mFaultAt mMoved mActs mNext mRow mSeen mSeenKind mSeenLift mSeenFlew mSeed mIsKept mKept) := hD
            refine lv_iload_n hx hb dX12_tryThing_128 rfl (lv_at hl 0 rfl) ?_
            cases h
            subst hAe
            exact W.zret hx hb hr (by decide) (fun t ht _ => ⟨⟨_, (), rfl, rfl, by rw [ht]; exact hP, hD⟩, hS.F ht⟩) hS.2.2 dX12_tryThing_129
    · have h := iT c2 h
      refine lv_aload_n hx hb dX12_tryThing_15 rfl (lv_at hl 0 rfl) ?_
      refine lv_iconst (v := 1) hx hb dX12_tryThing_16 (by decide) ?_
      refine lv_iload_n hx hb dX12_tryThing_17 rfl (lv_at hl 2 rfl) ?_
      obtain ⟨q3, hq3, h⟩ := bS h
      refine rcI (va_runV (As := [.int 1, .int p2]) (rest := []) ⟨hx, hb, hml, hown, hts⟩ (c_mm_canPick l D cI cJ cZ a mPeople mHours mGrains mKind mWind mWeight mSort mOwner mNow mReadKind mReadWind mReadGrain mReadPeople mReadHours mReadGrains mText mLength mAt mFaultAt mMoved mActs mNext mRow mSeen mSeenKind mSeenLift mSeenFlew mSeed mIsKept mKept s.heap hP 1 p2 q3 hq3) (cwV 2 hts gX12_tryThing_X12_canPick rfl rfl rfl (by decide +kernel) ⟨Nat.le_of_ble_eq_true rfl, Nat.le_of_ble_eq_true rfl⟩) (rPreV hK hP (ci := 5) (q0 := 0) rfl rfl) rfl rfl hl.1 rfl (lv_room (Nat.le_of_ble_eq_true rfl)) dX12_tryThing_18 ⟨Nat.zero_le _, Nat.zero_le _⟩) ?_
      refine lv_goto (tgt := 83) hx hb dX12_tryThing_21 (by decide) ?_
      refine lv_istore_n (lv' := [(3, .int q3), (0, .ref (a 0)), (1, .int p1), (2, .int p2)]) hx hb dX12_tryThing_83 rfl hl (by decide) rfl (fun ls hl => ?_)
      refine lv_iload_n hx hb dX12_tryThing_84 rfl (lv_at hl 0 rfl) ?_
      refine lv_if_eq (tgt := 111) hx hb dX12_tryThing_85 (by decide) (fun c4 => ?_) (fun c4 => ?_)
      · have h := iT c4 h
        refine lv_iload_n hx hb dX12_tryThing_111 rfl (lv_at hl 0 rfl) ?_
        refine lv_if_eq (tgt := 128) hx hb dX12_tryThing_112 (by decide) (fun _ => ?_) (fun c => absurd c (by rw [c4]; decide))
        refine lv_iload_n hx hb dX12_tryThing_128 rfl (lv_at hl 0 rfl) ?_
        obtain ⟨hz, h⟩ := gZ_some h
        cases h
        subst hAe
        exact W.zret hx hb hr hz (fun t ht _ => ⟨⟨_, (), rfl, rfl, by rw [ht]; exact hP, hD⟩, hS.F ht⟩) hS.2.2 dX12_tryThing_129
      · have h := iF c4 h
        refine lv_iload_n hx hb dX12_tryThing_88 rfl (lv_at hl 2 rfl) ?_
        refine lv_iconst (v := 1) hx hb dX12_tryThing_89 (by decide) ?_
        refine lv_icmp_ne (tgt := 111) hx hb dX12_tryThing_90 (by decide) (fun c => absurd c (by rw [c2]; decide)) (fun _ => ?_)
        refine lv_aload_n hx hb dX12_tryThing_93 rfl (lv_at hl 1 rfl) ?_
        refine va_get (D := D) (ci := 5) (v := .ref (a 6)) (C := RX12) (T := TX12) (N := 30) hx hb hts hiX12 hown hK.1 hP 0 rfl rfl 8 (by decide) (hts (.fieldLink RX12 25 "WinnowedGuiltModel" "now" "[I") (by decide +kernel)) (fun _ h9 => h9) rfl dX12_tryThing_94 ?_
        refine lv_bipush (v := 9) hx hb dX12_tryThing_97 (by decide) ?_
        refine lv_iload_n hx hb dX12_tryThing_99 rfl (lv_at hl 3 rfl) ?_
        refine lv_iadd hx hb dX12_tryThing_100 ?_
        refine lv_aload_n hx hb dX12_tryThing_101 rfl (lv_at hl 1 rfl) ?_
        refine va_get (D := D) (ci := 5) (v := .ref (a 5)) (C := RX12) (T := TX12) (N := 30) hx hb hts hiX12 hown hK.1 hP 0 rfl rfl 7 (by decide) (hts (.fieldLink RX12 22 "WinnowedGuiltModel" "owner" "[I") (by decide +kernel)) (fun _ h9 => h9) rfl dX12_tryThing_102 ?_
        refine lv_iload_n hx hb dX12_tryThing_105 rfl (lv_at hl 3 rfl) ?_
        obtain ⟨hi5, h⟩ := gI_some h
        refine ldI (v := (mOwner (Int32.toNatClampNeg p2))) hx hb hK.1 hP 5 rfl rfl hi5 rfl dX12_tryThing_106 ?_
        obtain ⟨hi6, h⟩ := gI_some h
        refine va_iast hx hb hK.1 hP hD hS 6 0 rfl rfl hi6 dX12_tryThing_107 (fun H locs hP hD hS => ?_)
        have hP : va_P D vwCl (mW a cI cZ mPeople mHours mGrains mKind mWind mWeight mSort mOwner (upd mNow (Int32.toNatClampNeg (9 + p2)) (mOwner (Int32.toNatClampNeg p2))) mReadKind mReadWind mReadGrain mReadPeople mReadHours mReadGrains mText mLength mAt mFaultAt mMoved mActs mNext mRow mSeen mSeenKind mSeenLift mSeenFlew mSeed mIsKept mKept) H := hP
        have hD : va_D A (mW a cI cZ mPeople mHours mGrains mKind mWind mWeight mSort mOwner (upd mNow (Int32.toNatClampNeg (9 + p2)) (mOwner (Int32.toNatClampNeg p2))) mReadKind mReadWind mReadGrain mReadPeople mReadHours mReadGrains mText mLength mAt mFaultAt mMoved mActs mNext mRow mSeen mSeenKind mSeenLift mSeenFlew mSeed mIsKept mKept) := hD
        refine lv_goto (tgt := 128) hx hb dX12_tryThing_108 (by decide) ?_
        refine lv_iload_n hx hb dX12_tryThing_128 rfl (lv_at hl 0 rfl) ?_
        obtain ⟨hz, h⟩ := gZ_some h
        cases h
        subst hAe
        exact W.zret hx hb hr hz (fun t ht _ => ⟨⟨_, (), rfl, rfl, by rw [ht]; exact hP, hD⟩, hS.F ht⟩) hS.2.2 dX12_tryThing_129
  · have h := iT c1 h
    refine lv_aload_n hx hb dX12_tryThing_4 rfl (lv_at hl 0 rfl) ?_
    refine lv_iload_n hx hb dX12_tryThing_5 rfl (lv_at hl 2 rfl) ?_
    obtain ⟨q2, hq2, h⟩ := bS h
    refine wcI (va_runV (As := [.int p2]) (rest := []) ⟨hx, hb, hml, hown, hts⟩ (c_mm_turn l D cI cJ cZ a mPeople mHours mGrains mKind mWind mWeight mSort mOwner mNow mReadKind mReadWind mReadGrain mReadPeople mReadHours mReadGrains mText mLength mAt mFaultAt mMoved mActs mNext mRow mSeen mSeenKind mSeenLift mSeenFlew mSeed mIsKept mKept s.heap.size p2 q2.1 q2.2.1 q2.2.2 hq2) (cwV 1 hts gX12_tryThing_X12_turn rfl rfl rfl (by decide +kernel) ⟨Nat.le_of_ble_eq_true rfl, Nat.le_of_ble_eq_true rfl⟩) (wPreV hK hP hD (ci := 5) (q0 := 0) rfl rfl) rfl rfl hl.1 rfl (lv_room (Nat.le_of_ble_eq_true rfl)) dX12_tryThing_6 ⟨Nat.zero_le _, Nat.zero_le _⟩) hD hS hA (fun H locs hP hD hS => ?_)
    have hP : va_P D vwCl (mW a cI cZ mPeople mHours mGrains mKind mWind mWeight mSort mOwner q2.2.1 mReadKind mReadWind mReadGrain mReadPeople mReadHours mReadGrains mText mLength mAt mFaultAt q2.2.2 mActs mNext mRow mSeen mSeenKind mSeenLift mSeenFlew mSeed mIsKept mKept) H := hP
    have hD : va_D A (mW a cI cZ mPeople mHours mGrains mKind mWind mWeight mSort mOwner q2.2.1 mReadKind mReadWind mReadGrain mReadPeople mReadHours mReadGrains mText mLength mAt mFaultAt q2.2.2 mActs mNext mRow mSeen mSeenKind mSeenLift mSeenFlew mSeed mIsKept mKept) := hD
    obtain ⟨hz, h⟩ := gZ_some h
    cases h
    subst hAe
    exact W.zret hx hb hr hz (fun t ht _ => ⟨⟨_, (), rfl, rfl, by rw [ht]; exact hP, hD⟩, hS.F ht⟩) hS.2.2 dX12_tryThing_9

set_option maxHeartbeats 4000000 in
set_option maxRecDepth 100000 in
theorem c_mm_judge (l : Launch) (D : va_G) (cI cJ cZ : ClassId) (a : Nat → Nat) (mPeople : Int32) (mHours : Int32) (mGrains : Int32) (mKind : Nat → Int32) (mWind : Nat → Int32) (mWeight : Nat → Int32) (mSort : Nat → Int32) (mOwner : Nat → Int32) (mNow : Nat → Int32) (mReadKind : Nat → Int32) (mReadWind : Nat → Int32) (mReadGrain : Nat → Int32) (mReadPeople : Int32) (mReadHours : Int32) (mReadGrains : Int32) (mText : Nat → Int32) (mLength : Int32) (mAt : Int32) (mFaultAt : Int32) (mMoved : Nat → Int32) (mActs : Int32) (mNext : Int32) (mRow : Nat → Int32) (mSeen : Int32) (mSeenKind : Nat → Int32) (mSeenLift : Nat → Int32) (mSeenFlew : Nat → Int32) (mSeed : Int64) (mIsKept : Nat → Int32) (mKept : Nat → Int32)  (sz : Nat) (p1 : Int32) (p2 : Int32) (rv : Int32) (mNow_r : Nat → Int32) (mMoved_r : Nat → Int32) (h : mm_judge mPeople mHours mGrains mKind mWind mWeight mSort mOwner mNow mMoved p1 p2 = some (rv, mNow_r, mMoved_r)) : Met l yX12_judge wsX12_judge ({ frames := 7, cells := 0, slots := 0, locals := 164 } : Room) (wPc D cI cJ cZ (mW a cI cZ mPeople mHours mGrains mKind mWind mWeight mSort mOwner mNow mReadKind mReadWind mReadGrain mReadPeople mReadHours mReadGrains mText mLength mAt mFaultAt mMoved mActs mNext mRow mSeen mSeenKind mSeenLift mSeenFlew mSeed mIsKept mKept) sz [.ref (a 0), .int p1, .int p2]) (wQi D (mW a cI cZ mPeople mHours mGrains mKind mWind mWeight mSort mOwner mNow mReadKind mReadWind mReadGrain mReadPeople mReadHours mReadGrains mText mLength mAt mFaultAt mMoved mActs mNext mRow mSeen mSeenKind mSeenLift mSeenFlew mSeed mIsKept mKept) (mW a cI cZ mPeople mHours mGrains mKind mWind mWeight mSort mOwner mNow_r mReadKind mReadWind mReadGrain mReadPeople mReadHours mReadGrains mText mLength mAt mFaultAt mMoved_r mActs mNext mRow mSeen mSeenKind mSeenLift mSeenFlew mSeed mIsKept mKept) sz rv) 0 0 (va_A (mW a cI cZ mPeople mHours mGrains mKind mWind mWeight mSort mOwner mNow mReadKind mReadWind mReadGrain mReadPeople mReadHours mReadGrains mText mLength mAt mFaultAt mMoved mActs mNext mRow mSeen mSeenKind mSeenLift mSeenFlew mSeed mIsKept mKept) sz) := by
  unfold mm_judge at h
  refine Met.ofW (cc := cX12_judge) (maxL := 5) (ret := (some .int)) (by decide) rfl ?_
  intro p e s m args below meth c s₁ B hml hv
  obtain ⟨rfl, hsz, hP, hK, hD0⟩ := hv
  have hx := B.exec
  have hb := B.bytes
  have hr := B.returns
  have hts := atoms_spec (ws := wsX12_judge) B.pre
  have hown : s.vm.findClass RX12 = some m.cls := findClass_of_methodNamed B.named
  have hlocks := B.notSynchronized
  subst hsz
  have hD := hD0.self (sz := s.heap.size)
  have hA : ∀ q : Nat, s.heap.size ≤ q → va_A (mW a cI cZ mPeople mHours mGrains mKind mWind mWeight mSort mOwner mNow mReadKind mReadWind mReadGrain mReadPeople mReadHours mReadGrains mText mLength mAt mFaultAt mMoved mActs mNext mRow mSeen mSeenKind mSeenLift mSeenFlew mSeed mIsKept mKept) s.heap.size q := fun q h => Or.inr h
  have hS : va_S (va_A (mW a cI cZ mPeople mHours mGrains mKind mWind mWeight mSort mOwner mNow mReadKind mReadWind mReadGrain mReadPeople mReadHours mReadGrains mText mLength mAt mFaultAt mMoved mActs mNext mRow mSeen mSeenKind mSeenLift mSeenFlew mSeed mIsKept mKept) s.heap.size) s.heap s.heap [] := va_S.rf
  obtain ⟨A, hAe⟩ : ∃ A, A = va_A (mW a cI cZ mPeople mHours mGrains mKind mWind mWeight mSort mOwner mNow mReadKind mReadWind mReadGrain mReadPeople mReadHours mReadGrains mText mLength mAt mFaultAt mMoved mActs mNext mRow mSeen mSeenKind mSeenLift mSeenFlew mSeed mIsKept mKept) s.heap.size := ⟨_, rfl⟩
  rw [← hAe] at hD hA hS
  have hl := lv_entry ([.ref (a 0), .int p1, .int p2]) (n := 5) (Nat.le_of_ble_eq_true rfl)
  rw [lg_entry_eq]
  generalize (lg_sl ([.ref (a 0), .int p1, .int p2]) ++ List.replicate (5 - (lg_sl ([.ref (a 0), .int p1, .int p2])).length) Slot.unset).toArray = ls at hl ⊢
  have hl : lv_has ls 5 [(0, .ref (a 0)), (1, .int p1), (2, .int p2)] := hl
  refine lv_iload_n hx hb dX12_judge_0 rfl (lv_at hl 1 rfl) ?_
  refine lv_i2l (v := (Int32.toInt64 p1)) hx hb dX12_judge_1 rfl ?_
  refine lv_lconst (v := 1) hx hb dX12_judge_2 (by decide) ?_
  refine lv_ldc2 (own := RX12) (v := 4) hx hb hown (hts (.constantLong RX12 181 (4)) (by decide +kernel)) dX12_judge_3 ?_
  obtain ⟨q1, hq1, h⟩ := bS h
  refine rcI (va_runS (As := [.long (Int32.toInt64 p1), .long 1, .long 4]) (rest := []) ⟨hx, hb, hml, hown, hts⟩ (c_mm_in l D cI cJ cZ   s.heap (Int32.toInt64 p1) 1 4 q1 hq1) (va_cwS 3 hts gX12_judge_X12_in rfl rfl rfl (by decide +kernel) ⟨Nat.le_of_ble_eq_true rfl, Nat.le_of_ble_eq_true rfl⟩) (rPreS hK) rfl rfl hl.1 rfl (lv_room (Nat.le_of_ble_eq_true rfl)) dX12_judge_6 ⟨Nat.zero_le _, Nat.zero_le _⟩) ?_
  refine lv_if_eq (tgt := 30) hx hb dX12_judge_9 (by decide) (fun c2 => ?_) (fun c2 => ?_)
  · have h := iT c2 h
    refine lv_bipush (v := (-2)) hx hb dX12_judge_30 (by decide) ?_
    cases h
    subst hAe
    exact W.iret hx hb hr (fun t ht _ => ⟨⟨_, (), rfl, rfl, by rw [ht]; exact hP, hD⟩, hS.F ht⟩) hS.2.2 dX12_judge_32
  · have h := iF c2 h
    refine lv_iload_n hx hb dX12_judge_12 rfl (lv_at hl 2 rfl) ?_
    refine lv_i2l (v := (Int32.toInt64 p2)) hx hb dX12_judge_13 rfl ?_
    refine lv_lconst (v := 0) hx hb dX12_judge_14 (by decide) ?_
    refine lv_bipush (v := 100) hx hb dX12_judge_15 (by decide) ?_
    refine lv_iload_n hx hb dX12_judge_17 rfl (lv_at hl 1 rfl) ?_
    obtain ⟨q3, hq3, h⟩ := bS h
    refine rcI (va_runS (As := [.int 100, .int p1]) (rest := [.long 0, .long (Int32.toInt64 p2)]) ⟨hx, hb, hml, hown, hts⟩ (c_mm_power l D cI cJ cZ   s.heap 100 p1 q3 hq3) (va_cwS 2 hts gX12_judge_X12_power rfl rfl rfl (by decide +kernel) ⟨Nat.le_of_ble_eq_true rfl, Nat.le_of_ble_eq_true rfl⟩) (rPreS hK) rfl rfl hl.1 rfl (lv_room (Nat.le_of_ble_eq_true rfl)) dX12_judge_18 ⟨Nat.zero_le _, Nat.zero_le _⟩) ?_
    refine lv_iconst (v := 1) hx hb dX12_judge_21 (by decide) ?_
    refine lv_isub hx hb dX12_judge_22 ?_
    refine lv_i2l (v := (Int32.toInt64 (q3 - 1))) hx hb dX12_judge_23 rfl ?_
    obtain ⟨q4, hq4, h⟩ := bS h
    refine rcI (va_runS (As := [.long (Int32.toInt64 p2), .long 0, .long (Int32.toInt64 (q3 - 1))]) (rest := []) ⟨hx, hb, hml, hown, hts⟩ (c_mm_in l D cI cJ cZ   s.heap (Int32.toInt64 p2) 0 (Int32.toInt64 (q3 - 1)) q4 hq4) (va_cwS 3 hts gX12_judge_X12_in rfl rfl rfl (by decide +kernel) ⟨Nat.le_of_ble_eq_true rfl, Nat.le_of_ble_eq_true rfl⟩) (rPreS hK) rfl rfl hl.1 rfl (lv_room (Nat.le_of_ble_eq_true rfl)) dX12_judge_24 ⟨Nat.zero_le _, Nat.zero_le _⟩) ?_
    refine lv_if_ne (tgt := 33) hx hb dX12_judge_27 (by decide) (fun c5 => ?_) (fun c5 => ?_)
    · have h := iF c5 h
      refine lv_aload_n hx hb dX12_judge_33 rfl (lv_at hl 0 rfl) ?_
      obtain ⟨q6, hq6, h⟩ := bS h
      refine wcV (va_runV (As := []) (rest := []) ⟨hx, hb, hml, hown, hts⟩ (c_mm_layTrial l D cI cJ cZ a mPeople mHours mGrains mKind mWind mWeight mSort mOwner mNow mReadKind mReadWind mReadGrain mReadPeople mReadHours mReadGrains mText mLength mAt mFaultAt mMoved mActs mNext mRow mSeen mSeenKind mSeenLift mSeenFlew mSeed mIsKept mKept s.heap.size  q6 hq6) (cwV 0 hts gX12_judge_X12_layTrial rfl rfl rfl (by decide +kernel) ⟨Nat.le_of_ble_eq_true rfl, Nat.le_of_ble_eq_true rfl⟩) (wPreV hK hP hD (ci := 5) (q0 := 0) rfl rfl) rfl rfl hl.1 rfl (lv_room (Nat.le_of_ble_eq_true rfl)) dX12_judge_34 ⟨Nat.zero_le _, Nat.zero_le _⟩) hD hS hA (fun H locs hP hD hS => ?_)
      have hP : va_P D vwCl (mW a cI cZ mPeople mHours mGrains mKind mWind mWeight mSort mOwner q6 mReadKind mReadWind mReadGrain mReadPeople mReadHours mReadGrains mText mLength mAt mFaultAt mMoved mActs mNext mRow mSeen mSeenKind mSeenLift mSeenFlew mSeed mIsKept mKept) H := hP
      have hD : va_D A (mW a cI cZ mPeople mHours mGrains mKind mWind mWeight mSort mOwner q6 mReadKind mReadWind mReadGrain mReadPeople mReadHours mReadGrains mText mLength mAt mFaultAt mMoved mActs mNext mRow mSeen mSeenKind mSeenLift mSeenFlew mSeed mIsKept mKept) := hD
      refine lv_iconst (v := 0) hx hb dX12_judge_37 (by decide) ?_
      refine lv_istore_n (lv' := [(3, .int 0), (0, .ref (a 0)), (1, .int p1), (2, .int p2)]) hx hb dX12_judge_38 rfl hl (by decide) rfl (fun ls hl => ?_)
      have L39 : ∀ (n : Nat) (x3_39 : Int32) (mNow_39x : (Nat → Int32)) (mMoved_39x : (Nat → Int32)) (H : Heap) (locs : List Loc) (ls : Array Slot) (kx : Int32 → (Nat → Int32) → (Nat → Int32) → Option (Int32 × (Nat → Int32) × (Nat → Int32))), mm_judge_L39 mPeople mHours mGrains mKind mWind mWeight mSort mOwner p1 p2 kx n x3_39 mNow_39x mMoved_39x = some (rv, mNow_r, mMoved_r) → va_P D vwCl (mW a cI cZ mPeople mHours mGrains mKind mWind mWeight mSort mOwner mNow_39x mReadKind mReadWind mReadGrain mReadPeople mReadHours mReadGrains mText mLength mAt mFaultAt mMoved_39x mActs mNext mRow mSeen mSeenKind mSeenLift mSeenFlew mSeed mIsKept mKept) H → va_D A (mW a cI cZ mPeople mHours mGrains mKind mWind mWeight mSort mOwner mNow_39x mReadKind mReadWind mReadGrain mReadPeople mReadHours mReadGrains mText mLength mAt mFaultAt mMoved_39x mActs mNext mRow mSeen mSeenKind mSeenLift mSeenFlew mSeed mIsKept mKept) → va_S A s.heap H locs → lv_has ls 5 [(3, .int x3_39), (0, .ref (a 0)), (1, .int p1), (2, .int p2)] → (∀ (y3_39 : Int32) (mNow_39 : (Nat → Int32)) (mMoved_39 : (Nat → Int32)) (H : Heap) (locs : List Loc) (ls : Array Slot), kx y3_39 mNow_39 mMoved_39 = some (rv, mNow_r, mMoved_r) → va_P D vwCl (mW a cI cZ mPeople mHours mGrains mKind mWind mWeight mSort mOwner mNow_39 mReadKind mReadWind mReadGrain mReadPeople mReadHours mReadGrains mText mLength mAt mFaultAt mMoved_39 mActs mNext mRow mSeen mSeenKind mSeenLift mSeenFlew mSeed mIsKept mKept) H → va_D A (mW a cI cZ mPeople mHours mGrains mKind mWind mWeight mSort mOwner mNow_39 mReadKind mReadWind mReadGrain mReadPeople mReadHours mReadGrains mText mLength mAt mFaultAt mMoved_39 mActs mNext mRow mSeen mSeenKind mSeenLift mSeenFlew mSeed mIsKept mKept) → va_S A s.heap H locs → lv_has ls 5 [(3, .int y3_39), (0, .ref (a 0)), (1, .int p1), (2, .int p2)] → W p l e (headSpec wsX12_judge ({ frames := 7, cells := 0, slots := 0, locals := 164 } : Room)).room s m ([.ref (a 0), .int p1, .int p2] : List Value).toArray below meth c H locs 0 0 (MQ below (wQi D (mW a cI cZ mPeople mHours mGrains mKind mWind mWeight mSort mOwner mNow mReadKind mReadWind mReadGrain mReadPeople mReadHours mReadGrains mText mLength mAt mFaultAt mMoved mActs mNext mRow mSeen mSeenKind mSeenLift mSeenFlew mSeed mIsKept mKept) (mW a cI cZ mPeople mHours mGrains mKind mWind mWeight mSort mOwner mNow_r mReadKind mReadWind mReadGrain mReadPeople mReadHours mReadGrains mText mLength mAt mFaultAt mMoved_r mActs mNext mRow mSeen mSeenKind mSeenLift mSeenFlew mSeed mIsKept mKept) s.heap.size rv) ([.ref (a 0), .int p1, .int p2] : List Value).toArray s 0 0 (va_A (mW a cI cZ mPeople mHours mGrains mKind mWind mWeight mSort mOwner mNow mReadKind mReadWind mReadGrain mReadPeople mReadHours mReadGrains mText mLength mAt mFaultAt mMoved mActs mNext mRow mSeen mSeenKind mSeenLift mSeenFlew mSeed mIsKept mKept) s.heap.size)) (F0 m 86 ls [])) → W p l e (headSpec wsX12_judge ({ frames := 7, cells := 0, slots := 0, locals := 164 } : Room)).room s m ([.ref (a 0), .int p1, .int p2] : List Value).toArray below meth c H locs 0 0 (MQ below (wQi D (mW a cI cZ mPeople mHours mGrains mKind mWind mWeight mSort mOwner mNow mReadKind mReadWind mReadGrain mReadPeople mReadHours mReadGrains mText mLength mAt mFaultAt mMoved mActs mNext mRow mSeen mSeenKind mSeenLift mSeenFlew mSeed mIsKept mKept) (mW a cI cZ mPeople mHours mGrains mKind mWind mWeight mSort mOwner mNow_r mReadKind mReadWind mReadGrain mReadPeople mReadHours mReadGrains mText mLength mAt mFaultAt mMoved_r mActs mNext mRow mSeen mSeenKind mSeenLift mSeenFlew mSeed mIsKept mKept) s.heap.size rv) ([.ref (a 0), .int p1, .int p2] : List Value).toArray s 0 0 (va_A (mW a cI cZ mPeople mHours mGrains mKind mWind mWeight mSort mOwner mNow mReadKind mReadWind mReadGrain mReadPeople mReadHours mReadGrains mText mLength mAt mFaultAt mMoved mActs mNext mRow mSeen mSeenKind mSeenLift mSeenFlew mSeed mIsKept mKept) s.heap.size)) (F0 m 39 ls []) := by
        intro n
        induction n with
        | zero => intro _ _ _ _ _ _ _ h; rw [mm_judge_L39.eq_1] at h; cases h
        | succ n ih =>
          intro x3_39 mNow_39x mMoved_39x H locs ls kx h hP hD hS hl hk
          rw [mm_judge_L39.eq_2] at h
          refine lv_iload_n hx hb dX12_judge_39 rfl (lv_at hl 0 rfl) ?_
          refine lv_iload_n hx hb dX12_judge_40 rfl (lv_at hl 2 rfl) ?_
          refine lv_icmp_ge (tgt := 86) hx hb dX12_judge_41 (by decide) (fun c7 => ?_) (fun c7 => ?_)
          · have h := iT c7 h
            exact hk _ _ _ _ _ _ h hP hD hS (lv_sub hl [0, 1, 2, 3] rfl)
          · have h := iF c7 h
            refine lv_iload_n hx hb dX12_judge_44 rfl (lv_at hl 3 rfl) ?_
            refine lv_bipush (v := 100) hx hb dX12_judge_45 (by decide) ?_
            refine lv_iload_n hx hb dX12_judge_47 rfl (lv_at hl 2 rfl) ?_
            refine lv_iconst (v := 1) hx hb dX12_judge_48 (by decide) ?_
            refine lv_isub hx hb dX12_judge_49 ?_
            refine lv_iload_n hx hb dX12_judge_50 rfl (lv_at hl 0 rfl) ?_
            refine lv_isub hx hb dX12_judge_51 ?_
            obtain ⟨q8, hq8, h⟩ := bS h
            refine rcI (va_runS (As := [.int 100, .int ((p1 - 1) - x3_39)]) (rest := [.int p2]) ⟨hx, hb, hml, hown, hts⟩ (c_mm_power l D cI cJ cZ   H 100 ((p1 - 1) - x3_39) q8 hq8) (va_cwS 2 hts gX12_judge_X12_power rfl rfl rfl (by decide +kernel) ⟨Nat.le_of_ble_eq_true rfl, Nat.le_of_ble_eq_true rfl⟩) (rPreS hK) rfl rfl hl.1 rfl (lv_room (Nat.le_of_ble_eq_true rfl)) dX12_judge_52 ⟨Nat.zero_le _, Nat.zero_le _⟩) ?_
            obtain ⟨hd9, h⟩ := gD_some h
            refine lv_idiv hx hb dX12_judge_55 hd9 ?_
            refine lv_bipush (v := 100) hx hb dX12_judge_56 (by decide) ?_
            refine lv_irem hx hb dX12_judge_58 (by decide) ?_
            refine lv_istore (lv' := [(4, .int ((p2 / q8) - (p2 / q8) / 100 * 100)), (3, .int x3_39), (0, .ref (a 0)), (1, .int p1), (2, .int p2)]) hx hb dX12_judge_59 hl (by decide) rfl (fun ls hl => ?_)
            refine lv_aload_n hx hb dX12_judge_61 rfl (lv_at hl 2 rfl) ?_
            refine lv_iload hx hb dX12_judge_62 (lv_at hl 0 rfl) ?_
            refine lv_bipush (v := 10) hx hb dX12_judge_64 (by decide) ?_
            refine lv_idiv hx hb dX12_judge_66 (by decide) ?_
            refine lv_iload hx hb dX12_judge_67 (lv_at hl 0 rfl) ?_
            refine lv_bipush (v := 10) hx hb dX12_judge_69 (by decide) ?_
            refine lv_irem hx hb dX12_judge_71 (by decide) ?_
            obtain ⟨q10, hq10, h⟩ := bS h
            refine wcI (va_runV (As := [.int (((p2 / q8) - (p2 / q8) / 100 * 100) / 10), .int (((p2 / q8) - (p2 / q8) / 100 * 100) - ((p2 / q8) - (p2 / q8) / 100 * 100) / 10 * 10)]) (rest := []) ⟨hx, hb, hml, hown, hts⟩ (c_mm_tryThing l D cI cJ cZ a mPeople mHours mGrains mKind mWind mWeight mSort mOwner mNow_39x mReadKind mReadWind mReadGrain mReadPeople mReadHours mReadGrains mText mLength mAt mFaultAt mMoved_39x mActs mNext mRow mSeen mSeenKind mSeenLift mSeenFlew mSeed mIsKept mKept H.size (((p2 / q8) - (p2 / q8) / 100 * 100) / 10) (((p2 / q8) - (p2 / q8) / 100 * 100) - ((p2 / q8) - (p2 / q8) / 100 * 100) / 10 * 10) q10.1 q10.2.1 q10.2.2 hq10) (cwV 2 hts gX12_judge_X12_tryThing rfl rfl rfl (by decide +kernel) ⟨Nat.le_of_ble_eq_true rfl, Nat.le_of_ble_eq_true rfl⟩) (wPreV hK hP hD (ci := 5) (q0 := 0) rfl rfl) rfl rfl hl.1 rfl (lv_room (Nat.le_of_ble_eq_true rfl)) dX12_judge_72 ⟨Nat.zero_le _, Nat.zero_le _⟩) hD hS hA (fun H locs hP hD hS => ?_)
            have hP : va_P D vwCl (mW a cI cZ mPeople mHours mGrains mKind mWind mWeight mSort mOwner q10.2.1 mReadKind mReadWind mReadGrain mReadPeople mReadHours mReadGrains mText mLength mAt mFaultAt q10.2.2 mActs mNext mRow mSeen mSeenKind mSeenLift mSeenFlew mSeed mIsKept mKept) H := hP
            have hD : va_D A (mW a cI cZ mPeople mHours mGrains mKind mWind mWeight mSort mOwner q10.2.1 mReadKind mReadWind mReadGrain mReadPeople mReadHours mReadGrains mText mLength mAt mFaultAt q10.2.2 mActs mNext mRow mSeen mSeenKind mSeenLift mSeenFlew mSeed mIsKept mKept) := hD
            refine lv_if_ne (tgt := 80) hx hb dX12_judge_75 (by decide) (fun c11 => ?_) (fun c11 => ?_)
            · have h := iF c11 h
              refine lv_iinc (v := (x3_39 + 1)) (lv' := [(3, .int (x3_39 + 1)), (4, .int ((p2 / q8) - (p2 / q8) / 100 * 100)), (0, .ref (a 0)), (1, .int p1), (2, .int p2)]) hx hb dX12_judge_80 hl (k := 1) rfl rfl (by decide) rfl (fun ls hl => ?_)
              refine lv_goto (tgt := 39) hx hb dX12_judge_83 (by decide) ?_
              exact ih _ _ _ _ _ _ _ h hP hD hS (lv_sub hl [0, 2, 3, 4] rfl) hk
            · have h := iT c11 h
              refine lv_iload_n hx hb dX12_judge_78 rfl (lv_at hl 1 rfl) ?_
              cases h
              subst hAe
              exact W.iret hx hb hr (fun t ht _ => ⟨⟨_, (), rfl, rfl, by rw [ht]; exact hP, hD⟩, hS.F ht⟩) hS.2.2 dX12_judge_79
      refine L39 _ _ _ _ _ _ _ _ h hP hD hS hl (fun y3_39 mNow_39 mMoved_39 H locs ls h hP hD hS hl => ?_)
      refine lv_bipush (v := (-9)) hx hb dX12_judge_86 (by decide) ?_
      cases h
      subst hAe
      exact W.iret hx hb hr (fun t ht _ => ⟨⟨_, (), rfl, rfl, by rw [ht]; exact hP, hD⟩, hS.F ht⟩) hS.2.2 dX12_judge_88
    · have h := iT c5 h
      refine lv_bipush (v := (-2)) hx hb dX12_judge_30 (by decide) ?_
      cases h
      subst hAe
      exact W.iret hx hb hr (fun t ht _ => ⟨⟨_, (), rfl, rfl, by rw [ht]; exact hP, hD⟩, hS.F ht⟩) hS.2.2 dX12_judge_32

set_option maxHeartbeats 4000000 in
set_option maxRecDepth 100000 in
theorem c_mm_see (l : Launch) (D : va_G) (cI cJ cZ : ClassId) (a : Nat → Nat) (mPeople : Int32) (mHours : Int32) (mGrains : Int32) (mKind : Nat → Int32) (mWind : Nat → Int32) (mWeight : Nat → Int32) (mSort : Nat → Int32) (mOwner : Nat → Int32) (mNow : Nat → Int32) (mReadKind : Nat → Int32) (mReadWind : Nat → Int32) (mReadGrain : Nat → Int32) (mReadPeople : Int32) (mReadHours : Int32) (mReadGrains : Int32) (mText : Nat → Int32) (mLength : Int32) (mAt : Int32) (mFaultAt : Int32) (mMoved : Nat → Int32) (mActs : Int32) (mNext : Int32) (mRow : Nat → Int32) (mSeen : Int32) (mSeenKind : Nat → Int32) (mSeenLift : Nat → Int32) (mSeenFlew : Nat → Int32) (mSeed : Int64) (mIsKept : Nat → Int32) (mKept : Nat → Int32)  (sz : Nat) (p1 : Int32) (p2 : Int32) (p3 : Int32) (rv : Int32) (mSeen_r : Int32) (mSeenKind_r : Nat → Int32) (mSeenLift_r : Nat → Int32) (mSeenFlew_r : Nat → Int32) (h : mm_see mSeen mSeenKind mSeenLift mSeenFlew p1 p2 p3 = some (rv, mSeen_r, mSeenKind_r, mSeenLift_r, mSeenFlew_r)) : Met l yX12_see wsX12_see ({ frames := 1, cells := 0, slots := 0, locals := 25 } : Room) (wPc D cI cJ cZ (mW a cI cZ mPeople mHours mGrains mKind mWind mWeight mSort mOwner mNow mReadKind mReadWind mReadGrain mReadPeople mReadHours mReadGrains mText mLength mAt mFaultAt mMoved mActs mNext mRow mSeen mSeenKind mSeenLift mSeenFlew mSeed mIsKept mKept) sz [.ref (a 0), .int p1, .int p2, .int p3]) (wQi D (mW a cI cZ mPeople mHours mGrains mKind mWind mWeight mSort mOwner mNow mReadKind mReadWind mReadGrain mReadPeople mReadHours mReadGrains mText mLength mAt mFaultAt mMoved mActs mNext mRow mSeen mSeenKind mSeenLift mSeenFlew mSeed mIsKept mKept) (mW a cI cZ mPeople mHours mGrains mKind mWind mWeight mSort mOwner mNow mReadKind mReadWind mReadGrain mReadPeople mReadHours mReadGrains mText mLength mAt mFaultAt mMoved mActs mNext mRow mSeen_r mSeenKind_r mSeenLift_r mSeenFlew_r mSeed mIsKept mKept) sz rv) 0 0 (va_A (mW a cI cZ mPeople mHours mGrains mKind mWind mWeight mSort mOwner mNow mReadKind mReadWind mReadGrain mReadPeople mReadHours mReadGrains mText mLength mAt mFaultAt mMoved mActs mNext mRow mSeen mSeenKind mSeenLift mSeenFlew mSeed mIsKept mKept) sz) := by
  unfold mm_see at h
  refine Met.ofW (cc := cX12_see) (maxL := 4) (ret := (some .int)) (by decide) rfl ?_
  intro p e s m args below meth c s₁ B hml hv
  obtain ⟨rfl, hsz, hP, hK, hD0⟩ := hv
  have hx := B.exec
  have hb := B.bytes
  have hr := B.returns
  have hts := atoms_spec (ws := wsX12_see) B.pre
  have hown : s.vm.findClass RX12 = some m.cls := findClass_of_methodNamed B.named
  have hlocks := B.notSynchronized
  subst hsz
  have hD := hD0.self (sz := s.heap.size)
  have hA : ∀ q : Nat, s.heap.size ≤ q → va_A (mW a cI cZ mPeople mHours mGrains mKind mWind mWeight mSort mOwner mNow mReadKind mReadWind mReadGrain mReadPeople mReadHours mReadGrains mText mLength mAt mFaultAt mMoved mActs mNext mRow mSeen mSeenKind mSeenLift mSeenFlew mSeed mIsKept mKept) s.heap.size q := fun q h => Or.inr h
  have hS : va_S (va_A (mW a cI cZ mPeople mHours mGrains mKind mWind mWeight mSort mOwner mNow mReadKind mReadWind mReadGrain mReadPeople mReadHours mReadGrains mText mLength mAt mFaultAt mMoved mActs mNext mRow mSeen mSeenKind mSeenLift mSeenFlew mSeed mIsKept mKept) s.heap.size) s.heap s.heap [] := va_S.rf
  obtain ⟨A, hAe⟩ : ∃ A, A = va_A (mW a cI cZ mPeople mHours mGrains mKind mWind mWeight mSort mOwner mNow mReadKind mReadWind mReadGrain mReadPeople mReadHours mReadGrains mText mLength mAt mFaultAt mMoved mActs mNext mRow mSeen mSeenKind mSeenLift mSeenFlew mSeed mIsKept mKept) s.heap.size := ⟨_, rfl⟩
  rw [← hAe] at hD hA hS
  have hl := lv_entry ([.ref (a 0), .int p1, .int p2, .int p3]) (n := 4) (Nat.le_of_ble_eq_true rfl)
  rw [lg_entry_eq]
  generalize (lg_sl ([.ref (a 0), .int p1, .int p2, .int p3]) ++ List.replicate (4 - (lg_sl ([.ref (a 0), .int p1, .int p2, .int p3])).length) Slot.unset).toArray = ls at hl ⊢
  have hl : lv_has ls 4 [(0, .ref (a 0)), (1, .int p1), (2, .int p2), (3, .int p3)] := hl
  have hiX12 : ∀ w ∈ u_ws RX12 TX12 30, w ∈ wsX12_see := fun w hw => List.mem_cons_of_mem _ (List.mem_append_right _ hw)
  refine lv_iload_n hx hb dX12_see_0 rfl (lv_at hl 1 rfl) ?_
  refine lv_i2l (v := (Int32.toInt64 p1)) hx hb dX12_see_1 rfl ?_
  refine lv_lconst (v := 0) hx hb dX12_see_2 (by decide) ?_
  refine lv_ldc2 (own := RX12) (v := 3) hx hb hown (hts (.constantLong RX12 201 (3)) (by decide +kernel)) dX12_see_3 ?_
  obtain ⟨q1, hq1, h⟩ := bS h
  refine rcI (va_runS (As := [.long (Int32.toInt64 p1), .long 0, .long 3]) (rest := []) ⟨hx, hb, hml, hown, hts⟩ (c_mm_in l D cI cJ cZ   s.heap (Int32.toInt64 p1) 0 3 q1 hq1) (va_cwS 3 hts gX12_see_X12_in rfl rfl rfl (by decide +kernel) ⟨Nat.le_of_ble_eq_true rfl, Nat.le_of_ble_eq_true rfl⟩) (rPreS hK) rfl rfl hl.1 rfl (lv_room (Nat.le_of_ble_eq_true rfl)) dX12_see_6 ⟨Nat.zero_le _, Nat.zero_le _⟩) ?_
  refine lv_if_eq (tgt := 36) hx hb dX12_see_9 (by decide) (fun c2 => ?_) (fun c2 => ?_)
  · have h := iT c2 h
    refine lv_bipush (v := (-2)) hx hb dX12_see_36 (by decide) ?_
    cases h
    subst hAe
    exact W.iret hx hb hr (fun t ht _ => ⟨⟨_, (), rfl, rfl, by rw [ht]; exact hP, hD⟩, hS.F ht⟩) hS.2.2 dX12_see_38
  · have h := iF c2 h
    refine lv_iload_n hx hb dX12_see_12 rfl (lv_at hl 2 rfl) ?_
    refine lv_i2l (v := (Int32.toInt64 p2)) hx hb dX12_see_13 rfl ?_
    refine lv_lconst (v := 0) hx hb dX12_see_14 (by decide) ?_
    refine lv_ldc2 (own := RX12) (v := 12) hx hb hown (hts (.constantLong RX12 203 (12)) (by decide +kernel)) dX12_see_15 ?_
    obtain ⟨q3, hq3, h⟩ := bS h
    refine rcI (va_runS (As := [.long (Int32.toInt64 p2), .long 0, .long 12]) (rest := []) ⟨hx, hb, hml, hown, hts⟩ (c_mm_in l D cI cJ cZ   s.heap (Int32.toInt64 p2) 0 12 q3 hq3) (va_cwS 3 hts gX12_see_X12_in rfl rfl rfl (by decide +kernel) ⟨Nat.le_of_ble_eq_true rfl, Nat.le_of_ble_eq_true rfl⟩) (rPreS hK) rfl rfl hl.1 rfl (lv_room (Nat.le_of_ble_eq_true rfl)) dX12_see_18 ⟨Nat.zero_le _, Nat.zero_le _⟩) ?_
    refine lv_if_eq (tgt := 36) hx hb dX12_see_21 (by decide) (fun c4 => ?_) (fun c4 => ?_)
    · have h := iT c4 h
      refine lv_bipush (v := (-2)) hx hb dX12_see_36 (by decide) ?_
      cases h
      subst hAe
      exact W.iret hx hb hr (fun t ht _ => ⟨⟨_, (), rfl, rfl, by rw [ht]; exact hP, hD⟩, hS.F ht⟩) hS.2.2 dX12_see_38
    · have h := iF c4 h
      refine lv_iload_n hx hb dX12_see_24 rfl (lv_at hl 3 rfl) ?_
      refine lv_i2l (v := (Int32.toInt64 p3)) hx hb dX12_see_25 rfl ?_
      refine lv_lconst (v := 0) hx hb dX12_see_26 (by decide) ?_
      refine lv_ldc2 (own := RX12) (v := 5) hx hb hown (hts (.constantLong RX12 205 (5)) (by decide +kernel)) dX12_see_27 ?_
      obtain ⟨q5, hq5, h⟩ := bS h
      refine rcI (va_runS (As := [.long (Int32.toInt64 p3), .long 0, .long 5]) (rest := []) ⟨hx, hb, hml, hown, hts⟩ (c_mm_in l D cI cJ cZ   s.heap (Int32.toInt64 p3) 0 5 q5 hq5) (va_cwS 3 hts gX12_see_X12_in rfl rfl rfl (by decide +kernel) ⟨Nat.le_of_ble_eq_true rfl, Nat.le_of_ble_eq_true rfl⟩) (rPreS hK) rfl rfl hl.1 rfl (lv_room (Nat.le_of_ble_eq_true rfl)) dX12_see_30 ⟨Nat.zero_le _, Nat.zero_le _⟩) ?_
      refine lv_if_ne (tgt := 39) hx hb dX12_see_33 (by decide) (fun c6 => ?_) (fun c6 => ?_)
      · have h := iF c6 h
        refine lv_aload_n hx hb dX12_see_39 rfl (lv_at hl 0 rfl) ?_
        refine va_get (D := D) (ci := 5) (v := .int mSeen) (C := RX12) (T := TX12) (N := 30) hx hb hts hiX12 hown hK.1 hP 0 rfl rfl 23 (by decide) (hts (.fieldLink RX12 207 "WinnowedGuiltModel" "seen" "I") (by decide +kernel)) (fun _ h9 => h9) rfl dX12_see_40 ?_
        refine lv_bipush (v := 6) hx hb dX12_see_43 (by decide) ?_
        refine lv_icmp_ne (tgt := 51) hx hb dX12_see_45 (by decide) (fun c7 => ?_) (fun c7 => ?_)
        · have h := iF c7 h
          refine lv_aload_n hx hb dX12_see_51 rfl (lv_at hl 0 rfl) ?_
          refine va_get (D := D) (ci := 5) (v := .ref (a 13)) (C := RX12) (T := TX12) (N := 30) hx hb hts hiX12 hown hK.1 hP 0 rfl rfl 24 (by decide) (hts (.fieldLink RX12 46 "WinnowedGuiltModel" "seenKind" "[I") (by decide +kernel)) (fun _ h9 => h9) rfl dX12_see_52 ?_
          refine lv_aload_n hx hb dX12_see_55 rfl (lv_at hl 0 rfl) ?_
          refine va_get (D := D) (ci := 5) (v := .int mSeen) (C := RX12) (T := TX12) (N := 30) hx hb hts hiX12 hown hK.1 hP 0 rfl rfl 23 (by decide) (hts (.fieldLink RX12 207 "WinnowedGuiltModel" "seen" "I") (by decide +kernel)) (fun _ h9 => h9) rfl dX12_see_56 ?_
          refine lv_iload_n hx hb dX12_see_59 rfl (lv_at hl 1 rfl) ?_
          obtain ⟨hi8, h⟩ := gI_some h
          refine va_iast hx hb hK.1 hP hD hS 13 0 rfl rfl hi8 dX12_see_60 (fun H locs hP hD hS => ?_)
          have hP : va_P D vwCl (mW a cI cZ mPeople mHours mGrains mKind mWind mWeight mSort mOwner mNow mReadKind mReadWind mReadGrain mReadPeople mReadHours mReadGrains mText mLength mAt mFaultAt mMoved mActs mNext mRow mSeen (upd mSeenKind (Int32.toNatClampNeg mSeen) p1) mSeenLift mSeenFlew mSeed mIsKept mKept) H := hP
          have hD : va_D A (mW a cI cZ mPeople mHours mGrains mKind mWind mWeight mSort mOwner mNow mReadKind mReadWind mReadGrain mReadPeople mReadHours mReadGrains mText mLength mAt mFaultAt mMoved mActs mNext mRow mSeen (upd mSeenKind (Int32.toNatClampNeg mSeen) p1) mSeenLift mSeenFlew mSeed mIsKept mKept) := hD
          refine lv_aload_n hx hb dX12_see_61 rfl (lv_at hl 0 rfl) ?_
          refine va_get (D := D) (ci := 5) (v := .ref (a 14)) (C := RX12) (T := TX12) (N := 30) hx hb hts hiX12 hown hK.1 hP 0 rfl rfl 25 (by decide) (hts (.fieldLink RX12 49 "WinnowedGuiltModel" "seenLift" "[I") (by decide +kernel)) (fun _ h9 => h9) rfl dX12_see_62 ?_
          refine lv_aload_n hx hb dX12_see_65 rfl (lv_at hl 0 rfl) ?_
          refine va_get (D := D) (ci := 5) (v := .int mSeen) (C := RX12) (T := TX12) (N := 30) hx hb hts hiX12 hown hK.1 hP 0 rfl rfl 23 (by decide) (hts (.fieldLink RX12 207 "WinnowedGuiltModel" "seen" "I") (by decide +kernel)) (fun _ h9 => h9) rfl dX12_see_66 ?_
          refine lv_iload_n hx hb dX12_see_69 rfl (lv_at hl 2 rfl) ?_
          obtain ⟨hi9, h⟩ := gI_some h
          refine va_iast hx hb hK.1 hP hD hS 14 0 rfl rfl hi9 dX12_see_70 (fun H locs hP hD hS => ?_)
          have hP : va_P D vwCl (mW a cI cZ mPeople mHours mGrains mKind mWind mWeight mSort mOwner mNow mReadKind mReadWind mReadGrain mReadPeople mReadHours mReadGrains mText mLength mAt mFaultAt mMoved mActs mNext mRow mSeen (upd mSeenKind (Int32.toNatClampNeg mSeen) p1) (upd mSeenLift (Int32.toNatClampNeg mSeen) p2) mSeenFlew mSeed mIsKept mKept) H := hP
          have hD : va_D A (mW a cI cZ mPeople mHours mGrains mKind mWind mWeight mSort mOwner mNow mReadKind mReadWind mReadGrain mReadPeople mReadHours mReadGrains mText mLength mAt mFaultAt mMoved mActs mNext mRow mSeen (upd mSeenKind (Int32.toNatClampNeg mSeen) p1) (upd mSeenLift (Int32.toNatClampNeg mSeen) p2) mSeenFlew mSeed mIsKept mKept) := hD
          refine lv_aload_n hx hb dX12_see_71 rfl (lv_at hl 0 rfl) ?_
          refine va_get (D := D) (ci := 5) (v := .ref (a 15)) (C := RX12) (T := TX12) (N := 30) hx hb hts hiX12 hown hK.1 hP 0 rfl rfl 26 (by decide) (hts (.fieldLink RX12 52 "WinnowedGuiltModel" "seenFlew" "[I") (by decide +kernel)) (fun _ h9 => h9) rfl dX12_see_72 ?_
          refine lv_aload_n hx hb dX12_see_75 rfl (lv_at hl 0 rfl) ?_
          refine va_get (D := D) (ci := 5) (v := .int mSeen) (C := RX12) (T := TX12) (N := 30) hx hb hts hiX12 hown hK.1 hP 0 rfl rfl 23 (by decide) (hts (.fieldLink RX12 207 "WinnowedGuiltModel" "seen" "I") (by decide +kernel)) (fun _ h9 => h9) rfl dX12_see_76 ?_
          refine lv_iload_n hx hb dX12_see_79 rfl (lv_at hl 3 rfl) ?_
          obtain ⟨hi10, h⟩ := gI_some h
          refine va_iast hx hb hK.1 hP hD hS 15 0 rfl rfl hi10 dX12_see_80 (fun H locs hP hD hS => ?_)
          have hP : va_P D vwCl (mW a cI cZ mPeople mHours mGrains mKind mWind mWeight mSort mOwner mNow mReadKind mReadWind mReadGrain mReadPeople mReadHours mReadGrains mText mLength mAt mFaultAt mMoved mActs mNext mRow mSeen (upd mSeenKind (Int32.toNatClampNeg mSeen) p1) (upd mSeenLift (Int32.toNatClampNeg mSeen) p2) (upd mSeenFlew (Int32.toNatClampNeg mSeen) p3) mSeed mIsKept mKept) H := hP
          have hD : va_D A (mW a cI cZ mPeople mHours mGrains mKind mWind mWeight mSort mOwner mNow mReadKind mReadWind mReadGrain mReadPeople mReadHours mReadGrains mText mLength mAt mFaultAt mMoved mActs mNext mRow mSeen (upd mSeenKind (Int32.toNatClampNeg mSeen) p1) (upd mSeenLift (Int32.toNatClampNeg mSeen) p2) (upd mSeenFlew (Int32.toNatClampNeg mSeen) p3) mSeed mIsKept mKept) := hD
          refine lv_aload_n hx hb dX12_see_81 rfl (lv_at hl 0 rfl) ?_
          refine lv_dup hx hb dX12_see_82 rfl ?_
          refine va_get (D := D) (ci := 5) (v := .int mSeen) (C := RX12) (T := TX12) (N := 30) hx hb hts hiX12 hown hK.1 hP 0 rfl rfl 23 (by decide) (hts (.fieldLink RX12 207 "WinnowedGuiltModel" "seen" "I") (by decide +kernel)) (fun _ h9 => h9) rfl dX12_see_83 ?_
          refine lv_iconst (v := 1) hx hb dX12_see_86 (by decide) ?_
          refine lv_iadd hx hb dX12_see_87 ?_
          refine va_put (D := D) (ci := 5) (v := .int (mSeen + 1)) (ty := .int) (C := RX12) (T := TX12) (N := 30) hx hb hts hiX12 tyX12 tyX12_ok nmX12 hown hK.1 hP hD hS 0 rfl rfl 23 (by decide) (hts (.fieldLink RX12 207 "WinnowedGuiltModel" "seen" "I") (by decide +kernel)) (fun _ h9 => h9) rfl (by decide +kernel) rfl rfl (Nat.le_of_ble_eq_true rfl) dX12_see_88 (fun H locs hP hD hS => ?_)
          have hP : va_P D vwCl (mW a cI cZ mPeople mHours mGrains mKind mWind mWeight mSort mOwner mNow mReadKind mReadWind mReadGrain mReadPeople mReadHours mReadGrains mText mLength mAt mFaultAt mMoved mActs mNext mRow (mSeen + 1) (upd mSeenKind (Int32.toNatClampNeg mSeen) p1) (upd mSeenLift (Int32.toNatClampNeg mSeen) p2) (upd mSeenFlew (Int32.toNatClampNeg mSeen) p3) mSeed mIsKept mKept) H := hP
          have hD : va_D A (mW a cI cZ mPeople mHours mGrains mKind mWind mWeight mSort mOwner mNow mReadKind mReadWind mReadGrain mReadPeople mReadHours mReadGrains mText mLength mAt mFaultAt mMoved mActs mNext mRow (mSeen + 1) (upd mSeenKind (Int32.toNatClampNeg mSeen) p1) (upd mSeenLift (Int32.toNatClampNeg mSeen) p2) (upd mSeenFlew (Int32.toNatClampNeg mSeen) p3) mSeed mIsKept mKept) := hD
          refine lv_aload_n hx hb dX12_see_91 rfl (lv_at hl 0 rfl) ?_
          refine va_get (D := D) (ci := 5) (v := .int (mSeen + 1)) (C := RX12) (T := TX12) (N := 30) hx hb hts hiX12 hown hK.1 hP 0 rfl rfl 23 (by decide) (hts (.fieldLink RX12 207 "WinnowedGuiltModel" "seen" "I") (by decide +kernel)) (fun _ h9 => h9) rfl dX12_see_92 ?_
          cases h
          subst hAe
          exact W.iret hx hb hr (fun t ht _ => ⟨⟨_, (), rfl, rfl, by rw [ht]; exact hP, hD⟩, hS.F ht⟩) hS.2.2 dX12_see_95
        · have h := iT c7 h
          refine lv_bipush (v := (-4)) hx hb dX12_see_48 (by decide) ?_
          cases h
          subst hAe
          exact W.iret hx hb hr (fun t ht _ => ⟨⟨_, (), rfl, rfl, by rw [ht]; exact hP, hD⟩, hS.F ht⟩) hS.2.2 dX12_see_50
      · have h := iT c6 h
        refine lv_bipush (v := (-2)) hx hb dX12_see_36 (by decide) ?_
        cases h
        subst hAe
        exact W.iret hx hb hr (fun t ht _ => ⟨⟨_, (), rfl, rfl, by rw [ht]; exact hP, hD⟩, hS.F ht⟩) hS.2.2 dX12_see_38
