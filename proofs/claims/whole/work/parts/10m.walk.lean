set_option maxHeartbeats 4000000 in
set_option maxRecDepth 100000 in
theorem c_mm_turn (l : Launch) (D : va_G) (cI cJ cZ : ClassId) (a : Nat → Nat) (mPeople : Int32) (mHours : Int32) (mGrains : Int32) (mKind : Nat → Int32) (mWind : Nat → Int32) (mWeight : Nat → Int32) (mSort : Nat → Int32) (mOwner : Nat → Int32) (mNow : Nat → Int32) (mReadKind : Nat → Int32) (mReadWind : Nat → Int32) (mReadGrain : Nat → Int32) (mReadPeople : Int32) (mReadHours : Int32) (mReadGrains : Int32) (mText : Nat → Int32) (mLength : Int32) (mAt : Int32) (mFaultAt : Int32) (mMoved : Nat → Int32) (mActs : Int32) (mNext : Int32) (mRow : Nat → Int32) (mSeen : Int32) (mSeenKind : Nat → Int32) (mSeenLift : Nat → Int32) (mSeenFlew : Nat → Int32) (mSeed : Int64) (mIsKept : Nat → Int32) (mKept : Nat → Int32)  (sz : Nat) (p1 : Int32) (rv : Int32) (mNow_r : Nat → Int32) (mMoved_r : Nat → Int32) (h : mm_turn mPeople mHours mGrains mKind mWind mWeight mSort mOwner mNow mMoved p1 = some (rv, mNow_r, mMoved_r)) : Met l yX12_turn wsX12_turn ({ frames := 5, cells := 0, slots := 0, locals := 120 } : Room) (wPc D cI cJ cZ (mW a cI cZ mPeople mHours mGrains mKind mWind mWeight mSort mOwner mNow mReadKind mReadWind mReadGrain mReadPeople mReadHours mReadGrains mText mLength mAt mFaultAt mMoved mActs mNext mRow mSeen mSeenKind mSeenLift mSeenFlew mSeed mIsKept mKept) sz [.ref (a 0), .int p1]) (wQi D (mW a cI cZ mPeople mHours mGrains mKind mWind mWeight mSort mOwner mNow mReadKind mReadWind mReadGrain mReadPeople mReadHours mReadGrains mText mLength mAt mFaultAt mMoved mActs mNext mRow mSeen mSeenKind mSeenLift mSeenFlew mSeed mIsKept mKept) (mW a cI cZ mPeople mHours mGrains mKind mWind mWeight mSort mOwner mNow_r mReadKind mReadWind mReadGrain mReadPeople mReadHours mReadGrains mText mLength mAt mFaultAt mMoved_r mActs mNext mRow mSeen mSeenKind mSeenLift mSeenFlew mSeed mIsKept mKept) sz rv) 0 0 (va_A (mW a cI cZ mPeople mHours mGrains mKind mWind mWeight mSort mOwner mNow mReadKind mReadWind mReadGrain mReadPeople mReadHours mReadGrains mText mLength mAt mFaultAt mMoved mActs mNext mRow mSeen mSeenKind mSeenLift mSeenFlew mSeed mIsKept mKept) sz) := by
  unfold mm_turn at h
  refine Met.ofW (cc := cX12_turn) (maxL := 2) (ret := (some .boolean)) (by decide) rfl ?_
  intro p e s m args below meth c s₁ B hml hv
  obtain ⟨rfl, hsz, hP, hK, hD0⟩ := hv
  have hx := B.exec
  have hb := B.bytes
  have hr := B.returns
  have hts := atoms_spec (ws := wsX12_turn) B.pre
  have hown : s.vm.findClass RX12 = some m.cls := findClass_of_methodNamed B.named
  have hlocks := B.notSynchronized
  subst hsz
  have hD := hD0.self (sz := s.heap.size)
  have hA : ∀ q : Nat, s.heap.size ≤ q → va_A (mW a cI cZ mPeople mHours mGrains mKind mWind mWeight mSort mOwner mNow mReadKind mReadWind mReadGrain mReadPeople mReadHours mReadGrains mText mLength mAt mFaultAt mMoved mActs mNext mRow mSeen mSeenKind mSeenLift mSeenFlew mSeed mIsKept mKept) s.heap.size q := fun q h => Or.inr h
  have hS : va_S (va_A (mW a cI cZ mPeople mHours mGrains mKind mWind mWeight mSort mOwner mNow mReadKind mReadWind mReadGrain mReadPeople mReadHours mReadGrains mText mLength mAt mFaultAt mMoved mActs mNext mRow mSeen mSeenKind mSeenLift mSeenFlew mSeed mIsKept mKept) s.heap.size) s.heap s.heap [] := va_S.rf
  obtain ⟨A, hAe⟩ : ∃ A, A = va_A (mW a cI cZ mPeople mHours mGrains mKind mWind mWeight mSort mOwner mNow mReadKind mReadWind mReadGrain mReadPeople mReadHours mReadGrains mText mLength mAt mFaultAt mMoved mActs mNext mRow mSeen mSeenKind mSeenLift mSeenFlew mSeed mIsKept mKept) s.heap.size := ⟨_, rfl⟩
  rw [← hAe] at hD hA hS
  have hl := lv_entry ([.ref (a 0), .int p1]) (n := 2) (Nat.le_of_ble_eq_true rfl)
  rw [lg_entry_eq]
  generalize (lg_sl ([.ref (a 0), .int p1]) ++ List.replicate (2 - (lg_sl ([.ref (a 0), .int p1])).length) Slot.unset).toArray = ls at hl ⊢
  have hl : lv_has ls 2 [(0, .ref (a 0)), (1, .int p1)] := hl
  have hiX12 : ∀ w ∈ u_ws RX12 TX12 30, w ∈ wsX12_turn := fun w hw => List.mem_cons_of_mem _ (List.mem_append_right _ hw)
  refine lv_iload_n hx hb dX12_turn_0 rfl (lv_at hl 1 rfl) ?_
  refine lv_iconst (v := 4) hx hb dX12_turn_1 (by decide) ?_
  refine lv_icmp_ne (tgt := 18) hx hb dX12_turn_2 (by decide) (fun c1 => ?_) (fun c1 => ?_)
  · have h := iF c1 h
    refine lv_aload_n hx hb dX12_turn_18 rfl (lv_at hl 0 rfl) ?_
    refine lv_iload_n hx hb dX12_turn_19 rfl (lv_at hl 1 rfl) ?_
    obtain ⟨q2, hq2, h⟩ := bS h
    refine rcI (va_runV (As := [.int p1]) (rest := []) ⟨hx, hb, hml, hown, hts⟩ (c_mm_isPerson l D cI cJ cZ a mPeople mHours mGrains mKind mWind mWeight mSort mOwner mNow mReadKind mReadWind mReadGrain mReadPeople mReadHours mReadGrains mText mLength mAt mFaultAt mMoved mActs mNext mRow mSeen mSeenKind mSeenLift mSeenFlew mSeed mIsKept mKept s.heap hP p1 q2 hq2) (cwV 1 hts gX12_turn_X12_isPerson rfl rfl rfl (by decide +kernel) ⟨Nat.le_of_ble_eq_true rfl, Nat.le_of_ble_eq_true rfl⟩) (rPreV hK hP (ci := 5) (q0 := 0) rfl rfl) rfl rfl hl.1 rfl (lv_room (Nat.le_of_ble_eq_true rfl)) dX12_turn_20 ⟨Nat.zero_le _, Nat.zero_le _⟩) ?_
    refine lv_if_eq (tgt := 36) hx hb dX12_turn_23 (by decide) (fun c3 => ?_) (fun c3 => ?_)
    · have h := iT c3 h
      refine lv_iconst (v := 0) hx hb dX12_turn_36 (by decide) ?_
      cases h
      subst hAe
      exact W.zret hx hb hr (by decide) (fun t ht _ => ⟨⟨_, (), rfl, rfl, by rw [ht]; exact hP, hD⟩, hS.F ht⟩) hS.2.2 dX12_turn_37
    · have h := iF c3 h
      refine lv_aload_n hx hb dX12_turn_26 rfl (lv_at hl 0 rfl) ?_
      refine lv_iconst (v := 1) hx hb dX12_turn_27 (by decide) ?_
      refine lv_iload_n hx hb dX12_turn_28 rfl (lv_at hl 1 rfl) ?_
      refine lv_iconst (v := 0) hx hb dX12_turn_29 (by decide) ?_
      obtain ⟨q4, hq4, h⟩ := bS h
      refine wcI (va_runV (As := [.int 1, .int p1, .int 0]) (rest := []) ⟨hx, hb, hml, hown, hts⟩ (c_mm_tossBy l D cI cJ cZ a mPeople mHours mGrains mKind mWind mWeight mSort mOwner mNow mReadKind mReadWind mReadGrain mReadPeople mReadHours mReadGrains mText mLength mAt mFaultAt mMoved mActs mNext mRow mSeen mSeenKind mSeenLift mSeenFlew mSeed mIsKept mKept s.heap.size 1 p1 0 q4.1 q4.2.1 q4.2.2 hq4) (cwV 3 hts gX12_turn_X12_tossBy rfl rfl rfl (by decide +kernel) ⟨Nat.le_of_ble_eq_true rfl, Nat.le_of_ble_eq_true rfl⟩) (wPreV hK hP hD (ci := 5) (q0 := 0) rfl rfl) rfl rfl hl.1 rfl (lv_room (Nat.le_of_ble_eq_true rfl)) dX12_turn_30 ⟨Nat.zero_le _, Nat.zero_le _⟩) hD hS hA (fun H locs hP hD hS => ?_)
      have hP : va_P D vwCl (mW a cI cZ mPeople mHours mGrains mKind mWind mWeight mSort mOwner q4.2.1 mReadKind mReadWind mReadGrain mReadPeople mReadHours mReadGrains mText mLength mAt mFaultAt q4.2.2 mActs mNext mRow mSeen mSeenKind mSeenLift mSeenFlew mSeed mIsKept mKept) H := hP
      have hD : va_D A (mW a cI cZ mPeople mHours mGrains mKind mWind mWeight mSort mOwner q4.2.1 mReadKind mReadWind mReadGrain mReadPeople mReadHours mReadGrains mText mLength mAt mFaultAt q4.2.2 mActs mNext mRow mSeen mSeenKind mSeenLift mSeenFlew mSeed mIsKept mKept) := hD
      refine lv_pop hx hb dX12_turn_33 rfl ?_
      refine lv_iconst (v := 1) hx hb dX12_turn_34 (by decide) ?_
      cases h
      subst hAe
      exact W.zret hx hb hr (by decide) (fun t ht _ => ⟨⟨_, (), rfl, rfl, by rw [ht]; exact hP, hD⟩, hS.F ht⟩) hS.2.2 dX12_turn_35
  · have h := iT c1 h
    refine lv_aload_n hx hb dX12_turn_5 rfl (lv_at hl 0 rfl) ?_
    refine va_get (D := D) (ci := 5) (v := .ref (a 6)) (C := RX12) (T := TX12) (N := 30) hx hb hts hiX12 hown hK.1 hP 0 rfl rfl 8 (by decide) (hts (.fieldLink RX12 25 "WinnowedGuiltModel" "now" "[I") (by decide +kernel)) (fun _ h9 => h9) rfl dX12_turn_6 ?_
    refine lv_bipush (v := 17) hx hb dX12_turn_9 (by decide) ?_
    refine lv_dup2_11 hx hb dX12_turn_11 rfl rfl ?_
    refine ldI (v := (mNow 17)) hx hb hK.1 hP 6 rfl rfl (ixOk_in (by decide)) rfl dX12_turn_12 ?_
    refine lv_iconst (v := 1) hx hb dX12_turn_13 (by decide) ?_
    refine lv_iadd hx hb dX12_turn_14 ?_
    refine va_iast hx hb hK.1 hP hD hS 6 0 rfl rfl (ixOk_in (by decide)) dX12_turn_15 (fun H locs hP hD hS => ?_)
    have hP : va_P D vwCl (mW a cI cZ mPeople mHours mGrains mKind mWind mWeight mSort mOwner (upd mNow 17 ((mNow 17) + 1)) mReadKind mReadWind mReadGrain mReadPeople mReadHours mReadGrains mText mLength mAt mFaultAt mMoved mActs mNext mRow mSeen mSeenKind mSeenLift mSeenFlew mSeed mIsKept mKept) H := hP
    have hD : va_D A (mW a cI cZ mPeople mHours mGrains mKind mWind mWeight mSort mOwner (upd mNow 17 ((mNow 17) + 1)) mReadKind mReadWind mReadGrain mReadPeople mReadHours mReadGrains mText mLength mAt mFaultAt mMoved mActs mNext mRow mSeen mSeenKind mSeenLift mSeenFlew mSeed mIsKept mKept) := hD
    refine lv_iconst (v := 1) hx hb dX12_turn_16 (by decide) ?_
    cases h
    subst hAe
    exact W.zret hx hb hr (by decide) (fun t ht _ => ⟨⟨_, (), rfl, rfl, by rw [ht]; exact hP, hD⟩, hS.F ht⟩) hS.2.2 dX12_turn_17

set_option maxHeartbeats 4000000 in
set_option maxRecDepth 100000 in
theorem c_mm_doRow (l : Launch) (D : va_G) (cI cJ cZ : ClassId) (a : Nat → Nat) (mPeople : Int32) (mHours : Int32) (mGrains : Int32) (mKind : Nat → Int32) (mWind : Nat → Int32) (mWeight : Nat → Int32) (mSort : Nat → Int32) (mOwner : Nat → Int32) (mNow : Nat → Int32) (mReadKind : Nat → Int32) (mReadWind : Nat → Int32) (mReadGrain : Nat → Int32) (mReadPeople : Int32) (mReadHours : Int32) (mReadGrains : Int32) (mText : Nat → Int32) (mLength : Int32) (mAt : Int32) (mFaultAt : Int32) (mMoved : Nat → Int32) (mActs : Int32) (mNext : Int32) (mRow : Nat → Int32) (mSeen : Int32) (mSeenKind : Nat → Int32) (mSeenLift : Nat → Int32) (mSeenFlew : Nat → Int32) (mSeed : Int64) (mIsKept : Nat → Int32) (mKept : Nat → Int32)  (sz : Nat) (p1 : Int32) (p2 : Int32) (rv : Int32) (mNow_r : Nat → Int32) (mMoved_r : Nat → Int32) (h : mm_doRow mPeople mHours mGrains mKind mWind mWeight mSort mOwner mNow mMoved p1 p2 = some (rv, mNow_r, mMoved_r)) : Met l yX12_doRow wsX12_doRow ({ frames := 6, cells := 0, slots := 0, locals := 141 } : Room) (wPc D cI cJ cZ (mW a cI cZ mPeople mHours mGrains mKind mWind mWeight mSort mOwner mNow mReadKind mReadWind mReadGrain mReadPeople mReadHours mReadGrains mText mLength mAt mFaultAt mMoved mActs mNext mRow mSeen mSeenKind mSeenLift mSeenFlew mSeed mIsKept mKept) sz [.ref (a 0), .int p1, .int p2]) (wQi D (mW a cI cZ mPeople mHours mGrains mKind mWind mWeight mSort mOwner mNow mReadKind mReadWind mReadGrain mReadPeople mReadHours mReadGrains mText mLength mAt mFaultAt mMoved mActs mNext mRow mSeen mSeenKind mSeenLift mSeenFlew mSeed mIsKept mKept) (mW a cI cZ mPeople mHours mGrains mKind mWind mWeight mSort mOwner mNow_r mReadKind mReadWind mReadGrain mReadPeople mReadHours mReadGrains mText mLength mAt mFaultAt mMoved_r mActs mNext mRow mSeen mSeenKind mSeenLift mSeenFlew mSeed mIsKept mKept) sz rv) 0 0 (va_A (mW a cI cZ mPeople mHours mGrains mKind mWind mWeight mSort mOwner mNow mReadKind mReadWind mReadGrain mReadPeople mReadHours mReadGrains mText mLength mAt mFaultAt mMoved mActs mNext mRow mSeen mSeenKind mSeenLift mSeenFlew mSeed mIsKept mKept) sz) := by
  unfold mm_doRow at h
  refine Met.ofW (cc := cX12_doRow) (maxL := 4) (ret := (some .boolean)) (by decide) rfl ?_
  intro p e s m args below meth c s₁ B hml hv
  obtain ⟨rfl, hsz, hP, hK, hD0⟩ := hv
  have hx := B.exec
  have hb := B.bytes
  have hr := B.returns
  have hts := atoms_spec (ws := wsX12_doRow) B.pre
  have hown : s.vm.findClass RX12 = some m.cls := findClass_of_methodNamed B.named
  have hlocks := B.notSynchronized
  subst hsz
  have hD := hD0.self (sz := s.heap.size)
  have hA : ∀ q : Nat, s.heap.size ≤ q → va_A (mW a cI cZ mPeople mHours mGrains mKind mWind mWeight mSort mOwner mNow mReadKind mReadWind mReadGrain mReadPeople mReadHours mReadGrains mText mLength mAt mFaultAt mMoved mActs mNext mRow mSeen mSeenKind mSeenLift mSeenFlew mSeed mIsKept mKept) s.heap.size q := fun q h => Or.inr h
  have hS : va_S (va_A (mW a cI cZ mPeople mHours mGrains mKind mWind mWeight mSort mOwner mNow mReadKind mReadWind mReadGrain mReadPeople mReadHours mReadGrains mText mLength mAt mFaultAt mMoved mActs mNext mRow mSeen mSeenKind mSeenLift mSeenFlew mSeed mIsKept mKept) s.heap.size) s.heap s.heap [] := va_S.rf
  obtain ⟨A, hAe⟩ : ∃ A, A = va_A (mW a cI cZ mPeople mHours mGrains mKind mWind mWeight mSort mOwner mNow mReadKind mReadWind mReadGrain mReadPeople mReadHours mReadGrains mText mLength mAt mFaultAt mMoved mActs mNext mRow mSeen mSeenKind mSeenLift mSeenFlew mSeed mIsKept mKept) s.heap.size := ⟨_, rfl⟩
  rw [← hAe] at hD hA hS
  have hl := lv_entry ([.ref (a 0), .int p1, .int p2]) (n := 4) (Nat.le_of_ble_eq_true rfl)
  rw [lg_entry_eq]
  generalize (lg_sl ([.ref (a 0), .int p1, .int p2]) ++ List.replicate (4 - (lg_sl ([.ref (a 0), .int p1, .int p2])).length) Slot.unset).toArray = ls at hl ⊢
  have hl : lv_has ls 4 [(0, .ref (a 0)), (1, .int p1), (2, .int p2)] := hl
  refine lv_aload_n hx hb dX12_doRow_0 rfl (lv_at hl 0 rfl) ?_
  obtain ⟨q1, hq1, h⟩ := bS h
  refine wcV (va_runV (As := []) (rest := []) ⟨hx, hb, hml, hown, hts⟩ (c_mm_layTrial l D cI cJ cZ a mPeople mHours mGrains mKind mWind mWeight mSort mOwner mNow mReadKind mReadWind mReadGrain mReadPeople mReadHours mReadGrains mText mLength mAt mFaultAt mMoved mActs mNext mRow mSeen mSeenKind mSeenLift mSeenFlew mSeed mIsKept mKept s.heap.size  q1 hq1) (cwV 0 hts gX12_doRow_X12_layTrial rfl rfl rfl (by decide +kernel) ⟨Nat.le_of_ble_eq_true rfl, Nat.le_of_ble_eq_true rfl⟩) (wPreV hK hP hD (ci := 5) (q0 := 0) rfl rfl) rfl rfl hl.1 rfl (lv_room (Nat.le_of_ble_eq_true rfl)) dX12_doRow_1 ⟨Nat.zero_le _, Nat.zero_le _⟩) hD hS hA (fun H locs hP hD hS => ?_)
  have hP : va_P D vwCl (mW a cI cZ mPeople mHours mGrains mKind mWind mWeight mSort mOwner q1 mReadKind mReadWind mReadGrain mReadPeople mReadHours mReadGrains mText mLength mAt mFaultAt mMoved mActs mNext mRow mSeen mSeenKind mSeenLift mSeenFlew mSeed mIsKept mKept) H := hP
  have hD : va_D A (mW a cI cZ mPeople mHours mGrains mKind mWind mWeight mSort mOwner q1 mReadKind mReadWind mReadGrain mReadPeople mReadHours mReadGrains mText mLength mAt mFaultAt mMoved mActs mNext mRow mSeen mSeenKind mSeenLift mSeenFlew mSeed mIsKept mKept) := hD
  refine lv_iconst (v := 0) hx hb dX12_doRow_4 (by decide) ?_
  refine lv_istore_n (lv' := [(3, .int 0), (0, .ref (a 0)), (1, .int p1), (2, .int p2)]) hx hb dX12_doRow_5 rfl hl (by decide) rfl (fun ls hl => ?_)
  have L6 : ∀ (n : Nat) (x3_6 : Int32) (mNow_6x : (Nat → Int32)) (mMoved_6x : (Nat → Int32)) (H : Heap) (locs : List Loc) (ls : Array Slot) (kx : Int32 → (Nat → Int32) → (Nat → Int32) → Option (Int32 × (Nat → Int32) × (Nat → Int32))), mm_doRow_L6 mPeople mHours mGrains mKind mWind mWeight mSort mOwner p1 p2 kx n x3_6 mNow_6x mMoved_6x = some (rv, mNow_r, mMoved_r) → va_P D vwCl (mW a cI cZ mPeople mHours mGrains mKind mWind mWeight mSort mOwner mNow_6x mReadKind mReadWind mReadGrain mReadPeople mReadHours mReadGrains mText mLength mAt mFaultAt mMoved_6x mActs mNext mRow mSeen mSeenKind mSeenLift mSeenFlew mSeed mIsKept mKept) H → va_D A (mW a cI cZ mPeople mHours mGrains mKind mWind mWeight mSort mOwner mNow_6x mReadKind mReadWind mReadGrain mReadPeople mReadHours mReadGrains mText mLength mAt mFaultAt mMoved_6x mActs mNext mRow mSeen mSeenKind mSeenLift mSeenFlew mSeed mIsKept mKept) → va_S A s.heap H locs → lv_has ls 4 [(3, .int x3_6), (0, .ref (a 0)), (1, .int p1), (2, .int p2)] → (∀ (y3_6 : Int32) (mNow_6 : (Nat → Int32)) (mMoved_6 : (Nat → Int32)) (H : Heap) (locs : List Loc) (ls : Array Slot), kx y3_6 mNow_6 mMoved_6 = some (rv, mNow_r, mMoved_r) → va_P D vwCl (mW a cI cZ mPeople mHours mGrains mKind mWind mWeight mSort mOwner mNow_6 mReadKind mReadWind mReadGrain mReadPeople mReadHours mReadGrains mText mLength mAt mFaultAt mMoved_6 mActs mNext mRow mSeen mSeenKind mSeenLift mSeenFlew mSeed mIsKept mKept) H → va_D A (mW a cI cZ mPeople mHours mGrains mKind mWind mWeight mSort mOwner mNow_6 mReadKind mReadWind mReadGrain mReadPeople mReadHours mReadGrains mText mLength mAt mFaultAt mMoved_6 mActs mNext mRow mSeen mSeenKind mSeenLift mSeenFlew mSeed mIsKept mKept) → va_S A s.heap H locs → lv_has ls 4 [(3, .int y3_6), (0, .ref (a 0)), (1, .int p1), (2, .int p2)] → W p l e (headSpec wsX12_doRow ({ frames := 6, cells := 0, slots := 0, locals := 141 } : Room)).room s m ([.ref (a 0), .int p1, .int p2] : List Value).toArray below meth c H locs 0 0 (MQ below (wQi D (mW a cI cZ mPeople mHours mGrains mKind mWind mWeight mSort mOwner mNow mReadKind mReadWind mReadGrain mReadPeople mReadHours mReadGrains mText mLength mAt mFaultAt mMoved mActs mNext mRow mSeen mSeenKind mSeenLift mSeenFlew mSeed mIsKept mKept) (mW a cI cZ mPeople mHours mGrains mKind mWind mWeight mSort mOwner mNow_r mReadKind mReadWind mReadGrain mReadPeople mReadHours mReadGrains mText mLength mAt mFaultAt mMoved_r mActs mNext mRow mSeen mSeenKind mSeenLift mSeenFlew mSeed mIsKept mKept) s.heap.size rv) ([.ref (a 0), .int p1, .int p2] : List Value).toArray s 0 0 (va_A (mW a cI cZ mPeople mHours mGrains mKind mWind mWeight mSort mOwner mNow mReadKind mReadWind mReadGrain mReadPeople mReadHours mReadGrains mText mLength mAt mFaultAt mMoved mActs mNext mRow mSeen mSeenKind mSeenLift mSeenFlew mSeed mIsKept mKept) s.heap.size)) (F0 m 39 ls [])) → W p l e (headSpec wsX12_doRow ({ frames := 6, cells := 0, slots := 0, locals := 141 } : Room)).room s m ([.ref (a 0), .int p1, .int p2] : List Value).toArray below meth c H locs 0 0 (MQ below (wQi D (mW a cI cZ mPeople mHours mGrains mKind mWind mWeight mSort mOwner mNow mReadKind mReadWind mReadGrain mReadPeople mReadHours mReadGrains mText mLength mAt mFaultAt mMoved mActs mNext mRow mSeen mSeenKind mSeenLift mSeenFlew mSeed mIsKept mKept) (mW a cI cZ mPeople mHours mGrains mKind mWind mWeight mSort mOwner mNow_r mReadKind mReadWind mReadGrain mReadPeople mReadHours mReadGrains mText mLength mAt mFaultAt mMoved_r mActs mNext mRow mSeen mSeenKind mSeenLift mSeenFlew mSeed mIsKept mKept) s.heap.size rv) ([.ref (a 0), .int p1, .int p2] : List Value).toArray s 0 0 (va_A (mW a cI cZ mPeople mHours mGrains mKind mWind mWeight mSort mOwner mNow mReadKind mReadWind mReadGrain mReadPeople mReadHours mReadGrains mText mLength mAt mFaultAt mMoved mActs mNext mRow mSeen mSeenKind mSeenLift mSeenFlew mSeed mIsKept mKept) s.heap.size)) (F0 m 6 ls []) := by
    intro n
    induction n with
    | zero => intro _ _ _ _ _ _ _ h; rw [mm_doRow_L6.eq_1] at h; cases h
    | succ n ih =>
      intro x3_6 mNow_6x mMoved_6x H locs ls kx h hP hD hS hl hk
      rw [mm_doRow_L6.eq_2] at h
      refine lv_iload_n hx hb dX12_doRow_6 rfl (lv_at hl 0 rfl) ?_
      refine lv_iload_n hx hb dX12_doRow_7 rfl (lv_at hl 2 rfl) ?_
      refine lv_icmp_ge (tgt := 39) hx hb dX12_doRow_8 (by decide) (fun c2 => ?_) (fun c2 => ?_)
      · have h := iT c2 h
        exact hk _ _ _ _ _ _ h hP hD hS (lv_sub hl [0, 1, 2, 3] rfl)
      · have h := iF c2 h
        refine lv_aload_n hx hb dX12_doRow_11 rfl (lv_at hl 1 rfl) ?_
        refine lv_iload_n hx hb dX12_doRow_12 rfl (lv_at hl 3 rfl) ?_
        refine lv_iconst (v := 5) hx hb dX12_doRow_13 (by decide) ?_
        refine lv_iload_n hx hb dX12_doRow_14 rfl (lv_at hl 2 rfl) ?_
        refine lv_iconst (v := 1) hx hb dX12_doRow_15 (by decide) ?_
        refine lv_isub hx hb dX12_doRow_16 ?_
        refine lv_iload_n hx hb dX12_doRow_17 rfl (lv_at hl 0 rfl) ?_
        refine lv_isub hx hb dX12_doRow_18 ?_
        obtain ⟨q3, hq3, h⟩ := bS h
        refine rcI (va_runS (As := [.int 5, .int ((p1 - 1) - x3_6)]) (rest := [.int p2, .ref (a 0)]) ⟨hx, hb, hml, hown, hts⟩ (c_mm_power l D cI cJ cZ   H 5 ((p1 - 1) - x3_6) q3 hq3) (va_cwS 2 hts gX12_doRow_X12_power rfl rfl rfl (by decide +kernel) ⟨Nat.le_of_ble_eq_true rfl, Nat.le_of_ble_eq_true rfl⟩) (rPreS hK) rfl rfl hl.1 rfl (lv_room (Nat.le_of_ble_eq_true rfl)) dX12_doRow_19 ⟨Nat.zero_le _, Nat.zero_le _⟩) ?_
        obtain ⟨hd4, h⟩ := gD_some h
        refine lv_idiv hx hb dX12_doRow_22 hd4 ?_
        refine lv_iconst (v := 5) hx hb dX12_doRow_23 (by decide) ?_
        refine lv_irem hx hb dX12_doRow_24 (by decide) ?_
        obtain ⟨q5, hq5, h⟩ := bS h
        refine wcI (va_runV (As := [.int ((p2 / q3) - (p2 / q3) / 5 * 5)]) (rest := []) ⟨hx, hb, hml, hown, hts⟩ (c_mm_turn l D cI cJ cZ a mPeople mHours mGrains mKind mWind mWeight mSort mOwner mNow_6x mReadKind mReadWind mReadGrain mReadPeople mReadHours mReadGrains mText mLength mAt mFaultAt mMoved_6x mActs mNext mRow mSeen mSeenKind mSeenLift mSeenFlew mSeed mIsKept mKept H.size ((p2 / q3) - (p2 / q3) / 5 * 5) q5.1 q5.2.1 q5.2.2 hq5) (cwV 1 hts gX12_doRow_X12_turn rfl rfl rfl (by decide +kernel) ⟨Nat.le_of_ble_eq_true rfl, Nat.le_of_ble_eq_true rfl⟩) (wPreV hK hP hD (ci := 5) (q0 := 0) rfl rfl) rfl rfl hl.1 rfl (lv_room (Nat.le_of_ble_eq_true rfl)) dX12_doRow_25 ⟨Nat.zero_le _, Nat.zero_le _⟩) hD hS hA (fun H locs hP hD hS => ?_)
        have hP : va_P D vwCl (mW a cI cZ mPeople mHours mGrains mKind mWind mWeight mSort mOwner q5.2.1 mReadKind mReadWind mReadGrain mReadPeople mReadHours mReadGrains mText mLength mAt mFaultAt q5.2.2 mActs mNext mRow mSeen mSeenKind mSeenLift mSeenFlew mSeed mIsKept mKept) H := hP
        have hD : va_D A (mW a cI cZ mPeople mHours mGrains mKind mWind mWeight mSort mOwner q5.2.1 mReadKind mReadWind mReadGrain mReadPeople mReadHours mReadGrains mText mLength mAt mFaultAt q5.2.2 mActs mNext mRow mSeen mSeenKind mSeenLift mSeenFlew mSeed mIsKept mKept) := hD
        refine lv_if_ne (tgt := 33) hx hb dX12_doRow_28 (by decide) (fun c6 => ?_) (fun c6 => ?_)
        · have h := iF c6 h
          refine lv_iinc (v := (x3_6 + 1)) (lv' := [(3, .int (x3_6 + 1)), (0, .ref (a 0)), (1, .int p1), (2, .int p2)]) hx hb dX12_doRow_33 hl (k := 0) rfl rfl (by decide) rfl (fun ls hl => ?_)
          refine lv_goto (tgt := 6) hx hb dX12_doRow_36 (by decide) ?_
          exact ih _ _ _ _ _ _ _ h hP hD hS (lv_sub hl [0, 1, 2, 3] rfl) hk
        · have h := iT c6 h
          refine lv_iconst (v := 0) hx hb dX12_doRow_31 (by decide) ?_
          cases h
          subst hAe
          exact W.zret hx hb hr (by decide) (fun t ht _ => ⟨⟨_, (), rfl, rfl, by rw [ht]; exact hP, hD⟩, hS.F ht⟩) hS.2.2 dX12_doRow_32
  refine L6 _ _ _ _ _ _ _ _ h hP hD hS hl (fun y3_6 mNow_6 mMoved_6 H locs ls h hP hD hS hl => ?_)
  refine lv_iconst (v := 1) hx hb dX12_doRow_39 (by decide) ?_
  cases h
  subst hAe
  exact W.zret hx hb hr (by decide) (fun t ht _ => ⟨⟨_, (), rfl, rfl, by rw [ht]; exact hP, hD⟩, hS.F ht⟩) hS.2.2 dX12_doRow_40

set_option maxHeartbeats 4000000 in
set_option maxRecDepth 100000 in
theorem c_mm_best (l : Launch) (D : va_G) (cI cJ cZ : ClassId) (a : Nat → Nat) (mPeople : Int32) (mHours : Int32) (mGrains : Int32) (mKind : Nat → Int32) (mWind : Nat → Int32) (mWeight : Nat → Int32) (mSort : Nat → Int32) (mOwner : Nat → Int32) (mNow : Nat → Int32) (mReadKind : Nat → Int32) (mReadWind : Nat → Int32) (mReadGrain : Nat → Int32) (mReadPeople : Int32) (mReadHours : Int32) (mReadGrains : Int32) (mText : Nat → Int32) (mLength : Int32) (mAt : Int32) (mFaultAt : Int32) (mMoved : Nat → Int32) (mActs : Int32) (mNext : Int32) (mRow : Nat → Int32) (mSeen : Int32) (mSeenKind : Nat → Int32) (mSeenLift : Nat → Int32) (mSeenFlew : Nat → Int32) (mSeed : Int64) (mIsKept : Nat → Int32) (mKept : Nat → Int32)  (sz : Nat) (p1 : Int32) (p2 : Int32) (rv : Int32) (mNow_r : Nat → Int32) (mMoved_r : Nat → Int32) (h : mm_best mPeople mHours mGrains mKind mWind mWeight mSort mOwner mNow mMoved p1 p2 = some (rv, mNow_r, mMoved_r)) : Met l yX12_best wsX12_best ({ frames := 7, cells := 0, slots := 0, locals := 164 } : Room) (wPc D cI cJ cZ (mW a cI cZ mPeople mHours mGrains mKind mWind mWeight mSort mOwner mNow mReadKind mReadWind mReadGrain mReadPeople mReadHours mReadGrains mText mLength mAt mFaultAt mMoved mActs mNext mRow mSeen mSeenKind mSeenLift mSeenFlew mSeed mIsKept mKept) sz [.ref (a 0), .int p1, .int p2]) (wQi D (mW a cI cZ mPeople mHours mGrains mKind mWind mWeight mSort mOwner mNow mReadKind mReadWind mReadGrain mReadPeople mReadHours mReadGrains mText mLength mAt mFaultAt mMoved mActs mNext mRow mSeen mSeenKind mSeenLift mSeenFlew mSeed mIsKept mKept) (mW a cI cZ mPeople mHours mGrains mKind mWind mWeight mSort mOwner mNow_r mReadKind mReadWind mReadGrain mReadPeople mReadHours mReadGrains mText mLength mAt mFaultAt mMoved_r mActs mNext mRow mSeen mSeenKind mSeenLift mSeenFlew mSeed mIsKept mKept) sz rv) 0 0 (va_A (mW a cI cZ mPeople mHours mGrains mKind mWind mWeight mSort mOwner mNow mReadKind mReadWind mReadGrain mReadPeople mReadHours mReadGrains mText mLength mAt mFaultAt mMoved mActs mNext mRow mSeen mSeenKind mSeenLift mSeenFlew mSeed mIsKept mKept) sz) := by
  unfold mm_best at h
  refine Met.ofW (cc := cX12_best) (maxL := 7) (ret := (some .int)) (by decide) rfl ?_
  intro p e s m args below meth c s₁ B hml hv
  obtain ⟨rfl, hsz, hP, hK, hD0⟩ := hv
  have hx := B.exec
  have hb := B.bytes
  have hr := B.returns
  have hts := atoms_spec (ws := wsX12_best) B.pre
  have hown : s.vm.findClass RX12 = some m.cls := findClass_of_methodNamed B.named
  have hlocks := B.notSynchronized
  subst hsz
  have hD := hD0.self (sz := s.heap.size)
  have hA : ∀ q : Nat, s.heap.size ≤ q → va_A (mW a cI cZ mPeople mHours mGrains mKind mWind mWeight mSort mOwner mNow mReadKind mReadWind mReadGrain mReadPeople mReadHours mReadGrains mText mLength mAt mFaultAt mMoved mActs mNext mRow mSeen mSeenKind mSeenLift mSeenFlew mSeed mIsKept mKept) s.heap.size q := fun q h => Or.inr h
  have hS : va_S (va_A (mW a cI cZ mPeople mHours mGrains mKind mWind mWeight mSort mOwner mNow mReadKind mReadWind mReadGrain mReadPeople mReadHours mReadGrains mText mLength mAt mFaultAt mMoved mActs mNext mRow mSeen mSeenKind mSeenLift mSeenFlew mSeed mIsKept mKept) s.heap.size) s.heap s.heap [] := va_S.rf
  obtain ⟨A, hAe⟩ : ∃ A, A = va_A (mW a cI cZ mPeople mHours mGrains mKind mWind mWeight mSort mOwner mNow mReadKind mReadWind mReadGrain mReadPeople mReadHours mReadGrains mText mLength mAt mFaultAt mMoved mActs mNext mRow mSeen mSeenKind mSeenLift mSeenFlew mSeed mIsKept mKept) s.heap.size := ⟨_, rfl⟩
  rw [← hAe] at hD hA hS
  have hl := lv_entry ([.ref (a 0), .int p1, .int p2]) (n := 7) (Nat.le_of_ble_eq_true rfl)
  rw [lg_entry_eq]
  generalize (lg_sl ([.ref (a 0), .int p1, .int p2]) ++ List.replicate (7 - (lg_sl ([.ref (a 0), .int p1, .int p2])).length) Slot.unset).toArray = ls at hl ⊢
  have hl : lv_has ls 7 [(0, .ref (a 0)), (1, .int p1), (2, .int p2)] := hl
  refine lv_iload_n hx hb dX12_best_0 rfl (lv_at hl 1 rfl) ?_
  refine lv_i2l (v := (Int32.toInt64 p1)) hx hb dX12_best_1 rfl ?_
  refine lv_lconst (v := 1) hx hb dX12_best_2 (by decide) ?_
  refine lv_ldc2 (own := RX12) (v := 4) hx hb hown (hts (.constantLong RX12 181 (4)) (by decide +kernel)) dX12_best_3 ?_
  obtain ⟨q1, hq1, h⟩ := bS h
  refine rcI (va_runS (As := [.long (Int32.toInt64 p1), .long 1, .long 4]) (rest := []) ⟨hx, hb, hml, hown, hts⟩ (c_mm_in l D cI cJ cZ   s.heap (Int32.toInt64 p1) 1 4 q1 hq1) (va_cwS 3 hts gX12_best_X12_in rfl rfl rfl (by decide +kernel) ⟨Nat.le_of_ble_eq_true rfl, Nat.le_of_ble_eq_true rfl⟩) (rPreS hK) rfl rfl hl.1 rfl (lv_room (Nat.le_of_ble_eq_true rfl)) dX12_best_6 ⟨Nat.zero_le _, Nat.zero_le _⟩) ?_
  refine lv_if_ne (tgt := 15) hx hb dX12_best_9 (by decide) (fun c2 => ?_) (fun c2 => ?_)
  · have h := iF c2 h
    refine lv_bipush (v := (-9)) hx hb dX12_best_15 (by decide) ?_
    refine lv_istore_n (lv' := [(3, .int (-9)), (0, .ref (a 0)), (1, .int p1), (2, .int p2)]) hx hb dX12_best_17 rfl hl (by decide) rfl (fun ls hl => ?_)
    refine lv_iconst (v := 0) hx hb dX12_best_18 (by decide) ?_
    refine lv_istore (lv' := [(4, .int 0), (3, .int (-9)), (0, .ref (a 0)), (1, .int p1), (2, .int p2)]) hx hb dX12_best_19 hl (by decide) rfl (fun ls hl => ?_)
    refine lv_iconst (v := 0) hx hb dX12_best_21 (by decide) ?_
    refine lv_istore (lv' := [(5, .int 0), (4, .int 0), (3, .int (-9)), (0, .ref (a 0)), (1, .int p1), (2, .int p2)]) hx hb dX12_best_22 hl (by decide) rfl (fun ls hl => ?_)
    have L24 : ∀ (n : Nat) (x5_24 : Int32) (x4_24 : Int32) (x3_24 : Int32) (mNow_24x : (Nat → Int32)) (mMoved_24x : (Nat → Int32)) (H : Heap) (locs : List Loc) (ls : Array Slot) (kx : Int32 → Int32 → Int32 → (Nat → Int32) → (Nat → Int32) → Option (Int32 × (Nat → Int32) × (Nat → Int32))), mm_best_L24 mPeople mHours mGrains mKind mWind mWeight mSort mOwner p1 kx n x5_24 x4_24 x3_24 mNow_24x mMoved_24x = some (rv, mNow_r, mMoved_r) → va_P D vwCl (mW a cI cZ mPeople mHours mGrains mKind mWind mWeight mSort mOwner mNow_24x mReadKind mReadWind mReadGrain mReadPeople mReadHours mReadGrains mText mLength mAt mFaultAt mMoved_24x mActs mNext mRow mSeen mSeenKind mSeenLift mSeenFlew mSeed mIsKept mKept) H → va_D A (mW a cI cZ mPeople mHours mGrains mKind mWind mWeight mSort mOwner mNow_24x mReadKind mReadWind mReadGrain mReadPeople mReadHours mReadGrains mText mLength mAt mFaultAt mMoved_24x mActs mNext mRow mSeen mSeenKind mSeenLift mSeenFlew mSeed mIsKept mKept) → va_S A s.heap H locs → lv_has ls 7 [(5, .int x5_24), (4, .int x4_24), (3, .int x3_24), (0, .ref (a 0)), (1, .int p1), (2, .int p2)] → (∀ (y5_24 : Int32) (y4_24 : Int32) (y3_24 : Int32) (mNow_24 : (Nat → Int32)) (mMoved_24 : (Nat → Int32)) (H : Heap) (locs : List Loc) (ls : Array Slot), kx y5_24 y4_24 y3_24 mNow_24 mMoved_24 = some (rv, mNow_r, mMoved_r) → va_P D vwCl (mW a cI cZ mPeople mHours mGrains mKind mWind mWeight mSort mOwner mNow_24 mReadKind mReadWind mReadGrain mReadPeople mReadHours mReadGrains mText mLength mAt mFaultAt mMoved_24 mActs mNext mRow mSeen mSeenKind mSeenLift mSeenFlew mSeed mIsKept mKept) H → va_D A (mW a cI cZ mPeople mHours mGrains mKind mWind mWeight mSort mOwner mNow_24 mReadKind mReadWind mReadGrain mReadPeople mReadHours mReadGrains mText mLength mAt mFaultAt mMoved_24 mActs mNext mRow mSeen mSeenKind mSeenLift mSeenFlew mSeed mIsKept mKept) → va_S A s.heap H locs → lv_has ls 7 [(5, .int y5_24), (4, .int y4_24), (3, .int y3_24), (0, .ref (a 0)), (1, .int p1), (2, .int p2)] → W p l e (headSpec wsX12_best ({ frames := 7, cells := 0, slots := 0, locals := 164 } : Room)).room s m ([.ref (a 0), .int p1, .int p2] : List Value).toArray below meth c H locs 0 0 (MQ below (wQi D (mW a cI cZ mPeople mHours mGrains mKind mWind mWeight mSort mOwner mNow mReadKind mReadWind mReadGrain mReadPeople mReadHours mReadGrains mText mLength mAt mFaultAt mMoved mActs mNext mRow mSeen mSeenKind mSeenLift mSeenFlew mSeed mIsKept mKept) (mW a cI cZ mPeople mHours mGrains mKind mWind mWeight mSort mOwner mNow_r mReadKind mReadWind mReadGrain mReadPeople mReadHours mReadGrains mText mLength mAt mFaultAt mMoved_r mActs mNext mRow mSeen mSeenKind mSeenLift mSeenFlew mSeed mIsKept mKept) s.heap.size rv) ([.ref (a 0), .int p1, .int p2] : List Value).toArray s 0 0 (va_A (mW a cI cZ mPeople mHours mGrains mKind mWind mWeight mSort mOwner mNow mReadKind mReadWind mReadGrain mReadPeople mReadHours mReadGrains mText mLength mAt mFaultAt mMoved mActs mNext mRow mSeen mSeenKind mSeenLift mSeenFlew mSeed mIsKept mKept) s.heap.size)) (F0 m 75 ls [])) → W p l e (headSpec wsX12_best ({ frames := 7, cells := 0, slots := 0, locals := 164 } : Room)).room s m ([.ref (a 0), .int p1, .int p2] : List Value).toArray below meth c H locs 0 0 (MQ below (wQi D (mW a cI cZ mPeople mHours mGrains mKind mWind mWeight mSort mOwner mNow mReadKind mReadWind mReadGrain mReadPeople mReadHours mReadGrains mText mLength mAt mFaultAt mMoved mActs mNext mRow mSeen mSeenKind mSeenLift mSeenFlew mSeed mIsKept mKept) (mW a cI cZ mPeople mHours mGrains mKind mWind mWeight mSort mOwner mNow_r mReadKind mReadWind mReadGrain mReadPeople mReadHours mReadGrains mText mLength mAt mFaultAt mMoved_r mActs mNext mRow mSeen mSeenKind mSeenLift mSeenFlew mSeed mIsKept mKept) s.heap.size rv) ([.ref (a 0), .int p1, .int p2] : List Value).toArray s 0 0 (va_A (mW a cI cZ mPeople mHours mGrains mKind mWind mWeight mSort mOwner mNow mReadKind mReadWind mReadGrain mReadPeople mReadHours mReadGrains mText mLength mAt mFaultAt mMoved mActs mNext mRow mSeen mSeenKind mSeenLift mSeenFlew mSeed mIsKept mKept) s.heap.size)) (F0 m 24 ls []) := by
      intro n
      induction n with
      | zero => intro _ _ _ _ _ _ _ _ _ h; rw [mm_best_L24.eq_1] at h; cases h
      | succ n ih =>
        intro x5_24 x4_24 x3_24 mNow_24x mMoved_24x H locs ls kx h hP hD hS hl hk
        rw [mm_best_L24.eq_2] at h
        refine lv_iload hx hb dX12_best_24 (lv_at hl 0 rfl) ?_
        refine lv_iconst (v := 5) hx hb dX12_best_26 (by decide) ?_
        refine lv_iload_n hx hb dX12_best_27 rfl (lv_at hl 4 rfl) ?_
        obtain ⟨q3, hq3, h⟩ := bS h
        refine rcI (va_runS (As := [.int 5, .int p1]) (rest := [.int x5_24]) ⟨hx, hb, hml, hown, hts⟩ (c_mm_power l D cI cJ cZ   H 5 p1 q3 hq3) (va_cwS 2 hts gX12_best_X12_power rfl rfl rfl (by decide +kernel) ⟨Nat.le_of_ble_eq_true rfl, Nat.le_of_ble_eq_true rfl⟩) (rPreS hK) rfl rfl hl.1 rfl (lv_room (Nat.le_of_ble_eq_true rfl)) dX12_best_28 ⟨Nat.zero_le _, Nat.zero_le _⟩) ?_
        refine lv_icmp_ge (tgt := 75) hx hb dX12_best_31 (by decide) (fun c4 => ?_) (fun c4 => ?_)
        · have h := iT c4 h
          exact hk _ _ _ _ _ _ _ _ h hP hD hS (lv_sub hl [0, 1, 2, 3, 4, 5] rfl)
        · have h := iF c4 h
          refine lv_aload_n hx hb dX12_best_34 rfl (lv_at hl 3 rfl) ?_
          refine lv_iload_n hx hb dX12_best_35 rfl (lv_at hl 4 rfl) ?_
          refine lv_iload hx hb dX12_best_36 (lv_at hl 0 rfl) ?_
          obtain ⟨q5, hq5, h⟩ := bS h
          refine wcI (va_runV (As := [.int p1, .int x5_24]) (rest := []) ⟨hx, hb, hml, hown, hts⟩ (c_mm_doRow l D cI cJ cZ a mPeople mHours mGrains mKind mWind mWeight mSort mOwner mNow_24x mReadKind mReadWind mReadGrain mReadPeople mReadHours mReadGrains mText mLength mAt mFaultAt mMoved_24x mActs mNext mRow mSeen mSeenKind mSeenLift mSeenFlew mSeed mIsKept mKept H.size p1 x5_24 q5.1 q5.2.1 q5.2.2 hq5) (cwV 2 hts gX12_best_X12_doRow rfl rfl rfl (by decide +kernel) ⟨Nat.le_of_ble_eq_true rfl, Nat.le_of_ble_eq_true rfl⟩) (wPreV hK hP hD (ci := 5) (q0 := 0) rfl rfl) rfl rfl hl.1 rfl (lv_room (Nat.le_of_ble_eq_true rfl)) dX12_best_38 ⟨Nat.zero_le _, Nat.zero_le _⟩) hD hS hA (fun H locs hP hD hS => ?_)
          have hP : va_P D vwCl (mW a cI cZ mPeople mHours mGrains mKind mWind mWeight mSort mOwner q5.2.1 mReadKind mReadWind mReadGrain mReadPeople mReadHours mReadGrains mText mLength mAt mFaultAt q5.2.2 mActs mNext mRow mSeen mSeenKind mSeenLift mSeenFlew mSeed mIsKept mKept) H := hP
          have hD : va_D A (mW a cI cZ mPeople mHours mGrains mKind mWind mWeight mSort mOwner q5.2.1 mReadKind mReadWind mReadGrain mReadPeople mReadHours mReadGrains mText mLength mAt mFaultAt q5.2.2 mActs mNext mRow mSeen mSeenKind mSeenLift mSeenFlew mSeed mIsKept mKept) := hD
          refine lv_if_eq (tgt := 69) hx hb dX12_best_41 (by decide) (fun c6 => ?_) (fun c6 => ?_)
          · have h := iT c6 h
            refine lv_iinc (v := (x5_24 + 1)) (lv' := [(5, .int (x5_24 + 1)), (4, .int x4_24), (3, .int x3_24), (0, .ref (a 0)), (1, .int p1), (2, .int p2)]) hx hb dX12_best_69 hl (k := 0) rfl rfl (by decide) rfl (fun ls hl => ?_)
            refine lv_goto (tgt := 24) hx hb dX12_best_72 (by decide) ?_
            exact ih _ _ _ _ _ _ _ _ _ h hP hD hS (lv_sub hl [0, 1, 2, 3, 4, 5] rfl) hk
          · have h := iF c6 h
            refine lv_aload_n hx hb dX12_best_44 rfl (lv_at hl 3 rfl) ?_
            refine lv_iconst (v := 1) hx hb dX12_best_45 (by decide) ?_
            obtain ⟨q7, hq7, h⟩ := bS h
            refine rcI (va_runV (As := [.int 1]) (rest := []) ⟨hx, hb, hml, hown, hts⟩ (c_mm_rightOn l D cI cJ cZ a mPeople mHours mGrains mKind mWind mWeight mSort mOwner q5.2.1 mReadKind mReadWind mReadGrain mReadPeople mReadHours mReadGrains mText mLength mAt mFaultAt q5.2.2 mActs mNext mRow mSeen mSeenKind mSeenLift mSeenFlew mSeed mIsKept mKept H hP 1 q7 hq7) (cwV 1 hts gX12_best_X12_rightOn rfl rfl rfl (by decide +kernel) ⟨Nat.le_of_ble_eq_true rfl, Nat.le_of_ble_eq_true rfl⟩) (rPreV hK hP (ci := 5) (q0 := 0) rfl rfl) rfl rfl hl.1 rfl (lv_room (Nat.le_of_ble_eq_true rfl)) dX12_best_46 ⟨Nat.zero_le _, Nat.zero_le _⟩) ?_
            obtain ⟨q8, hq8, h⟩ := bS h
            refine rcI (va_runS (As := [.int q7]) (rest := []) ⟨hx, hb, hml, hown, hts⟩ (c_mm_ones l D cI cJ cZ   H q7 q8 hq8) (va_cwS 1 hts gX12_best_X12_ones rfl rfl rfl (by decide +kernel) ⟨Nat.le_of_ble_eq_true rfl, Nat.le_of_ble_eq_true rfl⟩) (rPreS hK) rfl rfl hl.1 rfl (lv_room (Nat.le_of_ble_eq_true rfl)) dX12_best_49 ⟨Nat.zero_le _, Nat.zero_le _⟩) ?_
            refine lv_iload_n hx hb dX12_best_52 rfl (lv_at hl 2 rfl) ?_
            refine lv_icmp_le (tgt := 69) hx hb dX12_best_53 (by decide) (fun c9 => ?_) (fun c9 => ?_)
            · have h := iT c9 h
              refine lv_iinc (v := (x5_24 + 1)) (lv' := [(5, .int (x5_24 + 1)), (4, .int x4_24), (3, .int x3_24), (0, .ref (a 0)), (1, .int p1), (2, .int p2)]) hx hb dX12_best_69 hl (k := 0) rfl rfl (by decide) rfl (fun ls hl => ?_)
              refine lv_goto (tgt := 24) hx hb dX12_best_72 (by decide) ?_
              exact ih _ _ _ _ _ _ _ _ _ h hP hD hS (lv_sub hl [0, 1, 2, 3, 4, 5] rfl) hk
            · have h := iF c9 h
              refine lv_aload_n hx hb dX12_best_56 rfl (lv_at hl 3 rfl) ?_
              refine lv_iconst (v := 1) hx hb dX12_best_57 (by decide) ?_
              obtain ⟨q10, hq10, h⟩ := bS h
              refine rcI (va_runV (As := [.int 1]) (rest := []) ⟨hx, hb, hml, hown, hts⟩ (c_mm_rightOn l D cI cJ cZ a mPeople mHours mGrains mKind mWind mWeight mSort mOwner q5.2.1 mReadKind mReadWind mReadGrain mReadPeople mReadHours mReadGrains mText mLength mAt mFaultAt q5.2.2 mActs mNext mRow mSeen mSeenKind mSeenLift mSeenFlew mSeed mIsKept mKept H hP 1 q10 hq10) (cwV 1 hts gX12_best_X12_rightOn rfl rfl rfl (by decide +kernel) ⟨Nat.le_of_ble_eq_true rfl, Nat.le_of_ble_eq_true rfl⟩) (rPreV hK hP (ci := 5) (q0 := 0) rfl rfl) rfl rfl hl.1 rfl (lv_room (Nat.le_of_ble_eq_true rfl)) dX12_best_58 ⟨Nat.zero_le _, Nat.zero_le _⟩) ?_
              obtain ⟨q11, hq11, h⟩ := bS h
              refine rcI (va_runS (As := [.int q10]) (rest := []) ⟨hx, hb, hml, hown, hts⟩ (c_mm_ones l D cI cJ cZ   H q10 q11 hq11) (va_cwS 1 hts gX12_best_X12_ones rfl rfl rfl (by decide +kernel) ⟨Nat.le_of_ble_eq_true rfl, Nat.le_of_ble_eq_true rfl⟩) (rPreS hK) rfl rfl hl.1 rfl (lv_room (Nat.le_of_ble_eq_true rfl)) dX12_best_61 ⟨Nat.zero_le _, Nat.zero_le _⟩) ?_
              refine lv_istore_n (lv' := [(3, .int q11), (5, .int x5_24), (4, .int x4_24), (0, .ref (a 0)), (1, .int p1), (2, .int p2)]) hx hb dX12_best_64 rfl hl (by decide) rfl (fun ls hl => ?_)
              refine lv_iload hx hb dX12_best_65 (lv_at hl 1 rfl) ?_
              refine lv_istore (lv' := [(4, .int x5_24), (3, .int q11), (5, .int x5_24), (0, .ref (a 0)), (1, .int p1), (2, .int p2)]) hx hb dX12_best_67 hl (by decide) rfl (fun ls hl => ?_)
              refine lv_iinc (v := (x5_24 + 1)) (lv' := [(5, .int (x5_24 + 1)), (4, .int x5_24), (3, .int q11), (0, .ref (a 0)), (1, .int p1), (2, .int p2)]) hx hb dX12_best_69 hl (k := 2) rfl rfl (by decide) rfl (fun ls hl => ?_)
              refine lv_goto (tgt := 24) hx hb dX12_best_72 (by decide) ?_
              exact ih _ _ _ _ _ _ _ _ _ h hP hD hS (lv_sub hl [0, 1, 2, 3, 4, 5] rfl) hk
    refine L24 _ _ _ _ _ _ _ _ _ _ h hP hD hS hl (fun y5_24 y4_24 y3_24 mNow_24 mMoved_24 H locs ls h hP hD hS hl => ?_)
    refine lv_iconst (v := 1) hx hb dX12_best_75 (by decide) ?_
    refine lv_istore (lv' := [(5, .int 1), (4, .int y4_24), (3, .int y3_24), (0, .ref (a 0)), (1, .int p1), (2, .int p2)]) hx hb dX12_best_76 hl (by decide) rfl (fun ls hl => ?_)
    refine lv_iconst (v := 0) hx hb dX12_best_78 (by decide) ?_
    refine lv_istore (lv' := [(6, .int 0), (5, .int 1), (4, .int y4_24), (3, .int y3_24), (0, .ref (a 0)), (1, .int p1), (2, .int p2)]) hx hb dX12_best_79 hl (by decide) rfl (fun ls hl => ?_)
    have L81 : ∀ (n : Nat) (x6_81 : Int32) (x5_81 : Int32) (H : Heap) (locs : List Loc) (ls : Array Slot) (kx : Int32 → Int32 → Option (Int32 × (Nat → Int32) × (Nat → Int32))), mm_best_L81 p1 y4_24 kx n x6_81 x5_81 = some (rv, mNow_r, mMoved_r) → va_P D vwCl (mW a cI cZ mPeople mHours mGrains mKind mWind mWeight mSort mOwner mNow_24 mReadKind mReadWind mReadGrain mReadPeople mReadHours mReadGrains mText mLength mAt mFaultAt mMoved_24 mActs mNext mRow mSeen mSeenKind mSeenLift mSeenFlew mSeed mIsKept mKept) H → va_D A (mW a cI cZ mPeople mHours mGrains mKind mWind mWeight mSort mOwner mNow_24 mReadKind mReadWind mReadGrain mReadPeople mReadHours mReadGrains mText mLength mAt mFaultAt mMoved_24 mActs mNext mRow mSeen mSeenKind mSeenLift mSeenFlew mSeed mIsKept mKept) → va_S A s.heap H locs → lv_has ls 7 [(6, .int x6_81), (5, .int x5_81), (4, .int y4_24), (3, .int y3_24), (0, .ref (a 0)), (1, .int p1), (2, .int p2)] → (∀ (y6_81 : Int32) (y5_81 : Int32) (H : Heap) (locs : List Loc) (ls : Array Slot), kx y6_81 y5_81 = some (rv, mNow_r, mMoved_r) → va_P D vwCl (mW a cI cZ mPeople mHours mGrains mKind mWind mWeight mSort mOwner mNow_24 mReadKind mReadWind mReadGrain mReadPeople mReadHours mReadGrains mText mLength mAt mFaultAt mMoved_24 mActs mNext mRow mSeen mSeenKind mSeenLift mSeenFlew mSeed mIsKept mKept) H → va_D A (mW a cI cZ mPeople mHours mGrains mKind mWind mWeight mSort mOwner mNow_24 mReadKind mReadWind mReadGrain mReadPeople mReadHours mReadGrains mText mLength mAt mFaultAt mMoved_24 mActs mNext mRow mSeen mSeenKind mSeenLift mSeenFlew mSeed mIsKept mKept) → va_S A s.heap H locs → lv_has ls 7 [(6, .int y6_81), (5, .int y5_81), (4, .int y4_24), (3, .int y3_24), (0, .ref (a 0)), (1, .int p1), (2, .int p2)] → W p l e (headSpec wsX12_best ({ frames := 7, cells := 0, slots := 0, locals := 164 } : Room)).room s m ([.ref (a 0), .int p1, .int p2] : List Value).toArray below meth c H locs 0 0 (MQ below (wQi D (mW a cI cZ mPeople mHours mGrains mKind mWind mWeight mSort mOwner mNow mReadKind mReadWind mReadGrain mReadPeople mReadHours mReadGrains mText mLength mAt mFaultAt mMoved mActs mNext mRow mSeen mSeenKind mSeenLift mSeenFlew mSeed mIsKept mKept) (mW a cI cZ mPeople mHours mGrains mKind mWind mWeight mSort mOwner mNow_r mReadKind mReadWind mReadGrain mReadPeople mReadHours mReadGrains mText mLength mAt mFaultAt mMoved_r mActs mNext mRow mSeen mSeenKind mSeenLift mSeenFlew mSeed mIsKept mKept) s.heap.size rv) ([.ref (a 0), .int p1, .int p2] : List Value).toArray s 0 0 (va_A (mW a cI cZ mPeople mHours mGrains mKind mWind mWeight mSort mOwner mNow mReadKind mReadWind mReadGrain mReadPeople mReadHours mReadGrains mText mLength mAt mFaultAt mMoved mActs mNext mRow mSeen mSeenKind mSeenLift mSeenFlew mSeed mIsKept mKept) s.heap.size)) (F0 m 116 ls [])) → W p l e (headSpec wsX12_best ({ frames := 7, cells := 0, slots := 0, locals := 164 } : Room)).room s m ([.ref (a 0), .int p1, .int p2] : List Value).toArray below meth c H locs 0 0 (MQ below (wQi D (mW a cI cZ mPeople mHours mGrains mKind mWind mWeight mSort mOwner mNow mReadKind mReadWind mReadGrain mReadPeople mReadHours mReadGrains mText mLength mAt mFaultAt mMoved mActs mNext mRow mSeen mSeenKind mSeenLift mSeenFlew mSeed mIsKept mKept) (mW a cI cZ mPeople mHours mGrains mKind mWind mWeight mSort mOwner mNow_r mReadKind mReadWind mReadGrain mReadPeople mReadHours mReadGrains mText mLength mAt mFaultAt mMoved_r mActs mNext mRow mSeen mSeenKind mSeenLift mSeenFlew mSeed mIsKept mKept) s.heap.size rv) ([.ref (a 0), .int p1, .int p2] : List Value).toArray s 0 0 (va_A (mW a cI cZ mPeople mHours mGrains mKind mWind mWeight mSort mOwner mNow mReadKind mReadWind mReadGrain mReadPeople mReadHours mReadGrains mText mLength mAt mFaultAt mMoved mActs mNext mRow mSeen mSeenKind mSeenLift mSeenFlew mSeed mIsKept mKept) s.heap.size)) (F0 m 81 ls []) := by
      intro n
      induction n with
      | zero => intro _ _ _ _ _ _ h; rw [mm_best_L81.eq_1] at h; cases h
      | succ n ih =>
        intro x6_81 x5_81 H locs ls kx h hP hD hS hl hk
        rw [mm_best_L81.eq_2] at h
        refine lv_iload hx hb dX12_best_81 (lv_at hl 0 rfl) ?_
        refine lv_iload_n hx hb dX12_best_83 rfl (lv_at hl 5 rfl) ?_
        refine lv_icmp_ge (tgt := 116) hx hb dX12_best_84 (by decide) (fun c3 => ?_) (fun c3 => ?_)
        · have h := iT c3 h
          exact hk _ _ _ _ _ h hP hD hS (lv_sub hl [0, 1, 2, 3, 4, 5, 6] rfl)
        · have h := iF c3 h
          refine lv_bipush (v := 10) hx hb dX12_best_87 (by decide) ?_
          refine lv_iload hx hb dX12_best_89 (lv_at hl 1 rfl) ?_
          refine lv_imul hx hb dX12_best_91 ?_
          refine lv_iload hx hb dX12_best_92 (lv_at hl 2 rfl) ?_
          refine lv_iconst (v := 5) hx hb dX12_best_94 (by decide) ?_
          refine lv_iload_n hx hb dX12_best_95 rfl (lv_at hl 5 rfl) ?_
          refine lv_iconst (v := 1) hx hb dX12_best_96 (by decide) ?_
          refine lv_isub hx hb dX12_best_97 ?_
          refine lv_iload hx hb dX12_best_98 (lv_at hl 0 rfl) ?_
          refine lv_isub hx hb dX12_best_100 ?_
          obtain ⟨q4, hq4, h⟩ := bS h
          refine rcI (va_runS (As := [.int 5, .int ((p1 - 1) - x6_81)]) (rest := [.int y4_24, .int (10 * x5_81)]) ⟨hx, hb, hml, hown, hts⟩ (c_mm_power l D cI cJ cZ   H 5 ((p1 - 1) - x6_81) q4 hq4) (va_cwS 2 hts gX12_best_X12_power rfl rfl rfl (by decide +kernel) ⟨Nat.le_of_ble_eq_true rfl, Nat.le_of_ble_eq_true rfl⟩) (rPreS hK) rfl rfl hl.1 rfl (lv_room (Nat.le_of_ble_eq_true rfl)) dX12_best_101 ⟨Nat.zero_le _, Nat.zero_le _⟩) ?_
          obtain ⟨hd5, h⟩ := gD_some h
          refine lv_idiv hx hb dX12_best_104 hd5 ?_
          refine lv_iconst (v := 5) hx hb dX12_best_105 (by decide) ?_
          refine lv_irem hx hb dX12_best_106 (by decide) ?_
          refine lv_iadd hx hb dX12_best_107 ?_
          refine lv_istore (lv' := [(5, .int ((10 * x5_81) + ((y4_24 / q4) - (y4_24 / q4) / 5 * 5))), (6, .int x6_81), (4, .int y4_24), (3, .int y3_24), (0, .ref (a 0)), (1, .int p1), (2, .int p2)]) hx hb dX12_best_108 hl (by decide) rfl (fun ls hl => ?_)
          refine lv_iinc (v := (x6_81 + 1)) (lv' := [(6, .int (x6_81 + 1)), (5, .int ((10 * x5_81) + ((y4_24 / q4) - (y4_24 / q4) / 5 * 5))), (4, .int y4_24), (3, .int y3_24), (0, .ref (a 0)), (1, .int p1), (2, .int p2)]) hx hb dX12_best_110 hl (k := 1) rfl rfl (by decide) rfl (fun ls hl => ?_)
          refine lv_goto (tgt := 81) hx hb dX12_best_113 (by decide) ?_
          exact ih _ _ _ _ _ _ h hP hD hS (lv_sub hl [0, 1, 2, 3, 4, 5, 6] rfl) hk
    refine L81 _ _ _ _ _ _ _ h hP hD hS hl (fun y6_81 y5_81 H locs ls h hP hD hS hl => ?_)
    refine lv_iload_n hx hb dX12_best_116 rfl (lv_at hl 6 rfl) ?_
    refine lv_if_eq (tgt := 125) hx hb dX12_best_117 (by decide) (fun c3 => ?_) (fun c3 => ?_)
    · have h := iT c3 h
      refine lv_iload_n hx hb dX12_best_125 rfl (lv_at hl 3 rfl) ?_
      cases h
      subst hAe
      exact W.iret hx hb hr (fun t ht _ => ⟨⟨_, (), rfl, rfl, by rw [ht]; exact hP, hD⟩, hS.F ht⟩) hS.2.2 dX12_best_126
    · have h := iF c3 h
      refine lv_iload hx hb dX12_best_120 (lv_at hl 1 rfl) ?_
      refine lv_goto (tgt := 126) hx hb dX12_best_122 (by decide) ?_
      cases h
      subst hAe
      exact W.iret hx hb hr (fun t ht _ => ⟨⟨_, (), rfl, rfl, by rw [ht]; exact hP, hD⟩, hS.F ht⟩) hS.2.2 dX12_best_126
  · have h := iT c2 h
    refine lv_bipush (v := (-2)) hx hb dX12_best_12 (by decide) ?_
    cases h
    subst hAe
    exact W.iret hx hb hr (fun t ht _ => ⟨⟨_, (), rfl, rfl, by rw [ht]; exact hP, hD⟩, hS.F ht⟩) hS.2.2 dX12_best_14

set_option maxHeartbeats 4000000 in
set_option maxRecDepth 100000 in
theorem c_mm_fewest (l : Launch) (D : va_G) (cI cJ cZ : ClassId) (a : Nat → Nat) (mPeople : Int32) (mHours : Int32) (mGrains : Int32) (mKind : Nat → Int32) (mWind : Nat → Int32) (mWeight : Nat → Int32) (mSort : Nat → Int32) (mOwner : Nat → Int32) (mNow : Nat → Int32) (mReadKind : Nat → Int32) (mReadWind : Nat → Int32) (mReadGrain : Nat → Int32) (mReadPeople : Int32) (mReadHours : Int32) (mReadGrains : Int32) (mText : Nat → Int32) (mLength : Int32) (mAt : Int32) (mFaultAt : Int32) (mMoved : Nat → Int32) (mActs : Int32) (mNext : Int32) (mRow : Nat → Int32) (mSeen : Int32) (mSeenKind : Nat → Int32) (mSeenLift : Nat → Int32) (mSeenFlew : Nat → Int32) (mSeed : Int64) (mIsKept : Nat → Int32) (mKept : Nat → Int32)  (sz : Nat) (p1 : Int32) (rv : Int32) (mNow_r : Nat → Int32) (mMoved_r : Nat → Int32) (h : mm_fewest mPeople mHours mGrains mKind mWind mWeight mSort mOwner mNow mMoved p1 = some (rv, mNow_r, mMoved_r)) : Met l yX12_fewest wsX12_fewest ({ frames := 7, cells := 0, slots := 0, locals := 164 } : Room) (wPc D cI cJ cZ (mW a cI cZ mPeople mHours mGrains mKind mWind mWeight mSort mOwner mNow mReadKind mReadWind mReadGrain mReadPeople mReadHours mReadGrains mText mLength mAt mFaultAt mMoved mActs mNext mRow mSeen mSeenKind mSeenLift mSeenFlew mSeed mIsKept mKept) sz [.ref (a 0), .int p1]) (wQi D (mW a cI cZ mPeople mHours mGrains mKind mWind mWeight mSort mOwner mNow mReadKind mReadWind mReadGrain mReadPeople mReadHours mReadGrains mText mLength mAt mFaultAt mMoved mActs mNext mRow mSeen mSeenKind mSeenLift mSeenFlew mSeed mIsKept mKept) (mW a cI cZ mPeople mHours mGrains mKind mWind mWeight mSort mOwner mNow_r mReadKind mReadWind mReadGrain mReadPeople mReadHours mReadGrains mText mLength mAt mFaultAt mMoved_r mActs mNext mRow mSeen mSeenKind mSeenLift mSeenFlew mSeed mIsKept mKept) sz rv) 0 0 (va_A (mW a cI cZ mPeople mHours mGrains mKind mWind mWeight mSort mOwner mNow mReadKind mReadWind mReadGrain mReadPeople mReadHours mReadGrains mText mLength mAt mFaultAt mMoved mActs mNext mRow mSeen mSeenKind mSeenLift mSeenFlew mSeed mIsKept mKept) sz) := by
  unfold mm_fewest at h
  refine Met.ofW (cc := cX12_fewest) (maxL := 4) (ret := (some .int)) (by decide) rfl ?_
  intro p e s m args below meth c s₁ B hml hv
  obtain ⟨rfl, hsz, hP, hK, hD0⟩ := hv
  have hx := B.exec
  have hb := B.bytes
  have hr := B.returns
  have hts := atoms_spec (ws := wsX12_fewest) B.pre
  have hown : s.vm.findClass RX12 = some m.cls := findClass_of_methodNamed B.named
  have hlocks := B.notSynchronized
  subst hsz
  have hD := hD0.self (sz := s.heap.size)
  have hA : ∀ q : Nat, s.heap.size ≤ q → va_A (mW a cI cZ mPeople mHours mGrains mKind mWind mWeight mSort mOwner mNow mReadKind mReadWind mReadGrain mReadPeople mReadHours mReadGrains mText mLength mAt mFaultAt mMoved mActs mNext mRow mSeen mSeenKind mSeenLift mSeenFlew mSeed mIsKept mKept) s.heap.size q := fun q h => Or.inr h
  have hS : va_S (va_A (mW a cI cZ mPeople mHours mGrains mKind mWind mWeight mSort mOwner mNow mReadKind mReadWind mReadGrain mReadPeople mReadHours mReadGrains mText mLength mAt mFaultAt mMoved mActs mNext mRow mSeen mSeenKind mSeenLift mSeenFlew mSeed mIsKept mKept) s.heap.size) s.heap s.heap [] := va_S.rf
  obtain ⟨A, hAe⟩ : ∃ A, A = va_A (mW a cI cZ mPeople mHours mGrains mKind mWind mWeight mSort mOwner mNow mReadKind mReadWind mReadGrain mReadPeople mReadHours mReadGrains mText mLength mAt mFaultAt mMoved mActs mNext mRow mSeen mSeenKind mSeenLift mSeenFlew mSeed mIsKept mKept) s.heap.size := ⟨_, rfl⟩
  rw [← hAe] at hD hA hS
  have hl := lv_entry ([.ref (a 0), .int p1]) (n := 4) (Nat.le_of_ble_eq_true rfl)
  rw [lg_entry_eq]
  generalize (lg_sl ([.ref (a 0), .int p1]) ++ List.replicate (4 - (lg_sl ([.ref (a 0), .int p1])).length) Slot.unset).toArray = ls at hl ⊢
  have hl : lv_has ls 4 [(0, .ref (a 0)), (1, .int p1)] := hl
  refine lv_aload_n hx hb dX12_fewest_0 rfl (lv_at hl 0 rfl) ?_
  refine lv_iload_n hx hb dX12_fewest_1 rfl (lv_at hl 1 rfl) ?_
  obtain ⟨q1, hq1, h⟩ := bS h
  refine rcI (va_runV (As := [.int p1]) (rest := []) ⟨hx, hb, hml, hown, hts⟩ (c_mm_isPerson l D cI cJ cZ a mPeople mHours mGrains mKind mWind mWeight mSort mOwner mNow mReadKind mReadWind mReadGrain mReadPeople mReadHours mReadGrains mText mLength mAt mFaultAt mMoved mActs mNext mRow mSeen mSeenKind mSeenLift mSeenFlew mSeed mIsKept mKept s.heap hP p1 q1 hq1) (cwV 1 hts gX12_fewest_X12_isPerson rfl rfl rfl (by decide +kernel) ⟨Nat.le_of_ble_eq_true rfl, Nat.le_of_ble_eq_true rfl⟩) (rPreV hK hP (ci := 5) (q0 := 0) rfl rfl) rfl rfl hl.1 rfl (lv_room (Nat.le_of_ble_eq_true rfl)) dX12_fewest_2 ⟨Nat.zero_le _, Nat.zero_le _⟩) ?_
  refine lv_if_ne (tgt := 10) hx hb dX12_fewest_5 (by decide) (fun c2 => ?_) (fun c2 => ?_)
  · have h := iF c2 h
    refine lv_iconst (v := 0) hx hb dX12_fewest_10 (by decide) ?_
    refine lv_istore_n (lv' := [(2, .int 0), (0, .ref (a 0)), (1, .int p1)]) hx hb dX12_fewest_11 rfl hl (by decide) rfl (fun ls hl => ?_)
    have L12 : ∀ (n : Nat) (x2_12 : Int32) (mNow_12x : (Nat → Int32)) (mMoved_12x : (Nat → Int32)) (H : Heap) (locs : List Loc) (ls : Array Slot) (kx : Int32 → (Nat → Int32) → (Nat → Int32) → Option (Int32 × (Nat → Int32) × (Nat → Int32))), mm_fewest_L12 mPeople mHours mGrains mKind mWind mWeight mSort mOwner p1 kx n x2_12 mNow_12x mMoved_12x = some (rv, mNow_r, mMoved_r) → va_P D vwCl (mW a cI cZ mPeople mHours mGrains mKind mWind mWeight mSort mOwner mNow_12x mReadKind mReadWind mReadGrain mReadPeople mReadHours mReadGrains mText mLength mAt mFaultAt mMoved_12x mActs mNext mRow mSeen mSeenKind mSeenLift mSeenFlew mSeed mIsKept mKept) H → va_D A (mW a cI cZ mPeople mHours mGrains mKind mWind mWeight mSort mOwner mNow_12x mReadKind mReadWind mReadGrain mReadPeople mReadHours mReadGrains mText mLength mAt mFaultAt mMoved_12x mActs mNext mRow mSeen mSeenKind mSeenLift mSeenFlew mSeed mIsKept mKept) → va_S A s.heap H locs → lv_has ls 4 [(2, .int x2_12), (0, .ref (a 0)), (1, .int p1)] → (∀ (y2_12 : Int32) (mNow_12 : (Nat → Int32)) (mMoved_12 : (Nat → Int32)) (H : Heap) (locs : List Loc) (ls : Array Slot), kx y2_12 mNow_12 mMoved_12 = some (rv, mNow_r, mMoved_r) → va_P D vwCl (mW a cI cZ mPeople mHours mGrains mKind mWind mWeight mSort mOwner mNow_12 mReadKind mReadWind mReadGrain mReadPeople mReadHours mReadGrains mText mLength mAt mFaultAt mMoved_12 mActs mNext mRow mSeen mSeenKind mSeenLift mSeenFlew mSeed mIsKept mKept) H → va_D A (mW a cI cZ mPeople mHours mGrains mKind mWind mWeight mSort mOwner mNow_12 mReadKind mReadWind mReadGrain mReadPeople mReadHours mReadGrains mText mLength mAt mFaultAt mMoved_12 mActs mNext mRow mSeen mSeenKind mSeenLift mSeenFlew mSeed mIsKept mKept) → va_S A s.heap H locs → lv_has ls 4 [(2, .int y2_12), (0, .ref (a 0)), (1, .int p1)] → W p l e (headSpec wsX12_fewest ({ frames := 7, cells := 0, slots := 0, locals := 164 } : Room)).room s m ([.ref (a 0), .int p1] : List Value).toArray below meth c H locs 0 0 (MQ below (wQi D (mW a cI cZ mPeople mHours mGrains mKind mWind mWeight mSort mOwner mNow mReadKind mReadWind mReadGrain mReadPeople mReadHours mReadGrains mText mLength mAt mFaultAt mMoved mActs mNext mRow mSeen mSeenKind mSeenLift mSeenFlew mSeed mIsKept mKept) (mW a cI cZ mPeople mHours mGrains mKind mWind mWeight mSort mOwner mNow_r mReadKind mReadWind mReadGrain mReadPeople mReadHours mReadGrains mText mLength mAt mFaultAt mMoved_r mActs mNext mRow mSeen mSeenKind mSeenLift mSeenFlew mSeed mIsKept mKept) s.heap.size rv) ([.ref (a 0), .int p1] : List Value).toArray s 0 0 (va_A (mW a cI cZ mPeople mHours mGrains mKind mWind mWeight mSort mOwner mNow mReadKind mReadWind mReadGrain mReadPeople mReadHours mReadGrains mText mLength mAt mFaultAt mMoved mActs mNext mRow mSeen mSeenKind mSeenLift mSeenFlew mSeed mIsKept mKept) s.heap.size)) (F0 m 60 ls [])) → W p l e (headSpec wsX12_fewest ({ frames := 7, cells := 0, slots := 0, locals := 164 } : Room)).room s m ([.ref (a 0), .int p1] : List Value).toArray below meth c H locs 0 0 (MQ below (wQi D (mW a cI cZ mPeople mHours mGrains mKind mWind mWeight mSort mOwner mNow mReadKind mReadWind mReadGrain mReadPeople mReadHours mReadGrains mText mLength mAt mFaultAt mMoved mActs mNext mRow mSeen mSeenKind mSeenLift mSeenFlew mSeed mIsKept mKept) (mW a cI cZ mPeople mHours mGrains mKind mWind mWeight mSort mOwner mNow_r mReadKind mReadWind mReadGrain mReadPeople mReadHours mReadGrains mText mLength mAt mFaultAt mMoved_r mActs mNext mRow mSeen mSeenKind mSeenLift mSeenFlew mSeed mIsKept mKept) s.heap.size rv) ([.ref (a 0), .int p1] : List Value).toArray s 0 0 (va_A (mW a cI cZ mPeople mHours mGrains mKind mWind mWeight mSort mOwner mNow mReadKind mReadWind mReadGrain mReadPeople mReadHours mReadGrains mText mLength mAt mFaultAt mMoved mActs mNext mRow mSeen mSeenKind mSeenLift mSeenFlew mSeed mIsKept mKept) s.heap.size)) (F0 m 12 ls []) := by
      intro n
      induction n with
      | zero => intro _ _ _ _ _ _ _ h; rw [mm_fewest_L12.eq_1] at h; cases h
      | succ n ih =>
        intro x2_12 mNow_12x mMoved_12x H locs ls kx h hP hD hS hl hk
        rw [mm_fewest_L12.eq_2] at h
        refine lv_iload_n hx hb dX12_fewest_12 rfl (lv_at hl 0 rfl) ?_
        refine lv_iconst (v := 5) hx hb dX12_fewest_13 (by decide) ?_
        refine lv_icmp_ge (tgt := 60) hx hb dX12_fewest_14 (by decide) (fun c3 => ?_) (fun c3 => ?_)
        · have h := iT c3 h
          exact hk _ _ _ _ _ _ h hP hD hS (lv_sub hl [0, 1, 2] rfl)
        · have h := iF c3 h
          refine lv_iconst (v := 0) hx hb dX12_fewest_17 (by decide) ?_
          refine lv_istore_n (lv' := [(3, .int 0), (2, .int x2_12), (0, .ref (a 0)), (1, .int p1)]) hx hb dX12_fewest_18 rfl hl (by decide) rfl (fun ls hl => ?_)
          have L19 : ∀ (n : Nat) (x3_19 : Int32) (mNow_19x : (Nat → Int32)) (mMoved_19x : (Nat → Int32)) (H : Heap) (locs : List Loc) (ls : Array Slot) (kx : Int32 → (Nat → Int32) → (Nat → Int32) → Option (Int32 × (Nat → Int32) × (Nat → Int32))), mm_fewest_L19 mPeople mHours mGrains mKind mWind mWeight mSort mOwner p1 x2_12 kx n x3_19 mNow_19x mMoved_19x = some (rv, mNow_r, mMoved_r) → va_P D vwCl (mW a cI cZ mPeople mHours mGrains mKind mWind mWeight mSort mOwner mNow_19x mReadKind mReadWind mReadGrain mReadPeople mReadHours mReadGrains mText mLength mAt mFaultAt mMoved_19x mActs mNext mRow mSeen mSeenKind mSeenLift mSeenFlew mSeed mIsKept mKept) H → va_D A (mW a cI cZ mPeople mHours mGrains mKind mWind mWeight mSort mOwner mNow_19x mReadKind mReadWind mReadGrain mReadPeople mReadHours mReadGrains mText mLength mAt mFaultAt mMoved_19x mActs mNext mRow mSeen mSeenKind mSeenLift mSeenFlew mSeed mIsKept mKept) → va_S A s.heap H locs → lv_has ls 4 [(3, .int x3_19), (2, .int x2_12), (0, .ref (a 0)), (1, .int p1)] → (∀ (y3_19 : Int32) (mNow_19 : (Nat → Int32)) (mMoved_19 : (Nat → Int32)) (H : Heap) (locs : List Loc) (ls : Array Slot), kx y3_19 mNow_19 mMoved_19 = some (rv, mNow_r, mMoved_r) → va_P D vwCl (mW a cI cZ mPeople mHours mGrains mKind mWind mWeight mSort mOwner mNow_19 mReadKind mReadWind mReadGrain mReadPeople mReadHours mReadGrains mText mLength mAt mFaultAt mMoved_19 mActs mNext mRow mSeen mSeenKind mSeenLift mSeenFlew mSeed mIsKept mKept) H → va_D A (mW a cI cZ mPeople mHours mGrains mKind mWind mWeight mSort mOwner mNow_19 mReadKind mReadWind mReadGrain mReadPeople mReadHours mReadGrains mText mLength mAt mFaultAt mMoved_19 mActs mNext mRow mSeen mSeenKind mSeenLift mSeenFlew mSeed mIsKept mKept) → va_S A s.heap H locs → lv_has ls 4 [(3, .int y3_19), (2, .int x2_12), (0, .ref (a 0)), (1, .int p1)] → W p l e (headSpec wsX12_fewest ({ frames := 7, cells := 0, slots := 0, locals := 164 } : Room)).room s m ([.ref (a 0), .int p1] : List Value).toArray below meth c H locs 0 0 (MQ below (wQi D (mW a cI cZ mPeople mHours mGrains mKind mWind mWeight mSort mOwner mNow mReadKind mReadWind mReadGrain mReadPeople mReadHours mReadGrains mText mLength mAt mFaultAt mMoved mActs mNext mRow mSeen mSeenKind mSeenLift mSeenFlew mSeed mIsKept mKept) (mW a cI cZ mPeople mHours mGrains mKind mWind mWeight mSort mOwner mNow_r mReadKind mReadWind mReadGrain mReadPeople mReadHours mReadGrains mText mLength mAt mFaultAt mMoved_r mActs mNext mRow mSeen mSeenKind mSeenLift mSeenFlew mSeed mIsKept mKept) s.heap.size rv) ([.ref (a 0), .int p1] : List Value).toArray s 0 0 (va_A (mW a cI cZ mPeople mHours mGrains mKind mWind mWeight mSort mOwner mNow mReadKind mReadWind mReadGrain mReadPeople mReadHours mReadGrains mText mLength mAt mFaultAt mMoved mActs mNext mRow mSeen mSeenKind mSeenLift mSeenFlew mSeed mIsKept mKept) s.heap.size)) (F0 m 54 ls [])) → W p l e (headSpec wsX12_fewest ({ frames := 7, cells := 0, slots := 0, locals := 164 } : Room)).room s m ([.ref (a 0), .int p1] : List Value).toArray below meth c H locs 0 0 (MQ below (wQi D (mW a cI cZ mPeople mHours mGrains mKind mWind mWeight mSort mOwner mNow mReadKind mReadWind mReadGrain mReadPeople mReadHours mReadGrains mText mLength mAt mFaultAt mMoved mActs mNext mRow mSeen mSeenKind mSeenLift mSeenFlew mSeed mIsKept mKept) (mW a cI cZ mPeople mHours mGrains mKind mWind mWeight mSort mOwner mNow_r mReadKind mReadWind mReadGrain mReadPeople mReadHours mReadGrains mText mLength mAt mFaultAt mMoved_r mActs mNext mRow mSeen mSeenKind mSeenLift mSeenFlew mSeed mIsKept mKept) s.heap.size rv) ([.ref (a 0), .int p1] : List Value).toArray s 0 0 (va_A (mW a cI cZ mPeople mHours mGrains mKind mWind mWeight mSort mOwner mNow mReadKind mReadWind mReadGrain mReadPeople mReadHours mReadGrains mText mLength mAt mFaultAt mMoved mActs mNext mRow mSeen mSeenKind mSeenLift mSeenFlew mSeed mIsKept mKept) s.heap.size)) (F0 m 19 ls []) := by
            intro n
            induction n with
            | zero => intro _ _ _ _ _ _ _ h; rw [mm_fewest_L19.eq_1] at h; cases h
            | succ n ih =>
              intro x3_19 mNow_19x mMoved_19x H locs ls kx h hP hD hS hl hk
              rw [mm_fewest_L19.eq_2] at h
              refine lv_iload_n hx hb dX12_fewest_19 rfl (lv_at hl 0 rfl) ?_
              refine lv_iconst (v := 5) hx hb dX12_fewest_20 (by decide) ?_
              refine lv_iload_n hx hb dX12_fewest_21 rfl (lv_at hl 1 rfl) ?_
              obtain ⟨q4, hq4, h⟩ := bS h
              refine rcI (va_runS (As := [.int 5, .int x2_12]) (rest := [.int x3_19]) ⟨hx, hb, hml, hown, hts⟩ (c_mm_power l D cI cJ cZ   H 5 x2_12 q4 hq4) (va_cwS 2 hts gX12_fewest_X12_power rfl rfl rfl (by decide +kernel) ⟨Nat.le_of_ble_eq_true rfl, Nat.le_of_ble_eq_true rfl⟩) (rPreS hK) rfl rfl hl.1 rfl (lv_room (Nat.le_of_ble_eq_true rfl)) dX12_fewest_22 ⟨Nat.zero_le _, Nat.zero_le _⟩) ?_
              refine lv_icmp_ge (tgt := 54) hx hb dX12_fewest_25 (by decide) (fun c5 => ?_) (fun c5 => ?_)
              · have h := iT c5 h
                exact hk _ _ _ _ _ _ h hP hD hS (lv_sub hl [0, 1, 2, 3] rfl)
              · have h := iF c5 h
                refine lv_aload_n hx hb dX12_fewest_28 rfl (lv_at hl 2 rfl) ?_
                refine lv_iload_n hx hb dX12_fewest_29 rfl (lv_at hl 1 rfl) ?_
                refine lv_iload_n hx hb dX12_fewest_30 rfl (lv_at hl 0 rfl) ?_
                obtain ⟨q6, hq6, h⟩ := bS h
                refine wcI (va_runV (As := [.int x2_12, .int x3_19]) (rest := []) ⟨hx, hb, hml, hown, hts⟩ (c_mm_doRow l D cI cJ cZ a mPeople mHours mGrains mKind mWind mWeight mSort mOwner mNow_19x mReadKind mReadWind mReadGrain mReadPeople mReadHours mReadGrains mText mLength mAt mFaultAt mMoved_19x mActs mNext mRow mSeen mSeenKind mSeenLift mSeenFlew mSeed mIsKept mKept H.size x2_12 x3_19 q6.1 q6.2.1 q6.2.2 hq6) (cwV 2 hts gX12_fewest_X12_doRow rfl rfl rfl (by decide +kernel) ⟨Nat.le_of_ble_eq_true rfl, Nat.le_of_ble_eq_true rfl⟩) (wPreV hK hP hD (ci := 5) (q0 := 0) rfl rfl) rfl rfl hl.1 rfl (lv_room (Nat.le_of_ble_eq_true rfl)) dX12_fewest_31 ⟨Nat.zero_le _, Nat.zero_le _⟩) hD hS hA (fun H locs hP hD hS => ?_)
                have hP : va_P D vwCl (mW a cI cZ mPeople mHours mGrains mKind mWind mWeight mSort mOwner q6.2.1 mReadKind mReadWind mReadGrain mReadPeople mReadHours mReadGrains mText mLength mAt mFaultAt q6.2.2 mActs mNext mRow mSeen mSeenKind mSeenLift mSeenFlew mSeed mIsKept mKept) H := hP
                have hD : va_D A (mW a cI cZ mPeople mHours mGrains mKind mWind mWeight mSort mOwner q6.2.1 mReadKind mReadWind mReadGrain mReadPeople mReadHours mReadGrains mText mLength mAt mFaultAt q6.2.2 mActs mNext mRow mSeen mSeenKind mSeenLift mSeenFlew mSeed mIsKept mKept) := hD
                refine lv_if_eq (tgt := 48) hx hb dX12_fewest_34 (by decide) (fun c7 => ?_) (fun c7 => ?_)
                · have h := iT c7 h
                  refine lv_iinc (v := (x3_19 + 1)) (lv' := [(3, .int (x3_19 + 1)), (2, .int x2_12), (0, .ref (a 0)), (1, .int p1)]) hx hb dX12_fewest_48 hl (k := 0) rfl rfl (by decide) rfl (fun ls hl => ?_)
                  refine lv_goto (tgt := 19) hx hb dX12_fewest_51 (by decide) ?_
                  exact ih _ _ _ _ _ _ _ h hP hD hS (lv_sub hl [0, 1, 2, 3] rfl) hk
                · have h := iF c7 h
                  refine lv_aload_n hx hb dX12_fewest_37 rfl (lv_at hl 2 rfl) ?_
                  refine lv_iconst (v := 1) hx hb dX12_fewest_38 (by decide) ?_
                  refine lv_iload_n hx hb dX12_fewest_39 rfl (lv_at hl 3 rfl) ?_
                  obtain ⟨q8, hq8, h⟩ := bS h
                  refine rcI (va_runV (As := [.int 1, .int p1]) (rest := []) ⟨hx, hb, hml, hown, hts⟩ (c_mm_isClean l D cI cJ cZ a mPeople mHours mGrains mKind mWind mWeight mSort mOwner q6.2.1 mReadKind mReadWind mReadGrain mReadPeople mReadHours mReadGrains mText mLength mAt mFaultAt q6.2.2 mActs mNext mRow mSeen mSeenKind mSeenLift mSeenFlew mSeed mIsKept mKept H hP 1 p1 q8 hq8) (cwV 2 hts gX12_fewest_X12_isClean rfl rfl rfl (by decide +kernel) ⟨Nat.le_of_ble_eq_true rfl, Nat.le_of_ble_eq_true rfl⟩) (rPreV hK hP (ci := 5) (q0 := 0) rfl rfl) rfl rfl hl.1 rfl (lv_room (Nat.le_of_ble_eq_true rfl)) dX12_fewest_40 ⟨Nat.zero_le _, Nat.zero_le _⟩) ?_
                  refine lv_if_eq (tgt := 48) hx hb dX12_fewest_43 (by decide) (fun c9 => ?_) (fun c9 => ?_)
                  · have h := iT c9 h
                    refine lv_iinc (v := (x3_19 + 1)) (lv' := [(3, .int (x3_19 + 1)), (2, .int x2_12), (0, .ref (a 0)), (1, .int p1)]) hx hb dX12_fewest_48 hl (k := 0) rfl rfl (by decide) rfl (fun ls hl => ?_)
                    refine lv_goto (tgt := 19) hx hb dX12_fewest_51 (by decide) ?_
                    exact ih _ _ _ _ _ _ _ h hP hD hS (lv_sub hl [0, 1, 2, 3] rfl) hk
                  · have h := iF c9 h
                    refine lv_iload_n hx hb dX12_fewest_46 rfl (lv_at hl 1 rfl) ?_
                    cases h
                    subst hAe
                    exact W.iret hx hb hr (fun t ht _ => ⟨⟨_, (), rfl, rfl, by rw [ht]; exact hP, hD⟩, hS.F ht⟩) hS.2.2 dX12_fewest_47
          refine L19 _ _ _ _ _ _ _ _ h hP hD hS hl (fun y3_19 mNow_19 mMoved_19 H locs ls h hP hD hS hl => ?_)
          refine lv_iinc (v := (x2_12 + 1)) (lv' := [(2, .int (x2_12 + 1)), (3, .int y3_19), (0, .ref (a 0)), (1, .int p1)]) hx hb dX12_fewest_54 hl (k := 1) rfl rfl (by decide) rfl (fun ls hl => ?_)
          refine lv_goto (tgt := 12) hx hb dX12_fewest_57 (by decide) ?_
          exact ih _ _ _ _ _ _ _ h hP hD hS (lv_sub hl [0, 2, 3] rfl) hk
    refine L12 _ _ _ _ _ _ _ _ h hP hD hS hl (fun y2_12 mNow_12 mMoved_12 H locs ls h hP hD hS hl => ?_)
    refine lv_bipush (v := (-9)) hx hb dX12_fewest_60 (by decide) ?_
    cases h
    subst hAe
    exact W.iret hx hb hr (fun t ht _ => ⟨⟨_, (), rfl, rfl, by rw [ht]; exact hP, hD⟩, hS.F ht⟩) hS.2.2 dX12_fewest_62
  · have h := iT c2 h
    refine lv_iconst (v := (-1)) hx hb dX12_fewest_8 (by decide) ?_
    cases h
    subst hAe
    exact W.iret hx hb hr (fun t ht _ => ⟨⟨_, (), rfl, rfl, by rw [ht]; exact hP, hD⟩, hS.F ht⟩) hS.2.2 dX12_fewest_9

set_option maxHeartbeats 4000000 in
set_option maxRecDepth 100000 in
theorem c_mm_when (l : Launch) (D : va_G) (cI cJ cZ : ClassId) (a : Nat → Nat) (mPeople : Int32) (mHours : Int32) (mGrains : Int32) (mKind : Nat → Int32) (mWind : Nat → Int32) (mWeight : Nat → Int32) (mSort : Nat → Int32) (mOwner : Nat → Int32) (mNow : Nat → Int32) (mReadKind : Nat → Int32) (mReadWind : Nat → Int32) (mReadGrain : Nat → Int32) (mReadPeople : Int32) (mReadHours : Int32) (mReadGrains : Int32) (mText : Nat → Int32) (mLength : Int32) (mAt : Int32) (mFaultAt : Int32) (mMoved : Nat → Int32) (mActs : Int32) (mNext : Int32) (mRow : Nat → Int32) (mSeen : Int32) (mSeenKind : Nat → Int32) (mSeenLift : Nat → Int32) (mSeenFlew : Nat → Int32) (mSeed : Int64) (mIsKept : Nat → Int32) (mKept : Nat → Int32)  (sz : Nat) (p1 : Int32) (rv : Int32) (mNow_r : Nat → Int32) (h : mm_when mPeople mHours mGrains mKind mWind mWeight mSort mOwner mNow p1 = some (rv, mNow_r)) : Met l yX12_when wsX12_when ({ frames := 3, cells := 0, slots := 0, locals := 68 } : Room) (wPc D cI cJ cZ (mW a cI cZ mPeople mHours mGrains mKind mWind mWeight mSort mOwner mNow mReadKind mReadWind mReadGrain mReadPeople mReadHours mReadGrains mText mLength mAt mFaultAt mMoved mActs mNext mRow mSeen mSeenKind mSeenLift mSeenFlew mSeed mIsKept mKept) sz [.ref (a 0), .int p1]) (wQi D (mW a cI cZ mPeople mHours mGrains mKind mWind mWeight mSort mOwner mNow mReadKind mReadWind mReadGrain mReadPeople mReadHours mReadGrains mText mLength mAt mFaultAt mMoved mActs mNext mRow mSeen mSeenKind mSeenLift mSeenFlew mSeed mIsKept mKept) (mW a cI cZ mPeople mHours mGrains mKind mWind mWeight mSort mOwner mNow_r mReadKind mReadWind mReadGrain mReadPeople mReadHours mReadGrains mText mLength mAt mFaultAt mMoved mActs mNext mRow mSeen mSeenKind mSeenLift mSeenFlew mSeed mIsKept mKept) sz rv) 0 0 (va_A (mW a cI cZ mPeople mHours mGrains mKind mWind mWeight mSort mOwner mNow mReadKind mReadWind mReadGrain mReadPeople mReadHours mReadGrains mText mLength mAt mFaultAt mMoved mActs mNext mRow mSeen mSeenKind mSeenLift mSeenFlew mSeed mIsKept mKept) sz) := by
  unfold mm_when at h
  refine Met.ofW (cc := cX12_when) (maxL := 3) (ret := (some .int)) (by decide) rfl ?_
  intro p e s m args below meth c s₁ B hml hv
  obtain ⟨rfl, hsz, hP, hK, hD0⟩ := hv
  have hx := B.exec
  have hb := B.bytes
  have hr := B.returns
  have hts := atoms_spec (ws := wsX12_when) B.pre
  have hown : s.vm.findClass RX12 = some m.cls := findClass_of_methodNamed B.named
  have hlocks := B.notSynchronized
  subst hsz
  have hD := hD0.self (sz := s.heap.size)
  have hA : ∀ q : Nat, s.heap.size ≤ q → va_A (mW a cI cZ mPeople mHours mGrains mKind mWind mWeight mSort mOwner mNow mReadKind mReadWind mReadGrain mReadPeople mReadHours mReadGrains mText mLength mAt mFaultAt mMoved mActs mNext mRow mSeen mSeenKind mSeenLift mSeenFlew mSeed mIsKept mKept) s.heap.size q := fun q h => Or.inr h
  have hS : va_S (va_A (mW a cI cZ mPeople mHours mGrains mKind mWind mWeight mSort mOwner mNow mReadKind mReadWind mReadGrain mReadPeople mReadHours mReadGrains mText mLength mAt mFaultAt mMoved mActs mNext mRow mSeen mSeenKind mSeenLift mSeenFlew mSeed mIsKept mKept) s.heap.size) s.heap s.heap [] := va_S.rf
  obtain ⟨A, hAe⟩ : ∃ A, A = va_A (mW a cI cZ mPeople mHours mGrains mKind mWind mWeight mSort mOwner mNow mReadKind mReadWind mReadGrain mReadPeople mReadHours mReadGrains mText mLength mAt mFaultAt mMoved mActs mNext mRow mSeen mSeenKind mSeenLift mSeenFlew mSeed mIsKept mKept) s.heap.size := ⟨_, rfl⟩
  rw [← hAe] at hD hA hS
  have hl := lv_entry ([.ref (a 0), .int p1]) (n := 3) (Nat.le_of_ble_eq_true rfl)
  rw [lg_entry_eq]
  generalize (lg_sl ([.ref (a 0), .int p1]) ++ List.replicate (3 - (lg_sl ([.ref (a 0), .int p1])).length) Slot.unset).toArray = ls at hl ⊢
  have hl : lv_has ls 3 [(0, .ref (a 0)), (1, .int p1)] := hl
  have hiX12 : ∀ w ∈ u_ws RX12 TX12 30, w ∈ wsX12_when := fun w hw => List.mem_cons_of_mem _ (List.mem_append_right _ hw)
  refine lv_aload_n hx hb dX12_when_0 rfl (lv_at hl 0 rfl) ?_
  refine lv_iload_n hx hb dX12_when_1 rfl (lv_at hl 1 rfl) ?_
  obtain ⟨q1, hq1, h⟩ := bS h
  refine rcI (va_runV (As := [.int p1]) (rest := []) ⟨hx, hb, hml, hown, hts⟩ (c_mm_isGrain l D cI cJ cZ a mPeople mHours mGrains mKind mWind mWeight mSort mOwner mNow mReadKind mReadWind mReadGrain mReadPeople mReadHours mReadGrains mText mLength mAt mFaultAt mMoved mActs mNext mRow mSeen mSeenKind mSeenLift mSeenFlew mSeed mIsKept mKept s.heap hP p1 q1 hq1) (cwV 1 hts gX12_when_X12_isGrain rfl rfl rfl (by decide +kernel) ⟨Nat.le_of_ble_eq_true rfl, Nat.le_of_ble_eq_true rfl⟩) (rPreV hK hP (ci := 5) (q0 := 0) rfl rfl) rfl rfl hl.1 rfl (lv_room (Nat.le_of_ble_eq_true rfl)) dX12_when_2 ⟨Nat.zero_le _, Nat.zero_le _⟩) ?_
  refine lv_if_ne (tgt := 10) hx hb dX12_when_5 (by decide) (fun c2 => ?_) (fun c2 => ?_)
  · have h := iF c2 h
    refine lv_aload_n hx hb dX12_when_10 rfl (lv_at hl 0 rfl) ?_
    obtain ⟨q3, hq3, h⟩ := bS h
    refine wcV (va_runV (As := []) (rest := []) ⟨hx, hb, hml, hown, hts⟩ (c_mm_layTrial l D cI cJ cZ a mPeople mHours mGrains mKind mWind mWeight mSort mOwner mNow mReadKind mReadWind mReadGrain mReadPeople mReadHours mReadGrains mText mLength mAt mFaultAt mMoved mActs mNext mRow mSeen mSeenKind mSeenLift mSeenFlew mSeed mIsKept mKept s.heap.size  q3 hq3) (cwV 0 hts gX12_when_X12_layTrial rfl rfl rfl (by decide +kernel) ⟨Nat.le_of_ble_eq_true rfl, Nat.le_of_ble_eq_true rfl⟩) (wPreV hK hP hD (ci := 5) (q0 := 0) rfl rfl) rfl rfl hl.1 rfl (lv_room (Nat.le_of_ble_eq_true rfl)) dX12_when_11 ⟨Nat.zero_le _, Nat.zero_le _⟩) hD hS hA (fun H locs hP hD hS => ?_)
    have hP : va_P D vwCl (mW a cI cZ mPeople mHours mGrains mKind mWind mWeight mSort mOwner q3 mReadKind mReadWind mReadGrain mReadPeople mReadHours mReadGrains mText mLength mAt mFaultAt mMoved mActs mNext mRow mSeen mSeenKind mSeenLift mSeenFlew mSeed mIsKept mKept) H := hP
    have hD : va_D A (mW a cI cZ mPeople mHours mGrains mKind mWind mWeight mSort mOwner q3 mReadKind mReadWind mReadGrain mReadPeople mReadHours mReadGrains mText mLength mAt mFaultAt mMoved mActs mNext mRow mSeen mSeenKind mSeenLift mSeenFlew mSeed mIsKept mKept) := hD
    refine lv_iconst (v := 0) hx hb dX12_when_14 (by decide) ?_
    refine lv_istore_n (lv' := [(2, .int 0), (0, .ref (a 0)), (1, .int p1)]) hx hb dX12_when_15 rfl hl (by decide) rfl (fun ls hl => ?_)
    have L16 : ∀ (n : Nat) (x2_16 : Int32) (mNow_16x : (Nat → Int32)) (H : Heap) (locs : List Loc) (ls : Array Slot) (kx : Int32 → (Nat → Int32) → Option (Int32 × (Nat → Int32))), mm_when_L16 mPeople mHours mKind mWind mWeight mSort mOwner p1 kx n x2_16 mNow_16x = some (rv, mNow_r) → va_P D vwCl (mW a cI cZ mPeople mHours mGrains mKind mWind mWeight mSort mOwner mNow_16x mReadKind mReadWind mReadGrain mReadPeople mReadHours mReadGrains mText mLength mAt mFaultAt mMoved mActs mNext mRow mSeen mSeenKind mSeenLift mSeenFlew mSeed mIsKept mKept) H → va_D A (mW a cI cZ mPeople mHours mGrains mKind mWind mWeight mSort mOwner mNow_16x mReadKind mReadWind mReadGrain mReadPeople mReadHours mReadGrains mText mLength mAt mFaultAt mMoved mActs mNext mRow mSeen mSeenKind mSeenLift mSeenFlew mSeed mIsKept mKept) → va_S A s.heap H locs → lv_has ls 3 [(2, .int x2_16), (0, .ref (a 0)), (1, .int p1)] → (∀ (y2_16 : Int32) (mNow_16 : (Nat → Int32)) (H : Heap) (locs : List Loc) (ls : Array Slot), kx y2_16 mNow_16 = some (rv, mNow_r) → va_P D vwCl (mW a cI cZ mPeople mHours mGrains mKind mWind mWeight mSort mOwner mNow_16 mReadKind mReadWind mReadGrain mReadPeople mReadHours mReadGrains mText mLength mAt mFaultAt mMoved mActs mNext mRow mSeen mSeenKind mSeenLift mSeenFlew mSeed mIsKept mKept) H → va_D A (mW a cI cZ mPeople mHours mGrains mKind mWind mWeight mSort mOwner mNow_16 mReadKind mReadWind mReadGrain mReadPeople mReadHours mReadGrains mText mLength mAt mFaultAt mMoved mActs mNext mRow mSeen mSeenKind mSeenLift mSeenFlew mSeed mIsKept mKept) → va_S A s.heap H locs → lv_has ls 3 [(2, .int y2_16), (0, .ref (a 0)), (1, .int p1)] → W p l e (headSpec wsX12_when ({ frames := 3, cells := 0, slots := 0, locals := 68 } : Room)).room s m ([.ref (a 0), .int p1] : List Value).toArray below meth c H locs 0 0 (MQ below (wQi D (mW a cI cZ mPeople mHours mGrains mKind mWind mWeight mSort mOwner mNow mReadKind mReadWind mReadGrain mReadPeople mReadHours mReadGrains mText mLength mAt mFaultAt mMoved mActs mNext mRow mSeen mSeenKind mSeenLift mSeenFlew mSeed mIsKept mKept) (mW a cI cZ mPeople mHours mGrains mKind mWind mWeight mSort mOwner mNow_r mReadKind mReadWind mReadGrain mReadPeople mReadHours mReadGrains mText mLength mAt mFaultAt mMoved mActs mNext mRow mSeen mSeenKind mSeenLift mSeenFlew mSeed mIsKept mKept) s.heap.size rv) ([.ref (a 0), .int p1] : List Value).toArray s 0 0 (va_A (mW a cI cZ mPeople mHours mGrains mKind mWind mWeight mSort mOwner mNow mReadKind mReadWind mReadGrain mReadPeople mReadHours mReadGrains mText mLength mAt mFaultAt mMoved mActs mNext mRow mSeen mSeenKind mSeenLift mSeenFlew mSeed mIsKept mKept) s.heap.size)) (F0 m 71 ls [])) → W p l e (headSpec wsX12_when ({ frames := 3, cells := 0, slots := 0, locals := 68 } : Room)).room s m ([.ref (a 0), .int p1] : List Value).toArray below meth c H locs 0 0 (MQ below (wQi D (mW a cI cZ mPeople mHours mGrains mKind mWind mWeight mSort mOwner mNow mReadKind mReadWind mReadGrain mReadPeople mReadHours mReadGrains mText mLength mAt mFaultAt mMoved mActs mNext mRow mSeen mSeenKind mSeenLift mSeenFlew mSeed mIsKept mKept) (mW a cI cZ mPeople mHours mGrains mKind mWind mWeight mSort mOwner mNow_r mReadKind mReadWind mReadGrain mReadPeople mReadHours mReadGrains mText mLength mAt mFaultAt mMoved mActs mNext mRow mSeen mSeenKind mSeenLift mSeenFlew mSeed mIsKept mKept) s.heap.size rv) ([.ref (a 0), .int p1] : List Value).toArray s 0 0 (va_A (mW a cI cZ mPeople mHours mGrains mKind mWind mWeight mSort mOwner mNow mReadKind mReadWind mReadGrain mReadPeople mReadHours mReadGrains mText mLength mAt mFaultAt mMoved mActs mNext mRow mSeen mSeenKind mSeenLift mSeenFlew mSeed mIsKept mKept) s.heap.size)) (F0 m 16 ls []) := by
      intro n
      induction n with
      | zero => intro _ _ _ _ _ _ h; rw [mm_when_L16.eq_1] at h; cases h
      | succ n ih =>
        intro x2_16 mNow_16x H locs ls kx h hP hD hS hl hk
        rw [mm_when_L16.eq_2] at h
        refine lv_iload_n hx hb dX12_when_16 rfl (lv_at hl 0 rfl) ?_
        refine lv_bipush (v := 20) hx hb dX12_when_17 (by decide) ?_
        refine lv_icmp_gt (tgt := 71) hx hb dX12_when_19 (by decide) (fun c4 => ?_) (fun c4 => ?_)
        · have h := iT c4 h
          exact hk _ _ _ _ _ h hP hD hS (lv_sub hl [0, 1, 2] rfl)
        · have h := iF c4 h
          refine lv_aload_n hx hb dX12_when_22 rfl (lv_at hl 1 rfl) ?_
          refine lv_iconst (v := 0) hx hb dX12_when_23 (by decide) ?_
          refine lv_iload_n hx hb dX12_when_24 rfl (lv_at hl 2 rfl) ?_
          obtain ⟨q5, hq5, h⟩ := bS h
          refine rcI (va_runV (As := [.int 0, .int p1]) (rest := []) ⟨hx, hb, hml, hown, hts⟩ (c_mm_lies l D cI cJ cZ a mPeople mHours mGrains mKind mWind mWeight mSort mOwner mNow_16x mReadKind mReadWind mReadGrain mReadPeople mReadHours mReadGrains mText mLength mAt mFaultAt mMoved mActs mNext mRow mSeen mSeenKind mSeenLift mSeenFlew mSeed mIsKept mKept H hP 0 p1 q5 hq5) (cwV 2 hts gX12_when_X12_lies rfl rfl rfl (by decide +kernel) ⟨Nat.le_of_ble_eq_true rfl, Nat.le_of_ble_eq_true rfl⟩) (rPreV hK hP (ci := 5) (q0 := 0) rfl rfl) rfl rfl hl.1 rfl (lv_room (Nat.le_of_ble_eq_true rfl)) dX12_when_25 ⟨Nat.zero_le _, Nat.zero_le _⟩) ?_
          refine lv_if_eq (tgt := 71) hx hb dX12_when_28 (by decide) (fun c6 => ?_) (fun c6 => ?_)
          · have h := iT c6 h
            exact hk _ _ _ _ _ h hP hD hS (lv_sub hl [0, 1, 2] rfl)
          · have h := iF c6 h
            refine lv_aload_n hx hb dX12_when_31 rfl (lv_at hl 1 rfl) ?_
            refine lv_iconst (v := 1) hx hb dX12_when_32 (by decide) ?_
            refine lv_iload_n hx hb dX12_when_33 rfl (lv_at hl 2 rfl) ?_
            refine lv_aload_n hx hb dX12_when_34 rfl (lv_at hl 1 rfl) ?_
            refine lv_iconst (v := 1) hx hb dX12_when_35 (by decide) ?_
            refine lv_aload_n hx hb dX12_when_36 rfl (lv_at hl 1 rfl) ?_
            refine va_get (D := D) (ci := 5) (v := .ref (a 6)) (C := RX12) (T := TX12) (N := 30) hx hb hts hiX12 hown hK.1 hP 0 rfl rfl 8 (by decide) (hts (.fieldLink RX12 25 "WinnowedGuiltModel" "now" "[I") (by decide +kernel)) (fun _ h9 => h9) rfl dX12_when_37 ?_
            refine lv_iload_n hx hb dX12_when_40 rfl (lv_at hl 2 rfl) ?_
            obtain ⟨hi7, h⟩ := gI_some h
            refine ldI (v := (mNow_16x (Int32.toNatClampNeg p1))) hx hb hK.1 hP 6 rfl rfl hi7 rfl dX12_when_41 ?_
            refine lv_iconst (v := 0) hx hb dX12_when_42 (by decide) ?_
            obtain ⟨q8, hq8, h⟩ := bS h
            refine rcI (va_runV (As := [.int 1, .int (mNow_16x (Int32.toNatClampNeg p1)), .int 0]) (rest := [.int p1, .int 1, .ref (a 0)]) ⟨hx, hb, hml, hown, hts⟩ (c_mm_liftAt l D cI cJ cZ a mPeople mHours mGrains mKind mWind mWeight mSort mOwner mNow_16x mReadKind mReadWind mReadGrain mReadPeople mReadHours mReadGrains mText mLength mAt mFaultAt mMoved mActs mNext mRow mSeen mSeenKind mSeenLift mSeenFlew mSeed mIsKept mKept H hP 1 (mNow_16x (Int32.toNatClampNeg p1)) 0 q8 hq8) (cwV 3 hts gX12_when_X12_liftAt rfl rfl rfl (by decide +kernel) ⟨Nat.le_of_ble_eq_true rfl, Nat.le_of_ble_eq_true rfl⟩) (rPreV hK hP (ci := 5) (q0 := 0) rfl rfl) rfl rfl hl.1 rfl (lv_room (Nat.le_of_ble_eq_true rfl)) dX12_when_43 ⟨Nat.zero_le _, Nat.zero_le _⟩) ?_
            obtain ⟨q9, hq9, h⟩ := bS h
            refine rcI (va_runV (As := [.int 1, .int p1, .int q8]) (rest := []) ⟨hx, hb, hml, hown, hts⟩ (c_mm_flies l D cI cJ cZ a mPeople mHours mGrains mKind mWind mWeight mSort mOwner mNow_16x mReadKind mReadWind mReadGrain mReadPeople mReadHours mReadGrains mText mLength mAt mFaultAt mMoved mActs mNext mRow mSeen mSeenKind mSeenLift mSeenFlew mSeed mIsKept mKept H hP 1 p1 q8 q9 hq9) (cwV 3 hts gX12_when_X12_flies rfl rfl rfl (by decide +kernel) ⟨Nat.le_of_ble_eq_true rfl, Nat.le_of_ble_eq_true rfl⟩) (rPreV hK hP (ci := 5) (q0 := 0) rfl rfl) rfl rfl hl.1 rfl (lv_room (Nat.le_of_ble_eq_true rfl)) dX12_when_46 ⟨Nat.zero_le _, Nat.zero_le _⟩) ?_
            refine lv_if_le (tgt := 54) hx hb dX12_when_49 (by decide) (fun c10 => ?_) (fun c10 => ?_)
            · have h := iT c10 h
              refine lv_aload_n hx hb dX12_when_54 rfl (lv_at hl 1 rfl) ?_
              refine va_get (D := D) (ci := 5) (v := .ref (a 6)) (C := RX12) (T := TX12) (N := 30) hx hb hts hiX12 hown hK.1 hP 0 rfl rfl 8 (by decide) (hts (.fieldLink RX12 25 "WinnowedGuiltModel" "now" "[I") (by decide +kernel)) (fun _ h9 => h9) rfl dX12_when_55 ?_
              refine lv_bipush (v := 17) hx hb dX12_when_58 (by decide) ?_
              refine lv_dup2_11 hx hb dX12_when_60 rfl rfl ?_
              refine ldI (v := (mNow_16x 17)) hx hb hK.1 hP 6 rfl rfl (ixOk_in (by decide)) rfl dX12_when_61 ?_
              refine lv_iconst (v := 1) hx hb dX12_when_62 (by decide) ?_
              refine lv_iadd hx hb dX12_when_63 ?_
              refine va_iast hx hb hK.1 hP hD hS 6 0 rfl rfl (ixOk_in (by decide)) dX12_when_64 (fun H locs hP hD hS => ?_)
              have hP : va_P D vwCl (mW a cI cZ mPeople mHours mGrains mKind mWind mWeight mSort mOwner (upd mNow_16x 17 ((mNow_16x 17) + 1)) mReadKind mReadWind mReadGrain mReadPeople mReadHours mReadGrains mText mLength mAt mFaultAt mMoved mActs mNext mRow mSeen mSeenKind mSeenLift mSeenFlew mSeed mIsKept mKept) H := hP
              have hD : va_D A (mW a cI cZ mPeople mHours mGrains mKind mWind mWeight mSort mOwner (upd mNow_16x 17 ((mNow_16x 17) + 1)) mReadKind mReadWind mReadGrain mReadPeople mReadHours mReadGrains mText mLength mAt mFaultAt mMoved mActs mNext mRow mSeen mSeenKind mSeenLift mSeenFlew mSeed mIsKept mKept) := hD
              refine lv_iinc (v := (x2_16 + 1)) (lv' := [(2, .int (x2_16 + 1)), (0, .ref (a 0)), (1, .int p1)]) hx hb dX12_when_65 hl (k := 0) rfl rfl (by decide) rfl (fun ls hl => ?_)
              refine lv_goto (tgt := 16) hx hb dX12_when_68 (by decide) ?_
              exact ih _ _ _ _ _ _ h hP hD hS (lv_sub hl [0, 1, 2] rfl) hk
            · have h := iF c10 h
              refine lv_iload_n hx hb dX12_when_52 rfl (lv_at hl 0 rfl) ?_
              cases h
              subst hAe
              exact W.iret hx hb hr (fun t ht _ => ⟨⟨_, (), rfl, rfl, by rw [ht]; exact hP, hD⟩, hS.F ht⟩) hS.2.2 dX12_when_53
    refine L16 _ _ _ _ _ _ _ h hP hD hS hl (fun y2_16 mNow_16 H locs ls h hP hD hS hl => ?_)
    refine lv_bipush (v := (-9)) hx hb dX12_when_71 (by decide) ?_
    cases h
    subst hAe
    exact W.iret hx hb hr (fun t ht _ => ⟨⟨_, (), rfl, rfl, by rw [ht]; exact hP, hD⟩, hS.F ht⟩) hS.2.2 dX12_when_73
  · have h := iT c2 h
    refine lv_iconst (v := (-1)) hx hb dX12_when_8 (by decide) ?_
    cases h
    subst hAe
    exact W.iret hx hb hr (fun t ht _ => ⟨⟨_, (), rfl, rfl, by rw [ht]; exact hP, hD⟩, hS.F ht⟩) hS.2.2 dX12_when_9

set_option maxHeartbeats 4000000 in
set_option maxRecDepth 100000 in
theorem c_mm_guiltBy (l : Launch) (D : va_G) (cI cJ cZ : ClassId) (a : Nat → Nat) (mPeople : Int32) (mHours : Int32) (mGrains : Int32) (mKind : Nat → Int32) (mWind : Nat → Int32) (mWeight : Nat → Int32) (mSort : Nat → Int32) (mOwner : Nat → Int32) (mNow : Nat → Int32) (mReadKind : Nat → Int32) (mReadWind : Nat → Int32) (mReadGrain : Nat → Int32) (mReadPeople : Int32) (mReadHours : Int32) (mReadGrains : Int32) (mText : Nat → Int32) (mLength : Int32) (mAt : Int32) (mFaultAt : Int32) (mMoved : Nat → Int32) (mActs : Int32) (mNext : Int32) (mRow : Nat → Int32) (mSeen : Int32) (mSeenKind : Nat → Int32) (mSeenLift : Nat → Int32) (mSeenFlew : Nat → Int32) (mSeed : Int64) (mIsKept : Nat → Int32) (mKept : Nat → Int32)  (sz : Nat) (p1 : Int32) (p2 : Int32) (rv : Int32) (mNow_r : Nat → Int32) (mMoved_r : Nat → Int32) (h : mm_guiltBy mPeople mHours mGrains mKind mWind mWeight mSort mOwner mNow mMoved p1 p2 = some (rv, mNow_r, mMoved_r)) : Met l yX12_guiltBy wsX12_guiltBy ({ frames := 5, cells := 0, slots := 0, locals := 120 } : Room) (wPc D cI cJ cZ (mW a cI cZ mPeople mHours mGrains mKind mWind mWeight mSort mOwner mNow mReadKind mReadWind mReadGrain mReadPeople mReadHours mReadGrains mText mLength mAt mFaultAt mMoved mActs mNext mRow mSeen mSeenKind mSeenLift mSeenFlew mSeed mIsKept mKept) sz [.ref (a 0), .int p1, .int p2]) (wQi D (mW a cI cZ mPeople mHours mGrains mKind mWind mWeight mSort mOwner mNow mReadKind mReadWind mReadGrain mReadPeople mReadHours mReadGrains mText mLength mAt mFaultAt mMoved mActs mNext mRow mSeen mSeenKind mSeenLift mSeenFlew mSeed mIsKept mKept) (mW a cI cZ mPeople mHours mGrains mKind mWind mWeight mSort mOwner mNow_r mReadKind mReadWind mReadGrain mReadPeople mReadHours mReadGrains mText mLength mAt mFaultAt mMoved_r mActs mNext mRow mSeen mSeenKind mSeenLift mSeenFlew mSeed mIsKept mKept) sz rv) 0 0 (va_A (mW a cI cZ mPeople mHours mGrains mKind mWind mWeight mSort mOwner mNow mReadKind mReadWind mReadGrain mReadPeople mReadHours mReadGrains mText mLength mAt mFaultAt mMoved mActs mNext mRow mSeen mSeenKind mSeenLift mSeenFlew mSeed mIsKept mKept) sz) := by
  unfold mm_guiltBy at h
  refine Met.ofW (cc := cX12_guiltBy) (maxL := 4) (ret := (some .int)) (by decide) rfl ?_
  intro p e s m args below meth c s₁ B hml hv
  obtain ⟨rfl, hsz, hP, hK, hD0⟩ := hv
  have hx := B.exec
  have hb := B.bytes
  have hr := B.returns
  have hts := atoms_spec (ws := wsX12_guiltBy) B.pre
  have hown : s.vm.findClass RX12 = some m.cls := findClass_of_methodNamed B.named
  have hlocks := B.notSynchronized
  subst hsz
  have hD := hD0.self (sz := s.heap.size)
  have hA : ∀ q : Nat, s.heap.size ≤ q → va_A (mW a cI cZ mPeople mHours mGrains mKind mWind mWeight mSort mOwner mNow mReadKind mReadWind mReadGrain mReadPeople mReadHours mReadGrains mText mLength mAt mFaultAt mMoved mActs mNext mRow mSeen mSeenKind mSeenLift mSeenFlew mSeed mIsKept mKept) s.heap.size q := fun q h => Or.inr h
  have hS : va_S (va_A (mW a cI cZ mPeople mHours mGrains mKind mWind mWeight mSort mOwner mNow mReadKind mReadWind mReadGrain mReadPeople mReadHours mReadGrains mText mLength mAt mFaultAt mMoved mActs mNext mRow mSeen mSeenKind mSeenLift mSeenFlew mSeed mIsKept mKept) s.heap.size) s.heap s.heap [] := va_S.rf
  obtain ⟨A, hAe⟩ : ∃ A, A = va_A (mW a cI cZ mPeople mHours mGrains mKind mWind mWeight mSort mOwner mNow mReadKind mReadWind mReadGrain mReadPeople mReadHours mReadGrains mText mLength mAt mFaultAt mMoved mActs mNext mRow mSeen mSeenKind mSeenLift mSeenFlew mSeed mIsKept mKept) s.heap.size := ⟨_, rfl⟩
  rw [← hAe] at hD hA hS
  have hl := lv_entry ([.ref (a 0), .int p1, .int p2]) (n := 4) (Nat.le_of_ble_eq_true rfl)
  rw [lg_entry_eq]
  generalize (lg_sl ([.ref (a 0), .int p1, .int p2]) ++ List.replicate (4 - (lg_sl ([.ref (a 0), .int p1, .int p2])).length) Slot.unset).toArray = ls at hl ⊢
  have hl : lv_has ls 4 [(0, .ref (a 0)), (1, .int p1), (2, .int p2)] := hl
  have hiX12 : ∀ w ∈ u_ws RX12 TX12 30, w ∈ wsX12_guiltBy := fun w hw => List.mem_cons_of_mem _ (List.mem_append_right _ hw)
  refine lv_aload_n hx hb dX12_guiltBy_0 rfl (lv_at hl 0 rfl) ?_
  obtain ⟨q1, hq1, h⟩ := bS h
  refine wcV (va_runV (As := []) (rest := []) ⟨hx, hb, hml, hown, hts⟩ (c_mm_layTrial l D cI cJ cZ a mPeople mHours mGrains mKind mWind mWeight mSort mOwner mNow mReadKind mReadWind mReadGrain mReadPeople mReadHours mReadGrains mText mLength mAt mFaultAt mMoved mActs mNext mRow mSeen mSeenKind mSeenLift mSeenFlew mSeed mIsKept mKept s.heap.size  q1 hq1) (cwV 0 hts gX12_guiltBy_X12_layTrial rfl rfl rfl (by decide +kernel) ⟨Nat.le_of_ble_eq_true rfl, Nat.le_of_ble_eq_true rfl⟩) (wPreV hK hP hD (ci := 5) (q0 := 0) rfl rfl) rfl rfl hl.1 rfl (lv_room (Nat.le_of_ble_eq_true rfl)) dX12_guiltBy_1 ⟨Nat.zero_le _, Nat.zero_le _⟩) hD hS hA (fun H locs hP hD hS => ?_)
  have hP : va_P D vwCl (mW a cI cZ mPeople mHours mGrains mKind mWind mWeight mSort mOwner q1 mReadKind mReadWind mReadGrain mReadPeople mReadHours mReadGrains mText mLength mAt mFaultAt mMoved mActs mNext mRow mSeen mSeenKind mSeenLift mSeenFlew mSeed mIsKept mKept) H := hP
  have hD : va_D A (mW a cI cZ mPeople mHours mGrains mKind mWind mWeight mSort mOwner q1 mReadKind mReadWind mReadGrain mReadPeople mReadHours mReadGrains mText mLength mAt mFaultAt mMoved mActs mNext mRow mSeen mSeenKind mSeenLift mSeenFlew mSeed mIsKept mKept) := hD
  refine lv_aload_n hx hb dX12_guiltBy_4 rfl (lv_at hl 0 rfl) ?_
  refine va_get (D := D) (ci := 5) (v := .ref (a 6)) (C := RX12) (T := TX12) (N := 30) hx hb hts hiX12 hown hK.1 hP 0 rfl rfl 8 (by decide) (hts (.fieldLink RX12 25 "WinnowedGuiltModel" "now" "[I") (by decide +kernel)) (fun _ h9 => h9) rfl dX12_guiltBy_5 ?_
  refine lv_bipush (v := 16) hx hb dX12_guiltBy_8 (by decide) ?_
  refine lv_iload_n hx hb dX12_guiltBy_10 rfl (lv_at hl 2 rfl) ?_
  refine va_iast hx hb hK.1 hP hD hS 6 0 rfl rfl (ixOk_in (by decide)) dX12_guiltBy_11 (fun H locs hP hD hS => ?_)
  have hP : va_P D vwCl (mW a cI cZ mPeople mHours mGrains mKind mWind mWeight mSort mOwner (upd q1 16 p2) mReadKind mReadWind mReadGrain mReadPeople mReadHours mReadGrains mText mLength mAt mFaultAt mMoved mActs mNext mRow mSeen mSeenKind mSeenLift mSeenFlew mSeed mIsKept mKept) H := hP
  have hD : va_D A (mW a cI cZ mPeople mHours mGrains mKind mWind mWeight mSort mOwner (upd q1 16 p2) mReadKind mReadWind mReadGrain mReadPeople mReadHours mReadGrains mText mLength mAt mFaultAt mMoved mActs mNext mRow mSeen mSeenKind mSeenLift mSeenFlew mSeed mIsKept mKept) := hD
  refine lv_iconst (v := 0) hx hb dX12_guiltBy_12 (by decide) ?_
  refine lv_istore_n (lv' := [(3, .int 0), (0, .ref (a 0)), (1, .int p1), (2, .int p2)]) hx hb dX12_guiltBy_13 rfl hl (by decide) rfl (fun ls hl => ?_)
  have L14 : ∀ (n : Nat) (x3_14 : Int32) (mNow_14x : (Nat → Int32)) (mMoved_14x : (Nat → Int32)) (H : Heap) (locs : List Loc) (ls : Array Slot) (kx : Int32 → (Nat → Int32) → (Nat → Int32) → Option (Int32 × (Nat → Int32) × (Nat → Int32))), mm_guiltBy_L14 mPeople mHours mGrains mKind mWind mWeight mSort mOwner kx n x3_14 mNow_14x mMoved_14x = some (rv, mNow_r, mMoved_r) → va_P D vwCl (mW a cI cZ mPeople mHours mGrains mKind mWind mWeight mSort mOwner mNow_14x mReadKind mReadWind mReadGrain mReadPeople mReadHours mReadGrains mText mLength mAt mFaultAt mMoved_14x mActs mNext mRow mSeen mSeenKind mSeenLift mSeenFlew mSeed mIsKept mKept) H → va_D A (mW a cI cZ mPeople mHours mGrains mKind mWind mWeight mSort mOwner mNow_14x mReadKind mReadWind mReadGrain mReadPeople mReadHours mReadGrains mText mLength mAt mFaultAt mMoved_14x mActs mNext mRow mSeen mSeenKind mSeenLift mSeenFlew mSeed mIsKept mKept) → va_S A s.heap H locs → lv_has ls 4 [(3, .int x3_14), (0, .ref (a 0)), (1, .int p1), (2, .int p2)] → (∀ (y3_14 : Int32) (mNow_14 : (Nat → Int32)) (mMoved_14 : (Nat → Int32)) (H : Heap) (locs : List Loc) (ls : Array Slot), kx y3_14 mNow_14 mMoved_14 = some (rv, mNow_r, mMoved_r) → va_P D vwCl (mW a cI cZ mPeople mHours mGrains mKind mWind mWeight mSort mOwner mNow_14 mReadKind mReadWind mReadGrain mReadPeople mReadHours mReadGrains mText mLength mAt mFaultAt mMoved_14 mActs mNext mRow mSeen mSeenKind mSeenLift mSeenFlew mSeed mIsKept mKept) H → va_D A (mW a cI cZ mPeople mHours mGrains mKind mWind mWeight mSort mOwner mNow_14 mReadKind mReadWind mReadGrain mReadPeople mReadHours mReadGrains mText mLength mAt mFaultAt mMoved_14 mActs mNext mRow mSeen mSeenKind mSeenLift mSeenFlew mSeed mIsKept mKept) → va_S A s.heap H locs → lv_has ls 4 [(3, .int y3_14), (0, .ref (a 0)), (1, .int p1), (2, .int p2)] → W p l e (headSpec wsX12_guiltBy ({ frames := 5, cells := 0, slots := 0, locals := 120 } : Room)).room s m ([.ref (a 0), .int p1, .int p2] : List Value).toArray below meth c H locs 0 0 (MQ below (wQi D (mW a cI cZ mPeople mHours mGrains mKind mWind mWeight mSort mOwner mNow mReadKind mReadWind mReadGrain mReadPeople mReadHours mReadGrains mText mLength mAt mFaultAt mMoved mActs mNext mRow mSeen mSeenKind mSeenLift mSeenFlew mSeed mIsKept mKept) (mW a cI cZ mPeople mHours mGrains mKind mWind mWeight mSort mOwner mNow_r mReadKind mReadWind mReadGrain mReadPeople mReadHours mReadGrains mText mLength mAt mFaultAt mMoved_r mActs mNext mRow mSeen mSeenKind mSeenLift mSeenFlew mSeed mIsKept mKept) s.heap.size rv) ([.ref (a 0), .int p1, .int p2] : List Value).toArray s 0 0 (va_A (mW a cI cZ mPeople mHours mGrains mKind mWind mWeight mSort mOwner mNow mReadKind mReadWind mReadGrain mReadPeople mReadHours mReadGrains mText mLength mAt mFaultAt mMoved mActs mNext mRow mSeen mSeenKind mSeenLift mSeenFlew mSeed mIsKept mKept) s.heap.size)) (F0 m 36 ls [])) → W p l e (headSpec wsX12_guiltBy ({ frames := 5, cells := 0, slots := 0, locals := 120 } : Room)).room s m ([.ref (a 0), .int p1, .int p2] : List Value).toArray below meth c H locs 0 0 (MQ below (wQi D (mW a cI cZ mPeople mHours mGrains mKind mWind mWeight mSort mOwner mNow mReadKind mReadWind mReadGrain mReadPeople mReadHours mReadGrains mText mLength mAt mFaultAt mMoved mActs mNext mRow mSeen mSeenKind mSeenLift mSeenFlew mSeed mIsKept mKept) (mW a cI cZ mPeople mHours mGrains mKind mWind mWeight mSort mOwner mNow_r mReadKind mReadWind mReadGrain mReadPeople mReadHours mReadGrains mText mLength mAt mFaultAt mMoved_r mActs mNext mRow mSeen mSeenKind mSeenLift mSeenFlew mSeed mIsKept mKept) s.heap.size rv) ([.ref (a 0), .int p1, .int p2] : List Value).toArray s 0 0 (va_A (mW a cI cZ mPeople mHours mGrains mKind mWind mWeight mSort mOwner mNow mReadKind mReadWind mReadGrain mReadPeople mReadHours mReadGrains mText mLength mAt mFaultAt mMoved mActs mNext mRow mSeen mSeenKind mSeenLift mSeenFlew mSeed mIsKept mKept) s.heap.size)) (F0 m 14 ls []) := by
    intro n
    induction n with
    | zero => intro _ _ _ _ _ _ _ h; rw [mm_guiltBy_L14.eq_1] at h; cases h
    | succ n ih =>
      intro x3_14 mNow_14x mMoved_14x H locs ls kx h hP hD hS hl hk
      rw [mm_guiltBy_L14.eq_2] at h
      refine lv_iload_n hx hb dX12_guiltBy_14 rfl (lv_at hl 0 rfl) ?_
      refine lv_aload_n hx hb dX12_guiltBy_15 rfl (lv_at hl 1 rfl) ?_
      refine va_get (D := D) (ci := 5) (v := .int mPeople) (C := RX12) (T := TX12) (N := 30) hx hb hts hiX12 hown hK.1 hP 0 rfl rfl 0 (by decide) (hts (.fieldLink RX12 99 "WinnowedGuiltModel" "people" "I") (by decide +kernel)) (fun _ h9 => h9) rfl dX12_guiltBy_16 ?_
      refine lv_icmp_ge (tgt := 36) hx hb dX12_guiltBy_19 (by decide) (fun c2 => ?_) (fun c2 => ?_)
      · have h := iT c2 h
        exact hk _ _ _ _ _ _ h hP hD hS (lv_sub hl [0, 1, 2, 3] rfl)
      · have h := iF c2 h
        refine lv_aload_n hx hb dX12_guiltBy_22 rfl (lv_at hl 1 rfl) ?_
        refine lv_iconst (v := 1) hx hb dX12_guiltBy_23 (by decide) ?_
        refine lv_iload_n hx hb dX12_guiltBy_24 rfl (lv_at hl 0 rfl) ?_
        refine lv_iconst (v := 0) hx hb dX12_guiltBy_25 (by decide) ?_
        obtain ⟨q3, hq3, h⟩ := bS h
        refine wcI (va_runV (As := [.int 1, .int x3_14, .int 0]) (rest := []) ⟨hx, hb, hml, hown, hts⟩ (c_mm_tossBy l D cI cJ cZ a mPeople mHours mGrains mKind mWind mWeight mSort mOwner mNow_14x mReadKind mReadWind mReadGrain mReadPeople mReadHours mReadGrains mText mLength mAt mFaultAt mMoved_14x mActs mNext mRow mSeen mSeenKind mSeenLift mSeenFlew mSeed mIsKept mKept H.size 1 x3_14 0 q3.1 q3.2.1 q3.2.2 hq3) (cwV 3 hts gX12_guiltBy_X12_tossBy rfl rfl rfl (by decide +kernel) ⟨Nat.le_of_ble_eq_true rfl, Nat.le_of_ble_eq_true rfl⟩) (wPreV hK hP hD (ci := 5) (q0 := 0) rfl rfl) rfl rfl hl.1 rfl (lv_room (Nat.le_of_ble_eq_true rfl)) dX12_guiltBy_26 ⟨Nat.zero_le _, Nat.zero_le _⟩) hD hS hA (fun H locs hP hD hS => ?_)
        have hP : va_P D vwCl (mW a cI cZ mPeople mHours mGrains mKind mWind mWeight mSort mOwner q3.2.1 mReadKind mReadWind mReadGrain mReadPeople mReadHours mReadGrains mText mLength mAt mFaultAt q3.2.2 mActs mNext mRow mSeen mSeenKind mSeenLift mSeenFlew mSeed mIsKept mKept) H := hP
        have hD : va_D A (mW a cI cZ mPeople mHours mGrains mKind mWind mWeight mSort mOwner q3.2.1 mReadKind mReadWind mReadGrain mReadPeople mReadHours mReadGrains mText mLength mAt mFaultAt q3.2.2 mActs mNext mRow mSeen mSeenKind mSeenLift mSeenFlew mSeed mIsKept mKept) := hD
        refine lv_pop hx hb dX12_guiltBy_29 rfl ?_
        refine lv_iinc (v := (x3_14 + 1)) (lv' := [(3, .int (x3_14 + 1)), (0, .ref (a 0)), (1, .int p1), (2, .int p2)]) hx hb dX12_guiltBy_30 hl (k := 0) rfl rfl (by decide) rfl (fun ls hl => ?_)
        refine lv_goto (tgt := 14) hx hb dX12_guiltBy_33 (by decide) ?_
        exact ih _ _ _ _ _ _ _ h hP hD hS (lv_sub hl [0, 1, 2, 3] rfl) hk
  refine L14 _ _ _ _ _ _ _ _ h hP hD hS hl (fun y3_14 mNow_14 mMoved_14 H locs ls h hP hD hS hl => ?_)
  refine lv_aload_n hx hb dX12_guiltBy_36 rfl (lv_at hl 1 rfl) ?_
  refine lv_iconst (v := 1) hx hb dX12_guiltBy_37 (by decide) ?_
  refine lv_iload_n hx hb dX12_guiltBy_38 rfl (lv_at hl 2 rfl) ?_
  obtain ⟨q2, hq2, h⟩ := bS h
  refine rcI (va_runV (As := [.int 1, .int p1]) (rest := []) ⟨hx, hb, hml, hown, hts⟩ (c_mm_guilt l D cI cJ cZ a mPeople mHours mGrains mKind mWind mWeight mSort mOwner mNow_14 mReadKind mReadWind mReadGrain mReadPeople mReadHours mReadGrains mText mLength mAt mFaultAt mMoved_14 mActs mNext mRow mSeen mSeenKind mSeenLift mSeenFlew mSeed mIsKept mKept H hP 1 p1 q2 hq2) (cwV 2 hts gX12_guiltBy_X12_guilt rfl rfl rfl (by decide +kernel) ⟨Nat.le_of_ble_eq_true rfl, Nat.le_of_ble_eq_true rfl⟩) (rPreV hK hP (ci := 5) (q0 := 0) rfl rfl) rfl rfl hl.1 rfl (lv_room (Nat.le_of_ble_eq_true rfl)) dX12_guiltBy_39 ⟨Nat.zero_le _, Nat.zero_le _⟩) ?_
  cases h
  subst hAe
  exact W.iret hx hb hr (fun t ht _ => ⟨⟨_, (), rfl, rfl, by rw [ht]; exact hP, hD⟩, hS.F ht⟩) hS.2.2 dX12_guiltBy_42
