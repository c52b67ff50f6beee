set_option maxHeartbeats 4000000 in
set_option maxRecDepth 100000 in
theorem c_mm_ones (l : Launch) (D : va_G) (cI cJ cZ : ClassId)  (H0 : Heap) (p0 : Int32) (rv : Int32) (h : mm_ones p0 = some rv) : Met l yX12_ones wsX12_ones ({ frames := 0, cells := 0, slots := 0, locals := 0 } : Room) (rPc D cI cJ cZ H0 [.int p0]) (vp_Si (fun r => r = rv)) 0 0 (fun _ => False) := by
  unfold mm_ones at h
  refine Met.ofW (cc := cX12_ones) (maxL := 3) (ret := (some .int)) (by decide) rfl ?_
  intro p e s m args below meth c s₁ B hml hv
  obtain ⟨rfl, hH, hK⟩ := hv
  have hx := B.exec
  have hb := B.bytes
  have hr := B.returns
  have hts := atoms_spec (ws := wsX12_ones) B.pre
  have hown : s.vm.findClass RX12 = some m.cls := findClass_of_methodNamed B.named
  have hlocks := B.notSynchronized
  subst hH
  have hl := lv_entry ([.int p0]) (n := 3) (Nat.le_of_ble_eq_true rfl)
  rw [lg_entry_eq]
  generalize (lg_sl ([.int p0]) ++ List.replicate (3 - (lg_sl ([.int p0])).length) Slot.unset).toArray = ls at hl ⊢
  have hl : lv_has ls 3 [(0, .int p0)] := hl
  refine lv_iconst (v := 0) hx hb dX12_ones_0 (by decide) ?_
  refine lv_istore_n (lv' := [(1, .int 0), (0, .int p0)]) hx hb dX12_ones_1 rfl hl (by decide) rfl (fun ls hl => ?_)
  refine lv_iconst (v := 0) hx hb dX12_ones_2 (by decide) ?_
  refine lv_istore_n (lv' := [(2, .int 0), (1, .int 0), (0, .int p0)]) hx hb dX12_ones_3 rfl hl (by decide) rfl (fun ls hl => ?_)
  have L4 : ∀ (n : Nat) (x2_4 : Int32) (x1_4 : Int32) (ls : Array Slot) (kx : Int32 → Int32 → Option (Int32)), mm_ones_L4 p0 kx n x2_4 x1_4 = some rv → lv_has ls 3 [(2, .int x2_4), (1, .int x1_4), (0, .int p0)] → (∀ (y2_4 : Int32) (y1_4 : Int32) (ls : Array Slot), kx y2_4 y1_4 = some rv → lv_has ls 3 [(2, .int y2_4), (1, .int y1_4), (0, .int p0)] → W p l e (headSpec wsX12_ones ({ frames := 0, cells := 0, slots := 0, locals := 0 } : Room)).room s m ([.int p0] : List Value).toArray below meth c s.heap [] 0 0 (MQ below (vp_Si (fun r => r = rv)) ([.int p0] : List Value).toArray s 0 0 (fun _ => False)) (F0 m 24 ls [])) → W p l e (headSpec wsX12_ones ({ frames := 0, cells := 0, slots := 0, locals := 0 } : Room)).room s m ([.int p0] : List Value).toArray below meth c s.heap [] 0 0 (MQ below (vp_Si (fun r => r = rv)) ([.int p0] : List Value).toArray s 0 0 (fun _ => False)) (F0 m 4 ls []) := by
    intro n
    induction n with
    | zero => intro _ _ _ _ h; rw [mm_ones_L4.eq_1] at h; cases h
    | succ n ih =>
      intro x2_4 x1_4 ls kx h hl hk
      rw [mm_ones_L4.eq_2] at h
      refine lv_iload_n hx hb dX12_ones_4 rfl (lv_at hl 0 rfl) ?_
      refine lv_bipush (v := 7) hx hb dX12_ones_5 (by decide) ?_
      refine lv_icmp_ge (tgt := 24) hx hb dX12_ones_7 (by decide) (fun c1 => ?_) (fun c1 => ?_)
      · have h := iT c1 h
        exact hk _ _ _ h (lv_sub hl [0, 1, 2] rfl)
      · have h := iF c1 h
        refine lv_iload_n hx hb dX12_ones_10 rfl (lv_at hl 1 rfl) ?_
        refine lv_iload_n hx hb dX12_ones_11 rfl (lv_at hl 2 rfl) ?_
        refine lv_iload_n hx hb dX12_ones_12 rfl (lv_at hl 0 rfl) ?_
        refine lv_ishr hx hb dX12_ones_13 ?_
        refine lv_iconst (v := 1) hx hb dX12_ones_14 (by decide) ?_
        refine lv_iand hx hb dX12_ones_15 ?_
        refine lv_iadd hx hb dX12_ones_16 ?_
        refine lv_istore_n (lv' := [(1, .int (x1_4 + ((p0 >>> (x2_4 &&& 31)) &&& 1))), (2, .int x2_4), (0, .int p0)]) hx hb dX12_ones_17 rfl hl (by decide) rfl (fun ls hl => ?_)
        refine lv_iinc (v := (x2_4 + 1)) (lv' := [(2, .int (x2_4 + 1)), (1, .int (x1_4 + ((p0 >>> (x2_4 &&& 31)) &&& 1))), (0, .int p0)]) hx hb dX12_ones_18 hl (k := 1) rfl rfl (by decide) rfl (fun ls hl => ?_)
        refine lv_goto (tgt := 4) hx hb dX12_ones_21 (by decide) ?_
        exact ih _ _ _ _ h (lv_sub hl [0, 1, 2] rfl) hk
  refine L4 _ _ _ _ _ h hl (fun y2_4 y1_4 ls h hl => ?_)
  refine lv_iload_n hx hb dX12_ones_24 rfl (lv_at hl 1 rfl) ?_
  exact W.iret hx hb hr (fun t ht _ => ⟨_, rfl, Option.some.inj h, ht⟩) (fun _ q => absurd q List.not_mem_nil) dX12_ones_25

set_option maxHeartbeats 4000000 in
set_option maxRecDepth 100000 in
theorem c_mm_write (l : Launch) (D : va_G) (cI cJ cZ : ClassId) (a : Nat → Nat) (mPeople : Int32) (mHours : Int32) (mGrains : Int32) (mKind : Nat → Int32) (mWind : Nat → Int32) (mWeight : Nat → Int32) (mSort : Nat → Int32) (mOwner : Nat → Int32) (mNow : Nat → Int32) (mReadKind : Nat → Int32) (mReadWind : Nat → Int32) (mReadGrain : Nat → Int32) (mReadPeople : Int32) (mReadHours : Int32) (mReadGrains : Int32) (mText : Nat → Int32) (mLength : Int32) (mAt : Int32) (mFaultAt : Int32) (mMoved : Nat → Int32) (mActs : Int32) (mNext : Int32) (mRow : Nat → Int32) (mSeen : Int32) (mSeenKind : Nat → Int32) (mSeenLift : Nat → Int32) (mSeenFlew : Nat → Int32) (mSeed : Int64) (mIsKept : Nat → Int32) (mKept : Nat → Int32)  (sz : Nat) (p1 : Int32) (rv : Int32) (mText_r : Nat → Int32) (mLength_r : Int32) (h : mm_write mText mLength p1 = some (rv, mText_r, mLength_r)) : Met l yX12_write wsX12_write ({ frames := 1, cells := 0, slots := 0, locals := 25 } : Room) (wPc D cI cJ cZ (mW a cI cZ mPeople mHours mGrains mKind mWind mWeight mSort mOwner mNow mReadKind mReadWind mReadGrain mReadPeople mReadHours mReadGrains mText mLength mAt mFaultAt mMoved mActs mNext mRow mSeen mSeenKind mSeenLift mSeenFlew mSeed mIsKept mKept) sz [.ref (a 0), .int p1]) (wQi D (mW a cI cZ mPeople mHours mGrains mKind mWind mWeight mSort mOwner mNow mReadKind mReadWind mReadGrain mReadPeople mReadHours mReadGrains mText mLength mAt mFaultAt mMoved mActs mNext mRow mSeen mSeenKind mSeenLift mSeenFlew mSeed mIsKept mKept) (mW a cI cZ mPeople mHours mGrains mKind mWind mWeight mSort mOwner mNow mReadKind mReadWind mReadGrain mReadPeople mReadHours mReadGrains mText_r mLength_r mAt mFaultAt mMoved mActs mNext mRow mSeen mSeenKind mSeenLift mSeenFlew mSeed mIsKept mKept) sz rv) 0 0 (va_A (mW a cI cZ mPeople mHours mGrains mKind mWind mWeight mSort mOwner mNow mReadKind mReadWind mReadGrain mReadPeople mReadHours mReadGrains mText mLength mAt mFaultAt mMoved mActs mNext mRow mSeen mSeenKind mSeenLift mSeenFlew mSeed mIsKept mKept) sz) := by
  unfold mm_write at h
  refine Met.ofW (cc := cX12_write) (maxL := 2) (ret := (some .int)) (by decide) rfl ?_
  intro p e s m args below meth c s₁ B hml hv
  obtain ⟨rfl, hsz, hP, hK, hD0⟩ := hv
  have hx := B.exec
  have hb := B.bytes
  have hr := B.returns
  have hts := atoms_spec (ws := wsX12_write) B.pre
  have hown : s.vm.findClass RX12 = some m.cls := findClass_of_methodNamed B.named
  have hlocks := B.notSynchronized
  subst hsz
  have hD := hD0.self (sz := s.heap.size)
  have hA : ∀ q : Nat, s.heap.size ≤ q → va_A (mW a cI cZ mPeople mHours mGrains mKind mWind mWeight mSort mOwner mNow mReadKind mReadWind mReadGrain mReadPeople mReadHours mReadGrains mText mLength mAt mFaultAt mMoved mActs mNext mRow mSeen mSeenKind mSeenLift mSeenFlew mSeed mIsKept mKept) s.heap.size q := fun q h => Or.inr h
  have hS : va_S (va_A (mW a cI cZ mPeople mHours mGrains mKind mWind mWeight mSort mOwner mNow mReadKind mReadWind mReadGrain mReadPeople mReadHours mReadGrains mText mLength mAt mFaultAt mMoved mActs mNext mRow mSeen mSeenKind mSeenLift mSeenFlew mSeed mIsKept mKept) s.heap.size) s.heap s.heap [] := va_S.rf
  obtain ⟨A, hAe⟩ : ∃ A, A = va_A (mW a cI cZ mPeople mHours mGrains mKind mWind mWeight mSort mOwner mNow mReadKind mReadWind mReadGrain mReadPeople mReadHours mReadGrains mText mLength mAt mFaultAt mMoved mActs mNext mRow mSeen mSeenKind mSeenLift mSeenFlew mSeed mIsKept mKept) s.heap.size := ⟨_, rfl⟩
  rw [← hAe] at hD hA hS
  have hl := lv_entry ([.ref (a 0), .int p1]) (n := 2) (Nat.le_of_ble_eq_true rfl)
  rw [lg_entry_eq]
  generalize (lg_sl ([.ref (a 0), .int p1]) ++ List.replicate (2 - (lg_sl ([.ref (a 0), .int p1])).length) Slot.unset).toArray = ls at hl ⊢
  have hl : lv_has ls 2 [(0, .ref (a 0)), (1, .int p1)] := hl
  have hiX12 : ∀ w ∈ u_ws RX12 TX12 30, w ∈ wsX12_write := fun w hw => List.mem_cons_of_mem _ (List.mem_append_right _ hw)
  refine lv_iload_n hx hb dX12_write_0 rfl (lv_at hl 1 rfl) ?_
  refine lv_i2l (v := (Int32.toInt64 p1)) hx hb dX12_write_1 rfl ?_
  refine lv_lconst (v := 0) hx hb dX12_write_2 (by decide) ?_
  refine lv_ldc2 (own := RX12) (v := 255) hx hb hown (hts (.constantLong RX12 62 (255)) (by decide +kernel)) dX12_write_3 ?_
  obtain ⟨q1, hq1, h⟩ := bS h
  refine rcI (va_runS (As := [.long (Int32.toInt64 p1), .long 0, .long 255]) (rest := []) ⟨hx, hb, hml, hown, hts⟩ (c_mm_in l D cI cJ cZ   s.heap (Int32.toInt64 p1) 0 255 q1 hq1) (va_cwS 3 hts gX12_write_X12_in rfl rfl rfl (by decide +kernel) ⟨Nat.le_of_ble_eq_true rfl, Nat.le_of_ble_eq_true rfl⟩) (rPreS hK) rfl rfl hl.1 rfl (lv_room (Nat.le_of_ble_eq_true rfl)) dX12_write_6 ⟨Nat.zero_le _, Nat.zero_le _⟩) ?_
  refine lv_if_ne (tgt := 15) hx hb dX12_write_9 (by decide) (fun c2 => ?_) (fun c2 => ?_)
  · have h := iF c2 h
    refine lv_aload_n hx hb dX12_write_15 rfl (lv_at hl 0 rfl) ?_
    refine va_get (D := D) (ci := 5) (v := .int mLength) (C := RX12) (T := TX12) (N := 30) hx hb hts hiX12 hown hK.1 hP 0 rfl rfl 16 (by decide) (hts (.fieldLink RX12 68 "WinnowedGuiltModel" "length" "I") (by decide +kernel)) (fun _ h9 => h9) rfl dX12_write_16 ?_
    refine lv_bipush (v := 56) hx hb dX12_write_19 (by decide) ?_
    refine lv_icmp_ne (tgt := 27) hx hb dX12_write_21 (by decide) (fun c3 => ?_) (fun c3 => ?_)
    · have h := iF c3 h
      refine lv_aload_n hx hb dX12_write_27 rfl (lv_at hl 0 rfl) ?_
      refine va_get (D := D) (ci := 5) (v := .ref (a 10)) (C := RX12) (T := TX12) (N := 30) hx hb hts hiX12 hown hK.1 hP 0 rfl rfl 15 (by decide) (hts (.fieldLink RX12 37 "WinnowedGuiltModel" "text" "[I") (by decide +kernel)) (fun _ h9 => h9) rfl dX12_write_28 ?_
      refine lv_aload_n hx hb dX12_write_31 rfl (lv_at hl 0 rfl) ?_
      refine va_get (D := D) (ci := 5) (v := .int mLength) (C := RX12) (T := TX12) (N := 30) hx hb hts hiX12 hown hK.1 hP 0 rfl rfl 16 (by decide) (hts (.fieldLink RX12 68 "WinnowedGuiltModel" "length" "I") (by decide +kernel)) (fun _ h9 => h9) rfl dX12_write_32 ?_
      refine lv_iload_n hx hb dX12_write_35 rfl (lv_at hl 1 rfl) ?_
      obtain ⟨hi4, h⟩ := gI_some h
      refine va_iast hx hb hK.1 hP hD hS 10 0 rfl rfl hi4 dX12_write_36 (fun H locs hP hD hS => ?_)
      have hP : va_P D vwCl (mW a cI cZ mPeople mHours mGrains mKind mWind mWeight mSort mOwner mNow mReadKind mReadWind mReadGrain mReadPeople mReadHours mReadGrains (upd mText (Int32.toNatClampNeg mLength) p1) mLength mAt mFaultAt mMoved mActs mNext mRow mSeen mSeenKind mSeenLift mSeenFlew mSeed mIsKept mKept) H := hP
      have hD : va_D A (mW a cI cZ mPeople mHours mGrains mKind mWind mWeight mSort mOwner mNow mReadKind mReadWind mReadGrain mReadPeople mReadHours mReadGrains (upd mText (Int32.toNatClampNeg mLength) p1) mLength mAt mFaultAt mMoved mActs mNext mRow mSeen mSeenKind mSeenLift mSeenFlew mSeed mIsKept mKept) := hD
      refine lv_aload_n hx hb dX12_write_37 rfl (lv_at hl 0 rfl) ?_
      refine lv_dup hx hb dX12_write_38 rfl ?_
      refine va_get (D := D) (ci := 5) (v := .int mLength) (C := RX12) (T := TX12) (N := 30) hx hb hts hiX12 hown hK.1 hP 0 rfl rfl 16 (by decide) (hts (.fieldLink RX12 68 "WinnowedGuiltModel" "length" "I") (by decide +kernel)) (fun _ h9 => h9) rfl dX12_write_39 ?_
      refine lv_iconst (v := 1) hx hb dX12_write_42 (by decide) ?_
      refine lv_iadd hx hb dX12_write_43 ?_
      refine va_put (D := D) (ci := 5) (v := .int (mLength + 1)) (ty := .int) (C := RX12) (T := TX12) (N := 30) hx hb hts hiX12 tyX12 tyX12_ok nmX12 hown hK.1 hP hD hS 0 rfl rfl 16 (by decide) (hts (.fieldLink RX12 68 "WinnowedGuiltModel" "length" "I") (by decide +kernel)) (fun _ h9 => h9) rfl (by decide +kernel) rfl rfl (Nat.le_of_ble_eq_true rfl) dX12_write_44 (fun H locs hP hD hS => ?_)
      have hP : va_P D vwCl (mW a cI cZ mPeople mHours mGrains mKind mWind mWeight mSort mOwner mNow mReadKind mReadWind mReadGrain mReadPeople mReadHours mReadGrains (upd mText (Int32.toNatClampNeg mLength) p1) (mLength + 1) mAt mFaultAt mMoved mActs mNext mRow mSeen mSeenKind mSeenLift mSeenFlew mSeed mIsKept mKept) H := hP
      have hD : va_D A (mW a cI cZ mPeople mHours mGrains mKind mWind mWeight mSort mOwner mNow mReadKind mReadWind mReadGrain mReadPeople mReadHours mReadGrains (upd mText (Int32.toNatClampNeg mLength) p1) (mLength + 1) mAt mFaultAt mMoved mActs mNext mRow mSeen mSeenKind mSeenLift mSeenFlew mSeed mIsKept mKept) := hD
      refine lv_aload_n hx hb dX12_write_47 rfl (lv_at hl 0 rfl) ?_
      refine va_get (D := D) (ci := 5) (v := .int (mLength + 1)) (C := RX12) (T := TX12) (N := 30) hx hb hts hiX12 hown hK.1 hP 0 rfl rfl 16 (by decide) (hts (.fieldLink RX12 68 "WinnowedGuiltModel" "length" "I") (by decide +kernel)) (fun _ h9 => h9) rfl dX12_write_48 ?_
      cases h
      subst hAe
      exact W.iret hx hb hr (fun t ht _ => ⟨⟨_, (), rfl, rfl, by rw [ht]; exact hP, hD⟩, hS.F ht⟩) hS.2.2 dX12_write_51
    · have h := iT c3 h
      refine lv_bipush (v := (-4)) hx hb dX12_write_24 (by decide) ?_
      cases h
      subst hAe
      exact W.iret hx hb hr (fun t ht _ => ⟨⟨_, (), rfl, rfl, by rw [ht]; exact hP, hD⟩, hS.F ht⟩) hS.2.2 dX12_write_26
  · have h := iT c2 h
    refine lv_bipush (v := (-2)) hx hb dX12_write_12 (by decide) ?_
    cases h
    subst hAe
    exact W.iret hx hb hr (fun t ht _ => ⟨⟨_, (), rfl, rfl, by rw [ht]; exact hP, hD⟩, hS.F ht⟩) hS.2.2 dX12_write_14

set_option maxHeartbeats 4000000 in
set_option maxRecDepth 100000 in
theorem c_mm_wipe (l : Launch) (D : va_G) (cI cJ cZ : ClassId) (a : Nat → Nat) (mPeople : Int32) (mHours : Int32) (mGrains : Int32) (mKind : Nat → Int32) (mWind : Nat → Int32) (mWeight : Nat → Int32) (mSort : Nat → Int32) (mOwner : Nat → Int32) (mNow : Nat → Int32) (mReadKind : Nat → Int32) (mReadWind : Nat → Int32) (mReadGrain : Nat → Int32) (mReadPeople : Int32) (mReadHours : Int32) (mReadGrains : Int32) (mText : Nat → Int32) (mLength : Int32) (mAt : Int32) (mFaultAt : Int32) (mMoved : Nat → Int32) (mActs : Int32) (mNext : Int32) (mRow : Nat → Int32) (mSeen : Int32) (mSeenKind : Nat → Int32) (mSeenLift : Nat → Int32) (mSeenFlew : Nat → Int32) (mSeed : Int64) (mIsKept : Nat → Int32) (mKept : Nat → Int32)  (sz : Nat)  (rv : Int32) (mLength_r : Int32) (h : mm_wipe mLength = some (rv, mLength_r)) : Met l yX12_wipe wsX12_wipe ({ frames := 0, cells := 0, slots := 0, locals := 0 } : Room) (wPc D cI cJ cZ (mW a cI cZ mPeople mHours mGrains mKind mWind mWeight mSort mOwner mNow mReadKind mReadWind mReadGrain mReadPeople mReadHours mReadGrains mText mLength mAt mFaultAt mMoved mActs mNext mRow mSeen mSeenKind mSeenLift mSeenFlew mSeed mIsKept mKept) sz [.ref (a 0)]) (wQi D (mW a cI cZ mPeople mHours mGrains mKind mWind mWeight mSort mOwner mNow mReadKind mReadWind mReadGrain mReadPeople mReadHours mReadGrains mText mLength mAt mFaultAt mMoved mActs mNext mRow mSeen mSeenKind mSeenLift mSeenFlew mSeed mIsKept mKept) (mW a cI cZ mPeople mHours mGrains mKind mWind mWeight mSort mOwner mNow mReadKind mReadWind mReadGrain mReadPeople mReadHours mReadGrains mText mLength_r mAt mFaultAt mMoved mActs mNext mRow mSeen mSeenKind mSeenLift mSeenFlew mSeed mIsKept mKept) sz rv) 0 0 (va_A (mW a cI cZ mPeople mHours mGrains mKind mWind mWeight mSort mOwner mNow mReadKind mReadWind mReadGrain mReadPeople mReadHours mReadGrains mText mLength mAt mFaultAt mMoved mActs mNext mRow mSeen mSeenKind mSeenLift mSeenFlew mSeed mIsKept mKept) sz) := by
  unfold mm_wipe at h
  refine Met.ofW (cc := cX12_wipe) (maxL := 2) (ret := (some .int)) (by decide) rfl ?_
  intro p e s m args below meth c s₁ B hml hv
  obtain ⟨rfl, hsz, hP, hK, hD0⟩ := hv
  have hx := B.exec
  have hb := B.bytes
  have hr := B.returns
  have hts := atoms_spec (ws := wsX12_wipe) B.pre
  have hown : s.vm.findClass RX12 = some m.cls := findClass_of_methodNamed B.named
  have hlocks := B.notSynchronized
  subst hsz
  have hD := hD0.self (sz := s.heap.size)
  have hA : ∀ q : Nat, s.heap.size ≤ q → va_A (mW a cI cZ mPeople mHours mGrains mKind mWind mWeight mSort mOwner mNow mReadKind mReadWind mReadGrain mReadPeople mReadHours mReadGrains mText mLength mAt mFaultAt mMoved mActs mNext mRow mSeen mSeenKind mSeenLift mSeenFlew mSeed mIsKept mKept) s.heap.size q := fun q h => Or.inr h
  have hS : va_S (va_A (mW a cI cZ mPeople mHours mGrains mKind mWind mWeight mSort mOwner mNow mReadKind mReadWind mReadGrain mReadPeople mReadHours mReadGrains mText mLength mAt mFaultAt mMoved mActs mNext mRow mSeen mSeenKind mSeenLift mSeenFlew mSeed mIsKept mKept) s.heap.size) s.heap s.heap [] := va_S.rf
  obtain ⟨A, hAe⟩ : ∃ A, A = va_A (mW a cI cZ mPeople mHours mGrains mKind mWind mWeight mSort mOwner mNow mReadKind mReadWind mReadGrain mReadPeople mReadHours mReadGrains mText mLength mAt mFaultAt mMoved mActs mNext mRow mSeen mSeenKind mSeenLift mSeenFlew mSeed mIsKept mKept) s.heap.size := ⟨_, rfl⟩
  rw [← hAe] at hD hA hS
  have hl := lv_entry ([.ref (a 0)]) (n := 2) (Nat.le_of_ble_eq_true rfl)
  rw [lg_entry_eq]
  generalize (lg_sl ([.ref (a 0)]) ++ List.replicate (2 - (lg_sl ([.ref (a 0)])).length) Slot.unset).toArray = ls at hl ⊢
  have hl : lv_has ls 2 [(0, .ref (a 0))] := hl
  have hiX12 : ∀ w ∈ u_ws RX12 TX12 30, w ∈ wsX12_wipe := fun w hw => List.mem_cons_of_mem _ (List.mem_append_right _ hw)
  refine lv_aload_n hx hb dX12_wipe_0 rfl (lv_at hl 0 rfl) ?_
  refine va_get (D := D) (ci := 5) (v := .int mLength) (C := RX12) (T := TX12) (N := 30) hx hb hts hiX12 hown hK.1 hP 0 rfl rfl 16 (by decide) (hts (.fieldLink RX12 68 "WinnowedGuiltModel" "length" "I") (by decide +kernel)) (fun _ h9 => h9) rfl dX12_wipe_1 ?_
  refine lv_istore_n (lv' := [(1, .int mLength), (0, .ref (a 0))]) hx hb dX12_wipe_4 rfl hl (by decide) rfl (fun ls hl => ?_)
  refine lv_aload_n hx hb dX12_wipe_5 rfl (lv_at hl 1 rfl) ?_
  refine lv_iconst (v := 0) hx hb dX12_wipe_6 (by decide) ?_
  refine va_put (D := D) (ci := 5) (v := .int 0) (ty := .int) (C := RX12) (T := TX12) (N := 30) hx hb hts hiX12 tyX12 tyX12_ok nmX12 hown hK.1 hP hD hS 0 rfl rfl 16 (by decide) (hts (.fieldLink RX12 68 "WinnowedGuiltModel" "length" "I") (by decide +kernel)) (fun _ h9 => h9) rfl (by decide +kernel) rfl rfl (Nat.le_of_ble_eq_true rfl) dX12_wipe_7 (fun H locs hP hD hS => ?_)
  have hP : va_P D vwCl (mW a cI cZ mPeople mHours mGrains mKind mWind mWeight mSort mOwner mNow mReadKind mReadWind mReadGrain mReadPeople mReadHours mReadGrains mText 0 mAt mFaultAt mMoved mActs mNext mRow mSeen mSeenKind mSeenLift mSeenFlew mSeed mIsKept mKept) H := hP
  have hD : va_D A (mW a cI cZ mPeople mHours mGrains mKind mWind mWeight mSort mOwner mNow mReadKind mReadWind mReadGrain mReadPeople mReadHours mReadGrains mText 0 mAt mFaultAt mMoved mActs mNext mRow mSeen mSeenKind mSeenLift mSeenFlew mSeed mIsKept mKept) := hD
  refine lv_iload_n hx hb dX12_wipe_10 rfl (lv_at hl 0 rfl) ?_
  cases h
  subst hAe
  exact W.iret hx hb hr (fun t ht _ => ⟨⟨_, (), rfl, rfl, by rw [ht]; exact hP, hD⟩, hS.F ht⟩) hS.2.2 dX12_wipe_11

set_option maxHeartbeats 4000000 in
set_option maxRecDepth 100000 in
theorem c_mm_figure (l : Launch) (D : va_G) (cI cJ cZ : ClassId) (a : Nat → Nat) (mPeople : Int32) (mHours : Int32) (mGrains : Int32) (mKind : Nat → Int32) (mWind : Nat → Int32) (mWeight : Nat → Int32) (mSort : Nat → Int32) (mOwner : Nat → Int32) (mNow : Nat → Int32) (mReadKind : Nat → Int32) (mReadWind : Nat → Int32) (mReadGrain : Nat → Int32) (mReadPeople : Int32) (mReadHours : Int32) (mReadGrains : Int32) (mText : Nat → Int32) (mLength : Int32) (mAt : Int32) (mFaultAt : Int32) (mMoved : Nat → Int32) (mActs : Int32) (mNext : Int32) (mRow : Nat → Int32) (mSeen : Int32) (mSeenKind : Nat → Int32) (mSeenLift : Nat → Int32) (mSeenFlew : Nat → Int32) (mSeed : Int64) (mIsKept : Nat → Int32) (mKept : Nat → Int32)  (sz : Nat) (p1 : Int32) (p2 : Int32) (rv : Int32) (mAt_r : Int32) (mFaultAt_r : Int32) (h : mm_figure mText mLength mAt mFaultAt p1 p2 = some (rv, mAt_r, mFaultAt_r)) : Met l yX12_figure wsX12_figure ({ frames := 1, cells := 0, slots := 0, locals := 25 } : Room) (wPc D cI cJ cZ (mW a cI cZ mPeople mHours mGrains mKind mWind mWeight mSort mOwner mNow mReadKind mReadWind mReadGrain mReadPeople mReadHours mReadGrains mText mLength mAt mFaultAt mMoved mActs mNext mRow mSeen mSeenKind mSeenLift mSeenFlew mSeed mIsKept mKept) sz [.ref (a 0), .int p1, .int p2]) (wQi D (mW a cI cZ mPeople mHours mGrains mKind mWind mWeight mSort mOwner mNow mReadKind mReadWind mReadGrain mReadPeople mReadHours mReadGrains mText mLength mAt mFaultAt mMoved mActs mNext mRow mSeen mSeenKind mSeenLift mSeenFlew mSeed mIsKept mKept) (mW a cI cZ mPeople mHours mGrains mKind mWind mWeight mSort mOwner mNow mReadKind mReadWind mReadGrain mReadPeople mReadHours mReadGrains mText mLength mAt_r mFaultAt_r mMoved mActs mNext mRow mSeen mSeenKind mSeenLift mSeenFlew mSeed mIsKept mKept) sz rv) 0 0 (va_A (mW a cI cZ mPeople mHours mGrains mKind mWind mWeight mSort mOwner mNow mReadKind mReadWind mReadGrain mReadPeople mReadHours mReadGrains mText mLength mAt mFaultAt mMoved mActs mNext mRow mSeen mSeenKind mSeenLift mSeenFlew mSeed mIsKept mKept) sz) := by
  unfold mm_figure at h
  refine Met.ofW (cc := cX12_figure) (maxL := 4) (ret := (some .int)) (by decide) rfl ?_
  intro p e s m args below meth c s₁ B hml hv
  obtain ⟨rfl, hsz, hP, hK, hD0⟩ := hv
  have hx := B.exec
  have hb := B.bytes
  have hr := B.returns
  have hts := atoms_spec (ws := wsX12_figure) B.pre
  have hown : s.vm.findClass RX12 = some m.cls := findClass_of_methodNamed B.named
  have hlocks := B.notSynchronized
  subst hsz
  have hD := hD0.self (sz := s.heap.size)
  have hA : ∀ q : Nat, s.heap.size ≤ q → va_A (mW a cI cZ mPeople mHours mGrains mKind mWind mWeight mSort mOwner mNow mReadKind mReadWind mReadGrain mReadPeople mReadHours mReadGrains mText mLength mAt mFaultAt mMoved mActs mNext mRow mSeen mSeenKind mSeenLift mSeenFlew mSeed mIsKept mKept) s.heap.size q := fun q h => Or.inr h
  have hS : va_S (va_A (mW a cI cZ mPeople mHours mGrains mKind mWind mWeight mSort mOwner mNow mReadKind mReadWind mReadGrain mReadPeople mReadHours mReadGrains mText mLength mAt mFaultAt mMoved mActs mNext mRow mSeen mSeenKind mSeenLift mSeenFlew mSeed mIsKept mKept) s.heap.size) s.heap s.heap [] := va_S.rf
  obtain ⟨A, hAe⟩ : ∃ A, A = va_A (mW a cI cZ mPeople mHours mGrains mKind mWind mWeight mSort mOwner mNow mReadKind mReadWind mReadGrain mReadPeople mReadHours mReadGrains mText mLength mAt mFaultAt mMoved mActs mNext mRow mSeen mSeenKind mSeenLift mSeenFlew mSeed mIsKept mKept) s.heap.size := ⟨_, rfl⟩
  rw [← hAe] at hD hA hS
  have hl := lv_entry ([.ref (a 0), .int p1, .int p2]) (n := 4) (Nat.le_of_ble_eq_true rfl)
  rw [lg_entry_eq]
  generalize (lg_sl ([.ref (a 0), .int p1, .int p2]) ++ List.replicate (4 - (lg_sl ([.ref (a 0), .int p1, .int p2])).length) Slot.unset).toArray = ls at hl ⊢
  have hl : lv_has ls 4 [(0, .ref (a 0)), (1, .int p1), (2, .int p2)] := hl
  have hiX12 : ∀ w ∈ u_ws RX12 TX12 30, w ∈ wsX12_figure := fun w hw => List.mem_cons_of_mem _ (List.mem_append_right _ hw)
  refine lv_aload_n hx hb dX12_figure_0 rfl (lv_at hl 0 rfl) ?_
  refine va_get (D := D) (ci := 5) (v := .int mFaultAt) (C := RX12) (T := TX12) (N := 30) hx hb hts hiX12 hown hK.1 hP 0 rfl rfl 18 (by decide) (hts (.fieldLink RX12 72 "WinnowedGuiltModel" "faultAt" "I") (by decide +kernel)) (fun _ h9 => h9) rfl dX12_figure_1 ?_
  refine lv_bipush (v := (-9)) hx hb dX12_figure_4 (by decide) ?_
  refine lv_icmp_ne (tgt := 35) hx hb dX12_figure_6 (by decide) (fun c1 => ?_) (fun c1 => ?_)
  · have h := iF c1 h
    refine lv_bipush (v := (-9)) hx hb dX12_figure_35 (by decide) ?_
    refine lv_istore_n (lv' := [(3, .int (-9)), (0, .ref (a 0)), (1, .int p1), (2, .int p2)]) hx hb dX12_figure_37 rfl hl (by decide) rfl (fun ls hl => ?_)
    refine lv_iload_n hx hb dX12_figure_38 rfl (lv_at hl 0 rfl) ?_
    refine lv_i2l (v := (Int32.toInt64 (-9))) hx hb dX12_figure_39 rfl ?_
    refine lv_iload_n hx hb dX12_figure_40 rfl (lv_at hl 2 rfl) ?_
    refine lv_i2l (v := (Int32.toInt64 p1)) hx hb dX12_figure_41 rfl ?_
    refine lv_iload_n hx hb dX12_figure_42 rfl (lv_at hl 3 rfl) ?_
    refine lv_i2l (v := (Int32.toInt64 p2)) hx hb dX12_figure_43 rfl ?_
    obtain ⟨q2, hq2, h⟩ := bS h
    refine rcI (va_runS (As := [.long (Int32.toInt64 (-9)), .long (Int32.toInt64 p1), .long (Int32.toInt64 p2)]) (rest := []) ⟨hx, hb, hml, hown, hts⟩ (c_mm_in l D cI cJ cZ   s.heap (Int32.toInt64 (-9)) (Int32.toInt64 p1) (Int32.toInt64 p2) q2 hq2) (va_cwS 3 hts gX12_figure_X12_in rfl rfl rfl (by decide +kernel) ⟨Nat.le_of_ble_eq_true rfl, Nat.le_of_ble_eq_true rfl⟩) (rPreS hK) rfl rfl hl.1 rfl (lv_room (Nat.le_of_ble_eq_true rfl)) dX12_figure_44 ⟨Nat.zero_le _, Nat.zero_le _⟩) ?_
    refine lv_if_ne (tgt := 76) hx hb dX12_figure_47 (by decide) (fun c3 => ?_) (fun c3 => ?_)
    · have h := iF c3 h
      refine lv_aload_n hx hb dX12_figure_76 rfl (lv_at hl 1 rfl) ?_
      refine lv_dup hx hb dX12_figure_77 rfl ?_
      refine va_get (D := D) (ci := 5) (v := .int mAt) (C := RX12) (T := TX12) (N := 30) hx hb hts hiX12 hown hK.1 hP 0 rfl rfl 17 (by decide) (hts (.fieldLink RX12 75 "WinnowedGuiltModel" "at" "I") (by decide +kernel)) (fun _ h9 => h9) rfl dX12_figure_78 ?_
      refine lv_iconst (v := 1) hx hb dX12_figure_81 (by decide) ?_
      refine lv_iadd hx hb dX12_figure_82 ?_
      refine va_put (D := D) (ci := 5) (v := .int (mAt + 1)) (ty := .int) (C := RX12) (T := TX12) (N := 30) hx hb hts hiX12 tyX12 tyX12_ok nmX12 hown hK.1 hP hD hS 0 rfl rfl 17 (by decide) (hts (.fieldLink RX12 75 "WinnowedGuiltModel" "at" "I") (by decide +kernel)) (fun _ h9 => h9) rfl (by decide +kernel) rfl rfl (Nat.le_of_ble_eq_true rfl) dX12_figure_83 (fun H locs hP hD hS => ?_)
      have hP : va_P D vwCl (mW a cI cZ mPeople mHours mGrains mKind mWind mWeight mSort mOwner mNow mReadKind mReadWind mReadGrain mReadPeople mReadHours mReadGrains mText mLength (mAt + 1) mFaultAt mMoved mActs mNext mRow mSeen mSeenKind mSeenLift mSeenFlew mSeed mIsKept mKept) H := hP
      have hD : va_D A (mW a cI cZ mPeople mHours mGrains mKind mWind mWeight mSort mOwner mNow mReadKind mReadWind mReadGrain mReadPeople mReadHours mReadGrains mText mLength (mAt + 1) mFaultAt mMoved mActs mNext mRow mSeen mSeenKind mSeenLift mSeenFlew mSeed mIsKept mKept) := hD
      refine lv_iload_n hx hb dX12_figure_86 rfl (lv_at hl 0 rfl) ?_
      cases h
      subst hAe
      exact W.iret hx hb hr (fun t ht _ => ⟨⟨_, (), rfl, rfl, by rw [ht]; exact hP, hD⟩, hS.F ht⟩) hS.2.2 dX12_figure_87
    · have h := iT c3 h
      refine lv_aload_n hx hb dX12_figure_50 rfl (lv_at hl 1 rfl) ?_
      refine lv_aload_n hx hb dX12_figure_51 rfl (lv_at hl 1 rfl) ?_
      refine va_get (D := D) (ci := 5) (v := .int mFaultAt) (C := RX12) (T := TX12) (N := 30) hx hb hts hiX12 hown hK.1 hP 0 rfl rfl 18 (by decide) (hts (.fieldLink RX12 72 "WinnowedGuiltModel" "faultAt" "I") (by decide +kernel)) (fun _ h9 => h9) rfl dX12_figure_52 ?_
      refine lv_bipush (v := (-9)) hx hb dX12_figure_55 (by decide) ?_
      refine lv_icmp_ne (tgt := 67) hx hb dX12_figure_57 (by decide) (fun c4 => ?_) (fun c4 => ?_)
      · have h := iF c4 h
        refine lv_aload_n hx hb dX12_figure_67 rfl (lv_at hl 1 rfl) ?_
        refine va_get (D := D) (ci := 5) (v := .int mFaultAt) (C := RX12) (T := TX12) (N := 30) hx hb hts hiX12 hown hK.1 hP 0 rfl rfl 18 (by decide) (hts (.fieldLink RX12 72 "WinnowedGuiltModel" "faultAt" "I") (by decide +kernel)) (fun _ h9 => h9) rfl dX12_figure_68 ?_
        refine va_put (D := D) (ci := 5) (v := .int mFaultAt) (ty := .int) (C := RX12) (T := TX12) (N := 30) hx hb hts hiX12 tyX12 tyX12_ok nmX12 hown hK.1 hP hD hS 0 rfl rfl 18 (by decide) (hts (.fieldLink RX12 72 "WinnowedGuiltModel" "faultAt" "I") (by decide +kernel)) (fun _ h9 => h9) rfl (by decide +kernel) rfl rfl (Nat.le_of_ble_eq_true rfl) dX12_figure_71 (fun H locs hP hD hS => ?_)
        have hP : va_P D vwCl (mW a cI cZ mPeople mHours mGrains mKind mWind mWeight mSort mOwner mNow mReadKind mReadWind mReadGrain mReadPeople mReadHours mReadGrains mText mLength mAt mFaultAt mMoved mActs mNext mRow mSeen mSeenKind mSeenLift mSeenFlew mSeed mIsKept mKept) H := hP
        have hD : va_D A (mW a cI cZ mPeople mHours mGrains mKind mWind mWeight mSort mOwner mNow mReadKind mReadWind mReadGrain mReadPeople mReadHours mReadGrains mText mLength mAt mFaultAt mMoved mActs mNext mRow mSeen mSeenKind mSeenLift mSeenFlew mSeed mIsKept mKept) := hD
        refine lv_iload_n hx hb dX12_figure_74 rfl (lv_at hl 2 rfl) ?_
        cases h
        subst hAe
        exact W.iret hx hb hr (fun t ht _ => ⟨⟨_, (), rfl, rfl, by rw [ht]; exact hP, hD⟩, hS.F ht⟩) hS.2.2 dX12_figure_75
      · have h := iT c4 h
        refine lv_aload_n hx hb dX12_figure_60 rfl (lv_at hl 1 rfl) ?_
        refine va_get (D := D) (ci := 5) (v := .int mAt) (C := RX12) (T := TX12) (N := 30) hx hb hts hiX12 hown hK.1 hP 0 rfl rfl 17 (by decide) (hts (.fieldLink RX12 75 "WinnowedGuiltModel" "at" "I") (by decide +kernel)) (fun _ h9 => h9) rfl dX12_figure_61 ?_
        refine lv_goto (tgt := 71) hx hb dX12_figure_64 (by decide) ?_
        refine va_put (D := D) (ci := 5) (v := .int mAt) (ty := .int) (C := RX12) (T := TX12) (N := 30) hx hb hts hiX12 tyX12 tyX12_ok nmX12 hown hK.1 hP hD hS 0 rfl rfl 18 (by decide) (hts (.fieldLink RX12 72 "WinnowedGuiltModel" "faultAt" "I") (by decide +kernel)) (fun _ h9 => h9) rfl (by decide +kernel) rfl rfl (Nat.le_of_ble_eq_true rfl) dX12_figure_71 (fun H locs hP hD hS => ?_)
        have hP : va_P D vwCl (mW a cI cZ mPeople mHours mGrains mKind mWind mWeight mSort mOwner mNow mReadKind mReadWind mReadGrain mReadPeople mReadHours mReadGrains mText mLength mAt mAt mMoved mActs mNext mRow mSeen mSeenKind mSeenLift mSeenFlew mSeed mIsKept mKept) H := hP
        have hD : va_D A (mW a cI cZ mPeople mHours mGrains mKind mWind mWeight mSort mOwner mNow mReadKind mReadWind mReadGrain mReadPeople mReadHours mReadGrains mText mLength mAt mAt mMoved mActs mNext mRow mSeen mSeenKind mSeenLift mSeenFlew mSeed mIsKept mKept) := hD
        refine lv_iload_n hx hb dX12_figure_74 rfl (lv_at hl 2 rfl) ?_
        cases h
        subst hAe
        exact W.iret hx hb hr (fun t ht _ => ⟨⟨_, (), rfl, rfl, by rw [ht]; exact hP, hD⟩, hS.F ht⟩) hS.2.2 dX12_figure_75
  · have h := iT c1 h
    refine lv_aload_n hx hb dX12_figure_9 rfl (lv_at hl 0 rfl) ?_
    refine va_get (D := D) (ci := 5) (v := .int mAt) (C := RX12) (T := TX12) (N := 30) hx hb hts hiX12 hown hK.1 hP 0 rfl rfl 17 (by decide) (hts (.fieldLink RX12 75 "WinnowedGuiltModel" "at" "I") (by decide +kernel)) (fun _ h9 => h9) rfl dX12_figure_10 ?_
    refine lv_aload_n hx hb dX12_figure_13 rfl (lv_at hl 0 rfl) ?_
    refine va_get (D := D) (ci := 5) (v := .int mLength) (C := RX12) (T := TX12) (N := 30) hx hb hts hiX12 hown hK.1 hP 0 rfl rfl 16 (by decide) (hts (.fieldLink RX12 68 "WinnowedGuiltModel" "length" "I") (by decide +kernel)) (fun _ h9 => h9) rfl dX12_figure_14 ?_
    refine lv_icmp_ge (tgt := 35) hx hb dX12_figure_17 (by decide) (fun c2 => ?_) (fun c2 => ?_)
    · have h := iT c2 h
      refine lv_bipush (v := (-9)) hx hb dX12_figure_35 (by decide) ?_
      refine lv_istore_n (lv' := [(3, .int (-9)), (0, .ref (a 0)), (1, .int p1), (2, .int p2)]) hx hb dX12_figure_37 rfl hl (by decide) rfl (fun ls hl => ?_)
      refine lv_iload_n hx hb dX12_figure_38 rfl (lv_at hl 0 rfl) ?_
      refine lv_i2l (v := (Int32.toInt64 (-9))) hx hb dX12_figure_39 rfl ?_
      refine lv_iload_n hx hb dX12_figure_40 rfl (lv_at hl 2 rfl) ?_
      refine lv_i2l (v := (Int32.toInt64 p1)) hx hb dX12_figure_41 rfl ?_
      refine lv_iload_n hx hb dX12_figure_42 rfl (lv_at hl 3 rfl) ?_
      refine lv_i2l (v := (Int32.toInt64 p2)) hx hb dX12_figure_43 rfl ?_
      obtain ⟨q3, hq3, h⟩ := bS h
      refine rcI (va_runS (As := [.long (Int32.toInt64 (-9)), .long (Int32.toInt64 p1), .long (Int32.toInt64 p2)]) (rest := []) ⟨hx, hb, hml, hown, hts⟩ (c_mm_in l D cI cJ cZ   s.heap (Int32.toInt64 (-9)) (Int32.toInt64 p1) (Int32.toInt64 p2) q3 hq3) (va_cwS 3 hts gX12_figure_X12_in rfl rfl rfl (by decide +kernel) ⟨Nat.le_of_ble_eq_true rfl, Nat.le_of_ble_eq_true rfl⟩) (rPreS hK) rfl rfl hl.1 rfl (lv_room (Nat.le_of_ble_eq_true rfl)) dX12_figure_44 ⟨Nat.zero_le _, Nat.zero_le _⟩) ?_
      refine lv_if_ne (tgt := 76) hx hb dX12_figure_47 (by decide) (fun c4 => ?_) (fun c4 => ?_)
      · have h := iF c4 h
        refine lv_aload_n hx hb dX12_figure_76 rfl (lv_at hl 1 rfl) ?_
        refine lv_dup hx hb dX12_figure_77 rfl ?_
        refine va_get (D := D) (ci := 5) (v := .int mAt) (C := RX12) (T := TX12) (N := 30) hx hb hts hiX12 hown hK.1 hP 0 rfl rfl 17 (by decide) (hts (.fieldLink RX12 75 "WinnowedGuiltModel" "at" "I") (by decide +kernel)) (fun _ h9 => h9) rfl dX12_figure_78 ?_
        refine lv_iconst (v := 1) hx hb dX12_figure_81 (by decide) ?_
        refine lv_iadd hx hb dX12_figure_82 ?_
        refine va_put (D := D) (ci := 5) (v := .int (mAt + 1)) (ty := .int) (C := RX12) (T := TX12) (N := 30) hx hb hts hiX12 tyX12 tyX12_ok nmX12 hown hK.1 hP hD hS 0 rfl rfl 17 (by decide) (hts (.fieldLink RX12 75 "WinnowedGuiltModel" "at" "I") (by decide +kernel)) (fun _ h9 => h9) rfl (by decide +kernel) rfl rfl (Nat.le_of_ble_eq_true rfl) dX12_figure_83 (fun H locs hP hD hS => ?_)
        have hP : va_P D vwCl (mW a cI cZ mPeople mHours mGrains mKind mWind mWeight mSort mOwner mNow mReadKind mReadWind mReadGrain mReadPeople mReadHours mReadGrains mText mLength (mAt + 1) mFaultAt mMoved mActs mNext mRow mSeen mSeenKind mSeenLift mSeenFlew mSeed mIsKept mKept) H := hP
        have hD : va_D A (mW a cI cZ mPeople mHours mGrains mKind mWind mWeight mSort mOwner mNow mReadKind mReadWind mReadGrain mReadPeople mReadHours mReadGrains mText mLength (mAt + 1) mFaultAt mMoved mActs mNext mRow mSeen mSeenKind mSeenLift mSeenFlew mSeed mIsKept mKept) := hD
        refine lv_iload_n hx hb dX12_figure_86 rfl (lv_at hl 0 rfl) ?_
        cases h
        subst hAe
        exact W.iret hx hb hr (fun t ht _ => ⟨⟨_, (), rfl, rfl, by rw [ht]; exact hP, hD⟩, hS.F ht⟩) hS.2.2 dX12_figure_87
      · have h := iT c4 h
        refine lv_aload_n hx hb dX12_figure_50 rfl (lv_at hl 1 rfl) ?_
        refine lv_aload_n hx hb dX12_figure_51 rfl (lv_at hl 1 rfl) ?_
        refine va_get (D := D) (ci := 5) (v := .int mFaultAt) (C := RX12) (T := TX12) (N := 30) hx hb hts hiX12 hown hK.1 hP 0 rfl rfl 18 (by decide) (hts (.fieldLink RX12 72 "WinnowedGuiltModel" "faultAt" "I") (by decide +kernel)) (fun _ h9 => h9) rfl dX12_figure_52 ?_
        refine lv_bipush (v := (-9)) hx hb dX12_figure_55 (by decide) ?_
        refine lv_icmp_ne (tgt := 67) hx hb dX12_figure_57 (by decide) (fun c => absurd c (by rw [c1]; decide)) (fun _ => ?_)
        refine lv_aload_n hx hb dX12_figure_60 rfl (lv_at hl 1 rfl) ?_
        refine va_get (D := D) (ci := 5) (v := .int mAt) (C := RX12) (T := TX12) (N := 30) hx hb hts hiX12 hown hK.1 hP 0 rfl rfl 17 (by decide) (hts (.fieldLink RX12 75 "WinnowedGuiltModel" "at" "I") (by decide +kernel)) (fun _ h9 => h9) rfl dX12_figure_61 ?_
        refine lv_goto (tgt := 71) hx hb dX12_figure_64 (by decide) ?_
        refine va_put (D := D) (ci := 5) (v := .int mAt) (ty := .int) (C := RX12) (T := TX12) (N := 30) hx hb hts hiX12 tyX12 tyX12_ok nmX12 hown hK.1 hP hD hS 0 rfl rfl 18 (by decide) (hts (.fieldLink RX12 72 "WinnowedGuiltModel" "faultAt" "I") (by decide +kernel)) (fun _ h9 => h9) rfl (by decide +kernel) rfl rfl (Nat.le_of_ble_eq_true rfl) dX12_figure_71 (fun H locs hP hD hS => ?_)
        have hP : va_P D vwCl (mW a cI cZ mPeople mHours mGrains mKind mWind mWeight mSort mOwner mNow mReadKind mReadWind mReadGrain mReadPeople mReadHours mReadGrains mText mLength mAt mAt mMoved mActs mNext mRow mSeen mSeenKind mSeenLift mSeenFlew mSeed mIsKept mKept) H := hP
        have hD : va_D A (mW a cI cZ mPeople mHours mGrains mKind mWind mWeight mSort mOwner mNow mReadKind mReadWind mReadGrain mReadPeople mReadHours mReadGrains mText mLength mAt mAt mMoved mActs mNext mRow mSeen mSeenKind mSeenLift mSeenFlew mSeed mIsKept mKept) := hD
        refine lv_iload_n hx hb dX12_figure_74 rfl (lv_at hl 2 rfl) ?_
        cases h
        subst hAe
        exact W.iret hx hb hr (fun t ht _ => ⟨⟨_, (), rfl, rfl, by rw [ht]; exact hP, hD⟩, hS.F ht⟩) hS.2.2 dX12_figure_75
    · have h := iF c2 h
      refine lv_aload_n hx hb dX12_figure_20 rfl (lv_at hl 0 rfl) ?_
      refine va_get (D := D) (ci := 5) (v := .ref (a 10)) (C := RX12) (T := TX12) (N := 30) hx hb hts hiX12 hown hK.1 hP 0 rfl rfl 15 (by decide) (hts (.fieldLink RX12 37 "WinnowedGuiltModel" "text" "[I") (by decide +kernel)) (fun _ h9 => h9) rfl dX12_figure_21 ?_
      refine lv_aload_n hx hb dX12_figure_24 rfl (lv_at hl 0 rfl) ?_
      refine va_get (D := D) (ci := 5) (v := .int mAt) (C := RX12) (T := TX12) (N := 30) hx hb hts hiX12 hown hK.1 hP 0 rfl rfl 17 (by decide) (hts (.fieldLink RX12 75 "WinnowedGuiltModel" "at" "I") (by decide +kernel)) (fun _ h9 => h9) rfl dX12_figure_25 ?_
      obtain ⟨hi3, h⟩ := gI_some h
      refine ldI (v := (mText (Int32.toNatClampNeg mAt))) hx hb hK.1 hP 10 rfl rfl hi3 rfl dX12_figure_28 ?_
      refine lv_bipush (v := 48) hx hb dX12_figure_29 (by decide) ?_
      refine lv_isub hx hb dX12_figure_31 ?_
      refine lv_goto (tgt := 37) hx hb dX12_figure_32 (by decide) ?_
      refine lv_istore_n (lv' := [(3, .int ((mText (Int32.toNatClampNeg mAt)) - 48)), (0, .ref (a 0)), (1, .int p1), (2, .int p2)]) hx hb dX12_figure_37 rfl hl (by decide) rfl (fun ls hl => ?_)
      refine lv_iload_n hx hb dX12_figure_38 rfl (lv_at hl 0 rfl) ?_
      refine lv_i2l (v := (Int32.toInt64 ((mText (Int32.toNatClampNeg mAt)) - 48))) hx hb dX12_figure_39 rfl ?_
      refine lv_iload_n hx hb dX12_figure_40 rfl (lv_at hl 2 rfl) ?_
      refine lv_i2l (v := (Int32.toInt64 p1)) hx hb dX12_figure_41 rfl ?_
      refine lv_iload_n hx hb dX12_figure_42 rfl (lv_at hl 3 rfl) ?_
      refine lv_i2l (v := (Int32.toInt64 p2)) hx hb dX12_figure_43 rfl ?_
      obtain ⟨q4, hq4, h⟩ := bS h
      refine rcI (va_runS (As := [.long (Int32.toInt64 ((mText (Int32.toNatClampNeg mAt)) - 48)), .long (Int32.toInt64 p1), .long (Int32.toInt64 p2)]) (rest := []) ⟨hx, hb, hml, hown, hts⟩ (c_mm_in l D cI cJ cZ   s.heap (Int32.toInt64 ((mText (Int32.toNatClampNeg mAt)) - 48)) (Int32.toInt64 p1) (Int32.toInt64 p2) q4 hq4) (va_cwS 3 hts gX12_figure_X12_in rfl rfl rfl (by decide +kernel) ⟨Nat.le_of_ble_eq_true rfl, Nat.le_of_ble_eq_true rfl⟩) (rPreS hK) rfl rfl hl.1 rfl (lv_room (Nat.le_of_ble_eq_true rfl)) dX12_figure_44 ⟨Nat.zero_le _, Nat.zero_le _⟩) ?_
      refine lv_if_ne (tgt := 76) hx hb dX12_figure_47 (by decide) (fun c5 => ?_) (fun c5 => ?_)
      · have h := iF c5 h
        refine lv_aload_n hx hb dX12_figure_76 rfl (lv_at hl 1 rfl) ?_
        refine lv_dup hx hb dX12_figure_77 rfl ?_
        refine va_get (D := D) (ci := 5) (v := .int mAt) (C := RX12) (T := TX12) (N := 30) hx hb hts hiX12 hown hK.1 hP 0 rfl rfl 17 (by decide) (hts (.fieldLink RX12 75 "WinnowedGuiltModel" "at" "I") (by decide +kernel)) (fun _ h9 => h9) rfl dX12_figure_78 ?_
        refine lv_iconst (v := 1) hx hb dX12_figure_81 (by decide) ?_
        refine lv_iadd hx hb dX12_figure_82 ?_
        refine va_put (D := D) (ci := 5) (v := .int (mAt + 1)) (ty := .int) (C := RX12) (T := TX12) (N := 30) hx hb hts hiX12 tyX12 tyX12_ok nmX12 hown hK.1 hP hD hS 0 rfl rfl 17 (by decide) (hts (.fieldLink RX12 75 "WinnowedGuiltModel" "at" "I") (by decide +kernel)) (fun _ h9 => h9) rfl (by decide +kernel) rfl rfl (Nat.le_of_ble_eq_true rfl) dX12_figure_83 (fun H locs hP hD hS => ?_)
        have hP : va_P D vwCl (mW a cI cZ mPeople mHours mGrains mKind mWind mWeight mSort mOwner mNow mReadKind mReadWind mReadGrain mReadPeople mReadHours mReadGrains mText mLength (mAt + 1) mFaultAt mMoved mActs mNext mRow mSeen mSeenKind mSeenLift mSeenFlew mSeed mIsKept mKept) H := hP
        have hD : va_D A (mW a cI cZ mPeople mHours mGrains mKind mWind mWeight mSort mOwner mNow mReadKind mReadWind mReadGrain mReadPeople mReadHours mReadGrains mText mLength (mAt + 1) mFaultAt mMoved mActs mNext mRow mSeen mSeenKind mSeenLift mSeenFlew mSeed mIsKept mKept) := hD
        refine lv_iload_n hx hb dX12_figure_86 rfl (lv_at hl 0 rfl) ?_
        cases h
        subst hAe
        exact W.iret hx hb hr (fun t ht _ => ⟨⟨_, (), rfl, rfl, by rw [ht]; exact hP, hD⟩, hS.F ht⟩) hS.2.2 dX12_figure_87
      · have h := iT c5 h
        refine lv_aload_n hx hb dX12_figure_50 rfl (lv_at hl 1 rfl) ?_
        refine lv_aload_n hx hb dX12_figure_51 rfl (lv_at hl 1 rfl) ?_
        refine va_get (D := D) (ci := 5) (v := .int mFaultAt) (C := RX12) (T := TX12) (N := 30) hx hb hts hiX12 hown hK.1 hP 0 rfl rfl 18 (by decide) (hts (.fieldLink RX12 72 "WinnowedGuiltModel" "faultAt" "I") (by decide +kernel)) (fun _ h9 => h9) rfl dX12_figure_52 ?_
        refine lv_bipush (v := (-9)) hx hb dX12_figure_55 (by decide) ?_
        refine lv_icmp_ne (tgt := 67) hx hb dX12_figure_57 (by decide) (fun c => absurd c (by rw [c1]; decide)) (fun _ => ?_)
        refine lv_aload_n hx hb dX12_figure_60 rfl (lv_at hl 1 rfl) ?_
        refine va_get (D := D) (ci := 5) (v := .int mAt) (C := RX12) (T := TX12) (N := 30) hx hb hts hiX12 hown hK.1 hP 0 rfl rfl 17 (by decide) (hts (.fieldLink RX12 75 "WinnowedGuiltModel" "at" "I") (by decide +kernel)) (fun _ h9 => h9) rfl dX12_figure_61 ?_
        refine lv_goto (tgt := 71) hx hb dX12_figure_64 (by decide) ?_
        refine va_put (D := D) (ci := 5) (v := .int mAt) (ty := .int) (C := RX12) (T := TX12) (N := 30) hx hb hts hiX12 tyX12 tyX12_ok nmX12 hown hK.1 hP hD hS 0 rfl rfl 18 (by decide) (hts (.fieldLink RX12 72 "WinnowedGuiltModel" "faultAt" "I") (by decide +kernel)) (fun _ h9 => h9) rfl (by decide +kernel) rfl rfl (Nat.le_of_ble_eq_true rfl) dX12_figure_71 (fun H locs hP hD hS => ?_)
        have hP : va_P D vwCl (mW a cI cZ mPeople mHours mGrains mKind mWind mWeight mSort mOwner mNow mReadKind mReadWind mReadGrain mReadPeople mReadHours mReadGrains mText mLength mAt mAt mMoved mActs mNext mRow mSeen mSeenKind mSeenLift mSeenFlew mSeed mIsKept mKept) H := hP
        have hD : va_D A (mW a cI cZ mPeople mHours mGrains mKind mWind mWeight mSort mOwner mNow mReadKind mReadWind mReadGrain mReadPeople mReadHours mReadGrains mText mLength mAt mAt mMoved mActs mNext mRow mSeen mSeenKind mSeenLift mSeenFlew mSeed mIsKept mKept) := hD
        refine lv_iload_n hx hb dX12_figure_74 rfl (lv_at hl 2 rfl) ?_
        cases h
        subst hAe
        exact W.iret hx hb hr (fun t ht _ => ⟨⟨_, (), rfl, rfl, by rw [ht]; exact hP, hD⟩, hS.F ht⟩) hS.2.2 dX12_figure_75

set_option maxHeartbeats 4000000 in
set_option maxRecDepth 100000 in
theorem c_mm_readPart (l : Launch) (D : va_G) (cI cJ cZ : ClassId) (a : Nat → Nat) (mPeople : Int32) (mHours : Int32) (mGrains : Int32) (mKind : Nat → Int32) (mWind : Nat → Int32) (mWeight : Nat → Int32) (mSort : Nat → Int32) (mOwner : Nat → Int32) (mNow : Nat → Int32) (mReadKind : Nat → Int32) (mReadWind : Nat → Int32) (mReadGrain : Nat → Int32) (mReadPeople : Int32) (mReadHours : Int32) (mReadGrains : Int32) (mText : Nat → Int32) (mLength : Int32) (mAt : Int32) (mFaultAt : Int32) (mMoved : Nat → Int32) (mActs : Int32) (mNext : Int32) (mRow : Nat → Int32) (mSeen : Int32) (mSeenKind : Nat → Int32) (mSeenLift : Nat → Int32) (mSeenFlew : Nat → Int32) (mSeed : Int64) (mIsKept : Nat → Int32) (mKept : Nat → Int32)  (sz : Nat) (p1 : Int32) (mReadKind_r : Nat → Int32) (mReadWind_r : Nat → Int32) (mReadGrain_r : Nat → Int32) (mReadPeople_r : Int32) (mReadHours_r : Int32) (mReadGrains_r : Int32) (mAt_r : Int32) (mFaultAt_r : Int32) (h : mm_readPart mReadKind mReadWind mReadGrain mReadPeople mReadHours mReadGrains mText mLength mAt mFaultAt p1 = some (mReadKind_r, mReadWind_r, mReadGrain_r, mReadPeople_r, mReadHours_r, mReadGrains_r, mAt_r, mFaultAt_r)) : Met l yX12_readPart wsX12_readPart ({ frames := 2, cells := 0, slots := 0, locals := 48 } : Room) (wPc D cI cJ cZ (mW a cI cZ mPeople mHours mGrains mKind mWind mWeight mSort mOwner mNow mReadKind mReadWind mReadGrain mReadPeople mReadHours mReadGrains mText mLength mAt mFaultAt mMoved mActs mNext mRow mSeen mSeenKind mSeenLift mSeenFlew mSeed mIsKept mKept) sz [.ref (a 0), .int p1]) (wQv D (mW a cI cZ mPeople mHours mGrains mKind mWind mWeight mSort mOwner mNow mReadKind mReadWind mReadGrain mReadPeople mReadHours mReadGrains mText mLength mAt mFaultAt mMoved mActs mNext mRow mSeen mSeenKind mSeenLift mSeenFlew mSeed mIsKept mKept) (mW a cI cZ mPeople mHours mGrains mKind mWind mWeight mSort mOwner mNow mReadKind_r mReadWind_r mReadGrain_r mReadPeople_r mReadHours_r mReadGrains_r mText mLength mAt_r mFaultAt_r mMoved mActs mNext mRow mSeen mSeenKind mSeenLift mSeenFlew mSeed mIsKept mKept) sz) 0 0 (va_A (mW a cI cZ mPeople mHours mGrains mKind mWind mWeight mSort mOwner mNow mReadKind mReadWind mReadGrain mReadPeople mReadHours mReadGrains mText mLength mAt mFaultAt mMoved mActs mNext mRow mSeen mSeenKind mSeenLift mSeenFlew mSeed mIsKept mKept) sz) := by
  unfold mm_readPart at h
  refine Met.ofW (cc := cX12_readPart) (maxL := 3) (ret := none) (by decide) rfl ?_
  intro p e s m args below meth c s₁ B hml hv
  obtain ⟨rfl, hsz, hP, hK, hD0⟩ := hv
  have hx := B.exec
  have hb := B.bytes
  have hr := B.returns
  have hts := atoms_spec (ws := wsX12_readPart) B.pre
  have hown : s.vm.findClass RX12 = some m.cls := findClass_of_methodNamed B.named
  have hlocks := B.notSynchronized
  subst hsz
  have hD := hD0.self (sz := s.heap.size)
  have hA : ∀ q : Nat, s.heap.size ≤ q → va_A (mW a cI cZ mPeople mHours mGrains mKind mWind mWeight mSort mOwner mNow mReadKind mReadWind mReadGrain mReadPeople mReadHours mReadGrains mText mLength mAt mFaultAt mMoved mActs mNext mRow mSeen mSeenKind mSeenLift mSeenFlew mSeed mIsKept mKept) s.heap.size q := fun q h => Or.inr h
  have hS : va_S (va_A (mW a cI cZ mPeople mHours mGrains mKind mWind mWeight mSort mOwner mNow mReadKind mReadWind mReadGrain mReadPeople mReadHours mReadGrains mText mLength mAt mFaultAt mMoved mActs mNext mRow mSeen mSeenKind mSeenLift mSeenFlew mSeed mIsKept mKept) s.heap.size) s.heap s.heap [] := va_S.rf
  obtain ⟨A, hAe⟩ : ∃ A, A = va_A (mW a cI cZ mPeople mHours mGrains mKind mWind mWeight mSort mOwner mNow mReadKind mReadWind mReadGrain mReadPeople mReadHours mReadGrains mText mLength mAt mFaultAt mMoved mActs mNext mRow mSeen mSeenKind mSeenLift mSeenFlew mSeed mIsKept mKept) s.heap.size := ⟨_, rfl⟩
  rw [← hAe] at hD hA hS
  have hl := lv_entry ([.ref (a 0), .int p1]) (n := 3) (Nat.le_of_ble_eq_true rfl)
  rw [lg_entry_eq]
  generalize (lg_sl ([.ref (a 0), .int p1]) ++ List.replicate (3 - (lg_sl ([.ref (a 0), .int p1])).length) Slot.unset).toArray = ls at hl ⊢
  have hl : lv_has ls 3 [(0, .ref (a 0)), (1, .int p1)] := hl
  have hiX12 : ∀ w ∈ u_ws RX12 TX12 30, w ∈ wsX12_readPart := fun w hw => List.mem_cons_of_mem _ (List.mem_append_right _ hw)
  refine lv_iload_n hx hb dX12_readPart_0 rfl (lv_at hl 1 rfl) ?_
  refine lv_bipush (v := 80) hx hb dX12_readPart_1 (by decide) ?_
  refine lv_icmp_ne (tgt := 52) hx hb dX12_readPart_3 (by decide) (fun c1 => ?_) (fun c1 => ?_)
  · have h := iF c1 h
    refine lv_iload_n hx hb dX12_readPart_52 rfl (lv_at hl 1 rfl) ?_
    refine lv_bipush (v := 72) hx hb dX12_readPart_53 (by decide) ?_
    refine lv_icmp_ne (tgt := 106) hx hb dX12_readPart_55 (by decide) (fun c2 => ?_) (fun c2 => ?_)
    · have h := iF c2 h
      refine lv_iload_n hx hb dX12_readPart_106 rfl (lv_at hl 1 rfl) ?_
      refine lv_bipush (v := 71) hx hb dX12_readPart_107 (by decide) ?_
      refine lv_icmp_ne (tgt := 223) hx hb dX12_readPart_109 (by decide) (fun c3 => ?_) (fun c3 => ?_)
      · have h := iF c3 h
        refine lv_aload_n hx hb dX12_readPart_223 rfl (lv_at hl 0 rfl) ?_
        refine lv_aload_n hx hb dX12_readPart_224 rfl (lv_at hl 0 rfl) ?_
        refine va_get (D := D) (ci := 5) (v := .int mAt) (C := RX12) (T := TX12) (N := 30) hx hb hts hiX12 hown hK.1 hP 0 rfl rfl 17 (by decide) (hts (.fieldLink RX12 75 "WinnowedGuiltModel" "at" "I") (by decide +kernel)) (fun _ h9 => h9) rfl dX12_readPart_225 ?_
        refine va_put (D := D) (ci := 5) (v := .int mAt) (ty := .int) (C := RX12) (T := TX12) (N := 30) hx hb hts hiX12 tyX12 tyX12_ok nmX12 hown hK.1 hP hD hS 0 rfl rfl 18 (by decide) (hts (.fieldLink RX12 72 "WinnowedGuiltModel" "faultAt" "I") (by decide +kernel)) (fun _ h9 => h9) rfl (by decide +kernel) rfl rfl (Nat.le_of_ble_eq_true rfl) dX12_readPart_228 (fun H locs hP hD hS => ?_)
        have hP : va_P D vwCl (mW a cI cZ mPeople mHours mGrains mKind mWind mWeight mSort mOwner mNow mReadKind mReadWind mReadGrain mReadPeople mReadHours mReadGrains mText mLength mAt mAt mMoved mActs mNext mRow mSeen mSeenKind mSeenLift mSeenFlew mSeed mIsKept mKept) H := hP
        have hD : va_D A (mW a cI cZ mPeople mHours mGrains mKind mWind mWeight mSort mOwner mNow mReadKind mReadWind mReadGrain mReadPeople mReadHours mReadGrains mText mLength mAt mAt mMoved mActs mNext mRow mSeen mSeenKind mSeenLift mSeenFlew mSeed mIsKept mKept) := hD
        cases h
        subst hAe
        exact W.vret hx hb hr (fun t ht _ => ⟨⟨(), rfl, trivial, by rw [ht]; exact hP, hD⟩, hS.F ht⟩) hS.2.2 dX12_readPart_231
      · have h := iT c3 h
        refine lv_aload_n hx hb dX12_readPart_112 rfl (lv_at hl 0 rfl) ?_
        refine va_get (D := D) (ci := 5) (v := .int mReadGrains) (C := RX12) (T := TX12) (N := 30) hx hb hts hiX12 hown hK.1 hP 0 rfl rfl 14 (by decide) (hts (.fieldLink RX12 84 "WinnowedGuiltModel" "readGrains" "I") (by decide +kernel)) (fun _ h9 => h9) rfl dX12_readPart_113 ?_
        refine lv_bipush (v := 7) hx hb dX12_readPart_116 (by decide) ?_
        refine lv_icmp_ge (tgt := 223) hx hb dX12_readPart_118 (by decide) (fun c4 => ?_) (fun c4 => ?_)
        · have h := iT c4 h
          refine lv_aload_n hx hb dX12_readPart_223 rfl (lv_at hl 0 rfl) ?_
          refine lv_aload_n hx hb dX12_readPart_224 rfl (lv_at hl 0 rfl) ?_
          refine va_get (D := D) (ci := 5) (v := .int mAt) (C := RX12) (T := TX12) (N := 30) hx hb hts hiX12 hown hK.1 hP 0 rfl rfl 17 (by decide) (hts (.fieldLink RX12 75 "WinnowedGuiltModel" "at" "I") (by decide +kernel)) (fun _ h9 => h9) rfl dX12_readPart_225 ?_
          refine va_put (D := D) (ci := 5) (v := .int mAt) (ty := .int) (C := RX12) (T := TX12) (N := 30) hx hb hts hiX12 tyX12 tyX12_ok nmX12 hown hK.1 hP hD hS 0 rfl rfl 18 (by decide) (hts (.fieldLink RX12 72 "WinnowedGuiltModel" "faultAt" "I") (by decide +kernel)) (fun _ h9 => h9) rfl (by decide +kernel) rfl rfl (Nat.le_of_ble_eq_true rfl) dX12_readPart_228 (fun H locs hP hD hS => ?_)
          have hP : va_P D vwCl (mW a cI cZ mPeople mHours mGrains mKind mWind mWeight mSort mOwner mNow mReadKind mReadWind mReadGrain mReadPeople mReadHours mReadGrains mText mLength mAt mAt mMoved mActs mNext mRow mSeen mSeenKind mSeenLift mSeenFlew mSeed mIsKept mKept) H := hP
          have hD : va_D A (mW a cI cZ mPeople mHours mGrains mKind mWind mWeight mSort mOwner mNow mReadKind mReadWind mReadGrain mReadPeople mReadHours mReadGrains mText mLength mAt mAt mMoved mActs mNext mRow mSeen mSeenKind mSeenLift mSeenFlew mSeed mIsKept mKept) := hD
          cases h
          subst hAe
          exact W.vret hx hb hr (fun t ht _ => ⟨⟨(), rfl, trivial, by rw [ht]; exact hP, hD⟩, hS.F ht⟩) hS.2.2 dX12_readPart_231
        · have h := iF c4 h
          refine lv_aload_n hx hb dX12_readPart_121 rfl (lv_at hl 0 rfl) ?_
          refine va_get (D := D) (ci := 5) (v := .int mReadPeople) (C := RX12) (T := TX12) (N := 30) hx hb hts hiX12 hown hK.1 hP 0 rfl rfl 12 (by decide) (hts (.fieldLink RX12 78 "WinnowedGuiltModel" "readPeople" "I") (by decide +kernel)) (fun _ h9 => h9) rfl dX12_readPart_122 ?_
          refine lv_if_le (tgt := 223) hx hb dX12_readPart_125 (by decide) (fun c5 => ?_) (fun c5 => ?_)
          · have h := iT c5 h
            refine lv_aload_n hx hb dX12_readPart_223 rfl (lv_at hl 0 rfl) ?_
            refine lv_aload_n hx hb dX12_readPart_224 rfl (lv_at hl 0 rfl) ?_
            refine va_get (D := D) (ci := 5) (v := .int mAt) (C := RX12) (T := TX12) (N := 30) hx hb hts hiX12 hown hK.1 hP 0 rfl rfl 17 (by decide) (hts (.fieldLink RX12 75 "WinnowedGuiltModel" "at" "I") (by decide +kernel)) (fun _ h9 => h9) rfl dX12_readPart_225 ?_
            refine va_put (D := D) (ci := 5) (v := .int mAt) (ty := .int) (C := RX12) (T := TX12) (N := 30) hx hb hts hiX12 tyX12 tyX12_ok nmX12 hown hK.1 hP hD hS 0 rfl rfl 18 (by decide) (hts (.fieldLink RX12 72 "WinnowedGuiltModel" "faultAt" "I") (by decide +kernel)) (fun _ h9 => h9) rfl (by decide +kernel) rfl rfl (Nat.le_of_ble_eq_true rfl) dX12_readPart_228 (fun H locs hP hD hS => ?_)
            have hP : va_P D vwCl (mW a cI cZ mPeople mHours mGrains mKind mWind mWeight mSort mOwner mNow mReadKind mReadWind mReadGrain mReadPeople mReadHours mReadGrains mText mLength mAt mAt mMoved mActs mNext mRow mSeen mSeenKind mSeenLift mSeenFlew mSeed mIsKept mKept) H := hP
            have hD : va_D A (mW a cI cZ mPeople mHours mGrains mKind mWind mWeight mSort mOwner mNow mReadKind mReadWind mReadGrain mReadPeople mReadHours mReadGrains mText mLength mAt mAt mMoved mActs mNext mRow mSeen mSeenKind mSeenLift mSeenFlew mSeed mIsKept mKept) := hD
            cases h
            subst hAe
            exact W.vret hx hb hr (fun t ht _ => ⟨⟨(), rfl, trivial, by rw [ht]; exact hP, hD⟩, hS.F ht⟩) hS.2.2 dX12_readPart_231
          · have h := iF c5 h
            refine lv_aload_n hx hb dX12_readPart_128 rfl (lv_at hl 0 rfl) ?_
            refine lv_dup hx hb dX12_readPart_129 rfl ?_
            refine va_get (D := D) (ci := 5) (v := .int mAt) (C := RX12) (T := TX12) (N := 30) hx hb hts hiX12 hown hK.1 hP 0 rfl rfl 17 (by decide) (hts (.fieldLink RX12 75 "WinnowedGuiltModel" "at" "I") (by decide +kernel)) (fun _ h9 => h9) rfl dX12_readPart_130 ?_
            refine lv_iconst (v := 1) hx hb dX12_readPart_133 (by decide) ?_
            refine lv_iadd hx hb dX12_readPart_134 ?_
            refine va_put (D := D) (ci := 5) (v := .int (mAt + 1)) (ty := .int) (C := RX12) (T := TX12) (N := 30) hx hb hts hiX12 tyX12 tyX12_ok nmX12 hown hK.1 hP hD hS 0 rfl rfl 17 (by decide) (hts (.fieldLink RX12 75 "WinnowedGuiltModel" "at" "I") (by decide +kernel)) (fun _ h9 => h9) rfl (by decide +kernel) rfl rfl (Nat.le_of_ble_eq_true rfl) dX12_readPart_135 (fun H locs hP hD hS => ?_)
            have hP : va_P D vwCl (mW a cI cZ mPeople mHours mGrains mKind mWind mWeight mSort mOwner mNow mReadKind mReadWind mReadGrain mReadPeople mReadHours mReadGrains mText mLength (mAt + 1) mFaultAt mMoved mActs mNext mRow mSeen mSeenKind mSeenLift mSeenFlew mSeed mIsKept mKept) H := hP
            have hD : va_D A (mW a cI cZ mPeople mHours mGrains mKind mWind mWeight mSort mOwner mNow mReadKind mReadWind mReadGrain mReadPeople mReadHours mReadGrains mText mLength (mAt + 1) mFaultAt mMoved mActs mNext mRow mSeen mSeenKind mSeenLift mSeenFlew mSeed mIsKept mKept) := hD
            refine lv_iconst (v := 4) hx hb dX12_readPart_138 (by decide) ?_
            refine lv_aload_n hx hb dX12_readPart_139 rfl (lv_at hl 0 rfl) ?_
            refine va_get (D := D) (ci := 5) (v := .int mReadGrains) (C := RX12) (T := TX12) (N := 30) hx hb hts hiX12 hown hK.1 hP 0 rfl rfl 14 (by decide) (hts (.fieldLink RX12 84 "WinnowedGuiltModel" "readGrains" "I") (by decide +kernel)) (fun _ h9 => h9) rfl dX12_readPart_140 ?_
            refine lv_imul hx hb dX12_readPart_143 ?_
            refine lv_istore_n (lv' := [(2, .int (4 * mReadGrains)), (0, .ref (a 0)), (1, .int p1)]) hx hb dX12_readPart_144 rfl hl (by decide) rfl (fun ls hl => ?_)
            refine lv_aload_n hx hb dX12_readPart_145 rfl (lv_at hl 1 rfl) ?_
            refine va_get (D := D) (ci := 5) (v := .ref (a 9)) (C := RX12) (T := TX12) (N := 30) hx hb hts hiX12 hown hK.1 hP 0 rfl rfl 11 (by decide) (hts (.fieldLink RX12 34 "WinnowedGuiltModel" "readGrain" "[I") (by decide +kernel)) (fun _ h9 => h9) rfl dX12_readPart_146 ?_
            refine lv_iload_n hx hb dX12_readPart_149 rfl (lv_at hl 0 rfl) ?_
            refine lv_aload_n hx hb dX12_readPart_150 rfl (lv_at hl 1 rfl) ?_
            refine lv_iconst (v := 1) hx hb dX12_readPart_151 (by decide) ?_
            refine lv_bipush (v := 9) hx hb dX12_readPart_152 (by decide) ?_
            obtain ⟨q6, hq6, h⟩ := bS h
            refine wcI (va_runV (As := [.int 1, .int 9]) (rest := [.int (4 * mReadGrains), .ref (a 9)]) ⟨hx, hb, hml, hown, hts⟩ (c_mm_figure l D cI cJ cZ a mPeople mHours mGrains mKind mWind mWeight mSort mOwner mNow mReadKind mReadWind mReadGrain mReadPeople mReadHours mReadGrains mText mLength (mAt + 1) mFaultAt mMoved mActs mNext mRow mSeen mSeenKind mSeenLift mSeenFlew mSeed mIsKept mKept H.size 1 9 q6.1 q6.2.1 q6.2.2 hq6) (cwV 2 hts gX12_readPart_X12_figure rfl rfl rfl (by decide +kernel) ⟨Nat.le_of_ble_eq_true rfl, Nat.le_of_ble_eq_true rfl⟩) (wPreV hK hP hD (ci := 5) (q0 := 0) rfl rfl) rfl rfl hl.1 rfl (lv_room (Nat.le_of_ble_eq_true rfl)) dX12_readPart_154 ⟨Nat.zero_le _, Nat.zero_le _⟩) hD hS hA (fun H locs hP hD hS => ?_)
            have hP : va_P D vwCl (mW a cI cZ mPeople mHours mGrains mKind mWind mWeight mSort mOwner mNow mReadKind mReadWind mReadGrain mReadPeople mReadHours mReadGrains mText mLength q6.2.1 q6.2.2 mMoved mActs mNext mRow mSeen mSeenKind mSeenLift mSeenFlew mSeed mIsKept mKept) H := hP
            have hD : va_D A (mW a cI cZ mPeople mHours mGrains mKind mWind mWeight mSort mOwner mNow mReadKind mReadWind mReadGrain mReadPeople mReadHours mReadGrains mText mLength q6.2.1 q6.2.2 mMoved mActs mNext mRow mSeen mSeenKind mSeenLift mSeenFlew mSeed mIsKept mKept) := hD
            obtain ⟨hi7, h⟩ := gI_some h
            refine va_iast hx hb hK.1 hP hD hS 9 0 rfl rfl hi7 dX12_readPart_157 (fun H locs hP hD hS => ?_)
            have hP : va_P D vwCl (mW a cI cZ mPeople mHours mGrains mKind mWind mWeight mSort mOwner mNow mReadKind mReadWind (upd mReadGrain (Int32.toNatClampNeg (4 * mReadGrains)) q6.1) mReadPeople mReadHours mReadGrains mText mLength q6.2.1 q6.2.2 mMoved mActs mNext mRow mSeen mSeenKind mSeenLift mSeenFlew mSeed mIsKept mKept) H := hP
            have hD : va_D A (mW a cI cZ mPeople mHours mGrains mKind mWind mWeight mSort mOwner mNow mReadKind mReadWind (upd mReadGrain (Int32.toNatClampNeg (4 * mReadGrains)) q6.1) mReadPeople mReadHours mReadGrains mText mLength q6.2.1 q6.2.2 mMoved mActs mNext mRow mSeen mSeenKind mSeenLift mSeenFlew mSeed mIsKept mKept) := hD
            refine lv_aload_n hx hb dX12_readPart_158 rfl (lv_at hl 1 rfl) ?_
            refine va_get (D := D) (ci := 5) (v := .ref (a 9)) (C := RX12) (T := TX12) (N := 30) hx hb hts hiX12 hown hK.1 hP 0 rfl rfl 11 (by decide) (hts (.fieldLink RX12 34 "WinnowedGuiltModel" "readGrain" "[I") (by decide +kernel)) (fun _ h9 => h9) rfl dX12_readPart_159 ?_
            refine lv_iload_n hx hb dX12_readPart_162 rfl (lv_at hl 0 rfl) ?_
            refine lv_iconst (v := 1) hx hb dX12_readPart_163 (by decide) ?_
            refine lv_iadd hx hb dX12_readPart_164 ?_
            refine lv_aload_n hx hb dX12_readPart_165 rfl (lv_at hl 1 rfl) ?_
            refine lv_iconst (v := 0) hx hb dX12_readPart_166 (by decide) ?_
            refine lv_iconst (v := 3) hx hb dX12_readPart_167 (by decide) ?_
            obtain ⟨q8, hq8, h⟩ := bS h
            refine wcI (va_runV (As := [.int 0, .int 3]) (rest := [.int ((4 * mReadGrains) + 1), .ref (a 9)]) ⟨hx, hb, hml, hown, hts⟩ (c_mm_figure l D cI cJ cZ a mPeople mHours mGrains mKind mWind mWeight mSort mOwner mNow mReadKind mReadWind (upd mReadGrain (Int32.toNatClampNeg (4 * mReadGrains)) q6.1) mReadPeople mReadHours mReadGrains mText mLength q6.2.1 q6.2.2 mMoved mActs mNext mRow mSeen mSeenKind mSeenLift mSeenFlew mSeed mIsKept mKept H.size 0 3 q8.1 q8.2.1 q8.2.2 hq8) (cwV 2 hts gX12_readPart_X12_figure rfl rfl rfl (by decide +kernel) ⟨Nat.le_of_ble_eq_true rfl, Nat.le_of_ble_eq_true rfl⟩) (wPreV hK hP hD (ci := 5) (q0 := 0) rfl rfl) rfl rfl hl.1 rfl (lv_room (Nat.le_of_ble_eq_true rfl)) dX12_readPart_168 ⟨Nat.zero_le _, Nat.zero_le _⟩) hD hS hA (fun H locs hP hD hS => ?_)
            have hP : va_P D vwCl (mW a cI cZ mPeople mHours mGrains mKind mWind mWeight mSort mOwner mNow mReadKind mReadWind (upd mReadGrain (Int32.toNatClampNeg (4 * mReadGrains)) q6.1) mReadPeople mReadHours mReadGrains mText mLength q8.2.1 q8.2.2 mMoved mActs mNext mRow mSeen mSeenKind mSeenLift mSeenFlew mSeed mIsKept mKept) H := hP
            have hD : va_D A (mW a cI cZ mPeople mHours mGrains mKind mWind mWeight mSort mOwner mNow mReadKind mReadWind (upd mReadGrain (Int32.toNatClampNeg (4 * mReadGrains)) q6.1) mReadPeople mReadHours mReadGrains mText mLength q8.2.1 q8.2.2 mMoved mActs mNext mRow mSeen mSeenKind mSeenLift mSeenFlew mSeed mIsKept mKept) := hD
            obtain ⟨hi9, h⟩ := gI_some h
            refine va_iast hx hb hK.1 hP hD hS 9 0 rfl rfl hi9 dX12_readPart_171 (fun H locs hP hD hS => ?_)
            have hP : va_P D vwCl (mW a cI cZ mPeople mHours mGrains mKind mWind mWeight mSort mOwner mNow mReadKind mReadWind (upd (upd mReadGrain (Int32.toNatClampNeg (4 * mReadGrains)) q6.1) (Int32.toNatClampNeg ((4 * mReadGrains) + 1)) q8.1) mReadPeople mReadHours mReadGrains mText mLength q8.2.1 q8.2.2 mMoved mActs mNext mRow mSeen mSeenKind mSeenLift mSeenFlew mSeed mIsKept mKept) H := hP
            have hD : va_D A (mW a cI cZ mPeople mHours mGrains mKind mWind mWeight mSort mOwner mNow mReadKind mReadWind (upd (upd mReadGrain (Int32.toNatClampNeg (4 * mReadGrains)) q6.1) (Int32.toNatClampNeg ((4 * mReadGrains) + 1)) q8.1) mReadPeople mReadHours mReadGrains mText mLength q8.2.1 q8.2.2 mMoved mActs mNext mRow mSeen mSeenKind mSeenLift mSeenFlew mSeed mIsKept mKept) := hD
            refine lv_aload_n hx hb dX12_readPart_172 rfl (lv_at hl 1 rfl) ?_
            refine va_get (D := D) (ci := 5) (v := .ref (a 9)) (C := RX12) (T := TX12) (N := 30) hx hb hts hiX12 hown hK.1 hP 0 rfl rfl 11 (by decide) (hts (.fieldLink RX12 34 "WinnowedGuiltModel" "readGrain" "[I") (by decide +kernel)) (fun _ h9 => h9) rfl dX12_readPart_173 ?_
            refine lv_iload_n hx hb dX12_readPart_176 rfl (lv_at hl 0 rfl) ?_
            refine lv_iconst (v := 2) hx hb dX12_readPart_177 (by decide) ?_
            refine lv_iadd hx hb dX12_readPart_178 ?_
            refine lv_aload_n hx hb dX12_readPart_179 rfl (lv_at hl 1 rfl) ?_
            refine lv_iconst (v := 0) hx hb dX12_readPart_180 (by decide) ?_
            refine lv_aload_n hx hb dX12_readPart_181 rfl (lv_at hl 1 rfl) ?_
            refine va_get (D := D) (ci := 5) (v := .int mReadPeople) (C := RX12) (T := TX12) (N := 30) hx hb hts hiX12 hown hK.1 hP 0 rfl rfl 12 (by decide) (hts (.fieldLink RX12 78 "WinnowedGuiltModel" "readPeople" "I") (by decide +kernel)) (fun _ h9 => h9) rfl dX12_readPart_182 ?_
            refine lv_iconst (v := 1) hx hb dX12_readPart_185 (by decide) ?_
            refine lv_isub hx hb dX12_readPart_186 ?_
            obtain ⟨q10, hq10, h⟩ := bS h
            refine wcI (va_runV (As := [.int 0, .int (mReadPeople - 1)]) (rest := [.int ((4 * mReadGrains) + 2), .ref (a 9)]) ⟨hx, hb, hml, hown, hts⟩ (c_mm_figure l D cI cJ cZ a mPeople mHours mGrains mKind mWind mWeight mSort mOwner mNow mReadKind mReadWind (upd (upd mReadGrain (Int32.toNatClampNeg (4 * mReadGrains)) q6.1) (Int32.toNatClampNeg ((4 * mReadGrains) + 1)) q8.1) mReadPeople mReadHours mReadGrains mText mLength q8.2.1 q8.2.2 mMoved mActs mNext mRow mSeen mSeenKind mSeenLift mSeenFlew mSeed mIsKept mKept H.size 0 (mReadPeople - 1) q10.1 q10.2.1 q10.2.2 hq10) (cwV 2 hts gX12_readPart_X12_figure rfl rfl rfl (by decide +kernel) ⟨Nat.le_of_ble_eq_true rfl, Nat.le_of_ble_eq_true rfl⟩) (wPreV hK hP hD (ci := 5) (q0 := 0) rfl rfl) rfl rfl hl.1 rfl (lv_room (Nat.le_of_ble_eq_true rfl)) dX12_readPart_187 ⟨Nat.zero_le _, Nat.zero_le _⟩) hD hS hA (fun H locs hP hD hS => ?_)
            have hP : va_P D vwCl (mW a cI cZ mPeople mHours mGrains mKind mWind mWeight mSort mOwner mNow mReadKind mReadWind (upd (upd mReadGrain (Int32.toNatClampNeg (4 * mReadGrains)) q6.1) (Int32.toNatClampNeg ((4 * mReadGrains) + 1)) q8.1) mReadPeople mReadHours mReadGrains mText mLength q10.2.1 q10.2.2 mMoved mActs mNext mRow mSeen mSeenKind mSeenLift mSeenFlew mSeed mIsKept mKept) H := hP
            have hD : va_D A (mW a cI cZ mPeople mHours mGrains mKind mWind mWeight mSort mOwner mNow mReadKind mReadWind (upd (upd mReadGrain (Int32.toNatClampNeg (4 * mReadGrains)) q6.1) (Int32.toNatClampNeg ((4 * mReadGrains) + 1)) q8.1) mReadPeople mReadHours mReadGrains mText mLength q10.2.1 q10.2.2 mMoved mActs mNext mRow mSeen mSeenKind mSeenLift mSeenFlew mSeed mIsKept mKept) := hD
            obtain ⟨hi11, h⟩ := gI_some h
            refine va_iast hx hb hK.1 hP hD hS 9 0 rfl rfl hi11 dX12_readPart_190 (fun H locs hP hD hS => ?_)
            have hP : va_P D vwCl (mW a cI cZ mPeople mHours mGrains mKind mWind mWeight mSort mOwner mNow mReadKind mReadWind (upd (upd (upd mReadGrain (Int32.toNatClampNeg (4 * mReadGrains)) q6.1) (Int32.toNatClampNeg ((4 * mReadGrains) + 1)) q8.1) (Int32.toNatClampNeg ((4 * mReadGrains) + 2)) q10.1) mReadPeople mReadHours mReadGrains mText mLength q10.2.1 q10.2.2 mMoved mActs mNext mRow mSeen mSeenKind mSeenLift mSeenFlew mSeed mIsKept mKept) H := hP
            have hD : va_D A (mW a cI cZ mPeople mHours mGrains mKind mWind mWeight mSort mOwner mNow mReadKind mReadWind (upd (upd (upd mReadGrain (Int32.toNatClampNeg (4 * mReadGrains)) q6.1) (Int32.toNatClampNeg ((4 * mReadGrains) + 1)) q8.1) (Int32.toNatClampNeg ((4 * mReadGrains) + 2)) q10.1) mReadPeople mReadHours mReadGrains mText mLength q10.2.1 q10.2.2 mMoved mActs mNext mRow mSeen mSeenKind mSeenLift mSeenFlew mSeed mIsKept mKept) := hD
            refine lv_aload_n hx hb dX12_readPart_191 rfl (lv_at hl 1 rfl) ?_
            refine va_get (D := D) (ci := 5) (v := .ref (a 9)) (C := RX12) (T := TX12) (N := 30) hx hb hts hiX12 hown hK.1 hP 0 rfl rfl 11 (by decide) (hts (.fieldLink RX12 34 "WinnowedGuiltModel" "readGrain" "[I") (by decide +kernel)) (fun _ h9 => h9) rfl dX12_readPart_192 ?_
            refine lv_iload_n hx hb dX12_readPart_195 rfl (lv_at hl 0 rfl) ?_
            refine lv_iconst (v := 3) hx hb dX12_readPart_196 (by decide) ?_
            refine lv_iadd hx hb dX12_readPart_197 ?_
            refine lv_aload_n hx hb dX12_readPart_198 rfl (lv_at hl 1 rfl) ?_
            refine lv_iconst (v := 0) hx hb dX12_readPart_199 (by decide) ?_
            refine lv_aload_n hx hb dX12_readPart_200 rfl (lv_at hl 1 rfl) ?_
            refine va_get (D := D) (ci := 5) (v := .int mReadPeople) (C := RX12) (T := TX12) (N := 30) hx hb hts hiX12 hown hK.1 hP 0 rfl rfl 12 (by decide) (hts (.fieldLink RX12 78 "WinnowedGuiltModel" "readPeople" "I") (by decide +kernel)) (fun _ h9 => h9) rfl dX12_readPart_201 ?_
            refine lv_iconst (v := 1) hx hb dX12_readPart_204 (by decide) ?_
            refine lv_isub hx hb dX12_readPart_205 ?_
            obtain ⟨q12, hq12, h⟩ := bS h
            refine wcI (va_runV (As := [.int 0, .int (mReadPeople - 1)]) (rest := [.int ((4 * mReadGrains) + 3), .ref (a 9)]) ⟨hx, hb, hml, hown, hts⟩ (c_mm_figure l D cI cJ cZ a mPeople mHours mGrains mKind mWind mWeight mSort mOwner mNow mReadKind mReadWind (upd (upd (upd mReadGrain (Int32.toNatClampNeg (4 * mReadGrains)) q6.1) (Int32.toNatClampNeg ((4 * mReadGrains) + 1)) q8.1) (Int32.toNatClampNeg ((4 * mReadGrains) + 2)) q10.1) mReadPeople mReadHours mReadGrains mText mLength q10.2.1 q10.2.2 mMoved mActs mNext mRow mSeen mSeenKind mSeenLift mSeenFlew mSeed mIsKept mKept H.size 0 (mReadPeople - 1) q12.1 q12.2.1 q12.2.2 hq12) (cwV 2 hts gX12_readPart_X12_figure rfl rfl rfl (by decide +kernel) ⟨Nat.le_of_ble_eq_true rfl, Nat.le_of_ble_eq_true rfl⟩) (wPreV hK hP hD (ci := 5) (q0 := 0) rfl rfl) rfl rfl hl.1 rfl (lv_room (Nat.le_of_ble_eq_true rfl)) dX12_readPart_206 ⟨Nat.zero_le _, Nat.zero_le _⟩) hD hS hA (fun H locs hP hD hS => ?_)
            have hP : va_P D vwCl (mW a cI cZ mPeople mHours mGrains mKind mWind mWeight mSort mOwner mNow mReadKind mReadWind (upd (upd (upd mReadGrain (Int32.toNatClampNeg (4 * mReadGrains)) q6.1) (Int32.toNatClampNeg ((4 * mReadGrains) + 1)) q8.1) (Int32.toNatClampNeg ((4 * mReadGrains) + 2)) q10.1) mReadPeople mReadHours mReadGrains mText mLength q12.2.1 q12.2.2 mMoved mActs mNext mRow mSeen mSeenKind mSeenLift mSeenFlew mSeed mIsKept mKept) H := hP
            have hD : va_D A (mW a cI cZ mPeople mHours mGrains mKind mWind mWeight mSort mOwner mNow mReadKind mReadWind (upd (upd (upd mReadGrain (Int32.toNatClampNeg (4 * mReadGrains)) q6.1) (Int32.toNatClampNeg ((4 * mReadGrains) + 1)) q8.1) (Int32.toNatClampNeg ((4 * mReadGrains) + 2)) q10.1) mReadPeople mReadHours mReadGrains mText mLength q12.2.1 q12.2.2 mMoved mActs mNext mRow mSeen mSeenKind mSeenLift mSeenFlew mSeed mIsKept mKept) := hD
            obtain ⟨hi13, h⟩ := gI_some h
            refine va_iast hx hb hK.1 hP hD hS 9 0 rfl rfl hi13 dX12_readPart_209 (fun H locs hP hD hS => ?_)
            have hP : va_P D vwCl (mW a cI cZ mPeople mHours mGrains mKind mWind mWeight mSort mOwner mNow mReadKind mReadWind (upd (upd (upd (upd mReadGrain (Int32.toNatClampNeg (4 * mReadGrains)) q6.1) (Int32.toNatClampNeg ((4 * mReadGrains) + 1)) q8.1) (Int32.toNatClampNeg ((4 * mReadGrains) + 2)) q10.1) (Int32.toNatClampNeg ((4 * mReadGrains) + 3)) q12.1) mReadPeople mReadHours mReadGrains mText mLength q12.2.1 q12.2.2 mMoved mActs mNext mRow mSeen mSeenKind mSeenLift mSeenFlew mSeed mIsKept mKept) H := hP
            have hD : va_D A (mW a cI cZ mPeople mHours mGrains mKind mWind mWeight mSort mOwner mNow mReadKind mReadWind (upd (upd (upd (upd mReadGrain (Int32.toNatClampNeg (4 * mReadGrains)) q6.1) (Int32.toNatClampNeg ((4 * mReadGrains) + 1)) q8.1) (Int32.toNatClampNeg ((4 * mReadGrains) + 2)) q10.1) (Int32.toNatClampNeg ((4 * mReadGrains) + 3)) q12.1) mReadPeople mReadHours mReadGrains mText mLength q12.2.1 q12.2.2 mMoved mActs mNext mRow mSeen mSeenKind mSeenLift mSeenFlew mSeed mIsKept mKept) := hD
            refine lv_aload_n hx hb dX12_readPart_210 rfl (lv_at hl 1 rfl) ?_
            refine lv_dup hx hb dX12_readPart_211 rfl ?_
            refine va_get (D := D) (ci := 5) (v := .int mReadGrains) (C := RX12) (T := TX12) (N := 30) hx hb hts hiX12 hown hK.1 hP 0 rfl rfl 14 (by decide) (hts (.fieldLink RX12 84 "WinnowedGuiltModel" "readGrains" "I") (by decide +kernel)) (fun _ h9 => h9) rfl dX12_readPart_212 ?_
            refine lv_iconst (v := 1) hx hb dX12_readPart_215 (by decide) ?_
            refine lv_iadd hx hb dX12_readPart_216 ?_
            refine va_put (D := D) (ci := 5) (v := .int (mReadGrains + 1)) (ty := .int) (C := RX12) (T := TX12) (N := 30) hx hb hts hiX12 tyX12 tyX12_ok nmX12 hown hK.1 hP hD hS 0 rfl rfl 14 (by decide) (hts (.fieldLink RX12 84 "WinnowedGuiltModel" "readGrains" "I") (by decide +kernel)) (fun _ h9 => h9) rfl (by decide +kernel) rfl rfl (Nat.le_of_ble_eq_true rfl) dX12_readPart_217 (fun H locs hP hD hS => ?_)
            have hP : va_P D vwCl (mW a cI cZ mPeople mHours mGrains mKind mWind mWeight mSort mOwner mNow mReadKind mReadWind (upd (upd (upd (upd mReadGrain (Int32.toNatClampNeg (4 * mReadGrains)) q6.1) (Int32.toNatClampNeg ((4 * mReadGrains) + 1)) q8.1) (Int32.toNatClampNeg ((4 * mReadGrains) + 2)) q10.1) (Int32.toNatClampNeg ((4 * mReadGrains) + 3)) q12.1) mReadPeople mReadHours (mReadGrains + 1) mText mLength q12.2.1 q12.2.2 mMoved mActs mNext mRow mSeen mSeenKind mSeenLift mSeenFlew mSeed mIsKept mKept) H := hP
            have hD : va_D A (mW a cI cZ mPeople mHours mGrains mKind mWind mWeight mSort mOwner mNow mReadKind mReadWind (upd (upd (upd (upd mReadGrain (Int32.toNatClampNeg (4 * mReadGrains)) q6.1) (Int32.toNatClampNeg ((4 * mReadGrains) + 1)) q8.1) (Int32.toNatClampNeg ((4 * mReadGrains) + 2)) q10.1) (Int32.toNatClampNeg ((4 * mReadGrains) + 3)) q12.1) mReadPeople mReadHours (mReadGrains + 1) mText mLength q12.2.1 q12.2.2 mMoved mActs mNext mRow mSeen mSeenKind mSeenLift mSeenFlew mSeed mIsKept mKept) := hD
            refine lv_goto (tgt := 231) hx hb dX12_readPart_220 (by decide) ?_
            cases h
            subst hAe
            exact W.vret hx hb hr (fun t ht _ => ⟨⟨(), rfl, trivial, by rw [ht]; exact hP, hD⟩, hS.F ht⟩) hS.2.2 dX12_readPart_231
    · have h := iT c2 h
      refine lv_aload_n hx hb dX12_readPart_58 rfl (lv_at hl 0 rfl) ?_
      refine va_get (D := D) (ci := 5) (v := .int mReadHours) (C := RX12) (T := TX12) (N := 30) hx hb hts hiX12 hown hK.1 hP 0 rfl rfl 13 (by decide) (hts (.fieldLink RX12 81 "WinnowedGuiltModel" "readHours" "I") (by decide +kernel)) (fun _ h9 => h9) rfl dX12_readPart_59 ?_
      refine lv_bipush (v := 6) hx hb dX12_readPart_62 (by decide) ?_
      refine lv_icmp_ge (tgt := 106) hx hb dX12_readPart_64 (by decide) (fun c3 => ?_) (fun c3 => ?_)
      · have h := iT c3 h
        refine lv_iload_n hx hb dX12_readPart_106 rfl (lv_at hl 1 rfl) ?_
        refine lv_bipush (v := 71) hx hb dX12_readPart_107 (by decide) ?_
        refine lv_icmp_ne (tgt := 223) hx hb dX12_readPart_109 (by decide) (fun _ => ?_) (fun c => absurd c (by rw [c2]; decide))
        refine lv_aload_n hx hb dX12_readPart_223 rfl (lv_at hl 0 rfl) ?_
        refine lv_aload_n hx hb dX12_readPart_224 rfl (lv_at hl 0 rfl) ?_
        refine va_get (D := D) (ci := 5) (v := .int mAt) (C := RX12) (T := TX12) (N := 30) hx hb hts hiX12 hown hK.1 hP 0 rfl rfl 17 (by decide) (hts (.fieldLink RX12 75 "WinnowedGuiltModel" "at" "I") (by decide +kernel)) (fun _ h9 => h9) rfl dX12_readPart_225 ?_
        refine va_put (D := D) (ci := 5) (v := .int mAt) (ty := .int) (C := RX12) (T := TX12) (N := 30) hx hb hts hiX12 tyX12 tyX12_ok nmX12 hown hK.1 hP hD hS 0 rfl rfl 18 (by decide) (hts (.fieldLink RX12 72 "WinnowedGuiltModel" "faultAt" "I") (by decide +kernel)) (fun _ h9 => h9) rfl (by decide +kernel) rfl rfl (Nat.le_of_ble_eq_true rfl) dX12_readPart_228 (fun H locs hP hD hS => ?_)
        have hP : va_P D vwCl (mW a cI cZ mPeople mHours mGrains mKind mWind mWeight mSort mOwner mNow mReadKind mReadWind mReadGrain mReadPeople mReadHours mReadGrains mText mLength mAt mAt mMoved mActs mNext mRow mSeen mSeenKind mSeenLift mSeenFlew mSeed mIsKept mKept) H := hP
        have hD : va_D A (mW a cI cZ mPeople mHours mGrains mKind mWind mWeight mSort mOwner mNow mReadKind mReadWind mReadGrain mReadPeople mReadHours mReadGrains mText mLength mAt mAt mMoved mActs mNext mRow mSeen mSeenKind mSeenLift mSeenFlew mSeed mIsKept mKept) := hD
        cases h
        subst hAe
        exact W.vret hx hb hr (fun t ht _ => ⟨⟨(), rfl, trivial, by rw [ht]; exact hP, hD⟩, hS.F ht⟩) hS.2.2 dX12_readPart_231
      · have h := iF c3 h
        refine lv_aload_n hx hb dX12_readPart_67 rfl (lv_at hl 0 rfl) ?_
        refine lv_dup hx hb dX12_readPart_68 rfl ?_
        refine va_get (D := D) (ci := 5) (v := .int mAt) (C := RX12) (T := TX12) (N := 30) hx hb hts hiX12 hown hK.1 hP 0 rfl rfl 17 (by decide) (hts (.fieldLink RX12 75 "WinnowedGuiltModel" "at" "I") (by decide +kernel)) (fun _ h9 => h9) rfl dX12_readPart_69 ?_
        refine lv_iconst (v := 1) hx hb dX12_readPart_72 (by decide) ?_
        refine lv_iadd hx hb dX12_readPart_73 ?_
        refine va_put (D := D) (ci := 5) (v := .int (mAt + 1)) (ty := .int) (C := RX12) (T := TX12) (N := 30) hx hb hts hiX12 tyX12 tyX12_ok nmX12 hown hK.1 hP hD hS 0 rfl rfl 17 (by decide) (hts (.fieldLink RX12 75 "WinnowedGuiltModel" "at" "I") (by decide +kernel)) (fun _ h9 => h9) rfl (by decide +kernel) rfl rfl (Nat.le_of_ble_eq_true rfl) dX12_readPart_74 (fun H locs hP hD hS => ?_)
        have hP : va_P D vwCl (mW a cI cZ mPeople mHours mGrains mKind mWind mWeight mSort mOwner mNow mReadKind mReadWind mReadGrain mReadPeople mReadHours mReadGrains mText mLength (mAt + 1) mFaultAt mMoved mActs mNext mRow mSeen mSeenKind mSeenLift mSeenFlew mSeed mIsKept mKept) H := hP
        have hD : va_D A (mW a cI cZ mPeople mHours mGrains mKind mWind mWeight mSort mOwner mNow mReadKind mReadWind mReadGrain mReadPeople mReadHours mReadGrains mText mLength (mAt + 1) mFaultAt mMoved mActs mNext mRow mSeen mSeenKind mSeenLift mSeenFlew mSeed mIsKept mKept) := hD
        refine lv_aload_n hx hb dX12_readPart_77 rfl (lv_at hl 0 rfl) ?_
        refine va_get (D := D) (ci := 5) (v := .ref (a 8)) (C := RX12) (T := TX12) (N := 30) hx hb hts hiX12 hown hK.1 hP 0 rfl rfl 10 (by decide) (hts (.fieldLink RX12 31 "WinnowedGuiltModel" "readWind" "[I") (by decide +kernel)) (fun _ h9 => h9) rfl dX12_readPart_78 ?_
        refine lv_aload_n hx hb dX12_readPart_81 rfl (lv_at hl 0 rfl) ?_
        refine va_get (D := D) (ci := 5) (v := .int mReadHours) (C := RX12) (T := TX12) (N := 30) hx hb hts hiX12 hown hK.1 hP 0 rfl rfl 13 (by decide) (hts (.fieldLink RX12 81 "WinnowedGuiltModel" "readHours" "I") (by decide +kernel)) (fun _ h9 => h9) rfl dX12_readPart_82 ?_
        refine lv_aload_n hx hb dX12_readPart_85 rfl (lv_at hl 0 rfl) ?_
        refine lv_iconst (v := 0) hx hb dX12_readPart_86 (by decide) ?_
        refine lv_bipush (v := 9) hx hb dX12_readPart_87 (by decide) ?_
        obtain ⟨q4, hq4, h⟩ := bS h
        refine wcI (va_runV (As := [.int 0, .int 9]) (rest := [.int mReadHours, .ref (a 8)]) ⟨hx, hb, hml, hown, hts⟩ (c_mm_figure l D cI cJ cZ a mPeople mHours mGrains mKind mWind mWeight mSort mOwner mNow mReadKind mReadWind mReadGrain mReadPeople mReadHours mReadGrains mText mLength (mAt + 1) mFaultAt mMoved mActs mNext mRow mSeen mSeenKind mSeenLift mSeenFlew mSeed mIsKept mKept H.size 0 9 q4.1 q4.2.1 q4.2.2 hq4) (cwV 2 hts gX12_readPart_X12_figure rfl rfl rfl (by decide +kernel) ⟨Nat.le_of_ble_eq_true rfl, Nat.le_of_ble_eq_true rfl⟩) (wPreV hK hP hD (ci := 5) (q0 := 0) rfl rfl) rfl rfl hl.1 rfl (lv_room (Nat.le_of_ble_eq_true rfl)) dX12_readPart_89 ⟨Nat.zero_le _, Nat.zero_le _⟩) hD hS hA (fun H locs hP hD hS => ?_)
        have hP : va_P D vwCl (mW a cI cZ mPeople mHours mGrains mKind mWind mWeight mSort mOwner mNow mReadKind mReadWind mReadGrain mReadPeople mReadHours mReadGrains mText mLength q4.2.1 q4.2.2 mMoved mActs mNext mRow mSeen mSeenKind mSeenLift mSeenFlew mSeed mIsKept mKept) H := hP
        have hD : va_D A (mW a cI cZ mPeople mHours mGrains mKind mWind mWeight mSort mOwner mNow mReadKind mReadWind mReadGrain mReadPeople mReadHours mReadGrains mText mLength q4.2.1 q4.2.2 mMoved mActs mNext mRow mSeen mSeenKind mSeenLift mSeenFlew mSeed mIsKept mKept) := hD
        obtain ⟨hi5, h⟩ := gI_some h
        refine va_iast hx hb hK.1 hP hD hS 8 0 rfl rfl hi5 dX12_readPart_92 (fun H locs hP hD hS => ?_)
        have hP : va_P D vwCl (mW a cI cZ mPeople mHours mGrains mKind mWind mWeight mSort mOwner mNow mReadKind (upd mReadWind (Int32.toNatClampNeg mReadHours) q4.1) mReadGrain mReadPeople mReadHours mReadGrains mText mLength q4.2.1 q4.2.2 mMoved mActs mNext mRow mSeen mSeenKind mSeenLift mSeenFlew mSeed mIsKept mKept) H := hP
        have hD : va_D A (mW a cI cZ mPeople mHours mGrains mKind mWind mWeight mSort mOwner mNow mReadKind (upd mReadWind (Int32.toNatClampNeg mReadHours) q4.1) mReadGrain mReadPeople mReadHours mReadGrains mText mLength q4.2.1 q4.2.2 mMoved mActs mNext mRow mSeen mSeenKind mSeenLift mSeenFlew mSeed mIsKept mKept) := hD
        refine lv_aload_n hx hb dX12_readPart_93 rfl (lv_at hl 0 rfl) ?_
        refine lv_dup hx hb dX12_readPart_94 rfl ?_
        refine va_get (D := D) (ci := 5) (v := .int mReadHours) (C := RX12) (T := TX12) (N := 30) hx hb hts hiX12 hown hK.1 hP 0 rfl rfl 13 (by decide) (hts (.fieldLink RX12 81 "WinnowedGuiltModel" "readHours" "I") (by decide +kernel)) (fun _ h9 => h9) rfl dX12_readPart_95 ?_
        refine lv_iconst (v := 1) hx hb dX12_readPart_98 (by decide) ?_
        refine lv_iadd hx hb dX12_readPart_99 ?_
        refine va_put (D := D) (ci := 5) (v := .int (mReadHours + 1)) (ty := .int) (C := RX12) (T := TX12) (N := 30) hx hb hts hiX12 tyX12 tyX12_ok nmX12 hown hK.1 hP hD hS 0 rfl rfl 13 (by decide) (hts (.fieldLink RX12 81 "WinnowedGuiltModel" "readHours" "I") (by decide +kernel)) (fun _ h9 => h9) rfl (by decide +kernel) rfl rfl (Nat.le_of_ble_eq_true rfl) dX12_readPart_100 (fun H locs hP hD hS => ?_)
        have hP : va_P D vwCl (mW a cI cZ mPeople mHours mGrains mKind mWind mWeight mSort mOwner mNow mReadKind (upd mReadWind (Int32.toNatClampNeg mReadHours) q4.1) mReadGrain mReadPeople (mReadHours + 1) mReadGrains mText mLength q4.2.1 q4.2.2 mMoved mActs mNext mRow mSeen mSeenKind mSeenLift mSeenFlew mSeed mIsKept mKept) H := hP
        have hD : va_D A (mW a cI cZ mPeople mHours mGrains mKind mWind mWeight mSort mOwner mNow mReadKind (upd mReadWind (Int32.toNatClampNeg mReadHours) q4.1) mReadGrain mReadPeople (mReadHours + 1) mReadGrains mText mLength q4.2.1 q4.2.2 mMoved mActs mNext mRow mSeen mSeenKind mSeenLift mSeenFlew mSeed mIsKept mKept) := hD
        refine lv_goto (tgt := 231) hx hb dX12_readPart_103 (by decide) ?_
        cases h
        subst hAe
        exact W.vret hx hb hr (fun t ht _ => ⟨⟨(), rfl, trivial, by rw [ht]; exact hP, hD⟩, hS.F ht⟩) hS.2.2 dX12_readPart_231
  · have h := iT c1 h
    refine lv_aload_n hx hb dX12_readPart_6 rfl (lv_at hl 0 rfl) ?_
    refine va_get (D := D) (ci := 5) (v := .int mReadPeople) (C := RX12) (T := TX12) (N := 30) hx hb hts hiX12 hown hK.1 hP 0 rfl rfl 12 (by decide) (hts (.fieldLink RX12 78 "WinnowedGuiltModel" "readPeople" "I") (by decide +kernel)) (fun _ h9 => h9) rfl dX12_readPart_7 ?_
    refine lv_iconst (v := 4) hx hb dX12_readPart_10 (by decide) ?_
    refine lv_icmp_ge (tgt := 52) hx hb dX12_readPart_11 (by decide) (fun c2 => ?_) (fun c2 => ?_)
    · have h := iT c2 h
      refine lv_iload_n hx hb dX12_readPart_52 rfl (lv_at hl 1 rfl) ?_
      refine lv_bipush (v := 72) hx hb dX12_readPart_53 (by decide) ?_
      refine lv_icmp_ne (tgt := 106) hx hb dX12_readPart_55 (by decide) (fun _ => ?_) (fun c => absurd c (by rw [c1]; decide))
      refine lv_iload_n hx hb dX12_readPart_106 rfl (lv_at hl 1 rfl) ?_
      refine lv_bipush (v := 71) hx hb dX12_readPart_107 (by decide) ?_
      refine lv_icmp_ne (tgt := 223) hx hb dX12_readPart_109 (by decide) (fun _ => ?_) (fun c => absurd c (by rw [c1]; decide))
      refine lv_aload_n hx hb dX12_readPart_223 rfl (lv_at hl 0 rfl) ?_
      refine lv_aload_n hx hb dX12_readPart_224 rfl (lv_at hl 0 rfl) ?_
      refine va_get (D := D) (ci := 5) (v := .int mAt) (C := RX12) (T := TX12) (N := 30) hx hb hts hiX12 hown hK.1 hP 0 rfl rfl 17 (by decide) (hts (.fieldLink RX12 75 "WinnowedGuiltModel" "at" "I") (by decide +kernel)) (fun _ h9 => h9) rfl dX12_readPart_225 ?_
      refine va_put (D := D) (ci := 5) (v := .int mAt) (ty := .int) (C := RX12) (T := TX12) (N := 30) hx hb hts hiX12 tyX12 tyX12_ok nmX12 hown hK.1 hP hD hS 0 rfl rfl 18 (by decide) (hts (.fieldLink RX12 72 "WinnowedGuiltModel" "faultAt" "I") (by decide +kernel)) (fun _ h9 => h9) rfl (by decide +kernel) rfl rfl (Nat.le_of_ble_eq_true rfl) dX12_readPart_228 (fun H locs hP hD hS => ?_)
      have hP : va_P D vwCl (mW a cI cZ mPeople mHours mGrains mKind mWind mWeight mSort mOwner mNow mReadKind mReadWind mReadGrain mReadPeople mReadHours mReadGrains mText mLength mAt mAt mMoved mActs mNext mRow mSeen mSeenKind mSeenLift mSeenFlew mSeed mIsKept mKept) H := hP
      have hD : va_D A (mW a cI cZ mPeople mHours mGrains mKind mWind mWeight mSort mOwner mNow mReadKind mReadWind mReadGrain mReadPeople mReadHours mReadGrains mText mLength mAt mAt mMoved mActs mNext mRow mSeen mSeenKind mSeenLift mSeenFlew mSeed mIsKept mKept) := hD
      cases h
      subst hAe
      exact W.vret hx hb hr (fun t ht _ => ⟨⟨(), rfl, trivial, by rw [ht]; exact hP, hD⟩, hS.F ht⟩) hS.2.2 dX12_readPart_231
    · have h := iF c2 h
      refine lv_aload_n hx hb dX12_readPart_14 rfl (lv_at hl 0 rfl) ?_
      refine lv_dup hx hb dX12_readPart_15 rfl ?_
      refine va_get (D := D) (ci := 5) (v := .int mAt) (C := RX12) (T := TX12) (N := 30) hx hb hts hiX12 hown hK.1 hP 0 rfl rfl 17 (by decide) (hts (.fieldLink RX12 75 "WinnowedGuiltModel" "at" "I") (by decide +kernel)) (fun _ h9 => h9) rfl dX12_readPart_16 ?_
      refine lv_iconst (v := 1) hx hb dX12_readPart_19 (by decide) ?_
      refine lv_iadd hx hb dX12_readPart_20 ?_
      refine va_put (D := D) (ci := 5) (v := .int (mAt + 1)) (ty := .int) (C := RX12) (T := TX12) (N := 30) hx hb hts hiX12 tyX12 tyX12_ok nmX12 hown hK.1 hP hD hS 0 rfl rfl 17 (by decide) (hts (.fieldLink RX12 75 "WinnowedGuiltModel" "at" "I") (by decide +kernel)) (fun _ h9 => h9) rfl (by decide +kernel) rfl rfl (Nat.le_of_ble_eq_true rfl) dX12_readPart_21 (fun H locs hP hD hS => ?_)
      have hP : va_P D vwCl (mW a cI cZ mPeople mHours mGrains mKind mWind mWeight mSort mOwner mNow mReadKind mReadWind mReadGrain mReadPeople mReadHours mReadGrains mText mLength (mAt + 1) mFaultAt mMoved mActs mNext mRow mSeen mSeenKind mSeenLift mSeenFlew mSeed mIsKept mKept) H := hP
      have hD : va_D A (mW a cI cZ mPeople mHours mGrains mKind mWind mWeight mSort mOwner mNow mReadKind mReadWind mReadGrain mReadPeople mReadHours mReadGrains mText mLength (mAt + 1) mFaultAt mMoved mActs mNext mRow mSeen mSeenKind mSeenLift mSeenFlew mSeed mIsKept mKept) := hD
      refine lv_aload_n hx hb dX12_readPart_24 rfl (lv_at hl 0 rfl) ?_
      refine va_get (D := D) (ci := 5) (v := .ref (a 7)) (C := RX12) (T := TX12) (N := 30) hx hb hts hiX12 hown hK.1 hP 0 rfl rfl 9 (by decide) (hts (.fieldLink RX12 28 "WinnowedGuiltModel" "readKind" "[I") (by decide +kernel)) (fun _ h9 => h9) rfl dX12_readPart_25 ?_
      refine lv_aload_n hx hb dX12_readPart_28 rfl (lv_at hl 0 rfl) ?_
      refine va_get (D := D) (ci := 5) (v := .int mReadPeople) (C := RX12) (T := TX12) (N := 30) hx hb hts hiX12 hown hK.1 hP 0 rfl rfl 12 (by decide) (hts (.fieldLink RX12 78 "WinnowedGuiltModel" "readPeople" "I") (by decide +kernel)) (fun _ h9 => h9) rfl dX12_readPart_29 ?_
      refine lv_aload_n hx hb dX12_readPart_32 rfl (lv_at hl 0 rfl) ?_
      refine lv_iconst (v := 0) hx hb dX12_readPart_33 (by decide) ?_
      refine lv_iconst (v := 3) hx hb dX12_readPart_34 (by decide) ?_
      obtain ⟨q3, hq3, h⟩ := bS h
      refine wcI (va_runV (As := [.int 0, .int 3]) (rest := [.int mReadPeople, .ref (a 7)]) ⟨hx, hb, hml, hown, hts⟩ (c_mm_figure l D cI cJ cZ a mPeople mHours mGrains mKind mWind mWeight mSort mOwner mNow mReadKind mReadWind mReadGrain mReadPeople mReadHours mReadGrains mText mLength (mAt + 1) mFaultAt mMoved mActs mNext mRow mSeen mSeenKind mSeenLift mSeenFlew mSeed mIsKept mKept H.size 0 3 q3.1 q3.2.1 q3.2.2 hq3) (cwV 2 hts gX12_readPart_X12_figure rfl rfl rfl (by decide +kernel) ⟨Nat.le_of_ble_eq_true rfl, Nat.le_of_ble_eq_true rfl⟩) (wPreV hK hP hD (ci := 5) (q0 := 0) rfl rfl) rfl rfl hl.1 rfl (lv_room (Nat.le_of_ble_eq_true rfl)) dX12_readPart_35 ⟨Nat.zero_le _, Nat.zero_le _⟩) hD hS hA (fun H locs hP hD hS => ?_)
      have hP : va_P D vwCl (mW a cI cZ mPeople mHours mGrains mKind mWind mWeight mSort mOwner mNow mReadKind mReadWind mReadGrain mReadPeople mReadHours mReadGrains mText mLength q3.2.1 q3.2.2 mMoved mActs mNext mRow mSeen mSeenKind mSeenLift mSeenFlew mSeed mIsKept mKept) H := hP
      have hD : va_D A (mW a cI cZ mPeople mHours mGrains mKind mWind mWeight mSort mOwner mNow mReadKind mReadWind mReadGrain mReadPeople mReadHours mReadGrains mText mLength q3.2.1 q3.2.2 mMoved mActs mNext mRow mSeen mSeenKind mSeenLift mSeenFlew mSeed mIsKept mKept) := hD
      obtain ⟨hi4, h⟩ := gI_some h
      refine va_iast hx hb hK.1 hP hD hS 7 0 rfl rfl hi4 dX12_readPart_38 (fun H locs hP hD hS => ?_)
      have hP : va_P D vwCl (mW a cI cZ mPeople mHours mGrains mKind mWind mWeight mSort mOwner mNow (upd mReadKind (Int32.toNatClampNeg mReadPeople) q3.1) mReadWind mReadGrain mReadPeople mReadHours mReadGrains mText mLength q3.2.1 q3.2.2 mMoved mActs mNext mRow mSeen mSeenKind mSeenLift mSeenFlew mSeed mIsKept mKept) H := hP
      have hD : va_D A (mW a cI cZ mPeople mHours mGrains mKind mWind mWeight mSort mOwner mNow (upd mReadKind (Int32.toNatClampNeg mReadPeople) q3.1) mReadWind mReadGrain mReadPeople mReadHours mReadGrains mText mLength q3.2.1 q3.2.2 mMoved mActs mNext mRow mSeen mSeenKind mSeenLift mSeenFlew mSeed mIsKept mKept) := hD
      refine lv_aload_n hx hb dX12_readPart_39 rfl (lv_at hl 0 rfl) ?_
      refine lv_dup hx hb dX12_readPart_40 rfl ?_
      refine va_get (D := D) (ci := 5) (v := .int mReadPeople) (C := RX12) (T := TX12) (N := 30) hx hb hts hiX12 hown hK.1 hP 0 rfl rfl 12 (by decide) (hts (.fieldLink RX12 78 "WinnowedGuiltModel" "readPeople" "I") (by decide +kernel)) (fun _ h9 => h9) rfl dX12_readPart_41 ?_
      refine lv_iconst (v := 1) hx hb dX12_readPart_44 (by decide) ?_
      refine lv_iadd hx hb dX12_readPart_45 ?_
      refine va_put (D := D) (ci := 5) (v := .int (mReadPeople + 1)) (ty := .int) (C := RX12) (T := TX12) (N := 30) hx hb hts hiX12 tyX12 tyX12_ok nmX12 hown hK.1 hP hD hS 0 rfl rfl 12 (by decide) (hts (.fieldLink RX12 78 "WinnowedGuiltModel" "readPeople" "I") (by decide +kernel)) (fun _ h9 => h9) rfl (by decide +kernel) rfl rfl (Nat.le_of_ble_eq_true rfl) dX12_readPart_46 (fun H locs hP hD hS => ?_)
      have hP : va_P D vwCl (mW a cI cZ mPeople mHours mGrains mKind mWind mWeight mSort mOwner mNow (upd mReadKind (Int32.toNatClampNeg mReadPeople) q3.1) mReadWind mReadGrain (mReadPeople + 1) mReadHours mReadGrains mText mLength q3.2.1 q3.2.2 mMoved mActs mNext mRow mSeen mSeenKind mSeenLift mSeenFlew mSeed mIsKept mKept) H := hP
      have hD : va_D A (mW a cI cZ mPeople mHours mGrains mKind mWind mWeight mSort mOwner mNow (upd mReadKind (Int32.toNatClampNeg mReadPeople) q3.1) mReadWind mReadGrain (mReadPeople + 1) mReadHours mReadGrains mText mLength q3.2.1 q3.2.2 mMoved mActs mNext mRow mSeen mSeenKind mSeenLift mSeenFlew mSeed mIsKept mKept) := hD
      refine lv_goto (tgt := 231) hx hb dX12_readPart_49 (by decide) ?_
      cases h
      subst hAe
      exact W.vret hx hb hr (fun t ht _ => ⟨⟨(), rfl, trivial, by rw [ht]; exact hP, hD⟩, hS.F ht⟩) hS.2.2 dX12_readPart_231
