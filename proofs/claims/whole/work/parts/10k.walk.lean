set_option maxHeartbeats 4000000 in
set_option maxRecDepth 100000 in
theorem c_mm_flight (l : Launch) (D : va_G) (cI cJ cZ : ClassId)  (H0 : Heap) (p0 : Int32) (p1 : Int32) (p2 : Int32) (rv : Int32) (h : mm_flight p0 p1 p2 = some rv) : Met l yX12_flight wsX12_flight ({ frames := 1, cells := 0, slots := 0, locals := 21 } : Room) (rPc D cI cJ cZ H0 [.int p0, .int p1, .int p2]) (vp_Si (fun r => r = rv)) 0 0 (fun _ => False) := by
  unfold mm_flight at h
  refine Met.ofW (cc := cX12_flight) (maxL := 4) (ret := (some .int)) (by decide) rfl ?_
  intro p e s m args below meth c s₁ B hml hv
  obtain ⟨rfl, hH, hK⟩ := hv
  have hx := B.exec
  have hb := B.bytes
  have hr := B.returns
  have hts := atoms_spec (ws := wsX12_flight) B.pre
  have hown : s.vm.findClass RX12 = some m.cls := findClass_of_methodNamed B.named
  have hlocks := B.notSynchronized
  subst hH
  have hl := lv_entry ([.int p0, .int p1, .int p2]) (n := 4) (Nat.le_of_ble_eq_true rfl)
  rw [lg_entry_eq]
  generalize (lg_sl ([.int p0, .int p1, .int p2]) ++ List.replicate (4 - (lg_sl ([.int p0, .int p1, .int p2])).length) Slot.unset).toArray = ls at hl ⊢
  have hl : lv_has ls 4 [(0, .int p0), (1, .int p1), (2, .int p2)] := hl
  refine lv_iload_n hx hb dX12_flight_0 rfl (lv_at hl 0 rfl) ?_
  refine lv_iload_n hx hb dX12_flight_1 rfl (lv_at hl 1 rfl) ?_
  obtain ⟨q1, hq1, h⟩ := bS h
  refine rcI (va_runS (As := [.int p0, .int p1]) (rest := []) ⟨hx, hb, hml, hown, hts⟩ (c_mm_liftOf l D cI cJ cZ   s.heap p0 p1 q1 hq1) (va_cwS 2 hts gX12_flight_X12_liftOf rfl rfl rfl (by decide +kernel) ⟨Nat.le_of_ble_eq_true rfl, Nat.le_of_ble_eq_true rfl⟩) (rPreS hK) rfl rfl hl.1 rfl (lv_room (Nat.le_of_ble_eq_true rfl)) dX12_flight_2 ⟨Nat.zero_le _, Nat.zero_le _⟩) ?_
  refine lv_iload_n hx hb dX12_flight_5 rfl (lv_at hl 2 rfl) ?_
  refine lv_isub hx hb dX12_flight_6 ?_
  refine lv_istore_n (lv' := [(3, .int (q1 - p2)), (0, .int p0), (1, .int p1), (2, .int p2)]) hx hb dX12_flight_7 rfl hl (by decide) rfl (fun ls hl => ?_)
  refine lv_iload_n hx hb dX12_flight_8 rfl (lv_at hl 2 rfl) ?_
  refine lv_iconst (v := 2) hx hb dX12_flight_9 (by decide) ?_
  refine lv_icmp_eq (tgt := 17) hx hb dX12_flight_10 (by decide) (fun c2 => ?_) (fun c2 => ?_)
  · have h := iT c2 h
    refine lv_iconst (v := 0) hx hb dX12_flight_17 (by decide) ?_
    refine lv_goto (tgt := 35) hx hb dX12_flight_18 (by decide) ?_
    exact W.iret hx hb hr (fun t ht _ => ⟨_, rfl, Option.some.inj h, ht⟩) (fun _ q => absurd q List.not_mem_nil) dX12_flight_35
  · have h := iF c2 h
    refine lv_iload_n hx hb dX12_flight_13 rfl (lv_at hl 0 rfl) ?_
    refine lv_if_ge (tgt := 21) hx hb dX12_flight_14 (by decide) (fun c3 => ?_) (fun c3 => ?_)
    · have h := iT c3 h
      refine lv_iload_n hx hb dX12_flight_21 rfl (lv_at hl 0 rfl) ?_
      refine lv_iconst (v := 3) hx hb dX12_flight_22 (by decide) ?_
      refine lv_idiv hx hb dX12_flight_23 (by decide) ?_
      refine lv_iload_n hx hb dX12_flight_24 rfl (lv_at hl 2 rfl) ?_
      refine lv_iconst (v := 1) hx hb dX12_flight_25 (by decide) ?_
      refine lv_icmp_ne (tgt := 33) hx hb dX12_flight_26 (by decide) (fun c4 => ?_) (fun c4 => ?_)
      · have h := iF c4 h
        refine lv_iconst (v := 1) hx hb dX12_flight_33 (by decide) ?_
        refine lv_iadd hx hb dX12_flight_34 ?_
        exact W.iret hx hb hr (fun t ht _ => ⟨_, rfl, Option.some.inj h, ht⟩) (fun _ q => absurd q List.not_mem_nil) dX12_flight_35
      · have h := iT c4 h
        refine lv_iconst (v := 2) hx hb dX12_flight_29 (by decide) ?_
        refine lv_goto (tgt := 34) hx hb dX12_flight_30 (by decide) ?_
        refine lv_iadd hx hb dX12_flight_34 ?_
        exact W.iret hx hb hr (fun t ht _ => ⟨_, rfl, Option.some.inj h, ht⟩) (fun _ q => absurd q List.not_mem_nil) dX12_flight_35
    · have h := iF c3 h
      refine lv_iconst (v := 0) hx hb dX12_flight_17 (by decide) ?_
      refine lv_goto (tgt := 35) hx hb dX12_flight_18 (by decide) ?_
      exact W.iret hx hb hr (fun t ht _ => ⟨_, rfl, Option.some.inj h, ht⟩) (fun _ q => absurd q List.not_mem_nil) dX12_flight_35

set_option maxHeartbeats 4000000 in
set_option maxRecDepth 100000 in
theorem c_mm_lies (l : Launch) (D : va_G) (cI cJ cZ : ClassId) (a : Nat → Nat) (mPeople : Int32) (mHours : Int32) (mGrains : Int32) (mKind : Nat → Int32) (mWind : Nat → Int32) (mWeight : Nat → Int32) (mSort : Nat → Int32) (mOwner : Nat → Int32) (mNow : Nat → Int32) (mReadKind : Nat → Int32) (mReadWind : Nat → Int32) (mReadGrain : Nat → Int32) (mReadPeople : Int32) (mReadHours : Int32) (mReadGrains : Int32) (mText : Nat → Int32) (mLength : Int32) (mAt : Int32) (mFaultAt : Int32) (mMoved : Nat → Int32) (mActs : Int32) (mNext : Int32) (mRow : Nat → Int32) (mSeen : Int32) (mSeenKind : Nat → Int32) (mSeenLift : Nat → Int32) (mSeenFlew : Nat → Int32) (mSeed : Int64) (mIsKept : Nat → Int32) (mKept : Nat → Int32)  (H0 : Heap) (hP : va_P D vwCl (mW a cI cZ mPeople mHours mGrains mKind mWind mWeight mSort mOwner mNow mReadKind mReadWind mReadGrain mReadPeople mReadHours mReadGrains mText mLength mAt mFaultAt mMoved mActs mNext mRow mSeen mSeenKind mSeenLift mSeenFlew mSeed mIsKept mKept) H0) (p1 : Int32) (p2 : Int32) (rv : Int32) (h : mm_lies mPeople mNow p1 p2 = some rv) : Met l yX12_lies wsX12_lies ({ frames := 0, cells := 0, slots := 0, locals := 0 } : Room) (rPc D cI cJ cZ H0 [.ref (a 0), .int p1, .int p2]) (vp_Si (fun r => r = rv)) 0 0 (fun _ => False) := by
  unfold mm_lies at h
  refine Met.ofW (cc := cX12_lies) (maxL := 3) (ret := (some .boolean)) (by decide) rfl ?_
  intro p e s m args below meth c s₁ B hml hv
  obtain ⟨rfl, hH, hK⟩ := hv
  have hx := B.exec
  have hb := B.bytes
  have hr := B.returns
  have hts := atoms_spec (ws := wsX12_lies) B.pre
  have hown : s.vm.findClass RX12 = some m.cls := findClass_of_methodNamed B.named
  have hlocks := B.notSynchronized
  subst hH
  have hl := lv_entry ([.ref (a 0), .int p1, .int p2]) (n := 3) (Nat.le_of_ble_eq_true rfl)
  rw [lg_entry_eq]
  generalize (lg_sl ([.ref (a 0), .int p1, .int p2]) ++ List.replicate (3 - (lg_sl ([.ref (a 0), .int p1, .int p2])).length) Slot.unset).toArray = ls at hl ⊢
  have hl : lv_has ls 3 [(0, .ref (a 0)), (1, .int p1), (2, .int p2)] := hl
  have hiX12 : ∀ w ∈ u_ws RX12 TX12 30, w ∈ wsX12_lies := fun w hw => List.mem_cons_of_mem _ (List.mem_append_right _ hw)
  refine lv_aload_n hx hb dX12_lies_0 rfl (lv_at hl 0 rfl) ?_
  refine va_get (D := D) (ci := 5) (v := .ref (a 6)) (C := RX12) (T := TX12) (N := 30) hx hb hts hiX12 hown hK.1 hP 0 rfl rfl 8 (by decide) (hts (.fieldLink RX12 25 "WinnowedGuiltModel" "now" "[I") (by decide +kernel)) (fun _ h9 => h9) rfl dX12_lies_1 ?_
  refine lv_bipush (v := 9) hx hb dX12_lies_4 (by decide) ?_
  refine lv_iload_n hx hb dX12_lies_6 rfl (lv_at hl 1 rfl) ?_
  refine lv_imul hx hb dX12_lies_7 ?_
  refine lv_iload_n hx hb dX12_lies_8 rfl (lv_at hl 2 rfl) ?_
  refine lv_iadd hx hb dX12_lies_9 ?_
  obtain ⟨hi1, h⟩ := gI_some h
  refine ldI (v := (mNow (Int32.toNatClampNeg ((9 * p1) + p2)))) hx hb hK.1 hP 6 rfl rfl hi1 rfl dX12_lies_10 ?_
  refine lv_aload_n hx hb dX12_lies_11 rfl (lv_at hl 0 rfl) ?_
  refine va_get (D := D) (ci := 5) (v := .int mPeople) (C := RX12) (T := TX12) (N := 30) hx hb hts hiX12 hown hK.1 hP 0 rfl rfl 0 (by decide) (hts (.fieldLink RX12 99 "WinnowedGuiltModel" "people" "I") (by decide +kernel)) (fun _ h9 => h9) rfl dX12_lies_12 ?_
  refine lv_icmp_ge (tgt := 22) hx hb dX12_lies_15 (by decide) (fun c2 => ?_) (fun c2 => ?_)
  · have h := iT c2 h
    refine lv_iconst (v := 0) hx hb dX12_lies_22 (by decide) ?_
    exact W.zret hx hb hr (by decide) (fun t ht _ => ⟨_, rfl, Option.some.inj h, ht⟩) (fun _ q => absurd q List.not_mem_nil) dX12_lies_23
  · have h := iF c2 h
    refine lv_iconst (v := 1) hx hb dX12_lies_18 (by decide) ?_
    refine lv_goto (tgt := 23) hx hb dX12_lies_19 (by decide) ?_
    exact W.zret hx hb hr (by decide) (fun t ht _ => ⟨_, rfl, Option.some.inj h, ht⟩) (fun _ q => absurd q List.not_mem_nil) dX12_lies_23

set_option maxHeartbeats 4000000 in
set_option maxRecDepth 100000 in
theorem c_mm_flies (l : Launch) (D : va_G) (cI cJ cZ : ClassId) (a : Nat → Nat) (mPeople : Int32) (mHours : Int32) (mGrains : Int32) (mKind : Nat → Int32) (mWind : Nat → Int32) (mWeight : Nat → Int32) (mSort : Nat → Int32) (mOwner : Nat → Int32) (mNow : Nat → Int32) (mReadKind : Nat → Int32) (mReadWind : Nat → Int32) (mReadGrain : Nat → Int32) (mReadPeople : Int32) (mReadHours : Int32) (mReadGrains : Int32) (mText : Nat → Int32) (mLength : Int32) (mAt : Int32) (mFaultAt : Int32) (mMoved : Nat → Int32) (mActs : Int32) (mNext : Int32) (mRow : Nat → Int32) (mSeen : Int32) (mSeenKind : Nat → Int32) (mSeenLift : Nat → Int32) (mSeenFlew : Nat → Int32) (mSeed : Int64) (mIsKept : Nat → Int32) (mKept : Nat → Int32)  (H0 : Heap) (hP : va_P D vwCl (mW a cI cZ mPeople mHours mGrains mKind mWind mWeight mSort mOwner mNow mReadKind mReadWind mReadGrain mReadPeople mReadHours mReadGrains mText mLength mAt mFaultAt mMoved mActs mNext mRow mSeen mSeenKind mSeenLift mSeenFlew mSeed mIsKept mKept) H0) (p1 : Int32) (p2 : Int32) (p3 : Int32) (rv : Int32) (h : mm_flies mKind mWeight mSort mOwner mNow p1 p2 p3 = some rv) : Met l yX12_flies wsX12_flies ({ frames := 2, cells := 0, slots := 0, locals := 44 } : Room) (rPc D cI cJ cZ H0 [.ref (a 0), .int p1, .int p2, .int p3]) (vp_Si (fun r => r = rv)) 0 0 (fun _ => False) := by
  unfold mm_flies at h
  refine Met.ofW (cc := cX12_flies) (maxL := 5) (ret := (some .int)) (by decide) rfl ?_
  intro p e s m args below meth c s₁ B hml hv
  obtain ⟨rfl, hH, hK⟩ := hv
  have hx := B.exec
  have hb := B.bytes
  have hr := B.returns
  have hts := atoms_spec (ws := wsX12_flies) B.pre
  have hown : s.vm.findClass RX12 = some m.cls := findClass_of_methodNamed B.named
  have hlocks := B.notSynchronized
  subst hH
  have hl := lv_entry ([.ref (a 0), .int p1, .int p2, .int p3]) (n := 5) (Nat.le_of_ble_eq_true rfl)
  rw [lg_entry_eq]
  generalize (lg_sl ([.ref (a 0), .int p1, .int p2, .int p3]) ++ List.replicate (5 - (lg_sl ([.ref (a 0), .int p1, .int p2, .int p3])).length) Slot.unset).toArray = ls at hl ⊢
  have hl : lv_has ls 5 [(0, .ref (a 0)), (1, .int p1), (2, .int p2), (3, .int p3)] := hl
  have hiX12 : ∀ w ∈ u_ws RX12 TX12 30, w ∈ wsX12_flies := fun w hw => List.mem_cons_of_mem _ (List.mem_append_right _ hw)
  refine lv_aload_n hx hb dX12_flies_0 rfl (lv_at hl 0 rfl) ?_
  refine va_get (D := D) (ci := 5) (v := .ref (a 1)) (C := RX12) (T := TX12) (N := 30) hx hb hts hiX12 hown hK.1 hP 0 rfl rfl 3 (by decide) (hts (.fieldLink RX12 7 "WinnowedGuiltModel" "kind" "[I") (by decide +kernel)) (fun _ h9 => h9) rfl dX12_flies_1 ?_
  refine lv_aload_n hx hb dX12_flies_4 rfl (lv_at hl 0 rfl) ?_
  refine va_get (D := D) (ci := 5) (v := .ref (a 5)) (C := RX12) (T := TX12) (N := 30) hx hb hts hiX12 hown hK.1 hP 0 rfl rfl 7 (by decide) (hts (.fieldLink RX12 22 "WinnowedGuiltModel" "owner" "[I") (by decide +kernel)) (fun _ h9 => h9) rfl dX12_flies_5 ?_
  refine lv_iload_n hx hb dX12_flies_8 rfl (lv_at hl 2 rfl) ?_
  obtain ⟨hi1, h⟩ := gI_some h
  refine ldI (v := (mOwner (Int32.toNatClampNeg p2))) hx hb hK.1 hP 5 rfl rfl hi1 rfl dX12_flies_9 ?_
  obtain ⟨hi2, h⟩ := gI_some h
  refine ldI (v := (mKind (Int32.toNatClampNeg (mOwner (Int32.toNatClampNeg p2))))) hx hb hK.1 hP 1 rfl rfl hi2 rfl dX12_flies_10 ?_
  refine lv_iconst (v := 3) hx hb dX12_flies_11 (by decide) ?_
  refine lv_icmp_ne (tgt := 39) hx hb dX12_flies_12 (by decide) (fun c3 => ?_) (fun c3 => ?_)
  · have h := iF c3 h
    refine lv_iconst (v := 0) hx hb dX12_flies_39 (by decide) ?_
    refine lv_istore (lv' := [(4, .int 0), (0, .ref (a 0)), (1, .int p1), (2, .int p2), (3, .int p3)]) hx hb dX12_flies_40 hl (by decide) rfl (fun ls hl => ?_)
    refine lv_iload hx hb dX12_flies_42 (lv_at hl 0 rfl) ?_
    refine lv_if_eq (tgt := 51) hx hb dX12_flies_44 (by decide) (fun _ => ?_) (fun c => absurd c (by decide))
    refine lv_iload_n hx hb dX12_flies_51 rfl (lv_at hl 4 rfl) ?_
    refine lv_aload_n hx hb dX12_flies_52 rfl (lv_at hl 1 rfl) ?_
    refine va_get (D := D) (ci := 5) (v := .ref (a 4)) (C := RX12) (T := TX12) (N := 30) hx hb hts hiX12 hown hK.1 hP 0 rfl rfl 6 (by decide) (hts (.fieldLink RX12 19 "WinnowedGuiltModel" "sort" "[I") (by decide +kernel)) (fun _ h9 => h9) rfl dX12_flies_53 ?_
    refine lv_iload_n hx hb dX12_flies_56 rfl (lv_at hl 3 rfl) ?_
    obtain ⟨hi4, h⟩ := gI_some h
    refine ldI (v := (mSort (Int32.toNatClampNeg p2))) hx hb hK.1 hP 4 rfl rfl hi4 rfl dX12_flies_57 ?_
    refine lv_aload_n hx hb dX12_flies_58 rfl (lv_at hl 1 rfl) ?_
    refine va_get (D := D) (ci := 5) (v := .ref (a 3)) (C := RX12) (T := TX12) (N := 30) hx hb hts hiX12 hown hK.1 hP 0 rfl rfl 5 (by decide) (hts (.fieldLink RX12 16 "WinnowedGuiltModel" "weight" "[I") (by decide +kernel)) (fun _ h9 => h9) rfl dX12_flies_59 ?_
    refine lv_iload_n hx hb dX12_flies_62 rfl (lv_at hl 3 rfl) ?_
    obtain ⟨hi5, h⟩ := gI_some h
    refine ldI (v := (mWeight (Int32.toNatClampNeg p2))) hx hb hK.1 hP 3 rfl rfl hi5 rfl dX12_flies_63 ?_
    obtain ⟨q6, hq6, h⟩ := bS h
    refine rcI (va_runS (As := [.int p3, .int (mSort (Int32.toNatClampNeg p2)), .int (mWeight (Int32.toNatClampNeg p2))]) (rest := []) ⟨hx, hb, hml, hown, hts⟩ (c_mm_flight l D cI cJ cZ   s.heap p3 (mSort (Int32.toNatClampNeg p2)) (mWeight (Int32.toNatClampNeg p2)) q6 hq6) (va_cwS 3 hts gX12_flies_X12_flight rfl rfl rfl (by decide +kernel) ⟨Nat.le_of_ble_eq_true rfl, Nat.le_of_ble_eq_true rfl⟩) (rPreS hK) rfl rfl hl.1 rfl (lv_room (Nat.le_of_ble_eq_true rfl)) dX12_flies_64 ⟨Nat.zero_le _, Nat.zero_le _⟩) ?_
    exact W.iret hx hb hr (fun t ht _ => ⟨_, rfl, Option.some.inj h, ht⟩) (fun _ q => absurd q List.not_mem_nil) dX12_flies_67
  · have h := iT c3 h
    refine lv_aload_n hx hb dX12_flies_15 rfl (lv_at hl 0 rfl) ?_
    refine va_get (D := D) (ci := 5) (v := .ref (a 6)) (C := RX12) (T := TX12) (N := 30) hx hb hts hiX12 hown hK.1 hP 0 rfl rfl 8 (by decide) (hts (.fieldLink RX12 25 "WinnowedGuiltModel" "now" "[I") (by decide +kernel)) (fun _ h9 => h9) rfl dX12_flies_16 ?_
    refine lv_bipush (v := 9) hx hb dX12_flies_19 (by decide) ?_
    refine lv_iload_n hx hb dX12_flies_21 rfl (lv_at hl 1 rfl) ?_
    refine lv_imul hx hb dX12_flies_22 ?_
    refine lv_iload_n hx hb dX12_flies_23 rfl (lv_at hl 2 rfl) ?_
    refine lv_iadd hx hb dX12_flies_24 ?_
    obtain ⟨hi4, h⟩ := gI_some h
    refine ldI (v := (mNow (Int32.toNatClampNeg ((9 * p1) + p2)))) hx hb hK.1 hP 6 rfl rfl hi4 rfl dX12_flies_25 ?_
    refine lv_aload_n hx hb dX12_flies_26 rfl (lv_at hl 0 rfl) ?_
    refine va_get (D := D) (ci := 5) (v := .ref (a 5)) (C := RX12) (T := TX12) (N := 30) hx hb hts hiX12 hown hK.1 hP 0 rfl rfl 7 (by decide) (hts (.fieldLink RX12 22 "WinnowedGuiltModel" "owner" "[I") (by decide +kernel)) (fun _ h9 => h9) rfl dX12_flies_27 ?_
    refine lv_iload_n hx hb dX12_flies_30 rfl (lv_at hl 2 rfl) ?_
    obtain ⟨hi5, h⟩ := gI_some h
    refine ldI (v := (mOwner (Int32.toNatClampNeg p2))) hx hb hK.1 hP 5 rfl rfl hi5 rfl dX12_flies_31 ?_
    refine lv_icmp_ne (tgt := 39) hx hb dX12_flies_32 (by decide) (fun c6 => ?_) (fun c6 => ?_)
    · have h := iF c6 h
      refine lv_iconst (v := 0) hx hb dX12_flies_39 (by decide) ?_
      refine lv_istore (lv' := [(4, .int 0), (0, .ref (a 0)), (1, .int p1), (2, .int p2), (3, .int p3)]) hx hb dX12_flies_40 hl (by decide) rfl (fun ls hl => ?_)
      refine lv_iload hx hb dX12_flies_42 (lv_at hl 0 rfl) ?_
      refine lv_if_eq (tgt := 51) hx hb dX12_flies_44 (by decide) (fun _ => ?_) (fun c => absurd c (by decide))
      refine lv_iload_n hx hb dX12_flies_51 rfl (lv_at hl 4 rfl) ?_
      refine lv_aload_n hx hb dX12_flies_52 rfl (lv_at hl 1 rfl) ?_
      refine va_get (D := D) (ci := 5) (v := .ref (a 4)) (C := RX12) (T := TX12) (N := 30) hx hb hts hiX12 hown hK.1 hP 0 rfl rfl 6 (by decide) (hts (.fieldLink RX12 19 "WinnowedGuiltModel" "sort" "[I") (by decide +kernel)) (fun _ h9 => h9) rfl dX12_flies_53 ?_
      refine lv_iload_n hx hb dX12_flies_56 rfl (lv_at hl 3 rfl) ?_
      obtain ⟨hi7, h⟩ := gI_some h
      refine ldI (v := (mSort (Int32.toNatClampNeg p2))) hx hb hK.1 hP 4 rfl rfl hi7 rfl dX12_flies_57 ?_
      refine lv_aload_n hx hb dX12_flies_58 rfl (lv_at hl 1 rfl) ?_
      refine va_get (D := D) (ci := 5) (v := .ref (a 3)) (C := RX12) (T := TX12) (N := 30) hx hb hts hiX12 hown hK.1 hP 0 rfl rfl 5 (by decide) (hts (.fieldLink RX12 16 "WinnowedGuiltModel" "weight" "[I") (by decide +kernel)) (fun _ h9 => h9) rfl dX12_flies_59 ?_
      refine lv_iload_n hx hb dX12_flies_62 rfl (lv_at hl 3 rfl) ?_
      obtain ⟨hi8, h⟩ := gI_some h
      refine ldI (v := (mWeight (Int32.toNatClampNeg p2))) hx hb hK.1 hP 3 rfl rfl hi8 rfl dX12_flies_63 ?_
      obtain ⟨q9, hq9, h⟩ := bS h
      refine rcI (va_runS (As := [.int p3, .int (mSort (Int32.toNatClampNeg p2)), .int (mWeight (Int32.toNatClampNeg p2))]) (rest := []) ⟨hx, hb, hml, hown, hts⟩ (c_mm_flight l D cI cJ cZ   s.heap p3 (mSort (Int32.toNatClampNeg p2)) (mWeight (Int32.toNatClampNeg p2)) q9 hq9) (va_cwS 3 hts gX12_flies_X12_flight rfl rfl rfl (by decide +kernel) ⟨Nat.le_of_ble_eq_true rfl, Nat.le_of_ble_eq_true rfl⟩) (rPreS hK) rfl rfl hl.1 rfl (lv_room (Nat.le_of_ble_eq_true rfl)) dX12_flies_64 ⟨Nat.zero_le _, Nat.zero_le _⟩) ?_
      exact W.iret hx hb hr (fun t ht _ => ⟨_, rfl, Option.some.inj h, ht⟩) (fun _ q => absurd q List.not_mem_nil) dX12_flies_67
    · have h := iT c6 h
      refine lv_iconst (v := 1) hx hb dX12_flies_35 (by decide) ?_
      refine lv_goto (tgt := 40) hx hb dX12_flies_36 (by decide) ?_
      refine lv_istore (lv' := [(4, .int 1), (0, .ref (a 0)), (1, .int p1), (2, .int p2), (3, .int p3)]) hx hb dX12_flies_40 hl (by decide) rfl (fun ls hl => ?_)
      refine lv_iload hx hb dX12_flies_42 (lv_at hl 0 rfl) ?_
      refine lv_if_eq (tgt := 51) hx hb dX12_flies_44 (by decide) (fun c => absurd c (by decide)) (fun _ => ?_)
      refine lv_iconst (v := 0) hx hb dX12_flies_47 (by decide) ?_
      refine lv_goto (tgt := 67) hx hb dX12_flies_48 (by decide) ?_
      exact W.iret hx hb hr (fun t ht _ => ⟨_, rfl, Option.some.inj h, ht⟩) (fun _ q => absurd q List.not_mem_nil) dX12_flies_67

set_option maxHeartbeats 4000000 in
set_option maxRecDepth 100000 in
theorem c_mm_goesTo (l : Launch) (D : va_G) (cI cJ cZ : ClassId) (a : Nat → Nat) (mPeople : Int32) (mHours : Int32) (mGrains : Int32) (mKind : Nat → Int32) (mWind : Nat → Int32) (mWeight : Nat → Int32) (mSort : Nat → Int32) (mOwner : Nat → Int32) (mNow : Nat → Int32) (mReadKind : Nat → Int32) (mReadWind : Nat → Int32) (mReadGrain : Nat → Int32) (mReadPeople : Int32) (mReadHours : Int32) (mReadGrains : Int32) (mText : Nat → Int32) (mLength : Int32) (mAt : Int32) (mFaultAt : Int32) (mMoved : Nat → Int32) (mActs : Int32) (mNext : Int32) (mRow : Nat → Int32) (mSeen : Int32) (mSeenKind : Nat → Int32) (mSeenLift : Nat → Int32) (mSeenFlew : Nat → Int32) (mSeed : Int64) (mIsKept : Nat → Int32) (mKept : Nat → Int32)  (H0 : Heap) (hP : va_P D vwCl (mW a cI cZ mPeople mHours mGrains mKind mWind mWeight mSort mOwner mNow mReadKind mReadWind mReadGrain mReadPeople mReadHours mReadGrains mText mLength mAt mFaultAt mMoved mActs mNext mRow mSeen mSeenKind mSeenLift mSeenFlew mSeed mIsKept mKept) H0) (p1 : Int32) (p2 : Int32) (p3 : Int32) (rv : Int32) (h : mm_goesTo mPeople mHours mKind mWind mWeight mSort mOwner mNow p1 p2 p3 = some rv) : Met l yX12_goesTo wsX12_goesTo ({ frames := 3, cells := 0, slots := 0, locals := 68 } : Room) (rPc D cI cJ cZ H0 [.ref (a 0), .int p1, .int p2, .int p3]) (vp_Si (fun r => r = rv)) 0 0 (fun _ => False) := by
  unfold mm_goesTo at h
  refine Met.ofW (cc := cX12_goesTo) (maxL := 6) (ret := (some .int)) (by decide) rfl ?_
  intro p e s m args below meth c s₁ B hml hv
  obtain ⟨rfl, hH, hK⟩ := hv
  have hx := B.exec
  have hb := B.bytes
  have hr := B.returns
  have hts := atoms_spec (ws := wsX12_goesTo) B.pre
  have hown : s.vm.findClass RX12 = some m.cls := findClass_of_methodNamed B.named
  have hlocks := B.notSynchronized
  subst hH
  have hl := lv_entry ([.ref (a 0), .int p1, .int p2, .int p3]) (n := 6) (Nat.le_of_ble_eq_true rfl)
  rw [lg_entry_eq]
  generalize (lg_sl ([.ref (a 0), .int p1, .int p2, .int p3]) ++ List.replicate (6 - (lg_sl ([.ref (a 0), .int p1, .int p2, .int p3])).length) Slot.unset).toArray = ls at hl ⊢
  have hl : lv_has ls 6 [(0, .ref (a 0)), (1, .int p1), (2, .int p2), (3, .int p3)] := hl
  have hiX12 : ∀ w ∈ u_ws RX12 TX12 30, w ∈ wsX12_goesTo := fun w hw => List.mem_cons_of_mem _ (List.mem_append_right _ hw)
  refine lv_aload_n hx hb dX12_goesTo_0 rfl (lv_at hl 0 rfl) ?_
  refine va_get (D := D) (ci := 5) (v := .ref (a 6)) (C := RX12) (T := TX12) (N := 30) hx hb hts hiX12 hown hK.1 hP 0 rfl rfl 8 (by decide) (hts (.fieldLink RX12 25 "WinnowedGuiltModel" "now" "[I") (by decide +kernel)) (fun _ h9 => h9) rfl dX12_goesTo_1 ?_
  refine lv_bipush (v := 9) hx hb dX12_goesTo_4 (by decide) ?_
  refine lv_iload_n hx hb dX12_goesTo_6 rfl (lv_at hl 1 rfl) ?_
  refine lv_imul hx hb dX12_goesTo_7 ?_
  refine lv_iload_n hx hb dX12_goesTo_8 rfl (lv_at hl 2 rfl) ?_
  refine lv_iadd hx hb dX12_goesTo_9 ?_
  obtain ⟨hi1, h⟩ := gI_some h
  refine ldI (v := (mNow (Int32.toNatClampNeg ((9 * p1) + p2)))) hx hb hK.1 hP 6 rfl rfl hi1 rfl dX12_goesTo_10 ?_
  refine lv_istore (lv' := [(4, .int (mNow (Int32.toNatClampNeg ((9 * p1) + p2)))), (0, .ref (a 0)), (1, .int p1), (2, .int p2), (3, .int p3)]) hx hb dX12_goesTo_11 hl (by decide) rfl (fun ls hl => ?_)
  refine lv_aload_n hx hb dX12_goesTo_13 rfl (lv_at hl 1 rfl) ?_
  refine lv_iload_n hx hb dX12_goesTo_14 rfl (lv_at hl 2 rfl) ?_
  refine lv_iload_n hx hb dX12_goesTo_15 rfl (lv_at hl 3 rfl) ?_
  refine lv_aload_n hx hb dX12_goesTo_16 rfl (lv_at hl 1 rfl) ?_
  refine lv_iload_n hx hb dX12_goesTo_17 rfl (lv_at hl 2 rfl) ?_
  refine lv_iload hx hb dX12_goesTo_18 (lv_at hl 0 rfl) ?_
  refine lv_iload_n hx hb dX12_goesTo_20 rfl (lv_at hl 4 rfl) ?_
  obtain ⟨q2, hq2, h⟩ := bS h
  refine rcI (va_runV (As := [.int p1, .int (mNow (Int32.toNatClampNeg ((9 * p1) + p2))), .int p3]) (rest := [.int p2, .int p1, .ref (a 0)]) ⟨hx, hb, hml, hown, hts⟩ (c_mm_liftAt l D cI cJ cZ a mPeople mHours mGrains mKind mWind mWeight mSort mOwner mNow mReadKind mReadWind mReadGrain mReadPeople mReadHours mReadGrains mText mLength mAt mFaultAt mMoved mActs mNext mRow mSeen mSeenKind mSeenLift mSeenFlew mSeed mIsKept mKept s.heap hP p1 (mNow (Int32.toNatClampNeg ((9 * p1) + p2))) p3 q2 hq2) (cwV 3 hts gX12_goesTo_X12_liftAt rfl rfl rfl (by decide +kernel) ⟨Nat.le_of_ble_eq_true rfl, Nat.le_of_ble_eq_true rfl⟩) (rPreV hK hP (ci := 5) (q0 := 0) rfl rfl) rfl rfl hl.1 rfl (lv_room (Nat.le_of_ble_eq_true rfl)) dX12_goesTo_21 ⟨Nat.zero_le _, Nat.zero_le _⟩) ?_
  obtain ⟨q3, hq3, h⟩ := bS h
  refine rcI (va_runV (As := [.int p1, .int p2, .int q2]) (rest := []) ⟨hx, hb, hml, hown, hts⟩ (c_mm_flies l D cI cJ cZ a mPeople mHours mGrains mKind mWind mWeight mSort mOwner mNow mReadKind mReadWind mReadGrain mReadPeople mReadHours mReadGrains mText mLength mAt mFaultAt mMoved mActs mNext mRow mSeen mSeenKind mSeenLift mSeenFlew mSeed mIsKept mKept s.heap hP p1 p2 q2 q3 hq3) (cwV 3 hts gX12_goesTo_X12_flies rfl rfl rfl (by decide +kernel) ⟨Nat.le_of_ble_eq_true rfl, Nat.le_of_ble_eq_true rfl⟩) (rPreV hK hP (ci := 5) (q0 := 0) rfl rfl) rfl rfl hl.1 rfl (lv_room (Nat.le_of_ble_eq_true rfl)) dX12_goesTo_24 ⟨Nat.zero_le _, Nat.zero_le _⟩) ?_
  refine lv_istore (lv' := [(5, .int q3), (4, .int (mNow (Int32.toNatClampNeg ((9 * p1) + p2)))), (0, .ref (a 0)), (1, .int p1), (2, .int p2), (3, .int p3)]) hx hb dX12_goesTo_27 hl (by decide) rfl (fun ls hl => ?_)
  refine lv_iload hx hb dX12_goesTo_29 (lv_at hl 0 rfl) ?_
  refine lv_if_ne (tgt := 63) hx hb dX12_goesTo_31 (by decide) (fun c4 => ?_) (fun c4 => ?_)
  · have h := iF c4 h
    refine lv_iload hx hb dX12_goesTo_63 (lv_at hl 1 rfl) ?_
    refine lv_iload hx hb dX12_goesTo_65 (lv_at hl 0 rfl) ?_
    refine lv_iadd hx hb dX12_goesTo_67 ?_
    refine lv_aload_n hx hb dX12_goesTo_68 rfl (lv_at hl 2 rfl) ?_
    refine va_get (D := D) (ci := 5) (v := .int mPeople) (C := RX12) (T := TX12) (N := 30) hx hb hts hiX12 hown hK.1 hP 0 rfl rfl 0 (by decide) (hts (.fieldLink RX12 99 "WinnowedGuiltModel" "people" "I") (by decide +kernel)) (fun _ h9 => h9) rfl dX12_goesTo_69 ?_
    refine lv_icmp_ge (tgt := 83) hx hb dX12_goesTo_72 (by decide) (fun c5 => ?_) (fun c5 => ?_)
    · have h := iT c5 h
      refine lv_bipush (v := 8) hx hb dX12_goesTo_83 (by decide) ?_
      exact W.iret hx hb hr (fun t ht _ => ⟨_, rfl, Option.some.inj h, ht⟩) (fun _ q => absurd q List.not_mem_nil) dX12_goesTo_85
    · have h := iF c5 h
      refine lv_iload hx hb dX12_goesTo_75 (lv_at hl 1 rfl) ?_
      refine lv_iload hx hb dX12_goesTo_77 (lv_at hl 0 rfl) ?_
      refine lv_iadd hx hb dX12_goesTo_79 ?_
      refine lv_goto (tgt := 85) hx hb dX12_goesTo_80 (by decide) ?_
      exact W.iret hx hb hr (fun t ht _ => ⟨_, rfl, Option.some.inj h, ht⟩) (fun _ q => absurd q List.not_mem_nil) dX12_goesTo_85
  · have h := iT c4 h
    refine lv_aload_n hx hb dX12_goesTo_34 rfl (lv_at hl 2 rfl) ?_
    refine va_get (D := D) (ci := 5) (v := .ref (a 4)) (C := RX12) (T := TX12) (N := 30) hx hb hts hiX12 hown hK.1 hP 0 rfl rfl 6 (by decide) (hts (.fieldLink RX12 19 "WinnowedGuiltModel" "sort" "[I") (by decide +kernel)) (fun _ h9 => h9) rfl dX12_goesTo_35 ?_
    refine lv_iload_n hx hb dX12_goesTo_38 rfl (lv_at hl 4 rfl) ?_
    obtain ⟨hi5, h⟩ := gI_some h
    refine ldI (v := (mSort (Int32.toNatClampNeg p2))) hx hb hK.1 hP 4 rfl rfl hi5 rfl dX12_goesTo_39 ?_
    refine lv_iconst (v := 1) hx hb dX12_goesTo_40 (by decide) ?_
    refine lv_icmp_ne (tgt := 60) hx hb dX12_goesTo_41 (by decide) (fun c6 => ?_) (fun c6 => ?_)
    · have h := iF c6 h
      refine lv_iload hx hb dX12_goesTo_60 (lv_at hl 1 rfl) ?_
      exact W.iret hx hb hr (fun t ht _ => ⟨_, rfl, Option.some.inj h, ht⟩) (fun _ q => absurd q List.not_mem_nil) dX12_goesTo_62
    · have h := iT c6 h
      refine lv_aload_n hx hb dX12_goesTo_44 rfl (lv_at hl 2 rfl) ?_
      refine va_get (D := D) (ci := 5) (v := .ref (a 1)) (C := RX12) (T := TX12) (N := 30) hx hb hts hiX12 hown hK.1 hP 0 rfl rfl 3 (by decide) (hts (.fieldLink RX12 7 "WinnowedGuiltModel" "kind" "[I") (by decide +kernel)) (fun _ h9 => h9) rfl dX12_goesTo_45 ?_
      refine lv_iload hx hb dX12_goesTo_48 (lv_at hl 1 rfl) ?_
      obtain ⟨hi7, h⟩ := gI_some h
      refine ldI (v := (mKind (Int32.toNatClampNeg (mNow (Int32.toNatClampNeg ((9 * p1) + p2)))))) hx hb hK.1 hP 1 rfl rfl hi7 rfl dX12_goesTo_50 ?_
      refine lv_iconst (v := 2) hx hb dX12_goesTo_51 (by decide) ?_
      refine lv_icmp_ne (tgt := 60) hx hb dX12_goesTo_52 (by decide) (fun c8 => ?_) (fun c8 => ?_)
      · have h := iF c8 h
        refine lv_iload hx hb dX12_goesTo_60 (lv_at hl 1 rfl) ?_
        exact W.iret hx hb hr (fun t ht _ => ⟨_, rfl, Option.some.inj h, ht⟩) (fun _ q => absurd q List.not_mem_nil) dX12_goesTo_62
      · have h := iT c8 h
        refine lv_bipush (v := 9) hx hb dX12_goesTo_55 (by decide) ?_
        refine lv_goto (tgt := 62) hx hb dX12_goesTo_57 (by decide) ?_
        exact W.iret hx hb hr (fun t ht _ => ⟨_, rfl, Option.some.inj h, ht⟩) (fun _ q => absurd q List.not_mem_nil) dX12_goesTo_62

set_option maxHeartbeats 4000000 in
set_option maxRecDepth 100000 in
theorem c_mm_tossBy (l : Launch) (D : va_G) (cI cJ cZ : ClassId) (a : Nat → Nat) (mPeople : Int32) (mHours : Int32) (mGrains : Int32) (mKind : Nat → Int32) (mWind : Nat → Int32) (mWeight : Nat → Int32) (mSort : Nat → Int32) (mOwner : Nat → Int32) (mNow : Nat → Int32) (mReadKind : Nat → Int32) (mReadWind : Nat → Int32) (mReadGrain : Nat → Int32) (mReadPeople : Int32) (mReadHours : Int32) (mReadGrains : Int32) (mText : Nat → Int32) (mLength : Int32) (mAt : Int32) (mFaultAt : Int32) (mMoved : Nat → Int32) (mActs : Int32) (mNext : Int32) (mRow : Nat → Int32) (mSeen : Int32) (mSeenKind : Nat → Int32) (mSeenLift : Nat → Int32) (mSeenFlew : Nat → Int32) (mSeed : Int64) (mIsKept : Nat → Int32) (mKept : Nat → Int32)  (sz : Nat) (p1 : Int32) (p2 : Int32) (p3 : Int32) (rv : Int32) (mNow_r : Nat → Int32) (mMoved_r : Nat → Int32) (h : mm_tossBy mPeople mHours mGrains mKind mWind mWeight mSort mOwner mNow mMoved p1 p2 p3 = some (rv, mNow_r, mMoved_r)) : Met l yX12_tossBy wsX12_tossBy ({ frames := 4, cells := 0, slots := 0, locals := 93 } : Room) (wPc D cI cJ cZ (mW a cI cZ mPeople mHours mGrains mKind mWind mWeight mSort mOwner mNow mReadKind mReadWind mReadGrain mReadPeople mReadHours mReadGrains mText mLength mAt mFaultAt mMoved mActs mNext mRow mSeen mSeenKind mSeenLift mSeenFlew mSeed mIsKept mKept) sz [.ref (a 0), .int p1, .int p2, .int p3]) (wQi D (mW a cI cZ mPeople mHours mGrains mKind mWind mWeight mSort mOwner mNow mReadKind mReadWind mReadGrain mReadPeople mReadHours mReadGrains mText mLength mAt mFaultAt mMoved mActs mNext mRow mSeen mSeenKind mSeenLift mSeenFlew mSeed mIsKept mKept) (mW a cI cZ mPeople mHours mGrains mKind mWind mWeight mSort mOwner mNow_r mReadKind mReadWind mReadGrain mReadPeople mReadHours mReadGrains mText mLength mAt mFaultAt mMoved_r mActs mNext mRow mSeen mSeenKind mSeenLift mSeenFlew mSeed mIsKept mKept) sz rv) 0 0 (va_A (mW a cI cZ mPeople mHours mGrains mKind mWind mWeight mSort mOwner mNow mReadKind mReadWind mReadGrain mReadPeople mReadHours mReadGrains mText mLength mAt mFaultAt mMoved mActs mNext mRow mSeen mSeenKind mSeenLift mSeenFlew mSeed mIsKept mKept) sz) := by
  unfold mm_tossBy at h
  refine Met.ofW (cc := cX12_tossBy) (maxL := 8) (ret := (some .int)) (by decide) rfl ?_
  intro p e s m args below meth c s₁ B hml hv
  obtain ⟨rfl, hsz, hP, hK, hD0⟩ := hv
  have hx := B.exec
  have hb := B.bytes
  have hr := B.returns
  have hts := atoms_spec (ws := wsX12_tossBy) B.pre
  have hown : s.vm.findClass RX12 = some m.cls := findClass_of_methodNamed B.named
  have hlocks := B.notSynchronized
  subst hsz
  have hD := hD0.self (sz := s.heap.size)
  have hA : ∀ q : Nat, s.heap.size ≤ q → va_A (mW a cI cZ mPeople mHours mGrains mKind mWind mWeight mSort mOwner mNow mReadKind mReadWind mReadGrain mReadPeople mReadHours mReadGrains mText mLength mAt mFaultAt mMoved mActs mNext mRow mSeen mSeenKind mSeenLift mSeenFlew mSeed mIsKept mKept) s.heap.size q := fun q h => Or.inr h
  have hS : va_S (va_A (mW a cI cZ mPeople mHours mGrains mKind mWind mWeight mSort mOwner mNow mReadKind mReadWind mReadGrain mReadPeople mReadHours mReadGrains mText mLength mAt mFaultAt mMoved mActs mNext mRow mSeen mSeenKind mSeenLift mSeenFlew mSeed mIsKept mKept) s.heap.size) s.heap s.heap [] := va_S.rf
  obtain ⟨A, hAe⟩ : ∃ A, A = va_A (mW a cI cZ mPeople mHours mGrains mKind mWind mWeight mSort mOwner mNow mReadKind mReadWind mReadGrain mReadPeople mReadHours mReadGrains mText mLength mAt mFaultAt mMoved mActs mNext mRow mSeen mSeenKind mSeenLift mSeenFlew mSeed mIsKept mKept) s.heap.size := ⟨_, rfl⟩
  rw [← hAe] at hD hA hS
  have hl := lv_entry ([.ref (a 0), .int p1, .int p2, .int p3]) (n := 8) (Nat.le_of_ble_eq_true rfl)
  rw [lg_entry_eq]
  generalize (lg_sl ([.ref (a 0), .int p1, .int p2, .int p3]) ++ List.replicate (8 - (lg_sl ([.ref (a 0), .int p1, .int p2, .int p3])).length) Slot.unset).toArray = ls at hl ⊢
  have hl : lv_has ls 8 [(0, .ref (a 0)), (1, .int p1), (2, .int p2), (3, .int p3)] := hl
  have hiX12 : ∀ w ∈ u_ws RX12 TX12 30, w ∈ wsX12_tossBy := fun w hw => List.mem_cons_of_mem _ (List.mem_append_right _ hw)
  refine lv_bipush (v := 9) hx hb dX12_tossBy_0 (by decide) ?_
  refine lv_iload_n hx hb dX12_tossBy_2 rfl (lv_at hl 1 rfl) ?_
  refine lv_imul hx hb dX12_tossBy_3 ?_
  refine lv_istore (lv' := [(4, .int (9 * p1)), (0, .ref (a 0)), (1, .int p1), (2, .int p2), (3, .int p3)]) hx hb dX12_tossBy_4 hl (by decide) rfl (fun ls hl => ?_)
  refine lv_iconst (v := 0) hx hb dX12_tossBy_6 (by decide) ?_
  refine lv_istore (lv' := [(5, .int 0), (4, .int (9 * p1)), (0, .ref (a 0)), (1, .int p1), (2, .int p2), (3, .int p3)]) hx hb dX12_tossBy_7 hl (by decide) rfl (fun ls hl => ?_)
  refine lv_iconst (v := 0) hx hb dX12_tossBy_9 (by decide) ?_
  refine lv_istore (lv' := [(6, .int 0), (5, .int 0), (4, .int (9 * p1)), (0, .ref (a 0)), (1, .int p1), (2, .int p2), (3, .int p3)]) hx hb dX12_tossBy_10 hl (by decide) rfl (fun ls hl => ?_)
  have L12 : ∀ (n : Nat) (x6_12 : Int32) (x5_12 : Int32) (mMoved_12x : (Nat → Int32)) (H : Heap) (locs : List Loc) (ls : Array Slot) (kx : Int32 → Int32 → (Nat → Int32) → Option (Int32 × (Nat → Int32) × (Nat → Int32))), mm_tossBy_L12 mPeople mHours mGrains mKind mWind mWeight mSort mOwner mNow p1 p2 p3 (9 * p1) kx n x6_12 x5_12 mMoved_12x = some (rv, mNow_r, mMoved_r) → va_P D vwCl (mW a cI cZ mPeople mHours mGrains mKind mWind mWeight mSort mOwner mNow mReadKind mReadWind mReadGrain mReadPeople mReadHours mReadGrains mText mLength mAt mFaultAt mMoved_12x mActs mNext mRow mSeen mSeenKind mSeenLift mSeenFlew mSeed mIsKept mKept) H → va_D A (mW a cI cZ mPeople mHours mGrains mKind mWind mWeight mSort mOwner mNow mReadKind mReadWind mReadGrain mReadPeople mReadHours mReadGrains mText mLength mAt mFaultAt mMoved_12x mActs mNext mRow mSeen mSeenKind mSeenLift mSeenFlew mSeed mIsKept mKept) → va_S A s.heap H locs → lv_has ls 8 [(6, .int x6_12), (5, .int x5_12), (4, .int (9 * p1)), (0, .ref (a 0)), (1, .int p1), (2, .int p2), (3, .int p3)] → (∀ (y6_12 : Int32) (y5_12 : Int32) (mMoved_12 : (Nat → Int32)) (H : Heap) (locs : List Loc) (ls : Array Slot), kx y6_12 y5_12 mMoved_12 = some (rv, mNow_r, mMoved_r) → va_P D vwCl (mW a cI cZ mPeople mHours mGrains mKind mWind mWeight mSort mOwner mNow mReadKind mReadWind mReadGrain mReadPeople mReadHours mReadGrains mText mLength mAt mFaultAt mMoved_12 mActs mNext mRow mSeen mSeenKind mSeenLift mSeenFlew mSeed mIsKept mKept) H → va_D A (mW a cI cZ mPeople mHours mGrains mKind mWind mWeight mSort mOwner mNow mReadKind mReadWind mReadGrain mReadPeople mReadHours mReadGrains mText mLength mAt mFaultAt mMoved_12 mActs mNext mRow mSeen mSeenKind mSeenLift mSeenFlew mSeed mIsKept mKept) → va_S A s.heap H locs → lv_has ls 8 [(6, .int y6_12), (5, .int y5_12), (4, .int (9 * p1)), (0, .ref (a 0)), (1, .int p1), (2, .int p2), (3, .int p3)] → W p l e (headSpec wsX12_tossBy ({ frames := 4, cells := 0, slots := 0, locals := 93 } : Room)).room s m ([.ref (a 0), .int p1, .int p2, .int p3] : List Value).toArray below meth c H locs 0 0 (MQ below (wQi D (mW a cI cZ mPeople mHours mGrains mKind mWind mWeight mSort mOwner mNow mReadKind mReadWind mReadGrain mReadPeople mReadHours mReadGrains mText mLength mAt mFaultAt mMoved mActs mNext mRow mSeen mSeenKind mSeenLift mSeenFlew mSeed mIsKept mKept) (mW a cI cZ mPeople mHours mGrains mKind mWind mWeight mSort mOwner mNow_r mReadKind mReadWind mReadGrain mReadPeople mReadHours mReadGrains mText mLength mAt mFaultAt mMoved_r mActs mNext mRow mSeen mSeenKind mSeenLift mSeenFlew mSeed mIsKept mKept) s.heap.size rv) ([.ref (a 0), .int p1, .int p2, .int p3] : List Value).toArray s 0 0 (va_A (mW a cI cZ mPeople mHours mGrains mKind mWind mWeight mSort mOwner mNow mReadKind mReadWind mReadGrain mReadPeople mReadHours mReadGrains mText mLength mAt mFaultAt mMoved mActs mNext mRow mSeen mSeenKind mSeenLift mSeenFlew mSeed mIsKept mKept) s.heap.size)) (F0 m 103 ls [])) → W p l e (headSpec wsX12_tossBy ({ frames := 4, cells := 0, slots := 0, locals := 93 } : Room)).room s m ([.ref (a 0), .int p1, .int p2, .int p3] : List Value).toArray below meth c H locs 0 0 (MQ below (wQi D (mW a cI cZ mPeople mHours mGrains mKind mWind mWeight mSort mOwner mNow mReadKind mReadWind mReadGrain mReadPeople mReadHours mReadGrains mText mLength mAt mFaultAt mMoved mActs mNext mRow mSeen mSeenKind mSeenLift mSeenFlew mSeed mIsKept mKept) (mW a cI cZ mPeople mHours mGrains mKind mWind mWeight mSort mOwner mNow_r mReadKind mReadWind mReadGrain mReadPeople mReadHours mReadGrains mText mLength mAt mFaultAt mMoved_r mActs mNext mRow mSeen mSeenKind mSeenLift mSeenFlew mSeed mIsKept mKept) s.heap.size rv) ([.ref (a 0), .int p1, .int p2, .int p3] : List Value).toArray s 0 0 (va_A (mW a cI cZ mPeople mHours mGrains mKind mWind mWeight mSort mOwner mNow mReadKind mReadWind mReadGrain mReadPeople mReadHours mReadGrains mText mLength mAt mFaultAt mMoved mActs mNext mRow mSeen mSeenKind mSeenLift mSeenFlew mSeed mIsKept mKept) s.heap.size)) (F0 m 12 ls []) := by
    intro n
    induction n with
    | zero => intro _ _ _ _ _ _ _ h; rw [mm_tossBy_L12.eq_1] at h; cases h
    | succ n ih =>
      intro x6_12 x5_12 mMoved_12x H locs ls kx h hP hD hS hl hk
      rw [mm_tossBy_L12.eq_2] at h
      refine lv_iload hx hb dX12_tossBy_12 (lv_at hl 0 rfl) ?_
      refine lv_aload_n hx hb dX12_tossBy_14 rfl (lv_at hl 3 rfl) ?_
      refine va_get (D := D) (ci := 5) (v := .int mGrains) (C := RX12) (T := TX12) (N := 30) hx hb hts hiX12 hown hK.1 hP 0 rfl rfl 2 (by decide) (hts (.fieldLink RX12 105 "WinnowedGuiltModel" "grains" "I") (by decide +kernel)) (fun _ h9 => h9) rfl dX12_tossBy_15 ?_
      refine lv_icmp_ge (tgt := 103) hx hb dX12_tossBy_18 (by decide) (fun c1 => ?_) (fun c1 => ?_)
      · have h := iT c1 h
        exact hk _ _ _ _ _ _ h hP hD hS (lv_sub hl [0, 1, 2, 3, 4, 5, 6] rfl)
      · have h := iF c1 h
        refine lv_aload_n hx hb dX12_tossBy_21 rfl (lv_at hl 3 rfl) ?_
        refine va_get (D := D) (ci := 5) (v := .ref (a 6)) (C := RX12) (T := TX12) (N := 30) hx hb hts hiX12 hown hK.1 hP 0 rfl rfl 8 (by decide) (hts (.fieldLink RX12 25 "WinnowedGuiltModel" "now" "[I") (by decide +kernel)) (fun _ h9 => h9) rfl dX12_tossBy_22 ?_
        refine lv_iload hx hb dX12_tossBy_25 (lv_at hl 2 rfl) ?_
        refine lv_iload hx hb dX12_tossBy_27 (lv_at hl 0 rfl) ?_
        refine lv_iadd hx hb dX12_tossBy_29 ?_
        obtain ⟨hi2, h⟩ := gI_some h
        refine ldI (v := (mNow (Int32.toNatClampNeg ((9 * p1) + x6_12)))) hx hb hK.1 hP 6 rfl rfl hi2 rfl dX12_tossBy_30 ?_
        refine lv_iload_n hx hb dX12_tossBy_31 rfl (lv_at hl 5 rfl) ?_
        refine lv_icmp_ne (tgt := 80) hx hb dX12_tossBy_32 (by decide) (fun c3 => ?_) (fun c3 => ?_)
        · have h := iF c3 h
          refine lv_aload_n hx hb dX12_tossBy_80 rfl (lv_at hl 3 rfl) ?_
          refine va_get (D := D) (ci := 5) (v := .ref (a 11)) (C := RX12) (T := TX12) (N := 30) hx hb hts hiX12 hown hK.1 hP 0 rfl rfl 19 (by decide) (hts (.fieldLink RX12 40 "WinnowedGuiltModel" "moved" "[I") (by decide +kernel)) (fun _ h9 => h9) rfl dX12_tossBy_81 ?_
          refine lv_iload hx hb dX12_tossBy_84 (lv_at hl 0 rfl) ?_
          refine lv_aload_n hx hb dX12_tossBy_86 rfl (lv_at hl 3 rfl) ?_
          refine va_get (D := D) (ci := 5) (v := .ref (a 6)) (C := RX12) (T := TX12) (N := 30) hx hb hts hiX12 hown hK.1 hP 0 rfl rfl 8 (by decide) (hts (.fieldLink RX12 25 "WinnowedGuiltModel" "now" "[I") (by decide +kernel)) (fun _ h9 => h9) rfl dX12_tossBy_87 ?_
          refine lv_iload hx hb dX12_tossBy_90 (lv_at hl 2 rfl) ?_
          refine lv_iload hx hb dX12_tossBy_92 (lv_at hl 0 rfl) ?_
          refine lv_iadd hx hb dX12_tossBy_94 ?_
          obtain ⟨hi4, h⟩ := gI_some h
          refine ldI (v := (mNow (Int32.toNatClampNeg ((9 * p1) + x6_12)))) hx hb hK.1 hP 6 rfl rfl hi4 rfl dX12_tossBy_95 ?_
          obtain ⟨hi5, h⟩ := gI_some h
          refine va_iast hx hb hK.1 hP hD hS 11 0 rfl rfl hi5 dX12_tossBy_96 (fun H locs hP hD hS => ?_)
          have hP : va_P D vwCl (mW a cI cZ mPeople mHours mGrains mKind mWind mWeight mSort mOwner mNow mReadKind mReadWind mReadGrain mReadPeople mReadHours mReadGrains mText mLength mAt mFaultAt (upd mMoved_12x (Int32.toNatClampNeg x6_12) (mNow (Int32.toNatClampNeg ((9 * p1) + x6_12)))) mActs mNext mRow mSeen mSeenKind mSeenLift mSeenFlew mSeed mIsKept mKept) H := hP
          have hD : va_D A (mW a cI cZ mPeople mHours mGrains mKind mWind mWeight mSort mOwner mNow mReadKind mReadWind mReadGrain mReadPeople mReadHours mReadGrains mText mLength mAt mFaultAt (upd mMoved_12x (Int32.toNatClampNeg x6_12) (mNow (Int32.toNatClampNeg ((9 * p1) + x6_12)))) mActs mNext mRow mSeen mSeenKind mSeenLift mSeenFlew mSeed mIsKept mKept) := hD
          refine lv_iinc (v := (x6_12 + 1)) (lv' := [(6, .int (x6_12 + 1)), (5, .int x5_12), (4, .int (9 * p1)), (0, .ref (a 0)), (1, .int p1), (2, .int p2), (3, .int p3)]) hx hb dX12_tossBy_97 hl (k := 0) rfl rfl (by decide) rfl (fun ls hl => ?_)
          refine lv_goto (tgt := 12) hx hb dX12_tossBy_100 (by decide) ?_
          exact ih _ _ _ _ _ _ _ h hP hD hS (lv_sub hl [0, 1, 2, 3, 4, 5, 6] rfl) hk
        · have h := iT c3 h
          refine lv_aload_n hx hb dX12_tossBy_35 rfl (lv_at hl 3 rfl) ?_
          refine lv_iload_n hx hb dX12_tossBy_36 rfl (lv_at hl 4 rfl) ?_
          refine lv_iload hx hb dX12_tossBy_37 (lv_at hl 0 rfl) ?_
          refine lv_iload_n hx hb dX12_tossBy_39 rfl (lv_at hl 6 rfl) ?_
          obtain ⟨q4, hq4, h⟩ := bS h
          refine rcI (va_runV (As := [.int p1, .int x6_12, .int p3]) (rest := []) ⟨hx, hb, hml, hown, hts⟩ (c_mm_goesTo l D cI cJ cZ a mPeople mHours mGrains mKind mWind mWeight mSort mOwner mNow mReadKind mReadWind mReadGrain mReadPeople mReadHours mReadGrains mText mLength mAt mFaultAt mMoved_12x mActs mNext mRow mSeen mSeenKind mSeenLift mSeenFlew mSeed mIsKept mKept H hP p1 x6_12 p3 q4 hq4) (cwV 3 hts gX12_tossBy_X12_goesTo rfl rfl rfl (by decide +kernel) ⟨Nat.le_of_ble_eq_true rfl, Nat.le_of_ble_eq_true rfl⟩) (rPreV hK hP (ci := 5) (q0 := 0) rfl rfl) rfl rfl hl.1 rfl (lv_room (Nat.le_of_ble_eq_true rfl)) dX12_tossBy_40 ⟨Nat.zero_le _, Nat.zero_le _⟩) ?_
          refine lv_istore (lv' := [(7, .int q4), (6, .int x6_12), (5, .int x5_12), (4, .int (9 * p1)), (0, .ref (a 0)), (1, .int p1), (2, .int p2), (3, .int p3)]) hx hb dX12_tossBy_43 hl (by decide) rfl (fun ls hl => ?_)
          refine lv_iload hx hb dX12_tossBy_45 (lv_at hl 2 rfl) ?_
          refine lv_iload hx hb dX12_tossBy_47 (lv_at hl 0 rfl) ?_
          refine lv_iload_n hx hb dX12_tossBy_49 rfl (lv_at hl 6 rfl) ?_
          refine lv_icmp_eq (tgt := 64) hx hb dX12_tossBy_50 (by decide) (fun c5 => ?_) (fun c5 => ?_)
          · have h := iT c5 h
            refine lv_iconst (v := 0) hx hb dX12_tossBy_64 (by decide) ?_
            refine lv_iadd hx hb dX12_tossBy_65 ?_
            refine lv_istore (lv' := [(5, .int (x5_12 + 0)), (7, .int q4), (6, .int x6_12), (4, .int (9 * p1)), (0, .ref (a 0)), (1, .int p1), (2, .int p2), (3, .int p3)]) hx hb dX12_tossBy_66 hl (by decide) rfl (fun ls hl => ?_)
            refine lv_aload_n hx hb dX12_tossBy_68 rfl (lv_at hl 4 rfl) ?_
            refine va_get (D := D) (ci := 5) (v := .ref (a 11)) (C := RX12) (T := TX12) (N := 30) hx hb hts hiX12 hown hK.1 hP 0 rfl rfl 19 (by decide) (hts (.fieldLink RX12 40 "WinnowedGuiltModel" "moved" "[I") (by decide +kernel)) (fun _ h9 => h9) rfl dX12_tossBy_69 ?_
            refine lv_iload hx hb dX12_tossBy_72 (lv_at hl 2 rfl) ?_
            refine lv_iload hx hb dX12_tossBy_74 (lv_at hl 1 rfl) ?_
            obtain ⟨hi6, h⟩ := gI_some h
            refine va_iast hx hb hK.1 hP hD hS 11 0 rfl rfl hi6 dX12_tossBy_76 (fun H locs hP hD hS => ?_)
            have hP : va_P D vwCl (mW a cI cZ mPeople mHours mGrains mKind mWind mWeight mSort mOwner mNow mReadKind mReadWind mReadGrain mReadPeople mReadHours mReadGrains mText mLength mAt mFaultAt (upd mMoved_12x (Int32.toNatClampNeg x6_12) q4) mActs mNext mRow mSeen mSeenKind mSeenLift mSeenFlew mSeed mIsKept mKept) H := hP
            have hD : va_D A (mW a cI cZ mPeople mHours mGrains mKind mWind mWeight mSort mOwner mNow mReadKind mReadWind mReadGrain mReadPeople mReadHours mReadGrains mText mLength mAt mFaultAt (upd mMoved_12x (Int32.toNatClampNeg x6_12) q4) mActs mNext mRow mSeen mSeenKind mSeenLift mSeenFlew mSeed mIsKept mKept) := hD
            refine lv_goto (tgt := 97) hx hb dX12_tossBy_77 (by decide) ?_
            refine lv_iinc (v := (x6_12 + 1)) (lv' := [(6, .int (x6_12 + 1)), (5, .int (x5_12 + 0)), (7, .int q4), (4, .int (9 * p1)), (0, .ref (a 0)), (1, .int p1), (2, .int p2), (3, .int p3)]) hx hb dX12_tossBy_97 hl (k := 2) rfl rfl (by decide) rfl (fun ls hl => ?_)
            refine lv_goto (tgt := 12) hx hb dX12_tossBy_100 (by decide) ?_
            exact ih _ _ _ _ _ _ _ h hP hD hS (lv_sub hl [0, 1, 3, 4, 5, 6, 7] rfl) hk
          · have h := iF c5 h
            refine lv_iload hx hb dX12_tossBy_53 (lv_at hl 0 rfl) ?_
            refine lv_bipush (v := 9) hx hb dX12_tossBy_55 (by decide) ?_
            refine lv_icmp_eq (tgt := 64) hx hb dX12_tossBy_57 (by decide) (fun c6 => ?_) (fun c6 => ?_)
            · have h := iT c6 h
              refine lv_iconst (v := 0) hx hb dX12_tossBy_64 (by decide) ?_
              refine lv_iadd hx hb dX12_tossBy_65 ?_
              refine lv_istore (lv' := [(5, .int (x5_12 + 0)), (7, .int q4), (6, .int x6_12), (4, .int (9 * p1)), (0, .ref (a 0)), (1, .int p1), (2, .int p2), (3, .int p3)]) hx hb dX12_tossBy_66 hl (by decide) rfl (fun ls hl => ?_)
              refine lv_aload_n hx hb dX12_tossBy_68 rfl (lv_at hl 4 rfl) ?_
              refine va_get (D := D) (ci := 5) (v := .ref (a 11)) (C := RX12) (T := TX12) (N := 30) hx hb hts hiX12 hown hK.1 hP 0 rfl rfl 19 (by decide) (hts (.fieldLink RX12 40 "WinnowedGuiltModel" "moved" "[I") (by decide +kernel)) (fun _ h9 => h9) rfl dX12_tossBy_69 ?_
              refine lv_iload hx hb dX12_tossBy_72 (lv_at hl 2 rfl) ?_
              refine lv_iload hx hb dX12_tossBy_74 (lv_at hl 1 rfl) ?_
              obtain ⟨hi7, h⟩ := gI_some h
              refine va_iast hx hb hK.1 hP hD hS 11 0 rfl rfl hi7 dX12_tossBy_76 (fun H locs hP hD hS => ?_)
              have hP : va_P D vwCl (mW a cI cZ mPeople mHours mGrains mKind mWind mWeight mSort mOwner mNow mReadKind mReadWind mReadGrain mReadPeople mReadHours mReadGrains mText mLength mAt mFaultAt (upd mMoved_12x (Int32.toNatClampNeg x6_12) q4) mActs mNext mRow mSeen mSeenKind mSeenLift mSeenFlew mSeed mIsKept mKept) H := hP
              have hD : va_D A (mW a cI cZ mPeople mHours mGrains mKind mWind mWeight mSort mOwner mNow mReadKind mReadWind mReadGrain mReadPeople mReadHours mReadGrains mText mLength mAt mFaultAt (upd mMoved_12x (Int32.toNatClampNeg x6_12) q4) mActs mNext mRow mSeen mSeenKind mSeenLift mSeenFlew mSeed mIsKept mKept) := hD
              refine lv_goto (tgt := 97) hx hb dX12_tossBy_77 (by decide) ?_
              refine lv_iinc (v := (x6_12 + 1)) (lv' := [(6, .int (x6_12 + 1)), (5, .int (x5_12 + 0)), (7, .int q4), (4, .int (9 * p1)), (0, .ref (a 0)), (1, .int p1), (2, .int p2), (3, .int p3)]) hx hb dX12_tossBy_97 hl (k := 2) rfl rfl (by decide) rfl (fun ls hl => ?_)
              refine lv_goto (tgt := 12) hx hb dX12_tossBy_100 (by decide) ?_
              exact ih _ _ _ _ _ _ _ h hP hD hS (lv_sub hl [0, 1, 3, 4, 5, 6, 7] rfl) hk
            · have h := iF c6 h
              refine lv_iconst (v := 1) hx hb dX12_tossBy_60 (by decide) ?_
              refine lv_goto (tgt := 65) hx hb dX12_tossBy_61 (by decide) ?_
              refine lv_iadd hx hb dX12_tossBy_65 ?_
              refine lv_istore (lv' := [(5, .int (x5_12 + 1)), (7, .int q4), (6, .int x6_12), (4, .int (9 * p1)), (0, .ref (a 0)), (1, .int p1), (2, .int p2), (3, .int p3)]) hx hb dX12_tossBy_66 hl (by decide) rfl (fun ls hl => ?_)
              refine lv_aload_n hx hb dX12_tossBy_68 rfl (lv_at hl 4 rfl) ?_
              refine va_get (D := D) (ci := 5) (v := .ref (a 11)) (C := RX12) (T := TX12) (N := 30) hx hb hts hiX12 hown hK.1 hP 0 rfl rfl 19 (by decide) (hts (.fieldLink RX12 40 "WinnowedGuiltModel" "moved" "[I") (by decide +kernel)) (fun _ h9 => h9) rfl dX12_tossBy_69 ?_
              refine lv_iload hx hb dX12_tossBy_72 (lv_at hl 2 rfl) ?_
              refine lv_iload hx hb dX12_tossBy_74 (lv_at hl 1 rfl) ?_
              obtain ⟨hi7, h⟩ := gI_some h
              refine va_iast hx hb hK.1 hP hD hS 11 0 rfl rfl hi7 dX12_tossBy_76 (fun H locs hP hD hS => ?_)
              have hP : va_P D vwCl (mW a cI cZ mPeople mHours mGrains mKind mWind mWeight mSort mOwner mNow mReadKind mReadWind mReadGrain mReadPeople mReadHours mReadGrains mText mLength mAt mFaultAt (upd mMoved_12x (Int32.toNatClampNeg x6_12) q4) mActs mNext mRow mSeen mSeenKind mSeenLift mSeenFlew mSeed mIsKept mKept) H := hP
              have hD : va_D A (mW a cI cZ mPeople mHours mGrains mKind mWind mWeight mSort mOwner mNow mReadKind mReadWind mReadGrain mReadPeople mReadHours mReadGrains mText mLength mAt mFaultAt (upd mMoved_12x (Int32.toNatClampNeg x6_12) q4) mActs mNext mRow mSeen mSeenKind mSeenLift mSeenFlew mSeed mIsKept mKept) := hD
              refine lv_goto (tgt := 97) hx hb dX12_tossBy_77 (by decide) ?_
              refine lv_iinc (v := (x6_12 + 1)) (lv' := [(6, .int (x6_12 + 1)), (5, .int (x5_12 + 1)), (7, .int q4), (4, .int (9 * p1)), (0, .ref (a 0)), (1, .int p1), (2, .int p2), (3, .int p3)]) hx hb dX12_tossBy_97 hl (k := 2) rfl rfl (by decide) rfl (fun ls hl => ?_)
              refine lv_goto (tgt := 12) hx hb dX12_tossBy_100 (by decide) ?_
              exact ih _ _ _ _ _ _ _ h hP hD hS (lv_sub hl [0, 1, 3, 4, 5, 6, 7] rfl) hk
  refine L12 _ _ _ _ _ _ _ _ h hP hD hS hl (fun y6_12 y5_12 mMoved_12 H locs ls h hP hD hS hl => ?_)
  refine lv_iconst (v := 0) hx hb dX12_tossBy_103 (by decide) ?_
  refine lv_istore (lv' := [(6, .int 0), (5, .int y5_12), (4, .int (9 * p1)), (0, .ref (a 0)), (1, .int p1), (2, .int p2), (3, .int p3)]) hx hb dX12_tossBy_104 hl (by decide) rfl (fun ls hl => ?_)
  have L106 : ∀ (n : Nat) (x6_106 : Int32) (mNow_106x : (Nat → Int32)) (H : Heap) (locs : List Loc) (ls : Array Slot) (kx : Int32 → (Nat → Int32) → Option (Int32 × (Nat → Int32) × (Nat → Int32))), mm_tossBy_L106 mGrains mMoved_12 (9 * p1) kx n x6_106 mNow_106x = some (rv, mNow_r, mMoved_r) → va_P D vwCl (mW a cI cZ mPeople mHours mGrains mKind mWind mWeight mSort mOwner mNow_106x mReadKind mReadWind mReadGrain mReadPeople mReadHours mReadGrains mText mLength mAt mFaultAt mMoved_12 mActs mNext mRow mSeen mSeenKind mSeenLift mSeenFlew mSeed mIsKept mKept) H → va_D A (mW a cI cZ mPeople mHours mGrains mKind mWind mWeight mSort mOwner mNow_106x mReadKind mReadWind mReadGrain mReadPeople mReadHours mReadGrains mText mLength mAt mFaultAt mMoved_12 mActs mNext mRow mSeen mSeenKind mSeenLift mSeenFlew mSeed mIsKept mKept) → va_S A s.heap H locs → lv_has ls 8 [(6, .int x6_106), (5, .int y5_12), (4, .int (9 * p1)), (0, .ref (a 0)), (1, .int p1), (2, .int p2), (3, .int p3)] → (∀ (y6_106 : Int32) (mNow_106 : (Nat → Int32)) (H : Heap) (locs : List Loc) (ls : Array Slot), kx y6_106 mNow_106 = some (rv, mNow_r, mMoved_r) → va_P D vwCl (mW a cI cZ mPeople mHours mGrains mKind mWind mWeight mSort mOwner mNow_106 mReadKind mReadWind mReadGrain mReadPeople mReadHours mReadGrains mText mLength mAt mFaultAt mMoved_12 mActs mNext mRow mSeen mSeenKind mSeenLift mSeenFlew mSeed mIsKept mKept) H → va_D A (mW a cI cZ mPeople mHours mGrains mKind mWind mWeight mSort mOwner mNow_106 mReadKind mReadWind mReadGrain mReadPeople mReadHours mReadGrains mText mLength mAt mFaultAt mMoved_12 mActs mNext mRow mSeen mSeenKind mSeenLift mSeenFlew mSeed mIsKept mKept) → va_S A s.heap H locs → lv_has ls 8 [(6, .int y6_106), (5, .int y5_12), (4, .int (9 * p1)), (0, .ref (a 0)), (1, .int p1), (2, .int p2), (3, .int p3)] → W p l e (headSpec wsX12_tossBy ({ frames := 4, cells := 0, slots := 0, locals := 93 } : Room)).room s m ([.ref (a 0), .int p1, .int p2, .int p3] : List Value).toArray below meth c H locs 0 0 (MQ below (wQi D (mW a cI cZ mPeople mHours mGrains mKind mWind mWeight mSort mOwner mNow mReadKind mReadWind mReadGrain mReadPeople mReadHours mReadGrains mText mLength mAt mFaultAt mMoved mActs mNext mRow mSeen mSeenKind mSeenLift mSeenFlew mSeed mIsKept mKept) (mW a cI cZ mPeople mHours mGrains mKind mWind mWeight mSort mOwner mNow_r mReadKind mReadWind mReadGrain mReadPeople mReadHours mReadGrains mText mLength mAt mFaultAt mMoved_r mActs mNext mRow mSeen mSeenKind mSeenLift mSeenFlew mSeed mIsKept mKept) s.heap.size rv) ([.ref (a 0), .int p1, .int p2, .int p3] : List Value).toArray s 0 0 (va_A (mW a cI cZ mPeople mHours mGrains mKind mWind mWeight mSort mOwner mNow mReadKind mReadWind mReadGrain mReadPeople mReadHours mReadGrains mText mLength mAt mFaultAt mMoved mActs mNext mRow mSeen mSeenKind mSeenLift mSeenFlew mSeed mIsKept mKept) s.heap.size)) (F0 m 138 ls [])) → W p l e (headSpec wsX12_tossBy ({ frames := 4, cells := 0, slots := 0, locals := 93 } : Room)).room s m ([.ref (a 0), .int p1, .int p2, .int p3] : List Value).toArray below meth c H locs 0 0 (MQ below (wQi D (mW a cI cZ mPeople mHours mGrains mKind mWind mWeight mSort mOwner mNow mReadKind mReadWind mReadGrain mReadPeople mReadHours mReadGrains mText mLength mAt mFaultAt mMoved mActs mNext mRow mSeen mSeenKind mSeenLift mSeenFlew mSeed mIsKept mKept) (mW a cI cZ mPeople mHours mGrains mKind mWind mWeight mSort mOwner mNow_r mReadKind mReadWind mReadGrain mReadPeople mReadHours mReadGrains mText mLength mAt mFaultAt mMoved_r mActs mNext mRow mSeen mSeenKind mSeenLift mSeenFlew mSeed mIsKept mKept) s.heap.size rv) ([.ref (a 0), .int p1, .int p2, .int p3] : List Value).toArray s 0 0 (va_A (mW a cI cZ mPeople mHours mGrains mKind mWind mWeight mSort mOwner mNow mReadKind mReadWind mReadGrain mReadPeople mReadHours mReadGrains mText mLength mAt mFaultAt mMoved mActs mNext mRow mSeen mSeenKind mSeenLift mSeenFlew mSeed mIsKept mKept) s.heap.size)) (F0 m 106 ls []) := by
    intro n
    induction n with
    | zero => intro _ _ _ _ _ _ h; rw [mm_tossBy_L106.eq_1] at h; cases h
    | succ n ih =>
      intro x6_106 mNow_106x H locs ls kx h hP hD hS hl hk
      rw [mm_tossBy_L106.eq_2] at h
      refine lv_iload hx hb dX12_tossBy_106 (lv_at hl 0 rfl) ?_
      refine lv_aload_n hx hb dX12_tossBy_108 rfl (lv_at hl 3 rfl) ?_
      refine va_get (D := D) (ci := 5) (v := .int mGrains) (C := RX12) (T := TX12) (N := 30) hx hb hts hiX12 hown hK.1 hP 0 rfl rfl 2 (by decide) (hts (.fieldLink RX12 105 "WinnowedGuiltModel" "grains" "I") (by decide +kernel)) (fun _ h9 => h9) rfl dX12_tossBy_109 ?_
      refine lv_icmp_ge (tgt := 138) hx hb dX12_tossBy_112 (by decide) (fun c1 => ?_) (fun c1 => ?_)
      · have h := iT c1 h
        exact hk _ _ _ _ _ h hP hD hS (lv_sub hl [0, 1, 2, 3, 4, 5, 6] rfl)
      · have h := iF c1 h
        refine lv_aload_n hx hb dX12_tossBy_115 rfl (lv_at hl 3 rfl) ?_
        refine va_get (D := D) (ci := 5) (v := .ref (a 6)) (C := RX12) (T := TX12) (N := 30) hx hb hts hiX12 hown hK.1 hP 0 rfl rfl 8 (by decide) (hts (.fieldLink RX12 25 "WinnowedGuiltModel" "now" "[I") (by decide +kernel)) (fun _ h9 => h9) rfl dX12_tossBy_116 ?_
        refine lv_iload hx hb dX12_tossBy_119 (lv_at hl 2 rfl) ?_
        refine lv_iload hx hb dX12_tossBy_121 (lv_at hl 0 rfl) ?_
        refine lv_iadd hx hb dX12_tossBy_123 ?_
        refine lv_aload_n hx hb dX12_tossBy_124 rfl (lv_at hl 3 rfl) ?_
        refine va_get (D := D) (ci := 5) (v := .ref (a 11)) (C := RX12) (T := TX12) (N := 30) hx hb hts hiX12 hown hK.1 hP 0 rfl rfl 19 (by decide) (hts (.fieldLink RX12 40 "WinnowedGuiltModel" "moved" "[I") (by decide +kernel)) (fun _ h9 => h9) rfl dX12_tossBy_125 ?_
        refine lv_iload hx hb dX12_tossBy_128 (lv_at hl 0 rfl) ?_
        obtain ⟨hi2, h⟩ := gI_some h
        refine ldI (v := (mMoved_12 (Int32.toNatClampNeg x6_106))) hx hb hK.1 hP 11 rfl rfl hi2 rfl dX12_tossBy_130 ?_
        obtain ⟨hi3, h⟩ := gI_some h
        refine va_iast hx hb hK.1 hP hD hS 6 0 rfl rfl hi3 dX12_tossBy_131 (fun H locs hP hD hS => ?_)
        have hP : va_P D vwCl (mW a cI cZ mPeople mHours mGrains mKind mWind mWeight mSort mOwner (upd mNow_106x (Int32.toNatClampNeg ((9 * p1) + x6_106)) (mMoved_12 (Int32.toNatClampNeg x6_106))) mReadKind mReadWind mReadGrain mReadPeople mReadHours mReadGrains mText mLength mAt mFaultAt mMoved_12 mActs mNext mRow mSeen mSeenKind mSeenLift mSeenFlew mSeed mIsKept mKept) H := hP
        have hD : va_D A (mW a cI cZ mPeople mHours mGrains mKind mWind mWeight mSort mOwner (upd mNow_106x (Int32.toNatClampNeg ((9 * p1) + x6_106)) (mMoved_12 (Int32.toNatClampNeg x6_106))) mReadKind mReadWind mReadGrain mReadPeople mReadHours mReadGrains mText mLength mAt mFaultAt mMoved_12 mActs mNext mRow mSeen mSeenKind mSeenLift mSeenFlew mSeed mIsKept mKept) := hD
        refine lv_iinc (v := (x6_106 + 1)) (lv' := [(6, .int (x6_106 + 1)), (5, .int y5_12), (4, .int (9 * p1)), (0, .ref (a 0)), (1, .int p1), (2, .int p2), (3, .int p3)]) hx hb dX12_tossBy_132 hl (k := 0) rfl rfl (by decide) rfl (fun ls hl => ?_)
        refine lv_goto (tgt := 106) hx hb dX12_tossBy_135 (by decide) ?_
        exact ih _ _ _ _ _ _ h hP hD hS (lv_sub hl [0, 1, 2, 3, 4, 5, 6] rfl) hk
  refine L106 _ _ _ _ _ _ _ h hP hD hS hl (fun y6_106 mNow_106 H locs ls h hP hD hS hl => ?_)
  refine lv_aload_n hx hb dX12_tossBy_138 rfl (lv_at hl 3 rfl) ?_
  refine va_get (D := D) (ci := 5) (v := .ref (a 6)) (C := RX12) (T := TX12) (N := 30) hx hb hts hiX12 hown hK.1 hP 0 rfl rfl 8 (by decide) (hts (.fieldLink RX12 25 "WinnowedGuiltModel" "now" "[I") (by decide +kernel)) (fun _ h9 => h9) rfl dX12_tossBy_139 ?_
  refine lv_iload hx hb dX12_tossBy_142 (lv_at hl 2 rfl) ?_
  refine lv_bipush (v := 8) hx hb dX12_tossBy_144 (by decide) ?_
  refine lv_iadd hx hb dX12_tossBy_146 ?_
  refine lv_dup2_11 hx hb dX12_tossBy_147 rfl rfl ?_
  obtain ⟨hi1, h⟩ := gI_some h
  refine ldI (v := (mNow_106 (Int32.toNatClampNeg ((9 * p1) + 8)))) hx hb hK.1 hP 6 rfl rfl hi1 rfl dX12_tossBy_148 ?_
  refine lv_iconst (v := 1) hx hb dX12_tossBy_149 (by decide) ?_
  refine lv_iadd hx hb dX12_tossBy_150 ?_
  obtain ⟨hi2, h⟩ := gI_some h
  refine va_iast hx hb hK.1 hP hD hS 6 0 rfl rfl hi2 dX12_tossBy_151 (fun H locs hP hD hS => ?_)
  have hP : va_P D vwCl (mW a cI cZ mPeople mHours mGrains mKind mWind mWeight mSort mOwner (upd mNow_106 (Int32.toNatClampNeg ((9 * p1) + 8)) ((mNow_106 (Int32.toNatClampNeg ((9 * p1) + 8))) + 1)) mReadKind mReadWind mReadGrain mReadPeople mReadHours mReadGrains mText mLength mAt mFaultAt mMoved_12 mActs mNext mRow mSeen mSeenKind mSeenLift mSeenFlew mSeed mIsKept mKept) H := hP
  have hD : va_D A (mW a cI cZ mPeople mHours mGrains mKind mWind mWeight mSort mOwner (upd mNow_106 (Int32.toNatClampNeg ((9 * p1) + 8)) ((mNow_106 (Int32.toNatClampNeg ((9 * p1) + 8))) + 1)) mReadKind mReadWind mReadGrain mReadPeople mReadHours mReadGrains mText mLength mAt mFaultAt mMoved_12 mActs mNext mRow mSeen mSeenKind mSeenLift mSeenFlew mSeed mIsKept mKept) := hD
  refine lv_iload hx hb dX12_tossBy_152 (lv_at hl 1 rfl) ?_
  cases h
  subst hAe
  exact W.iret hx hb hr (fun t ht _ => ⟨⟨_, (), rfl, rfl, by rw [ht]; exact hP, hD⟩, hS.F ht⟩) hS.2.2 dX12_tossBy_154

set_option maxHeartbeats 4000000 in
set_option maxRecDepth 100000 in
theorem c_mm_lyingAt (l : Launch) (D : va_G) (cI cJ cZ : ClassId) (a : Nat → Nat) (mPeople : Int32) (mHours : Int32) (mGrains : Int32) (mKind : Nat → Int32) (mWind : Nat → Int32) (mWeight : Nat → Int32) (mSort : Nat → Int32) (mOwner : Nat → Int32) (mNow : Nat → Int32) (mReadKind : Nat → Int32) (mReadWind : Nat → Int32) (mReadGrain : Nat → Int32) (mReadPeople : Int32) (mReadHours : Int32) (mReadGrains : Int32) (mText : Nat → Int32) (mLength : Int32) (mAt : Int32) (mFaultAt : Int32) (mMoved : Nat → Int32) (mActs : Int32) (mNext : Int32) (mRow : Nat → Int32) (mSeen : Int32) (mSeenKind : Nat → Int32) (mSeenLift : Nat → Int32) (mSeenFlew : Nat → Int32) (mSeed : Int64) (mIsKept : Nat → Int32) (mKept : Nat → Int32)  (H0 : Heap) (hP : va_P D vwCl (mW a cI cZ mPeople mHours mGrains mKind mWind mWeight mSort mOwner mNow mReadKind mReadWind mReadGrain mReadPeople mReadHours mReadGrains mText mLength mAt mFaultAt mMoved mActs mNext mRow mSeen mSeenKind mSeenLift mSeenFlew mSeed mIsKept mKept) H0) (p1 : Int32) (p2 : Int32) (rv : Int32) (h : mm_lyingAt mGrains mNow p1 p2 = some rv) : Met l yX12_lyingAt wsX12_lyingAt ({ frames := 0, cells := 0, slots := 0, locals := 0 } : Room) (rPc D cI cJ cZ H0 [.ref (a 0), .int p1, .int p2]) (vp_Si (fun r => r = rv)) 0 0 (fun _ => False) := by
  unfold mm_lyingAt at h
  refine Met.ofW (cc := cX12_lyingAt) (maxL := 5) (ret := (some .int)) (by decide) rfl ?_
  intro p e s m args below meth c s₁ B hml hv
  obtain ⟨rfl, hH, hK⟩ := hv
  have hx := B.exec
  have hb := B.bytes
  have hr := B.returns
  have hts := atoms_spec (ws := wsX12_lyingAt) B.pre
  have hown : s.vm.findClass RX12 = some m.cls := findClass_of_methodNamed B.named
  have hlocks := B.notSynchronized
  subst hH
  have hl := lv_entry ([.ref (a 0), .int p1, .int p2]) (n := 5) (Nat.le_of_ble_eq_true rfl)
  rw [lg_entry_eq]
  generalize (lg_sl ([.ref (a 0), .int p1, .int p2]) ++ List.replicate (5 - (lg_sl ([.ref (a 0), .int p1, .int p2])).length) Slot.unset).toArray = ls at hl ⊢
  have hl : lv_has ls 5 [(0, .ref (a 0)), (1, .int p1), (2, .int p2)] := hl
  have hiX12 : ∀ w ∈ u_ws RX12 TX12 30, w ∈ wsX12_lyingAt := fun w hw => List.mem_cons_of_mem _ (List.mem_append_right _ hw)
  refine lv_iconst (v := 0) hx hb dX12_lyingAt_0 (by decide) ?_
  refine lv_istore_n (lv' := [(3, .int 0), (0, .ref (a 0)), (1, .int p1), (2, .int p2)]) hx hb dX12_lyingAt_1 rfl hl (by decide) rfl (fun ls hl => ?_)
  refine lv_iconst (v := 0) hx hb dX12_lyingAt_2 (by decide) ?_
  refine lv_istore (lv' := [(4, .int 0), (3, .int 0), (0, .ref (a 0)), (1, .int p1), (2, .int p2)]) hx hb dX12_lyingAt_3 hl (by decide) rfl (fun ls hl => ?_)
  have L5 : ∀ (n : Nat) (x4_5 : Int32) (x3_5 : Int32) (ls : Array Slot) (kx : Int32 → Int32 → Option (Int32)), mm_lyingAt_L5 mGrains mNow p1 p2 kx n x4_5 x3_5 = some rv → lv_has ls 5 [(4, .int x4_5), (3, .int x3_5), (0, .ref (a 0)), (1, .int p1), (2, .int p2)] → (∀ (y4_5 : Int32) (y3_5 : Int32) (ls : Array Slot), kx y4_5 y3_5 = some rv → lv_has ls 5 [(4, .int y4_5), (3, .int y3_5), (0, .ref (a 0)), (1, .int p1), (2, .int p2)] → W p l e (headSpec wsX12_lyingAt ({ frames := 0, cells := 0, slots := 0, locals := 0 } : Room)).room s m ([.ref (a 0), .int p1, .int p2] : List Value).toArray below meth c s.heap [] 0 0 (MQ below (vp_Si (fun r => r = rv)) ([.ref (a 0), .int p1, .int p2] : List Value).toArray s 0 0 (fun _ => False)) (F0 m 47 ls [])) → W p l e (headSpec wsX12_lyingAt ({ frames := 0, cells := 0, slots := 0, locals := 0 } : Room)).room s m ([.ref (a 0), .int p1, .int p2] : List Value).toArray below meth c s.heap [] 0 0 (MQ below (vp_Si (fun r => r = rv)) ([.ref (a 0), .int p1, .int p2] : List Value).toArray s 0 0 (fun _ => False)) (F0 m 5 ls []) := by
    intro n
    induction n with
    | zero => intro _ _ _ _ h; rw [mm_lyingAt_L5.eq_1] at h; cases h
    | succ n ih =>
      intro x4_5 x3_5 ls kx h hl hk
      rw [mm_lyingAt_L5.eq_2] at h
      refine lv_iload hx hb dX12_lyingAt_5 (lv_at hl 0 rfl) ?_
      refine lv_aload_n hx hb dX12_lyingAt_7 rfl (lv_at hl 2 rfl) ?_
      refine va_get (D := D) (ci := 5) (v := .int mGrains) (C := RX12) (T := TX12) (N := 30) hx hb hts hiX12 hown hK.1 hP 0 rfl rfl 2 (by decide) (hts (.fieldLink RX12 105 "WinnowedGuiltModel" "grains" "I") (by decide +kernel)) (fun _ h9 => h9) rfl dX12_lyingAt_8 ?_
      refine lv_icmp_ge (tgt := 47) hx hb dX12_lyingAt_11 (by decide) (fun c1 => ?_) (fun c1 => ?_)
      · have h := iT c1 h
        exact hk _ _ _ h (lv_sub hl [0, 1, 2, 3, 4] rfl)
      · have h := iF c1 h
        refine lv_iload_n hx hb dX12_lyingAt_14 rfl (lv_at hl 1 rfl) ?_
        refine lv_aload_n hx hb dX12_lyingAt_15 rfl (lv_at hl 2 rfl) ?_
        refine va_get (D := D) (ci := 5) (v := .ref (a 6)) (C := RX12) (T := TX12) (N := 30) hx hb hts hiX12 hown hK.1 hP 0 rfl rfl 8 (by decide) (hts (.fieldLink RX12 25 "WinnowedGuiltModel" "now" "[I") (by decide +kernel)) (fun _ h9 => h9) rfl dX12_lyingAt_16 ?_
        refine lv_bipush (v := 9) hx hb dX12_lyingAt_19 (by decide) ?_
        refine lv_iload_n hx hb dX12_lyingAt_21 rfl (lv_at hl 3 rfl) ?_
        refine lv_imul hx hb dX12_lyingAt_22 ?_
        refine lv_iload hx hb dX12_lyingAt_23 (lv_at hl 0 rfl) ?_
        refine lv_iadd hx hb dX12_lyingAt_25 ?_
        obtain ⟨hi2, h⟩ := gI_some h
        refine ldI (v := (mNow (Int32.toNatClampNeg ((9 * p1) + x4_5)))) hx hb hK.1 hP 6 rfl rfl hi2 rfl dX12_lyingAt_26 ?_
        refine lv_iload_n hx hb dX12_lyingAt_27 rfl (lv_at hl 4 rfl) ?_
        refine lv_icmp_ne (tgt := 38) hx hb dX12_lyingAt_28 (by decide) (fun c3 => ?_) (fun c3 => ?_)
        · have h := iF c3 h
          refine lv_iconst (v := 0) hx hb dX12_lyingAt_38 (by decide) ?_
          refine lv_ior hx hb dX12_lyingAt_39 ?_
          refine lv_istore_n (lv' := [(3, .int (x3_5 ||| 0)), (4, .int x4_5), (0, .ref (a 0)), (1, .int p1), (2, .int p2)]) hx hb dX12_lyingAt_40 rfl hl (by decide) rfl (fun ls hl => ?_)
          refine lv_iinc (v := (x4_5 + 1)) (lv' := [(4, .int (x4_5 + 1)), (3, .int (x3_5 ||| 0)), (0, .ref (a 0)), (1, .int p1), (2, .int p2)]) hx hb dX12_lyingAt_41 hl (k := 1) rfl rfl (by decide) rfl (fun ls hl => ?_)
          refine lv_goto (tgt := 5) hx hb dX12_lyingAt_44 (by decide) ?_
          exact ih _ _ _ _ h (lv_sub hl [0, 1, 2, 3, 4] rfl) hk
        · have h := iT c3 h
          refine lv_iconst (v := 1) hx hb dX12_lyingAt_31 (by decide) ?_
          refine lv_iload hx hb dX12_lyingAt_32 (lv_at hl 0 rfl) ?_
          refine lv_ishl hx hb dX12_lyingAt_34 ?_
          refine lv_goto (tgt := 39) hx hb dX12_lyingAt_35 (by decide) ?_
          refine lv_ior hx hb dX12_lyingAt_39 ?_
          refine lv_istore_n (lv' := [(3, .int (x3_5 ||| (1 <<< (x4_5 &&& 31)))), (4, .int x4_5), (0, .ref (a 0)), (1, .int p1), (2, .int p2)]) hx hb dX12_lyingAt_40 rfl hl (by decide) rfl (fun ls hl => ?_)
          refine lv_iinc (v := (x4_5 + 1)) (lv' := [(4, .int (x4_5 + 1)), (3, .int (x3_5 ||| (1 <<< (x4_5 &&& 31)))), (0, .ref (a 0)), (1, .int p1), (2, .int p2)]) hx hb dX12_lyingAt_41 hl (k := 1) rfl rfl (by decide) rfl (fun ls hl => ?_)
          refine lv_goto (tgt := 5) hx hb dX12_lyingAt_44 (by decide) ?_
          exact ih _ _ _ _ h (lv_sub hl [0, 1, 2, 3, 4] rfl) hk
  refine L5 _ _ _ _ _ h hl (fun y4_5 y3_5 ls h hl => ?_)
  refine lv_iload_n hx hb dX12_lyingAt_47 rfl (lv_at hl 1 rfl) ?_
  exact W.iret hx hb hr (fun t ht _ => ⟨_, rfl, Option.some.inj h, ht⟩) (fun _ q => absurd q List.not_mem_nil) dX12_lyingAt_48

set_option maxHeartbeats 4000000 in
set_option maxRecDepth 100000 in
theorem c_mm_rightOn (l : Launch) (D : va_G) (cI cJ cZ : ClassId) (a : Nat → Nat) (mPeople : Int32) (mHours : Int32) (mGrains : Int32) (mKind : Nat → Int32) (mWind : Nat → Int32) (mWeight : Nat → Int32) (mSort : Nat → Int32) (mOwner : Nat → Int32) (mNow : Nat → Int32) (mReadKind : Nat → Int32) (mReadWind : Nat → Int32) (mReadGrain : Nat → Int32) (mReadPeople : Int32) (mReadHours : Int32) (mReadGrains : Int32) (mText : Nat → Int32) (mLength : Int32) (mAt : Int32) (mFaultAt : Int32) (mMoved : Nat → Int32) (mActs : Int32) (mNext : Int32) (mRow : Nat → Int32) (mSeen : Int32) (mSeenKind : Nat → Int32) (mSeenLift : Nat → Int32) (mSeenFlew : Nat → Int32) (mSeed : Int64) (mIsKept : Nat → Int32) (mKept : Nat → Int32)  (H0 : Heap) (hP : va_P D vwCl (mW a cI cZ mPeople mHours mGrains mKind mWind mWeight mSort mOwner mNow mReadKind mReadWind mReadGrain mReadPeople mReadHours mReadGrains mText mLength mAt mFaultAt mMoved mActs mNext mRow mSeen mSeenKind mSeenLift mSeenFlew mSeed mIsKept mKept) H0) (p1 : Int32) (rv : Int32) (h : mm_rightOn mGrains mOwner mNow p1 = some rv) : Met l yX12_rightOn wsX12_rightOn ({ frames := 0, cells := 0, slots := 0, locals := 0 } : Room) (rPc D cI cJ cZ H0 [.ref (a 0), .int p1]) (vp_Si (fun r => r = rv)) 0 0 (fun _ => False) := by
  unfold mm_rightOn at h
  refine Met.ofW (cc := cX12_rightOn) (maxL := 4) (ret := (some .int)) (by decide) rfl ?_
  intro p e s m args below meth c s₁ B hml hv
  obtain ⟨rfl, hH, hK⟩ := hv
  have hx := B.exec
  have hb := B.bytes
  have hr := B.returns
  have hts := atoms_spec (ws := wsX12_rightOn) B.pre
  have hown : s.vm.findClass RX12 = some m.cls := findClass_of_methodNamed B.named
  have hlocks := B.notSynchronized
  subst hH
  have hl := lv_entry ([.ref (a 0), .int p1]) (n := 4) (Nat.le_of_ble_eq_true rfl)
  rw [lg_entry_eq]
  generalize (lg_sl ([.ref (a 0), .int p1]) ++ List.replicate (4 - (lg_sl ([.ref (a 0), .int p1])).length) Slot.unset).toArray = ls at hl ⊢
  have hl : lv_has ls 4 [(0, .ref (a 0)), (1, .int p1)] := hl
  have hiX12 : ∀ w ∈ u_ws RX12 TX12 30, w ∈ wsX12_rightOn := fun w hw => List.mem_cons_of_mem _ (List.mem_append_right _ hw)
  refine lv_iconst (v := 0) hx hb dX12_rightOn_0 (by decide) ?_
  refine lv_istore_n (lv' := [(2, .int 0), (0, .ref (a 0)), (1, .int p1)]) hx hb dX12_rightOn_1 rfl hl (by decide) rfl (fun ls hl => ?_)
  refine lv_iconst (v := 0) hx hb dX12_rightOn_2 (by decide) ?_
  refine lv_istore_n (lv' := [(3, .int 0), (2, .int 0), (0, .ref (a 0)), (1, .int p1)]) hx hb dX12_rightOn_3 rfl hl (by decide) rfl (fun ls hl => ?_)
  have L4 : ∀ (n : Nat) (x3_4 : Int32) (x2_4 : Int32) (ls : Array Slot) (kx : Int32 → Int32 → Option (Int32)), mm_rightOn_L4 mGrains mOwner mNow p1 kx n x3_4 x2_4 = some rv → lv_has ls 4 [(3, .int x3_4), (2, .int x2_4), (0, .ref (a 0)), (1, .int p1)] → (∀ (y3_4 : Int32) (y2_4 : Int32) (ls : Array Slot), kx y3_4 y2_4 = some rv → lv_has ls 4 [(3, .int y3_4), (2, .int y2_4), (0, .ref (a 0)), (1, .int p1)] → W p l e (headSpec wsX12_rightOn ({ frames := 0, cells := 0, slots := 0, locals := 0 } : Room)).room s m ([.ref (a 0), .int p1] : List Value).toArray below meth c s.heap [] 0 0 (MQ below (vp_Si (fun r => r = rv)) ([.ref (a 0), .int p1] : List Value).toArray s 0 0 (fun _ => False)) (F0 m 48 ls [])) → W p l e (headSpec wsX12_rightOn ({ frames := 0, cells := 0, slots := 0, locals := 0 } : Room)).room s m ([.ref (a 0), .int p1] : List Value).toArray below meth c s.heap [] 0 0 (MQ below (vp_Si (fun r => r = rv)) ([.ref (a 0), .int p1] : List Value).toArray s 0 0 (fun _ => False)) (F0 m 4 ls []) := by
    intro n
    induction n with
    | zero => intro _ _ _ _ h; rw [mm_rightOn_L4.eq_1] at h; cases h
    | succ n ih =>
      intro x3_4 x2_4 ls kx h hl hk
      rw [mm_rightOn_L4.eq_2] at h
      refine lv_iload_n hx hb dX12_rightOn_4 rfl (lv_at hl 0 rfl) ?_
      refine lv_aload_n hx hb dX12_rightOn_5 rfl (lv_at hl 2 rfl) ?_
      refine va_get (D := D) (ci := 5) (v := .int mGrains) (C := RX12) (T := TX12) (N := 30) hx hb hts hiX12 hown hK.1 hP 0 rfl rfl 2 (by decide) (hts (.fieldLink RX12 105 "WinnowedGuiltModel" "grains" "I") (by decide +kernel)) (fun _ h9 => h9) rfl dX12_rightOn_6 ?_
      refine lv_icmp_ge (tgt := 48) hx hb dX12_rightOn_9 (by decide) (fun c1 => ?_) (fun c1 => ?_)
      · have h := iT c1 h
        exact hk _ _ _ h (lv_sub hl [0, 1, 2, 3] rfl)
      · have h := iF c1 h
        refine lv_iload_n hx hb dX12_rightOn_12 rfl (lv_at hl 1 rfl) ?_
        refine lv_aload_n hx hb dX12_rightOn_13 rfl (lv_at hl 2 rfl) ?_
        refine va_get (D := D) (ci := 5) (v := .ref (a 6)) (C := RX12) (T := TX12) (N := 30) hx hb hts hiX12 hown hK.1 hP 0 rfl rfl 8 (by decide) (hts (.fieldLink RX12 25 "WinnowedGuiltModel" "now" "[I") (by decide +kernel)) (fun _ h9 => h9) rfl dX12_rightOn_14 ?_
        refine lv_bipush (v := 9) hx hb dX12_rightOn_17 (by decide) ?_
        refine lv_iload_n hx hb dX12_rightOn_19 rfl (lv_at hl 3 rfl) ?_
        refine lv_imul hx hb dX12_rightOn_20 ?_
        refine lv_iload_n hx hb dX12_rightOn_21 rfl (lv_at hl 0 rfl) ?_
        refine lv_iadd hx hb dX12_rightOn_22 ?_
        obtain ⟨hi2, h⟩ := gI_some h
        refine ldI (v := (mNow (Int32.toNatClampNeg ((9 * p1) + x3_4)))) hx hb hK.1 hP 6 rfl rfl hi2 rfl dX12_rightOn_23 ?_
        refine lv_aload_n hx hb dX12_rightOn_24 rfl (lv_at hl 2 rfl) ?_
        refine va_get (D := D) (ci := 5) (v := .ref (a 5)) (C := RX12) (T := TX12) (N := 30) hx hb hts hiX12 hown hK.1 hP 0 rfl rfl 7 (by decide) (hts (.fieldLink RX12 22 "WinnowedGuiltModel" "owner" "[I") (by decide +kernel)) (fun _ h9 => h9) rfl dX12_rightOn_25 ?_
        refine lv_iload_n hx hb dX12_rightOn_28 rfl (lv_at hl 0 rfl) ?_
        obtain ⟨hi3, h⟩ := gI_some h
        refine ldI (v := (mOwner (Int32.toNatClampNeg x3_4))) hx hb hK.1 hP 5 rfl rfl hi3 rfl dX12_rightOn_29 ?_
        refine lv_icmp_ne (tgt := 39) hx hb dX12_rightOn_30 (by decide) (fun c4 => ?_) (fun c4 => ?_)
        · have h := iF c4 h
          refine lv_iconst (v := 0) hx hb dX12_rightOn_39 (by decide) ?_
          refine lv_ior hx hb dX12_rightOn_40 ?_
          refine lv_istore_n (lv' := [(2, .int (x2_4 ||| 0)), (3, .int x3_4), (0, .ref (a 0)), (1, .int p1)]) hx hb dX12_rightOn_41 rfl hl (by decide) rfl (fun ls hl => ?_)
          refine lv_iinc (v := (x3_4 + 1)) (lv' := [(3, .int (x3_4 + 1)), (2, .int (x2_4 ||| 0)), (0, .ref (a 0)), (1, .int p1)]) hx hb dX12_rightOn_42 hl (k := 1) rfl rfl (by decide) rfl (fun ls hl => ?_)
          refine lv_goto (tgt := 4) hx hb dX12_rightOn_45 (by decide) ?_
          exact ih _ _ _ _ h (lv_sub hl [0, 1, 2, 3] rfl) hk
        · have h := iT c4 h
          refine lv_iconst (v := 1) hx hb dX12_rightOn_33 (by decide) ?_
          refine lv_iload_n hx hb dX12_rightOn_34 rfl (lv_at hl 0 rfl) ?_
          refine lv_ishl hx hb dX12_rightOn_35 ?_
          refine lv_goto (tgt := 40) hx hb dX12_rightOn_36 (by decide) ?_
          refine lv_ior hx hb dX12_rightOn_40 ?_
          refine lv_istore_n (lv' := [(2, .int (x2_4 ||| (1 <<< (x3_4 &&& 31)))), (3, .int x3_4), (0, .ref (a 0)), (1, .int p1)]) hx hb dX12_rightOn_41 rfl hl (by decide) rfl (fun ls hl => ?_)
          refine lv_iinc (v := (x3_4 + 1)) (lv' := [(3, .int (x3_4 + 1)), (2, .int (x2_4 ||| (1 <<< (x3_4 &&& 31)))), (0, .ref (a 0)), (1, .int p1)]) hx hb dX12_rightOn_42 hl (k := 1) rfl rfl (by decide) rfl (fun ls hl => ?_)
          refine lv_goto (tgt := 4) hx hb dX12_rightOn_45 (by decide) ?_
          exact ih _ _ _ _ h (lv_sub hl [0, 1, 2, 3] rfl) hk
  refine L4 _ _ _ _ _ h hl (fun y3_4 y2_4 ls h hl => ?_)
  refine lv_iload_n hx hb dX12_rightOn_48 rfl (lv_at hl 1 rfl) ?_
  exact W.iret hx hb hr (fun t ht _ => ⟨_, rfl, Option.some.inj h, ht⟩) (fun _ q => absurd q List.not_mem_nil) dX12_rightOn_49

set_option maxHeartbeats 4000000 in
set_option maxRecDepth 100000 in
theorem c_mm_isClean (l : Launch) (D : va_G) (cI cJ cZ : ClassId) (a : Nat → Nat) (mPeople : Int32) (mHours : Int32) (mGrains : Int32) (mKind : Nat → Int32) (mWind : Nat → Int32) (mWeight : Nat → Int32) (mSort : Nat → Int32) (mOwner : Nat → Int32) (mNow : Nat → Int32) (mReadKind : Nat → Int32) (mReadWind : Nat → Int32) (mReadGrain : Nat → Int32) (mReadPeople : Int32) (mReadHours : Int32) (mReadGrains : Int32) (mText : Nat → Int32) (mLength : Int32) (mAt : Int32) (mFaultAt : Int32) (mMoved : Nat → Int32) (mActs : Int32) (mNext : Int32) (mRow : Nat → Int32) (mSeen : Int32) (mSeenKind : Nat → Int32) (mSeenLift : Nat → Int32) (mSeenFlew : Nat → Int32) (mSeed : Int64) (mIsKept : Nat → Int32) (mKept : Nat → Int32)  (H0 : Heap) (hP : va_P D vwCl (mW a cI cZ mPeople mHours mGrains mKind mWind mWeight mSort mOwner mNow mReadKind mReadWind mReadGrain mReadPeople mReadHours mReadGrains mText mLength mAt mFaultAt mMoved mActs mNext mRow mSeen mSeenKind mSeenLift mSeenFlew mSeed mIsKept mKept) H0) (p1 : Int32) (p2 : Int32) (rv : Int32) (h : mm_isClean mGrains mOwner mNow p1 p2 = some rv) : Met l yX12_isClean wsX12_isClean ({ frames := 1, cells := 0, slots := 0, locals := 24 } : Room) (rPc D cI cJ cZ H0 [.ref (a 0), .int p1, .int p2]) (vp_Si (fun r => r = rv)) 0 0 (fun _ => False) := by
  unfold mm_isClean at h
  refine Met.ofW (cc := cX12_isClean) (maxL := 3) (ret := (some .boolean)) (by decide) rfl ?_
  intro p e s m args below meth c s₁ B hml hv
  obtain ⟨rfl, hH, hK⟩ := hv
  have hx := B.exec
  have hb := B.bytes
  have hr := B.returns
  have hts := atoms_spec (ws := wsX12_isClean) B.pre
  have hown : s.vm.findClass RX12 = some m.cls := findClass_of_methodNamed B.named
  have hlocks := B.notSynchronized
  subst hH
  have hl := lv_entry ([.ref (a 0), .int p1, .int p2]) (n := 3) (Nat.le_of_ble_eq_true rfl)
  rw [lg_entry_eq]
  generalize (lg_sl ([.ref (a 0), .int p1, .int p2]) ++ List.replicate (3 - (lg_sl ([.ref (a 0), .int p1, .int p2])).length) Slot.unset).toArray = ls at hl ⊢
  have hl : lv_has ls 3 [(0, .ref (a 0)), (1, .int p1), (2, .int p2)] := hl
  refine lv_aload_n hx hb dX12_isClean_0 rfl (lv_at hl 0 rfl) ?_
  refine lv_iload_n hx hb dX12_isClean_1 rfl (lv_at hl 1 rfl) ?_
  refine lv_iload_n hx hb dX12_isClean_2 rfl (lv_at hl 2 rfl) ?_
  obtain ⟨q1, hq1, h⟩ := bS h
  refine rcI (va_runV (As := [.int p1, .int p2]) (rest := []) ⟨hx, hb, hml, hown, hts⟩ (c_mm_lyingAt l D cI cJ cZ a mPeople mHours mGrains mKind mWind mWeight mSort mOwner mNow mReadKind mReadWind mReadGrain mReadPeople mReadHours mReadGrains mText mLength mAt mFaultAt mMoved mActs mNext mRow mSeen mSeenKind mSeenLift mSeenFlew mSeed mIsKept mKept s.heap hP p1 p2 q1 hq1) (cwV 2 hts gX12_isClean_X12_lyingAt rfl rfl rfl (by decide +kernel) ⟨Nat.le_of_ble_eq_true rfl, Nat.le_of_ble_eq_true rfl⟩) (rPreV hK hP (ci := 5) (q0 := 0) rfl rfl) rfl rfl hl.1 rfl (lv_room (Nat.le_of_ble_eq_true rfl)) dX12_isClean_3 ⟨Nat.zero_le _, Nat.zero_le _⟩) ?_
  refine lv_aload_n hx hb dX12_isClean_6 rfl (lv_at hl 0 rfl) ?_
  refine lv_iload_n hx hb dX12_isClean_7 rfl (lv_at hl 1 rfl) ?_
  obtain ⟨q2, hq2, h⟩ := bS h
  refine rcI (va_runV (As := [.int p1]) (rest := [.int q1]) ⟨hx, hb, hml, hown, hts⟩ (c_mm_rightOn l D cI cJ cZ a mPeople mHours mGrains mKind mWind mWeight mSort mOwner mNow mReadKind mReadWind mReadGrain mReadPeople mReadHours mReadGrains mText mLength mAt mFaultAt mMoved mActs mNext mRow mSeen mSeenKind mSeenLift mSeenFlew mSeed mIsKept mKept s.heap hP p1 q2 hq2) (cwV 1 hts gX12_isClean_X12_rightOn rfl rfl rfl (by decide +kernel) ⟨Nat.le_of_ble_eq_true rfl, Nat.le_of_ble_eq_true rfl⟩) (rPreV hK hP (ci := 5) (q0 := 0) rfl rfl) rfl rfl hl.1 rfl (lv_room (Nat.le_of_ble_eq_true rfl)) dX12_isClean_8 ⟨Nat.zero_le _, Nat.zero_le _⟩) ?_
  refine lv_iconst (v := (-1)) hx hb dX12_isClean_11 (by decide) ?_
  refine lv_ixor hx hb dX12_isClean_12 ?_
  refine lv_iand hx hb dX12_isClean_13 ?_
  refine lv_if_ne (tgt := 21) hx hb dX12_isClean_14 (by decide) (fun c3 => ?_) (fun c3 => ?_)
  · have h := iF c3 h
    refine lv_iconst (v := 0) hx hb dX12_isClean_21 (by decide) ?_
    exact W.zret hx hb hr (by decide) (fun t ht _ => ⟨_, rfl, Option.some.inj h, ht⟩) (fun _ q => absurd q List.not_mem_nil) dX12_isClean_22
  · have h := iT c3 h
    refine lv_iconst (v := 1) hx hb dX12_isClean_17 (by decide) ?_
    refine lv_goto (tgt := 22) hx hb dX12_isClean_18 (by decide) ?_
    exact W.zret hx hb hr (by decide) (fun t ht _ => ⟨_, rfl, Option.some.inj h, ht⟩) (fun _ q => absurd q List.not_mem_nil) dX12_isClean_22

set_option maxHeartbeats 4000000 in
set_option maxRecDepth 100000 in
theorem c_mm_guilt (l : Launch) (D : va_G) (cI cJ cZ : ClassId) (a : Nat → Nat) (mPeople : Int32) (mHours : Int32) (mGrains : Int32) (mKind : Nat → Int32) (mWind : Nat → Int32) (mWeight : Nat → Int32) (mSort : Nat → Int32) (mOwner : Nat → Int32) (mNow : Nat → Int32) (mReadKind : Nat → Int32) (mReadWind : Nat → Int32) (mReadGrain : Nat → Int32) (mReadPeople : Int32) (mReadHours : Int32) (mReadGrains : Int32) (mText : Nat → Int32) (mLength : Int32) (mAt : Int32) (mFaultAt : Int32) (mMoved : Nat → Int32) (mActs : Int32) (mNext : Int32) (mRow : Nat → Int32) (mSeen : Int32) (mSeenKind : Nat → Int32) (mSeenLift : Nat → Int32) (mSeenFlew : Nat → Int32) (mSeed : Int64) (mIsKept : Nat → Int32) (mKept : Nat → Int32)  (H0 : Heap) (hP : va_P D vwCl (mW a cI cZ mPeople mHours mGrains mKind mWind mWeight mSort mOwner mNow mReadKind mReadWind mReadGrain mReadPeople mReadHours mReadGrains mText mLength mAt mFaultAt mMoved mActs mNext mRow mSeen mSeenKind mSeenLift mSeenFlew mSeed mIsKept mKept) H0) (p1 : Int32) (p2 : Int32) (rv : Int32) (h : mm_guilt mGrains mWeight mSort mNow p1 p2 = some rv) : Met l yX12_guilt wsX12_guilt ({ frames := 0, cells := 0, slots := 0, locals := 0 } : Room) (rPc D cI cJ cZ H0 [.ref (a 0), .int p1, .int p2]) (vp_Si (fun r => r = rv)) 0 0 (fun _ => False) := by
  unfold mm_guilt at h
  refine Met.ofW (cc := cX12_guilt) (maxL := 5) (ret := (some .int)) (by decide) rfl ?_
  intro p e s m args below meth c s₁ B hml hv
  obtain ⟨rfl, hH, hK⟩ := hv
  have hx := B.exec
  have hb := B.bytes
  have hr := B.returns
  have hts := atoms_spec (ws := wsX12_guilt) B.pre
  have hown : s.vm.findClass RX12 = some m.cls := findClass_of_methodNamed B.named
  have hlocks := B.notSynchronized
  subst hH
  have hl := lv_entry ([.ref (a 0), .int p1, .int p2]) (n := 5) (Nat.le_of_ble_eq_true rfl)
  rw [lg_entry_eq]
  generalize (lg_sl ([.ref (a 0), .int p1, .int p2]) ++ List.replicate (5 - (lg_sl ([.ref (a 0), .int p1, .int p2])).length) Slot.unset).toArray = ls at hl ⊢
  have hl : lv_has ls 5 [(0, .ref (a 0)), (1, .int p1), (2, .int p2)] := hl
  have hiX12 : ∀ w ∈ u_ws RX12 TX12 30, w ∈ wsX12_guilt := fun w hw => List.mem_cons_of_mem _ (List.mem_append_right _ hw)
  refine lv_iconst (v := 0) hx hb dX12_guilt_0 (by decide) ?_
  refine lv_istore_n (lv' := [(3, .int 0), (0, .ref (a 0)), (1, .int p1), (2, .int p2)]) hx hb dX12_guilt_1 rfl hl (by decide) rfl (fun ls hl => ?_)
  refine lv_iconst (v := 0) hx hb dX12_guilt_2 (by decide) ?_
  refine lv_istore (lv' := [(4, .int 0), (3, .int 0), (0, .ref (a 0)), (1, .int p1), (2, .int p2)]) hx hb dX12_guilt_3 hl (by decide) rfl (fun ls hl => ?_)
  have L5 : ∀ (n : Nat) (x4_5 : Int32) (x3_5 : Int32) (ls : Array Slot) (kx : Int32 → Int32 → Option (Int32)), mm_guilt_L5 mGrains mWeight mSort mNow p1 p2 kx n x4_5 x3_5 = some rv → lv_has ls 5 [(4, .int x4_5), (3, .int x3_5), (0, .ref (a 0)), (1, .int p1), (2, .int p2)] → (∀ (y4_5 : Int32) (y3_5 : Int32) (ls : Array Slot), kx y4_5 y3_5 = some rv → lv_has ls 5 [(4, .int y4_5), (3, .int y3_5), (0, .ref (a 0)), (1, .int p1), (2, .int p2)] → W p l e (headSpec wsX12_guilt ({ frames := 0, cells := 0, slots := 0, locals := 0 } : Room)).room s m ([.ref (a 0), .int p1, .int p2] : List Value).toArray below meth c s.heap [] 0 0 (MQ below (vp_Si (fun r => r = rv)) ([.ref (a 0), .int p1, .int p2] : List Value).toArray s 0 0 (fun _ => False)) (F0 m 61 ls [])) → W p l e (headSpec wsX12_guilt ({ frames := 0, cells := 0, slots := 0, locals := 0 } : Room)).room s m ([.ref (a 0), .int p1, .int p2] : List Value).toArray below meth c s.heap [] 0 0 (MQ below (vp_Si (fun r => r = rv)) ([.ref (a 0), .int p1, .int p2] : List Value).toArray s 0 0 (fun _ => False)) (F0 m 5 ls []) := by
    intro n
    induction n with
    | zero => intro _ _ _ _ h; rw [mm_guilt_L5.eq_1] at h; cases h
    | succ n ih =>
      intro x4_5 x3_5 ls kx h hl hk
      rw [mm_guilt_L5.eq_2] at h
      refine lv_iload hx hb dX12_guilt_5 (lv_at hl 0 rfl) ?_
      refine lv_aload_n hx hb dX12_guilt_7 rfl (lv_at hl 2 rfl) ?_
      refine va_get (D := D) (ci := 5) (v := .int mGrains) (C := RX12) (T := TX12) (N := 30) hx hb hts hiX12 hown hK.1 hP 0 rfl rfl 2 (by decide) (hts (.fieldLink RX12 105 "WinnowedGuiltModel" "grains" "I") (by decide +kernel)) (fun _ h9 => h9) rfl dX12_guilt_8 ?_
      refine lv_icmp_ge (tgt := 61) hx hb dX12_guilt_11 (by decide) (fun c1 => ?_) (fun c1 => ?_)
      · have h := iT c1 h
        exact hk _ _ _ h (lv_sub hl [0, 1, 2, 3, 4] rfl)
      · have h := iF c1 h
        refine lv_iload_n hx hb dX12_guilt_14 rfl (lv_at hl 1 rfl) ?_
        refine lv_aload_n hx hb dX12_guilt_15 rfl (lv_at hl 2 rfl) ?_
        refine va_get (D := D) (ci := 5) (v := .ref (a 6)) (C := RX12) (T := TX12) (N := 30) hx hb hts hiX12 hown hK.1 hP 0 rfl rfl 8 (by decide) (hts (.fieldLink RX12 25 "WinnowedGuiltModel" "now" "[I") (by decide +kernel)) (fun _ h9 => h9) rfl dX12_guilt_16 ?_
        refine lv_bipush (v := 9) hx hb dX12_guilt_19 (by decide) ?_
        refine lv_iload_n hx hb dX12_guilt_21 rfl (lv_at hl 3 rfl) ?_
        refine lv_imul hx hb dX12_guilt_22 ?_
        refine lv_iload hx hb dX12_guilt_23 (lv_at hl 0 rfl) ?_
        refine lv_iadd hx hb dX12_guilt_25 ?_
        obtain ⟨hi2, h⟩ := gI_some h
        refine ldI (v := (mNow (Int32.toNatClampNeg ((9 * p1) + x4_5)))) hx hb hK.1 hP 6 rfl rfl hi2 rfl dX12_guilt_26 ?_
        refine lv_iload_n hx hb dX12_guilt_27 rfl (lv_at hl 4 rfl) ?_
        refine lv_icmp_ne (tgt := 52) hx hb dX12_guilt_28 (by decide) (fun c3 => ?_) (fun c3 => ?_)
        · have h := iF c3 h
          refine lv_iconst (v := 0) hx hb dX12_guilt_52 (by decide) ?_
          refine lv_iadd hx hb dX12_guilt_53 ?_
          refine lv_istore_n (lv' := [(3, .int (x3_5 + 0)), (4, .int x4_5), (0, .ref (a 0)), (1, .int p1), (2, .int p2)]) hx hb dX12_guilt_54 rfl hl (by decide) rfl (fun ls hl => ?_)
          refine lv_iinc (v := (x4_5 + 1)) (lv' := [(4, .int (x4_5 + 1)), (3, .int (x3_5 + 0)), (0, .ref (a 0)), (1, .int p1), (2, .int p2)]) hx hb dX12_guilt_55 hl (k := 1) rfl rfl (by decide) rfl (fun ls hl => ?_)
          refine lv_goto (tgt := 5) hx hb dX12_guilt_58 (by decide) ?_
          exact ih _ _ _ _ h (lv_sub hl [0, 1, 2, 3, 4] rfl) hk
        · have h := iT c3 h
          refine lv_aload_n hx hb dX12_guilt_31 rfl (lv_at hl 2 rfl) ?_
          refine va_get (D := D) (ci := 5) (v := .ref (a 4)) (C := RX12) (T := TX12) (N := 30) hx hb hts hiX12 hown hK.1 hP 0 rfl rfl 6 (by decide) (hts (.fieldLink RX12 19 "WinnowedGuiltModel" "sort" "[I") (by decide +kernel)) (fun _ h9 => h9) rfl dX12_guilt_32 ?_
          refine lv_iload hx hb dX12_guilt_35 (lv_at hl 0 rfl) ?_
          obtain ⟨hi4, h⟩ := gI_some h
          refine ldI (v := (mSort (Int32.toNatClampNeg x4_5))) hx hb hK.1 hP 4 rfl rfl hi4 rfl dX12_guilt_37 ?_
          refine lv_iconst (v := 1) hx hb dX12_guilt_38 (by decide) ?_
          refine lv_icmp_eq (tgt := 52) hx hb dX12_guilt_39 (by decide) (fun c5 => ?_) (fun c5 => ?_)
          · have h := iT c5 h
            refine lv_iconst (v := 0) hx hb dX12_guilt_52 (by decide) ?_
            refine lv_iadd hx hb dX12_guilt_53 ?_
            refine lv_istore_n (lv' := [(3, .int (x3_5 + 0)), (4, .int x4_5), (0, .ref (a 0)), (1, .int p1), (2, .int p2)]) hx hb dX12_guilt_54 rfl hl (by decide) rfl (fun ls hl => ?_)
            refine lv_iinc (v := (x4_5 + 1)) (lv' := [(4, .int (x4_5 + 1)), (3, .int (x3_5 + 0)), (0, .ref (a 0)), (1, .int p1), (2, .int p2)]) hx hb dX12_guilt_55 hl (k := 1) rfl rfl (by decide) rfl (fun ls hl => ?_)
            refine lv_goto (tgt := 5) hx hb dX12_guilt_58 (by decide) ?_
            exact ih _ _ _ _ h (lv_sub hl [0, 1, 2, 3, 4] rfl) hk
          · have h := iF c5 h
            refine lv_aload_n hx hb dX12_guilt_42 rfl (lv_at hl 2 rfl) ?_
            refine va_get (D := D) (ci := 5) (v := .ref (a 3)) (C := RX12) (T := TX12) (N := 30) hx hb hts hiX12 hown hK.1 hP 0 rfl rfl 5 (by decide) (hts (.fieldLink RX12 16 "WinnowedGuiltModel" "weight" "[I") (by decide +kernel)) (fun _ h9 => h9) rfl dX12_guilt_43 ?_
            refine lv_iload hx hb dX12_guilt_46 (lv_at hl 0 rfl) ?_
            obtain ⟨hi6, h⟩ := gI_some h
            refine ldI (v := (mWeight (Int32.toNatClampNeg x4_5))) hx hb hK.1 hP 3 rfl rfl hi6 rfl dX12_guilt_48 ?_
            refine lv_goto (tgt := 53) hx hb dX12_guilt_49 (by decide) ?_
            refine lv_iadd hx hb dX12_guilt_53 ?_
            refine lv_istore_n (lv' := [(3, .int (x3_5 + (mWeight (Int32.toNatClampNeg x4_5)))), (4, .int x4_5), (0, .ref (a 0)), (1, .int p1), (2, .int p2)]) hx hb dX12_guilt_54 rfl hl (by decide) rfl (fun ls hl => ?_)
            refine lv_iinc (v := (x4_5 + 1)) (lv' := [(4, .int (x4_5 + 1)), (3, .int (x3_5 + (mWeight (Int32.toNatClampNeg x4_5)))), (0, .ref (a 0)), (1, .int p1), (2, .int p2)]) hx hb dX12_guilt_55 hl (k := 1) rfl rfl (by decide) rfl (fun ls hl => ?_)
            refine lv_goto (tgt := 5) hx hb dX12_guilt_58 (by decide) ?_
            exact ih _ _ _ _ h (lv_sub hl [0, 1, 2, 3, 4] rfl) hk
  refine L5 _ _ _ _ _ h hl (fun y4_5 y3_5 ls h hl => ?_)
  refine lv_iload_n hx hb dX12_guilt_61 rfl (lv_at hl 1 rfl) ?_
  exact W.iret hx hb hr (fun t ht _ => ⟨_, rfl, Option.some.inj h, ht⟩) (fun _ q => absurd q List.not_mem_nil) dX12_guilt_62

set_option maxHeartbeats 4000000 in
set_option maxRecDepth 100000 in
theorem c_mm_weighs (l : Launch) (D : va_G) (cI cJ cZ : ClassId) (a : Nat → Nat) (mPeople : Int32) (mHours : Int32) (mGrains : Int32) (mKind : Nat → Int32) (mWind : Nat → Int32) (mWeight : Nat → Int32) (mSort : Nat → Int32) (mOwner : Nat → Int32) (mNow : Nat → Int32) (mReadKind : Nat → Int32) (mReadWind : Nat → Int32) (mReadGrain : Nat → Int32) (mReadPeople : Int32) (mReadHours : Int32) (mReadGrains : Int32) (mText : Nat → Int32) (mLength : Int32) (mAt : Int32) (mFaultAt : Int32) (mMoved : Nat → Int32) (mActs : Int32) (mNext : Int32) (mRow : Nat → Int32) (mSeen : Int32) (mSeenKind : Nat → Int32) (mSeenLift : Nat → Int32) (mSeenFlew : Nat → Int32) (mSeed : Int64) (mIsKept : Nat → Int32) (mKept : Nat → Int32)  (H0 : Heap) (hP : va_P D vwCl (mW a cI cZ mPeople mHours mGrains mKind mWind mWeight mSort mOwner mNow mReadKind mReadWind mReadGrain mReadPeople mReadHours mReadGrains mText mLength mAt mFaultAt mMoved mActs mNext mRow mSeen mSeenKind mSeenLift mSeenFlew mSeed mIsKept mKept) H0) (p1 : Int32) (rv : Int32) (h : mm_weighs mGrains mWeight p1 = some rv) : Met l yX12_weighs wsX12_weighs ({ frames := 1, cells := 0, slots := 0, locals := 21 } : Room) (rPc D cI cJ cZ H0 [.ref (a 0), .int p1]) (vp_Si (fun r => r = rv)) 0 0 (fun _ => False) := by
  unfold mm_weighs at h
  refine Met.ofW (cc := cX12_weighs) (maxL := 4) (ret := (some .int)) (by decide) rfl ?_
  intro p e s m args below meth c s₁ B hml hv
  obtain ⟨rfl, hH, hK⟩ := hv
  have hx := B.exec
  have hb := B.bytes
  have hr := B.returns
  have hts := atoms_spec (ws := wsX12_weighs) B.pre
  have hown : s.vm.findClass RX12 = some m.cls := findClass_of_methodNamed B.named
  have hlocks := B.notSynchronized
  subst hH
  have hl := lv_entry ([.ref (a 0), .int p1]) (n := 4) (Nat.le_of_ble_eq_true rfl)
  rw [lg_entry_eq]
  generalize (lg_sl ([.ref (a 0), .int p1]) ++ List.replicate (4 - (lg_sl ([.ref (a 0), .int p1])).length) Slot.unset).toArray = ls at hl ⊢
  have hl : lv_has ls 4 [(0, .ref (a 0)), (1, .int p1)] := hl
  have hiX12 : ∀ w ∈ u_ws RX12 TX12 30, w ∈ wsX12_weighs := fun w hw => List.mem_cons_of_mem _ (List.mem_append_right _ hw)
  refine lv_iconst (v := 0) hx hb dX12_weighs_0 (by decide) ?_
  refine lv_istore_n (lv' := [(2, .int 0), (0, .ref (a 0)), (1, .int p1)]) hx hb dX12_weighs_1 rfl hl (by decide) rfl (fun ls hl => ?_)
  refine lv_iconst (v := 0) hx hb dX12_weighs_2 (by decide) ?_
  refine lv_istore_n (lv' := [(3, .int 0), (2, .int 0), (0, .ref (a 0)), (1, .int p1)]) hx hb dX12_weighs_3 rfl hl (by decide) rfl (fun ls hl => ?_)
  have L4 : ∀ (n : Nat) (x3_4 : Int32) (x2_4 : Int32) (ls : Array Slot) (kx : Int32 → Int32 → Option (Int32)), mm_weighs_L4 mGrains mWeight p1 kx n x3_4 x2_4 = some rv → lv_has ls 4 [(3, .int x3_4), (2, .int x2_4), (0, .ref (a 0)), (1, .int p1)] → (∀ (y3_4 : Int32) (y2_4 : Int32) (ls : Array Slot), kx y3_4 y2_4 = some rv → lv_has ls 4 [(3, .int y3_4), (2, .int y2_4), (0, .ref (a 0)), (1, .int p1)] → W p l e (headSpec wsX12_weighs ({ frames := 1, cells := 0, slots := 0, locals := 21 } : Room)).room s m ([.ref (a 0), .int p1] : List Value).toArray below meth c s.heap [] 0 0 (MQ below (vp_Si (fun r => r = rv)) ([.ref (a 0), .int p1] : List Value).toArray s 0 0 (fun _ => False)) (F0 m 39 ls [])) → W p l e (headSpec wsX12_weighs ({ frames := 1, cells := 0, slots := 0, locals := 21 } : Room)).room s m ([.ref (a 0), .int p1] : List Value).toArray below meth c s.heap [] 0 0 (MQ below (vp_Si (fun r => r = rv)) ([.ref (a 0), .int p1] : List Value).toArray s 0 0 (fun _ => False)) (F0 m 4 ls []) := by
    intro n
    induction n with
    | zero => intro _ _ _ _ h; rw [mm_weighs_L4.eq_1] at h; cases h
    | succ n ih =>
      intro x3_4 x2_4 ls kx h hl hk
      rw [mm_weighs_L4.eq_2] at h
      refine lv_iload_n hx hb dX12_weighs_4 rfl (lv_at hl 0 rfl) ?_
      refine lv_aload_n hx hb dX12_weighs_5 rfl (lv_at hl 2 rfl) ?_
      refine va_get (D := D) (ci := 5) (v := .int mGrains) (C := RX12) (T := TX12) (N := 30) hx hb hts hiX12 hown hK.1 hP 0 rfl rfl 2 (by decide) (hts (.fieldLink RX12 105 "WinnowedGuiltModel" "grains" "I") (by decide +kernel)) (fun _ h9 => h9) rfl dX12_weighs_6 ?_
      refine lv_icmp_ge (tgt := 39) hx hb dX12_weighs_9 (by decide) (fun c1 => ?_) (fun c1 => ?_)
      · have h := iT c1 h
        exact hk _ _ _ h (lv_sub hl [0, 1, 2, 3] rfl)
      · have h := iF c1 h
        refine lv_iload_n hx hb dX12_weighs_12 rfl (lv_at hl 1 rfl) ?_
        refine lv_iload_n hx hb dX12_weighs_13 rfl (lv_at hl 3 rfl) ?_
        refine lv_iload_n hx hb dX12_weighs_14 rfl (lv_at hl 0 rfl) ?_
        obtain ⟨q2, hq2, h⟩ := bS h
        refine rcI (va_runS (As := [.int p1, .int x3_4]) (rest := [.int x2_4]) ⟨hx, hb, hml, hown, hts⟩ (c_mm_has l D cI cJ cZ   s.heap p1 x3_4 q2 hq2) (va_cwS 2 hts gX12_weighs_X12_has rfl rfl rfl (by decide +kernel) ⟨Nat.le_of_ble_eq_true rfl, Nat.le_of_ble_eq_true rfl⟩) (rPreS hK) rfl rfl hl.1 rfl (lv_room (Nat.le_of_ble_eq_true rfl)) dX12_weighs_15 ⟨Nat.zero_le _, Nat.zero_le _⟩) ?_
        refine lv_if_eq (tgt := 30) hx hb dX12_weighs_18 (by decide) (fun c3 => ?_) (fun c3 => ?_)
        · have h := iT c3 h
          refine lv_iconst (v := 0) hx hb dX12_weighs_30 (by decide) ?_
          refine lv_iadd hx hb dX12_weighs_31 ?_
          refine lv_istore_n (lv' := [(2, .int (x2_4 + 0)), (3, .int x3_4), (0, .ref (a 0)), (1, .int p1)]) hx hb dX12_weighs_32 rfl hl (by decide) rfl (fun ls hl => ?_)
          refine lv_iinc (v := (x3_4 + 1)) (lv' := [(3, .int (x3_4 + 1)), (2, .int (x2_4 + 0)), (0, .ref (a 0)), (1, .int p1)]) hx hb dX12_weighs_33 hl (k := 1) rfl rfl (by decide) rfl (fun ls hl => ?_)
          refine lv_goto (tgt := 4) hx hb dX12_weighs_36 (by decide) ?_
          exact ih _ _ _ _ h (lv_sub hl [0, 1, 2, 3] rfl) hk
        · have h := iF c3 h
          refine lv_aload_n hx hb dX12_weighs_21 rfl (lv_at hl 2 rfl) ?_
          refine va_get (D := D) (ci := 5) (v := .ref (a 3)) (C := RX12) (T := TX12) (N := 30) hx hb hts hiX12 hown hK.1 hP 0 rfl rfl 5 (by decide) (hts (.fieldLink RX12 16 "WinnowedGuiltModel" "weight" "[I") (by decide +kernel)) (fun _ h9 => h9) rfl dX12_weighs_22 ?_
          refine lv_iload_n hx hb dX12_weighs_25 rfl (lv_at hl 0 rfl) ?_
          obtain ⟨hi4, h⟩ := gI_some h
          refine ldI (v := (mWeight (Int32.toNatClampNeg x3_4))) hx hb hK.1 hP 3 rfl rfl hi4 rfl dX12_weighs_26 ?_
          refine lv_goto (tgt := 31) hx hb dX12_weighs_27 (by decide) ?_
          refine lv_iadd hx hb dX12_weighs_31 ?_
          refine lv_istore_n (lv' := [(2, .int (x2_4 + (mWeight (Int32.toNatClampNeg x3_4)))), (3, .int x3_4), (0, .ref (a 0)), (1, .int p1)]) hx hb dX12_weighs_32 rfl hl (by decide) rfl (fun ls hl => ?_)
          refine lv_iinc (v := (x3_4 + 1)) (lv' := [(3, .int (x3_4 + 1)), (2, .int (x2_4 + (mWeight (Int32.toNatClampNeg x3_4)))), (0, .ref (a 0)), (1, .int p1)]) hx hb dX12_weighs_33 hl (k := 1) rfl rfl (by decide) rfl (fun ls hl => ?_)
          refine lv_goto (tgt := 4) hx hb dX12_weighs_36 (by decide) ?_
          exact ih _ _ _ _ h (lv_sub hl [0, 1, 2, 3] rfl) hk
  refine L4 _ _ _ _ _ h hl (fun y3_4 y2_4 ls h hl => ?_)
  refine lv_iload_n hx hb dX12_weighs_39 rfl (lv_at hl 1 rfl) ?_
  exact W.iret hx hb hr (fun t ht _ => ⟨_, rfl, Option.some.inj h, ht⟩) (fun _ q => absurd q List.not_mem_nil) dX12_weighs_40

set_option maxHeartbeats 4000000 in
set_option maxRecDepth 100000 in
theorem c_mm_person (l : Launch) (D : va_G) (cI cJ cZ : ClassId) (a : Nat → Nat) (mPeople : Int32) (mHours : Int32) (mGrains : Int32) (mKind : Nat → Int32) (mWind : Nat → Int32) (mWeight : Nat → Int32) (mSort : Nat → Int32) (mOwner : Nat → Int32) (mNow : Nat → Int32) (mReadKind : Nat → Int32) (mReadWind : Nat → Int32) (mReadGrain : Nat → Int32) (mReadPeople : Int32) (mReadHours : Int32) (mReadGrains : Int32) (mText : Nat → Int32) (mLength : Int32) (mAt : Int32) (mFaultAt : Int32) (mMoved : Nat → Int32) (mActs : Int32) (mNext : Int32) (mRow : Nat → Int32) (mSeen : Int32) (mSeenKind : Nat → Int32) (mSeenLift : Nat → Int32) (mSeenFlew : Nat → Int32) (mSeed : Int64) (mIsKept : Nat → Int32) (mKept : Nat → Int32)  (H0 : Heap) (hP : va_P D vwCl (mW a cI cZ mPeople mHours mGrains mKind mWind mWeight mSort mOwner mNow mReadKind mReadWind mReadGrain mReadPeople mReadHours mReadGrains mText mLength mAt mFaultAt mMoved mActs mNext mRow mSeen mSeenKind mSeenLift mSeenFlew mSeed mIsKept mKept) H0) (p1 : Int32) (p2 : Int32) (rv : Int32) (h : mm_person mPeople mHours mGrains mKind mWind mWeight mSort mOwner mNow p1 p2 = some rv) : Met l yX12_person wsX12_person ({ frames := 2, cells := 0, slots := 0, locals := 46 } : Room) (rPc D cI cJ cZ H0 [.ref (a 0), .int p1, .int p2]) (vp_Si (fun r => r = rv)) 0 0 (fun _ => False) := by
  unfold mm_person at h
  refine Met.ofW (cc := cX12_person) (maxL := 3) (ret := (some .int)) (by decide) rfl ?_
  intro p e s m args below meth c s₁ B hml hv
  obtain ⟨rfl, hH, hK⟩ := hv
  have hx := B.exec
  have hb := B.bytes
  have hr := B.returns
  have hts := atoms_spec (ws := wsX12_person) B.pre
  have hown : s.vm.findClass RX12 = some m.cls := findClass_of_methodNamed B.named
  have hlocks := B.notSynchronized
  subst hH
  have hl := lv_entry ([.ref (a 0), .int p1, .int p2]) (n := 3) (Nat.le_of_ble_eq_true rfl)
  rw [lg_entry_eq]
  generalize (lg_sl ([.ref (a 0), .int p1, .int p2]) ++ List.replicate (3 - (lg_sl ([.ref (a 0), .int p1, .int p2])).length) Slot.unset).toArray = ls at hl ⊢
  have hl : lv_has ls 3 [(0, .ref (a 0)), (1, .int p1), (2, .int p2)] := hl
  have hiX12 : ∀ w ∈ u_ws RX12 TX12 30, w ∈ wsX12_person := fun w hw => List.mem_cons_of_mem _ (List.mem_append_right _ hw)
  refine lv_aload_n hx hb dX12_person_0 rfl (lv_at hl 0 rfl) ?_
  refine lv_iload_n hx hb dX12_person_1 rfl (lv_at hl 1 rfl) ?_
  obtain ⟨q1, hq1, h⟩ := bS h
  refine rcI (va_runV (As := [.int p1]) (rest := []) ⟨hx, hb, hml, hown, hts⟩ (c_mm_isPerson l D cI cJ cZ a mPeople mHours mGrains mKind mWind mWeight mSort mOwner mNow mReadKind mReadWind mReadGrain mReadPeople mReadHours mReadGrains mText mLength mAt mFaultAt mMoved mActs mNext mRow mSeen mSeenKind mSeenLift mSeenFlew mSeed mIsKept mKept s.heap hP p1 q1 hq1) (cwV 1 hts gX12_person_X12_isPerson rfl rfl rfl (by decide +kernel) ⟨Nat.le_of_ble_eq_true rfl, Nat.le_of_ble_eq_true rfl⟩) (rPreV hK hP (ci := 5) (q0 := 0) rfl rfl) rfl rfl hl.1 rfl (lv_room (Nat.le_of_ble_eq_true rfl)) dX12_person_2 ⟨Nat.zero_le _, Nat.zero_le _⟩) ?_
  refine lv_if_ne (tgt := 10) hx hb dX12_person_5 (by decide) (fun c2 => ?_) (fun c2 => ?_)
  · have h := iF c2 h
    refine lv_iload_n hx hb dX12_person_10 rfl (lv_at hl 2 rfl) ?_
    by_cases w2_0 : p2 = 0
    · have h := iT w2_0 h
      refine lv_tableIn (tgt := 48) hx hb dX12_person_11 (by rw [w2_0]; decide) (by rw [w2_0]; decide) (by rw [w2_0]; rfl) (by decide) ?_
      refine lv_aload_n hx hb dX12_person_48 rfl (lv_at hl 0 rfl) ?_
      refine va_get (D := D) (ci := 5) (v := .ref (a 1)) (C := RX12) (T := TX12) (N := 30) hx hb hts hiX12 hown hK.1 hP 0 rfl rfl 3 (by decide) (hts (.fieldLink RX12 7 "WinnowedGuiltModel" "kind" "[I") (by decide +kernel)) (fun _ h9 => h9) rfl dX12_person_49 ?_
      refine lv_iload_n hx hb dX12_person_52 rfl (lv_at hl 1 rfl) ?_
      obtain ⟨hi4, h⟩ := gI_some h
      refine ldI (v := (mKind (Int32.toNatClampNeg p1))) hx hb hK.1 hP 1 rfl rfl hi4 rfl dX12_person_53 ?_
      exact W.iret hx hb hr (fun t ht _ => ⟨_, rfl, Option.some.inj h, ht⟩) (fun _ q => absurd q List.not_mem_nil) dX12_person_54
    have h := iF w2_0 h
    by_cases w2_1 : p2 = 1
    · have h := iT w2_1 h
      refine lv_tableIn (tgt := 55) hx hb dX12_person_11 (by rw [w2_1]; decide) (by rw [w2_1]; decide) (by rw [w2_1]; rfl) (by decide) ?_
      refine lv_aload_n hx hb dX12_person_55 rfl (lv_at hl 0 rfl) ?_
      refine lv_iconst (v := 0) hx hb dX12_person_56 (by decide) ?_
      refine lv_iload_n hx hb dX12_person_57 rfl (lv_at hl 1 rfl) ?_
      refine lv_iconst (v := 0) hx hb dX12_person_58 (by decide) ?_
      obtain ⟨q4, hq4, h⟩ := bS h
      refine rcI (va_runV (As := [.int 0, .int p1, .int 0]) (rest := []) ⟨hx, hb, hml, hown, hts⟩ (c_mm_liftAt l D cI cJ cZ a mPeople mHours mGrains mKind mWind mWeight mSort mOwner mNow mReadKind mReadWind mReadGrain mReadPeople mReadHours mReadGrains mText mLength mAt mFaultAt mMoved mActs mNext mRow mSeen mSeenKind mSeenLift mSeenFlew mSeed mIsKept mKept s.heap hP 0 p1 0 q4 hq4) (cwV 3 hts gX12_person_X12_liftAt rfl rfl rfl (by decide +kernel) ⟨Nat.le_of_ble_eq_true rfl, Nat.le_of_ble_eq_true rfl⟩) (rPreV hK hP (ci := 5) (q0 := 0) rfl rfl) rfl rfl hl.1 rfl (lv_room (Nat.le_of_ble_eq_true rfl)) dX12_person_59 ⟨Nat.zero_le _, Nat.zero_le _⟩) ?_
      exact W.iret hx hb hr (fun t ht _ => ⟨_, rfl, Option.some.inj h, ht⟩) (fun _ q => absurd q List.not_mem_nil) dX12_person_62
    have h := iF w2_1 h
    by_cases w2_2 : p2 = 2
    · have h := iT w2_2 h
      refine lv_tableIn (tgt := 63) hx hb dX12_person_11 (by rw [w2_2]; decide) (by rw [w2_2]; decide) (by rw [w2_2]; rfl) (by decide) ?_
      refine lv_aload_n hx hb dX12_person_63 rfl (lv_at hl 0 rfl) ?_
      refine lv_iconst (v := 0) hx hb dX12_person_64 (by decide) ?_
      refine lv_iload_n hx hb dX12_person_65 rfl (lv_at hl 1 rfl) ?_
      obtain ⟨q4, hq4, h⟩ := bS h
      refine rcI (va_runV (As := [.int 0, .int p1]) (rest := []) ⟨hx, hb, hml, hown, hts⟩ (c_mm_guilt l D cI cJ cZ a mPeople mHours mGrains mKind mWind mWeight mSort mOwner mNow mReadKind mReadWind mReadGrain mReadPeople mReadHours mReadGrains mText mLength mAt mFaultAt mMoved mActs mNext mRow mSeen mSeenKind mSeenLift mSeenFlew mSeed mIsKept mKept s.heap hP 0 p1 q4 hq4) (cwV 2 hts gX12_person_X12_guilt rfl rfl rfl (by decide +kernel) ⟨Nat.le_of_ble_eq_true rfl, Nat.le_of_ble_eq_true rfl⟩) (rPreV hK hP (ci := 5) (q0 := 0) rfl rfl) rfl rfl hl.1 rfl (lv_room (Nat.le_of_ble_eq_true rfl)) dX12_person_66 ⟨Nat.zero_le _, Nat.zero_le _⟩) ?_
      exact W.iret hx hb hr (fun t ht _ => ⟨_, rfl, Option.some.inj h, ht⟩) (fun _ q => absurd q List.not_mem_nil) dX12_person_69
    have h := iF w2_2 h
    by_cases w2_3 : p2 = 3
    · have h := iT w2_3 h
      refine lv_tableIn (tgt := 70) hx hb dX12_person_11 (by rw [w2_3]; decide) (by rw [w2_3]; decide) (by rw [w2_3]; rfl) (by decide) ?_
      refine lv_aload_n hx hb dX12_person_70 rfl (lv_at hl 0 rfl) ?_
      refine lv_iconst (v := 0) hx hb dX12_person_71 (by decide) ?_
      refine lv_iload_n hx hb dX12_person_72 rfl (lv_at hl 1 rfl) ?_
      obtain ⟨q4, hq4, h⟩ := bS h
      refine rcI (va_runV (As := [.int 0, .int p1]) (rest := []) ⟨hx, hb, hml, hown, hts⟩ (c_mm_lyingAt l D cI cJ cZ a mPeople mHours mGrains mKind mWind mWeight mSort mOwner mNow mReadKind mReadWind mReadGrain mReadPeople mReadHours mReadGrains mText mLength mAt mFaultAt mMoved mActs mNext mRow mSeen mSeenKind mSeenLift mSeenFlew mSeed mIsKept mKept s.heap hP 0 p1 q4 hq4) (cwV 2 hts gX12_person_X12_lyingAt rfl rfl rfl (by decide +kernel) ⟨Nat.le_of_ble_eq_true rfl, Nat.le_of_ble_eq_true rfl⟩) (rPreV hK hP (ci := 5) (q0 := 0) rfl rfl) rfl rfl hl.1 rfl (lv_room (Nat.le_of_ble_eq_true rfl)) dX12_person_73 ⟨Nat.zero_le _, Nat.zero_le _⟩) ?_
      exact W.iret hx hb hr (fun t ht _ => ⟨_, rfl, Option.some.inj h, ht⟩) (fun _ q => absurd q List.not_mem_nil) dX12_person_76
    have h := iF w2_3 h
    by_cases w2_4 : p2 = 4
    · have h := iT w2_4 h
      refine lv_tableIn (tgt := 77) hx hb dX12_person_11 (by rw [w2_4]; decide) (by rw [w2_4]; decide) (by rw [w2_4]; rfl) (by decide) ?_
      refine lv_aload_n hx hb dX12_person_77 rfl (lv_at hl 0 rfl) ?_
      refine lv_iconst (v := 0) hx hb dX12_person_78 (by decide) ?_
      refine lv_iload_n hx hb dX12_person_79 rfl (lv_at hl 1 rfl) ?_
      obtain ⟨q4, hq4, h⟩ := bS h
      refine rcI (va_runV (As := [.int 0, .int p1]) (rest := []) ⟨hx, hb, hml, hown, hts⟩ (c_mm_isClean l D cI cJ cZ a mPeople mHours mGrains mKind mWind mWeight mSort mOwner mNow mReadKind mReadWind mReadGrain mReadPeople mReadHours mReadGrains mText mLength mAt mFaultAt mMoved mActs mNext mRow mSeen mSeenKind mSeenLift mSeenFlew mSeed mIsKept mKept s.heap hP 0 p1 q4 hq4) (cwV 2 hts gX12_person_X12_isClean rfl rfl rfl (by decide +kernel) ⟨Nat.le_of_ble_eq_true rfl, Nat.le_of_ble_eq_true rfl⟩) (rPreV hK hP (ci := 5) (q0 := 0) rfl rfl) rfl rfl hl.1 rfl (lv_room (Nat.le_of_ble_eq_true rfl)) dX12_person_80 ⟨Nat.zero_le _, Nat.zero_le _⟩) ?_
      refine lv_if_eq (tgt := 90) hx hb dX12_person_83 (by decide) (fun c5 => ?_) (fun c5 => ?_)
      · have h := iT c5 h
        refine lv_iconst (v := 0) hx hb dX12_person_90 (by decide) ?_
        exact W.iret hx hb hr (fun t ht _ => ⟨_, rfl, Option.some.inj h, ht⟩) (fun _ q => absurd q List.not_mem_nil) dX12_person_91
      · have h := iF c5 h
        refine lv_iconst (v := 1) hx hb dX12_person_86 (by decide) ?_
        refine lv_goto (tgt := 91) hx hb dX12_person_87 (by decide) ?_
        exact W.iret hx hb hr (fun t ht _ => ⟨_, rfl, Option.some.inj h, ht⟩) (fun _ q => absurd q List.not_mem_nil) dX12_person_91
    have h := iF w2_4 h
    by_cases w2_5 : p2 = 5
    · have h := iT w2_5 h
      refine lv_tableIn (tgt := 92) hx hb dX12_person_11 (by rw [w2_5]; decide) (by rw [w2_5]; decide) (by rw [w2_5]; rfl) (by decide) ?_
      refine lv_aload_n hx hb dX12_person_92 rfl (lv_at hl 0 rfl) ?_
      refine lv_aload_n hx hb dX12_person_93 rfl (lv_at hl 0 rfl) ?_
      refine lv_iconst (v := 0) hx hb dX12_person_94 (by decide) ?_
      refine lv_iload_n hx hb dX12_person_95 rfl (lv_at hl 1 rfl) ?_
      obtain ⟨q4, hq4, h⟩ := bS h
      refine rcI (va_runV (As := [.int 0, .int p1]) (rest := [.ref (a 0)]) ⟨hx, hb, hml, hown, hts⟩ (c_mm_lyingAt l D cI cJ cZ a mPeople mHours mGrains mKind mWind mWeight mSort mOwner mNow mReadKind mReadWind mReadGrain mReadPeople mReadHours mReadGrains mText mLength mAt mFaultAt mMoved mActs mNext mRow mSeen mSeenKind mSeenLift mSeenFlew mSeed mIsKept mKept s.heap hP 0 p1 q4 hq4) (cwV 2 hts gX12_person_X12_lyingAt rfl rfl rfl (by decide +kernel) ⟨Nat.le_of_ble_eq_true rfl, Nat.le_of_ble_eq_true rfl⟩) (rPreV hK hP (ci := 5) (q0 := 0) rfl rfl) rfl rfl hl.1 rfl (lv_room (Nat.le_of_ble_eq_true rfl)) dX12_person_96 ⟨Nat.zero_le _, Nat.zero_le _⟩) ?_
      refine lv_aload_n hx hb dX12_person_99 rfl (lv_at hl 0 rfl) ?_
      refine lv_iconst (v := 0) hx hb dX12_person_100 (by decide) ?_
      obtain ⟨q5, hq5, h⟩ := bS h
      refine rcI (va_runV (As := [.int 0]) (rest := [.int q4, .ref (a 0)]) ⟨hx, hb, hml, hown, hts⟩ (c_mm_rightOn l D cI cJ cZ a mPeople mHours mGrains mKind mWind mWeight mSort mOwner mNow mReadKind mReadWind mReadGrain mReadPeople mReadHours mReadGrains mText mLength mAt mFaultAt mMoved mActs mNext mRow mSeen mSeenKind mSeenLift mSeenFlew mSeed mIsKept mKept s.heap hP 0 q5 hq5) (cwV 1 hts gX12_person_X12_rightOn rfl rfl rfl (by decide +kernel) ⟨Nat.le_of_ble_eq_true rfl, Nat.le_of_ble_eq_true rfl⟩) (rPreV hK hP (ci := 5) (q0 := 0) rfl rfl) rfl rfl hl.1 rfl (lv_room (Nat.le_of_ble_eq_true rfl)) dX12_person_101 ⟨Nat.zero_le _, Nat.zero_le _⟩) ?_
      refine lv_iand hx hb dX12_person_104 ?_
      obtain ⟨q6, hq6, h⟩ := bS h
      refine rcI (va_runV (As := [.int (q4 &&& q5)]) (rest := []) ⟨hx, hb, hml, hown, hts⟩ (c_mm_weighs l D cI cJ cZ a mPeople mHours mGrains mKind mWind mWeight mSort mOwner mNow mReadKind mReadWind mReadGrain mReadPeople mReadHours mReadGrains mText mLength mAt mFaultAt mMoved mActs mNext mRow mSeen mSeenKind mSeenLift mSeenFlew mSeed mIsKept mKept s.heap hP (q4 &&& q5) q6 hq6) (cwV 1 hts gX12_person_X12_weighs rfl rfl rfl (by decide +kernel) ⟨Nat.le_of_ble_eq_true rfl, Nat.le_of_ble_eq_true rfl⟩) (rPreV hK hP (ci := 5) (q0 := 0) rfl rfl) rfl rfl hl.1 rfl (lv_room (Nat.le_of_ble_eq_true rfl)) dX12_person_105 ⟨Nat.zero_le _, Nat.zero_le _⟩) ?_
      exact W.iret hx hb hr (fun t ht _ => ⟨_, rfl, Option.some.inj h, ht⟩) (fun _ q => absurd q List.not_mem_nil) dX12_person_108
    have h := iF w2_5 h
    refine lv_tableOut (tgt := 109) hx hb dX12_person_11 (by have := lv_neT (a := 0) w2_0 (by decide); have := lv_neT (a := 1) w2_1 (by decide); have := lv_neT (a := 2) w2_2 (by decide); have := lv_neT (a := 3) w2_3 (by decide); have := lv_neT (a := 4) w2_4 (by decide); have := lv_neT (a := 5) w2_5 (by decide); omega) (by decide) ?_
    refine lv_bipush (v := (-2)) hx hb dX12_person_109 (by decide) ?_
    exact W.iret hx hb hr (fun t ht _ => ⟨_, rfl, Option.some.inj h, ht⟩) (fun _ q => absurd q List.not_mem_nil) dX12_person_111
  · have h := iT c2 h
    refine lv_iconst (v := (-1)) hx hb dX12_person_8 (by decide) ?_
    exact W.iret hx hb hr (fun t ht _ => ⟨_, rfl, Option.some.inj h, ht⟩) (fun _ q => absurd q List.not_mem_nil) dX12_person_9
