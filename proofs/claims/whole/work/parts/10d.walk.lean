set_option maxHeartbeats 4000000 in
set_option maxRecDepth 100000 in
theorem c_fl_flyingBits (l : Launch) (D : va_G) (cI cJ cZ : ClassId) (g : Nat → Nat) (fPk : Nat → Int32) (fWn : Nat → Int32) (fGw : Nat → Int32) (fGk : Nat → Int32) (fOw : Nat → Int32) (fSt : Nat → Int32) (fPe : Int32) (fHo : Int32) (fGr : Int32) (fPa : Int32) (fFt : Int32)  (H0 : Heap) (hP : va_P D vwCl (fW g cI fPk fWn fGw fGk fOw fSt fPe fHo fGr fPa fFt) H0) (p1 : Int64) (p3 : Int32) (rv : Int32) (h : fl_flyingBits fPk fWn fGw fGk fOw fPe fHo fGr p1 p3 = some rv) : Met l yX3_flyingBits wsX3_flyingBits ({ frames := 3, cells := 0, slots := 0, locals := 68 } : Room) (rPc D cI cJ cZ H0 [.ref (g 0), .long p1, .int p3]) (vp_Si (fun r => r = rv)) 0 0 (fun _ => False) := by
  unfold fl_flyingBits at h
  refine Met.ofW (cc := cX3_flyingBits) (maxL := 7) (ret := (some .int)) (by decide) rfl ?_
  intro p e s m args below meth c s₁ B hml hv
  obtain ⟨rfl, hH, hK⟩ := hv
  have hx := B.exec
  have hb := B.bytes
  have hr := B.returns
  have hts := atoms_spec (ws := wsX3_flyingBits) B.pre
  have hown : s.vm.findClass RX3 = some m.cls := findClass_of_methodNamed B.named
  have hlocks := B.notSynchronized
  subst hH
  have hl := lv_entry ([.ref (g 0), .long p1, .int p3]) (n := 7) (Nat.le_of_ble_eq_true rfl)
  rw [lg_entry_eq]
  generalize (lg_sl ([.ref (g 0), .long p1, .int p3]) ++ List.replicate (7 - (lg_sl ([.ref (g 0), .long p1, .int p3])).length) Slot.unset).toArray = ls at hl ⊢
  have hl : lv_has ls 7 [(0, .ref (g 0)), (1, .long p1), (3, .int p3)] := hl
  have hiX3 : ∀ w ∈ u_ws RX3 TX3 11, w ∈ wsX3_flyingBits := fun w hw => List.mem_cons_of_mem _ (List.mem_append_right _ hw)
  refine lv_aload_n hx hb dX3_flyingBits_0 rfl (lv_at hl 0 rfl) ?_
  refine lv_lload_n hx hb dX3_flyingBits_1 rfl (lv_at hl 1 rfl) ?_
  refine lv_iload_n hx hb dX3_flyingBits_2 rfl (lv_at hl 2 rfl) ?_
  obtain ⟨q1, hq1, h⟩ := bS h
  refine rcI (va_runV (As := [.long p1, .int p3]) (rest := []) ⟨hx, hb, hml, hown, hts⟩ (c_fl_liftAt l D cI cJ cZ g fPk fWn fGw fGk fOw fSt fPe fHo fGr fPa fFt s.heap hP p1 p3 q1 hq1) (cwV 2 hts gX3_flyingBits_X3_liftAt rfl rfl rfl (by decide +kernel) ⟨Nat.le_of_ble_eq_true rfl, Nat.le_of_ble_eq_true rfl⟩) (rPreV hK hP (ci := 2) (q0 := 0) rfl rfl) rfl rfl hl.1 rfl (lv_room (Nat.le_of_ble_eq_true rfl)) dX3_flyingBits_3 ⟨Nat.zero_le _, Nat.zero_le _⟩) ?_
  refine lv_istore (lv' := [(4, .int q1), (0, .ref (g 0)), (1, .long p1), (3, .int p3)]) hx hb dX3_flyingBits_6 hl (by decide) rfl (fun ls hl => ?_)
  refine lv_iconst (v := 0) hx hb dX3_flyingBits_8 (by decide) ?_
  refine lv_istore (lv' := [(5, .int 0), (4, .int q1), (0, .ref (g 0)), (1, .long p1), (3, .int p3)]) hx hb dX3_flyingBits_9 hl (by decide) rfl (fun ls hl => ?_)
  refine lv_iconst (v := 0) hx hb dX3_flyingBits_11 (by decide) ?_
  refine lv_istore (lv' := [(6, .int 0), (5, .int 0), (4, .int q1), (0, .ref (g 0)), (1, .long p1), (3, .int p3)]) hx hb dX3_flyingBits_12 hl (by decide) rfl (fun ls hl => ?_)
  have L14 : ∀ (n : Nat) (x6_14 : Int32) (x5_14 : Int32) (ls : Array Slot) (kx : Int32 → Int32 → Option (Int32)), fl_flyingBits_L14 fPk fGw fGk fOw fPe fGr p1 p3 q1 kx n x6_14 x5_14 = some rv → lv_has ls 7 [(6, .int x6_14), (5, .int x5_14), (4, .int q1), (0, .ref (g 0)), (1, .long p1), (3, .int p3)] → (∀ (y6_14 : Int32) (y5_14 : Int32) (ls : Array Slot), kx y6_14 y5_14 = some rv → lv_has ls 7 [(6, .int y6_14), (5, .int y5_14), (4, .int q1), (0, .ref (g 0)), (1, .long p1), (3, .int p3)] → W p l e (headSpec wsX3_flyingBits ({ frames := 3, cells := 0, slots := 0, locals := 68 } : Room)).room s m ([.ref (g 0), .long p1, .int p3] : List Value).toArray below meth c s.heap [] 0 0 (MQ below (vp_Si (fun r => r = rv)) ([.ref (g 0), .long p1, .int p3] : List Value).toArray s 0 0 (fun _ => False)) (F0 m 60 ls [])) → W p l e (headSpec wsX3_flyingBits ({ frames := 3, cells := 0, slots := 0, locals := 68 } : Room)).room s m ([.ref (g 0), .long p1, .int p3] : List Value).toArray below meth c s.heap [] 0 0 (MQ below (vp_Si (fun r => r = rv)) ([.ref (g 0), .long p1, .int p3] : List Value).toArray s 0 0 (fun _ => False)) (F0 m 14 ls []) := by
    intro n
    induction n with
    | zero => intro _ _ _ _ h; rw [fl_flyingBits_L14.eq_1] at h; cases h
    | succ n ih =>
      intro x6_14 x5_14 ls kx h hl hk
      rw [fl_flyingBits_L14.eq_2] at h
      refine lv_iload hx hb dX3_flyingBits_14 (lv_at hl 0 rfl) ?_
      refine lv_aload_n hx hb dX3_flyingBits_16 rfl (lv_at hl 3 rfl) ?_
      refine va_get (D := D) (ci := 2) (v := .int fGr) (C := RX3) (T := TX3) (N := 11) hx hb hts hiX3 hown hK.1 hP 0 rfl rfl 8 (by decide) (hts (.fieldLink RX3 37 "WinnowedGuilt$Floor" "grains" "I") (by decide +kernel)) (fun _ h9 => h9) rfl dX3_flyingBits_17 ?_
      refine lv_icmp_ge (tgt := 60) hx hb dX3_flyingBits_20 (by decide) (fun c2 => ?_) (fun c2 => ?_)
      · have h := iT c2 h
        exact hk _ _ _ h (lv_sub hl [0, 1, 2, 3, 4, 5] rfl)
      · have h := iF c2 h
        refine lv_lload_n hx hb dX3_flyingBits_23 rfl (lv_at hl 4 rfl) ?_
        refine lv_iload hx hb dX3_flyingBits_24 (lv_at hl 0 rfl) ?_
        obtain ⟨q3, hq3, h⟩ := bS h
        refine rcI (va_runS (As := [.long p1, .int x6_14]) (rest := []) ⟨hx, hb, hml, hown, hts⟩ (c_sc_placeOf l D cI cJ cZ   s.heap p1 x6_14 q3 hq3) (va_cwS 2 hts gX3_flyingBits_X7_placeOf rfl rfl rfl (by decide +kernel) ⟨Nat.le_of_ble_eq_true rfl, Nat.le_of_ble_eq_true rfl⟩) (rPreS hK) rfl rfl hl.1 rfl (lv_room (Nat.le_of_ble_eq_true rfl)) dX3_flyingBits_26 ⟨Nat.zero_le _, Nat.zero_le _⟩) ?_
        refine lv_iload_n hx hb dX3_flyingBits_29 rfl (lv_at hl 5 rfl) ?_
        refine lv_icmp_ne (tgt := 54) hx hb dX3_flyingBits_30 (by decide) (fun c4 => ?_) (fun c4 => ?_)
        · have h := iF c4 h
          refine lv_iinc (v := (x6_14 + 1)) (lv' := [(6, .int (x6_14 + 1)), (5, .int x5_14), (4, .int q1), (0, .ref (g 0)), (1, .long p1), (3, .int p3)]) hx hb dX3_flyingBits_54 hl (k := 0) rfl rfl (by decide) rfl (fun ls hl => ?_)
          refine lv_goto (tgt := 14) hx hb dX3_flyingBits_57 (by decide) ?_
          exact ih _ _ _ _ h (lv_sub hl [0, 1, 2, 3, 4, 5] rfl) hk
        · have h := iT c4 h
          refine lv_aload_n hx hb dX3_flyingBits_33 rfl (lv_at hl 3 rfl) ?_
          refine lv_iload hx hb dX3_flyingBits_34 (lv_at hl 0 rfl) ?_
          refine lv_iload_n hx hb dX3_flyingBits_36 rfl (lv_at hl 5 rfl) ?_
          refine lv_iload hx hb dX3_flyingBits_37 (lv_at hl 2 rfl) ?_
          obtain ⟨q5, hq5, h⟩ := bS h
          refine rcI (va_runV (As := [.int x6_14, .int p3, .int q1]) (rest := []) ⟨hx, hb, hml, hown, hts⟩ (c_fl_flight l D cI cJ cZ g fPk fWn fGw fGk fOw fSt fPe fHo fGr fPa fFt s.heap hP x6_14 p3 q1 q5 hq5) (cwV 3 hts gX3_flyingBits_X3_flight rfl rfl rfl (by decide +kernel) ⟨Nat.le_of_ble_eq_true rfl, Nat.le_of_ble_eq_true rfl⟩) (rPreV hK hP (ci := 2) (q0 := 0) rfl rfl) rfl rfl hl.1 rfl (lv_room (Nat.le_of_ble_eq_true rfl)) dX3_flyingBits_39 ⟨Nat.zero_le _, Nat.zero_le _⟩) ?_
          refine lv_if_le (tgt := 54) hx hb dX3_flyingBits_42 (by decide) (fun c6 => ?_) (fun c6 => ?_)
          · have h := iT c6 h
            refine lv_iinc (v := (x6_14 + 1)) (lv' := [(6, .int (x6_14 + 1)), (5, .int x5_14), (4, .int q1), (0, .ref (g 0)), (1, .long p1), (3, .int p3)]) hx hb dX3_flyingBits_54 hl (k := 0) rfl rfl (by decide) rfl (fun ls hl => ?_)
            refine lv_goto (tgt := 14) hx hb dX3_flyingBits_57 (by decide) ?_
            exact ih _ _ _ _ h (lv_sub hl [0, 1, 2, 3, 4, 5] rfl) hk
          · have h := iF c6 h
            refine lv_iload hx hb dX3_flyingBits_45 (lv_at hl 1 rfl) ?_
            refine lv_iconst (v := 1) hx hb dX3_flyingBits_47 (by decide) ?_
            refine lv_iload hx hb dX3_flyingBits_48 (lv_at hl 0 rfl) ?_
            refine lv_ishl hx hb dX3_flyingBits_50 ?_
            refine lv_ior hx hb dX3_flyingBits_51 ?_
            refine lv_istore (lv' := [(5, .int (x5_14 ||| (1 <<< (x6_14 &&& 31)))), (6, .int x6_14), (4, .int q1), (0, .ref (g 0)), (1, .long p1), (3, .int p3)]) hx hb dX3_flyingBits_52 hl (by decide) rfl (fun ls hl => ?_)
            refine lv_iinc (v := (x6_14 + 1)) (lv' := [(6, .int (x6_14 + 1)), (5, .int (x5_14 ||| (1 <<< (x6_14 &&& 31)))), (4, .int q1), (0, .ref (g 0)), (1, .long p1), (3, .int p3)]) hx hb dX3_flyingBits_54 hl (k := 1) rfl rfl (by decide) rfl (fun ls hl => ?_)
            refine lv_goto (tgt := 14) hx hb dX3_flyingBits_57 (by decide) ?_
            exact ih _ _ _ _ h (lv_sub hl [0, 1, 2, 3, 4, 5] rfl) hk
  refine L14 _ _ _ _ _ h hl (fun y6_14 y5_14 ls h hl => ?_)
  refine lv_iload hx hb dX3_flyingBits_60 (lv_at hl 1 rfl) ?_
  exact W.iret hx hb hr (fun t ht _ => ⟨_, rfl, Option.some.inj h, ht⟩) (fun _ q => absurd q List.not_mem_nil) dX3_flyingBits_62

set_option maxHeartbeats 4000000 in
set_option maxRecDepth 100000 in
theorem c_ji_bitCount (l : Launch) (D : va_G) (cI cJ cZ : ClassId)  (H0 : Heap) (p0 : Int32) (rv : Int32) (h : ji_bitCount p0 = some rv) : Met l yJ6_bitCount_0f7a4 wsJ6_bitCount_0f7a4 ({ frames := 0, cells := 0, slots := 0, locals := 0 } : Room) (rPc D cI cJ cZ H0 [.int p0]) (vp_Si (fun r => r = rv)) 0 0 (fun _ => False) := by
  unfold ji_bitCount at h
  refine Met.ofW (cc := cJ6_bitCount_0f7a4) (maxL := 1) (ret := (some .int)) (by decide) rfl ?_
  intro p e s m args below meth c s₁ B hml hv
  obtain ⟨rfl, hH, hK⟩ := hv
  have hx := B.exec
  have hb := B.bytes
  have hr := B.returns
  have hts := atoms_spec (ws := wsJ6_bitCount_0f7a4) B.pre
  have hown : s.vm.findClass RJ6 = some m.cls := findClass_of_methodNamed B.named
  have hlocks := B.notSynchronized
  subst hH
  have hl := lv_entry ([.int p0]) (n := 1) (Nat.le_of_ble_eq_true rfl)
  rw [lg_entry_eq]
  generalize (lg_sl ([.int p0]) ++ List.replicate (1 - (lg_sl ([.int p0])).length) Slot.unset).toArray = ls at hl ⊢
  have hl : lv_has ls 1 [(0, .int p0)] := hl
  refine lv_iload_n hx hb dJ6_bitCount_0f7a4_0 rfl (lv_at hl 0 rfl) ?_
  refine lv_iload_n hx hb dJ6_bitCount_0f7a4_1 rfl (lv_at hl 0 rfl) ?_
  refine lv_iconst (v := 1) hx hb dJ6_bitCount_0f7a4_2 (by decide) ?_
  refine lv_iushr (v := (Int32.toUInt32 p0 >>> (Int32.toUInt32 (1 : Int32) &&& Int32.toUInt32 31)).toInt32) hx hb dJ6_bitCount_0f7a4_3 rfl ?_
  refine lv_ldcw (own := RJ6) (v := 1431655765) hx hb hown (hts (.constant RJ6 265 (1431655765)) (by decide +kernel)) dJ6_bitCount_0f7a4_4 ?_
  refine lv_iand hx hb dJ6_bitCount_0f7a4_7 ?_
  refine lv_isub hx hb dJ6_bitCount_0f7a4_8 ?_
  refine lv_istore_n (lv' := [(0, .int (p0 - ((Int32.toUInt32 p0 >>> (Int32.toUInt32 (1 : Int32) &&& Int32.toUInt32 31)).toInt32 &&& 1431655765)))]) hx hb dJ6_bitCount_0f7a4_9 rfl hl (by decide) rfl (fun ls hl => ?_)
  refine lv_iload_n hx hb dJ6_bitCount_0f7a4_10 rfl (lv_at hl 0 rfl) ?_
  refine lv_ldcw (own := RJ6) (v := 858993459) hx hb hown (hts (.constant RJ6 266 (858993459)) (by decide +kernel)) dJ6_bitCount_0f7a4_11 ?_
  refine lv_iand hx hb dJ6_bitCount_0f7a4_14 ?_
  refine lv_iload_n hx hb dJ6_bitCount_0f7a4_15 rfl (lv_at hl 0 rfl) ?_
  refine lv_iconst (v := 2) hx hb dJ6_bitCount_0f7a4_16 (by decide) ?_
  refine lv_iushr (v := (Int32.toUInt32 (p0 - ((Int32.toUInt32 p0 >>> (Int32.toUInt32 (1 : Int32) &&& Int32.toUInt32 31)).toInt32 &&& 1431655765)) >>> (Int32.toUInt32 (2 : Int32) &&& Int32.toUInt32 31)).toInt32) hx hb dJ6_bitCount_0f7a4_17 rfl ?_
  refine lv_ldcw (own := RJ6) (v := 858993459) hx hb hown (hts (.constant RJ6 266 (858993459)) (by decide +kernel)) dJ6_bitCount_0f7a4_18 ?_
  refine lv_iand hx hb dJ6_bitCount_0f7a4_21 ?_
  refine lv_iadd hx hb dJ6_bitCount_0f7a4_22 ?_
  refine lv_istore_n (lv' := [(0, .int (((p0 - ((Int32.toUInt32 p0 >>> (Int32.toUInt32 (1 : Int32) &&& Int32.toUInt32 31)).toInt32 &&& 1431655765)) &&& 858993459) + ((Int32.toUInt32 (p0 - ((Int32.toUInt32 p0 >>> (Int32.toUInt32 (1 : Int32) &&& Int32.toUInt32 31)).toInt32 &&& 1431655765)) >>> (Int32.toUInt32 (2 : Int32) &&& Int32.toUInt32 31)).toInt32 &&& 858993459)))]) hx hb dJ6_bitCount_0f7a4_23 rfl hl (by decide) rfl (fun ls hl => ?_)
  refine lv_iload_n hx hb dJ6_bitCount_0f7a4_24 rfl (lv_at hl 0 rfl) ?_
  refine lv_iload_n hx hb dJ6_bitCount_0f7a4_25 rfl (lv_at hl 0 rfl) ?_
  refine lv_iconst (v := 4) hx hb dJ6_bitCount_0f7a4_26 (by decide) ?_
  refine lv_iushr (v := (Int32.toUInt32 (((p0 - ((Int32.toUInt32 p0 >>> (Int32.toUInt32 (1 : Int32) &&& Int32.toUInt32 31)).toInt32 &&& 1431655765)) &&& 858993459) + ((Int32.toUInt32 (p0 - ((Int32.toUInt32 p0 >>> (Int32.toUInt32 (1 : Int32) &&& Int32.toUInt32 31)).toInt32 &&& 1431655765)) >>> (Int32.toUInt32 (2 : Int32) &&& Int32.toUInt32 31)).toInt32 &&& 858993459)) >>> (Int32.toUInt32 (4 : Int32) &&& Int32.toUInt32 31)).toInt32) hx hb dJ6_bitCount_0f7a4_27 rfl ?_
  refine lv_iadd hx hb dJ6_bitCount_0f7a4_28 ?_
  refine lv_ldcw (own := RJ6) (v := 252645135) hx hb hown (hts (.constant RJ6 267 (252645135)) (by decide +kernel)) dJ6_bitCount_0f7a4_29 ?_
  refine lv_iand hx hb dJ6_bitCount_0f7a4_32 ?_
  refine lv_istore_n (lv' := [(0, .int (((((p0 - ((Int32.toUInt32 p0 >>> (Int32.toUInt32 (1 : Int32) &&& Int32.toUInt32 31)).toInt32 &&& 1431655765)) &&& 858993459) + ((Int32.toUInt32 (p0 - ((Int32.toUInt32 p0 >>> (Int32.toUInt32 (1 : Int32) &&& Int32.toUInt32 31)).toInt32 &&& 1431655765)) >>> (Int32.toUInt32 (2 : Int32) &&& Int32.toUInt32 31)).toInt32 &&& 858993459)) + (Int32.toUInt32 (((p0 - ((Int32.toUInt32 p0 >>> (Int32.toUInt32 (1 : Int32) &&& Int32.toUInt32 31)).toInt32 &&& 1431655765)) &&& 858993459) + ((Int32.toUInt32 (p0 - ((Int32.toUInt32 p0 >>> (Int32.toUInt32 (1 : Int32) &&& Int32.toUInt32 31)).toInt32 &&& 1431655765)) >>> (Int32.toUInt32 (2 : Int32) &&& Int32.toUInt32 31)).toInt32 &&& 858993459)) >>> (Int32.toUInt32 (4 : Int32) &&& Int32.toUInt32 31)).toInt32) &&& 252645135))]) hx hb dJ6_bitCount_0f7a4_33 rfl hl (by decide) rfl (fun ls hl => ?_)
  refine lv_iload_n hx hb dJ6_bitCount_0f7a4_34 rfl (lv_at hl 0 rfl) ?_
  refine lv_iload_n hx hb dJ6_bitCount_0f7a4_35 rfl (lv_at hl 0 rfl) ?_
  refine lv_bipush (v := 8) hx hb dJ6_bitCount_0f7a4_36 (by decide) ?_
  refine lv_iushr (v := (Int32.toUInt32 (((((p0 - ((Int32.toUInt32 p0 >>> (Int32.toUInt32 (1 : Int32) &&& Int32.toUInt32 31)).toInt32 &&& 1431655765)) &&& 858993459) + ((Int32.toUInt32 (p0 - ((Int32.toUInt32 p0 >>> (Int32.toUInt32 (1 : Int32) &&& Int32.toUInt32 31)).toInt32 &&& 1431655765)) >>> (Int32.toUInt32 (2 : Int32) &&& Int32.toUInt32 31)).toInt32 &&& 858993459)) + (Int32.toUInt32 (((p0 - ((Int32.toUInt32 p0 >>> (Int32.toUInt32 (1 : Int32) &&& Int32.toUInt32 31)).toInt32 &&& 1431655765)) &&& 858993459) + ((Int32.toUInt32 (p0 - ((Int32.toUInt32 p0 >>> (Int32.toUInt32 (1 : Int32) &&& Int32.toUInt32 31)).toInt32 &&& 1431655765)) >>> (Int32.toUInt32 (2 : Int32) &&& Int32.toUInt32 31)).toInt32 &&& 858993459)) >>> (Int32.toUInt32 (4 : Int32) &&& Int32.toUInt32 31)).toInt32) &&& 252645135) >>> (Int32.toUInt32 (8 : Int32) &&& Int32.toUInt32 31)).toInt32) hx hb dJ6_bitCount_0f7a4_38 rfl ?_
  refine lv_iadd hx hb dJ6_bitCount_0f7a4_39 ?_
  refine lv_istore_n (lv' := [(0, .int ((((((p0 - ((Int32.toUInt32 p0 >>> (Int32.toUInt32 (1 : Int32) &&& Int32.toUInt32 31)).toInt32 &&& 1431655765)) &&& 858993459) + ((Int32.toUInt32 (p0 - ((Int32.toUInt32 p0 >>> (Int32.toUInt32 (1 : Int32) &&& Int32.toUInt32 31)).toInt32 &&& 1431655765)) >>> (Int32.toUInt32 (2 : Int32) &&& Int32.toUInt32 31)).toInt32 &&& 858993459)) + (Int32.toUInt32 (((p0 - ((Int32.toUInt32 p0 >>> (Int32.toUInt32 (1 : Int32) &&& Int32.toUInt32 31)).toInt32 &&& 1431655765)) &&& 858993459) + ((Int32.toUInt32 (p0 - ((Int32.toUInt32 p0 >>> (Int32.toUInt32 (1 : Int32) &&& Int32.toUInt32 31)).toInt32 &&& 1431655765)) >>> (Int32.toUInt32 (2 : Int32) &&& Int32.toUInt32 31)).toInt32 &&& 858993459)) >>> (Int32.toUInt32 (4 : Int32) &&& Int32.toUInt32 31)).toInt32) &&& 252645135) + (Int32.toUInt32 (((((p0 - ((Int32.toUInt32 p0 >>> (Int32.toUInt32 (1 : Int32) &&& Int32.toUInt32 31)).toInt32 &&& 1431655765)) &&& 858993459) + ((Int32.toUInt32 (p0 - ((Int32.toUInt32 p0 >>> (Int32.toUInt32 (1 : Int32) &&& Int32.toUInt32 31)).toInt32 &&& 1431655765)) >>> (Int32.toUInt32 (2 : Int32) &&& Int32.toUInt32 31)).toInt32 &&& 858993459)) + (Int32.toUInt32 (((p0 - ((Int32.toUInt32 p0 >>> (Int32.toUInt32 (1 : Int32) &&& Int32.toUInt32 31)).toInt32 &&& 1431655765)) &&& 858993459) + ((Int32.toUInt32 (p0 - ((Int32.toUInt32 p0 >>> (Int32.toUInt32 (1 : Int32) &&& Int32.toUInt32 31)).toInt32 &&& 1431655765)) >>> (Int32.toUInt32 (2 : Int32) &&& Int32.toUInt32 31)).toInt32 &&& 858993459)) >>> (Int32.toUInt32 (4 : Int32) &&& Int32.toUInt32 31)).toInt32) &&& 252645135) >>> (Int32.toUInt32 (8 : Int32) &&& Int32.toUInt32 31)).toInt32))]) hx hb dJ6_bitCount_0f7a4_40 rfl hl (by decide) rfl (fun ls hl => ?_)
  refine lv_iload_n hx hb dJ6_bitCount_0f7a4_41 rfl (lv_at hl 0 rfl) ?_
  refine lv_iload_n hx hb dJ6_bitCount_0f7a4_42 rfl (lv_at hl 0 rfl) ?_
  refine lv_bipush (v := 16) hx hb dJ6_bitCount_0f7a4_43 (by decide) ?_
  refine lv_iushr (v := (Int32.toUInt32 ((((((p0 - ((Int32.toUInt32 p0 >>> (Int32.toUInt32 (1 : Int32) &&& Int32.toUInt32 31)).toInt32 &&& 1431655765)) &&& 858993459) + ((Int32.toUInt32 (p0 - ((Int32.toUInt32 p0 >>> (Int32.toUInt32 (1 : Int32) &&& Int32.toUInt32 31)).toInt32 &&& 1431655765)) >>> (Int32.toUInt32 (2 : Int32) &&& Int32.toUInt32 31)).toInt32 &&& 858993459)) + (Int32.toUInt32 (((p0 - ((Int32.toUInt32 p0 >>> (Int32.toUInt32 (1 : Int32) &&& Int32.toUInt32 31)).toInt32 &&& 1431655765)) &&& 858993459) + ((Int32.toUInt32 (p0 - ((Int32.toUInt32 p0 >>> (Int32.toUInt32 (1 : Int32) &&& Int32.toUInt32 31)).toInt32 &&& 1431655765)) >>> (Int32.toUInt32 (2 : Int32) &&& Int32.toUInt32 31)).toInt32 &&& 858993459)) >>> (Int32.toUInt32 (4 : Int32) &&& Int32.toUInt32 31)).toInt32) &&& 252645135) + (Int32.toUInt32 (((((p0 - ((Int32.toUInt32 p0 >>> (Int32.toUInt32 (1 : Int32) &&& Int32.toUInt32 31)).toInt32 &&& 1431655765)) &&& 858993459) + ((Int32.toUInt32 (p0 - ((Int32.toUInt32 p0 >>> (Int32.toUInt32 (1 : Int32) &&& Int32.toUInt32 31)).toInt32 &&& 1431655765)) >>> (Int32.toUInt32 (2 : Int32) &&& Int32.toUInt32 31)).toInt32 &&& 858993459)) + (Int32.toUInt32 (((p0 - ((Int32.toUInt32 p0 >>> (Int32.toUInt32 (1 : Int32) &&& Int32.toUInt32 31)).toInt32 &&& 1431655765)) &&& 858993459) + ((Int32.toUInt32 (p0 - ((Int32.toUInt32 p0 >>> (Int32.toUInt32 (1 : Int32) &&& Int32.toUInt32 31)).toInt32 &&& 1431655765)) >>> (Int32.toUInt32 (2 : Int32) &&& Int32.toUInt32 31)).toInt32 &&& 858993459)) >>> (Int32.toUInt32 (4 : Int32) &&& Int32.toUInt32 31)).toInt32) &&& 252645135) >>> (Int32.toUInt32 (8 : Int32) &&& Int32.toUInt32 31)).toInt32) >>> (Int32.toUInt32 (16 : Int32) &&& Int32.toUInt32 31)).toInt32) hx hb dJ6_bitCount_0f7a4_45 rfl ?_
  refine lv_iadd hx hb dJ6_bitCount_0f7a4_46 ?_
  refine lv_istore_n (lv' := [(0, .int (((((((p0 - ((Int32.toUInt32 p0 >>> (Int32.toUInt32 (1 : Int32) &&& Int32.toUInt32 31)).toInt32 &&& 1431655765)) &&& 858993459) + ((Int32.toUInt32 (p0 - ((Int32.toUInt32 p0 >>> (Int32.toUInt32 (1 : Int32) &&& Int32.toUInt32 31)).toInt32 &&& 1431655765)) >>> (Int32.toUInt32 (2 : Int32) &&& Int32.toUInt32 31)).toInt32 &&& 858993459)) + (Int32.toUInt32 (((p0 - ((Int32.toUInt32 p0 >>> (Int32.toUInt32 (1 : Int32) &&& Int32.toUInt32 31)).toInt32 &&& 1431655765)) &&& 858993459) + ((Int32.toUInt32 (p0 - ((Int32.toUInt32 p0 >>> (Int32.toUInt32 (1 : Int32) &&& Int32.toUInt32 31)).toInt32 &&& 1431655765)) >>> (Int32.toUInt32 (2 : Int32) &&& Int32.toUInt32 31)).toInt32 &&& 858993459)) >>> (Int32.toUInt32 (4 : Int32) &&& Int32.toUInt32 31)).toInt32) &&& 252645135) + (Int32.toUInt32 (((((p0 - ((Int32.toUInt32 p0 >>> (Int32.toUInt32 (1 : Int32) &&& Int32.toUInt32 31)).toInt32 &&& 1431655765)) &&& 858993459) + ((Int32.toUInt32 (p0 - ((Int32.toUInt32 p0 >>> (Int32.toUInt32 (1 : Int32) &&& Int32.toUInt32 31)).toInt32 &&& 1431655765)) >>> (Int32.toUInt32 (2 : Int32) &&& Int32.toUInt32 31)).toInt32 &&& 858993459)) + (Int32.toUInt32 (((p0 - ((Int32.toUInt32 p0 >>> (Int32.toUInt32 (1 : Int32) &&& Int32.toUInt32 31)).toInt32 &&& 1431655765)) &&& 858993459) + ((Int32.toUInt32 (p0 - ((Int32.toUInt32 p0 >>> (Int32.toUInt32 (1 : Int32) &&& Int32.toUInt32 31)).toInt32 &&& 1431655765)) >>> (Int32.toUInt32 (2 : Int32) &&& Int32.toUInt32 31)).toInt32 &&& 858993459)) >>> (Int32.toUInt32 (4 : Int32) &&& Int32.toUInt32 31)).toInt32) &&& 252645135) >>> (Int32.toUInt32 (8 : Int32) &&& Int32.toUInt32 31)).toInt32) + (Int32.toUInt32 ((((((p0 - ((Int32.toUInt32 p0 >>> (Int32.toUInt32 (1 : Int32) &&& Int32.toUInt32 31)).toInt32 &&& 1431655765)) &&& 858993459) + ((Int32.toUInt32 (p0 - ((Int32.toUInt32 p0 >>> (Int32.toUInt32 (1 : Int32) &&& Int32.toUInt32 31)).toInt32 &&& 1431655765)) >>> (Int32.toUInt32 (2 : Int32) &&& Int32.toUInt32 31)).toInt32 &&& 858993459)) + (Int32.toUInt32 (((p0 - ((Int32.toUInt32 p0 >>> (Int32.toUInt32 (1 : Int32) &&& Int32.toUInt32 31)).toInt32 &&& 1431655765)) &&& 858993459) + ((Int32.toUInt32 (p0 - ((Int32.toUInt32 p0 >>> (Int32.toUInt32 (1 : Int32) &&& Int32.toUInt32 31)).toInt32 &&& 1431655765)) >>> (Int32.toUInt32 (2 : Int32) &&& Int32.toUInt32 31)).toInt32 &&& 858993459)) >>> (Int32.toUInt32 (4 : Int32) &&& Int32.toUInt32 31)).toInt32) &&& 252645135) + (Int32.toUInt32 (((((p0 - ((Int32.toUInt32 p0 >>> (Int32.toUInt32 (1 : Int32) &&& Int32.toUInt32 31)).toInt32 &&& 1431655765)) &&& 858993459) + ((Int32.toUInt32 (p0 - ((Int32.toUInt32 p0 >>> (Int32.toUInt32 (1 : Int32) &&& Int32.toUInt32 31)).toInt32 &&& 1431655765)) >>> (Int32.toUInt32 (2 : Int32) &&& Int32.toUInt32 31)).toInt32 &&& 858993459)) + (Int32.toUInt32 (((p0 - ((Int32.toUInt32 p0 >>> (Int32.toUInt32 (1 : Int32) &&& Int32.toUInt32 31)).toInt32 &&& 1431655765)) &&& 858993459) + ((Int32.toUInt32 (p0 - ((Int32.toUInt32 p0 >>> (Int32.toUInt32 (1 : Int32) &&& Int32.toUInt32 31)).toInt32 &&& 1431655765)) >>> (Int32.toUInt32 (2 : Int32) &&& Int32.toUInt32 31)).toInt32 &&& 858993459)) >>> (Int32.toUInt32 (4 : Int32) &&& Int32.toUInt32 31)).toInt32) &&& 252645135) >>> (Int32.toUInt32 (8 : Int32) &&& Int32.toUInt32 31)).toInt32) >>> (Int32.toUInt32 (16 : Int32) &&& Int32.toUInt32 31)).toInt32))]) hx hb dJ6_bitCount_0f7a4_47 rfl hl (by decide) rfl (fun ls hl => ?_)
  refine lv_iload_n hx hb dJ6_bitCount_0f7a4_48 rfl (lv_at hl 0 rfl) ?_
  refine lv_bipush (v := 63) hx hb dJ6_bitCount_0f7a4_49 (by decide) ?_
  refine lv_iand hx hb dJ6_bitCount_0f7a4_51 ?_
  exact W.iret hx hb hr (fun t ht _ => ⟨_, rfl, Option.some.inj h, ht⟩) (fun _ q => absurd q List.not_mem_nil) dJ6_bitCount_0f7a4_52

set_option maxHeartbeats 4000000 in
set_option maxRecDepth 100000 in
theorem c_sc_later (l : Launch) (D : va_G) (cI cJ cZ : ClassId)  (H0 : Heap) (p0 : Int64) (rv : Int64) (h : sc_later p0 = some rv) : Met l yX7_later wsX7_later ({ frames := 0, cells := 0, slots := 0, locals := 0 } : Room) (rPc D cI cJ cZ H0 [.long p0]) (vp_Sl (fun r => r = rv)) 0 0 (fun _ => False) := by
  unfold sc_later at h
  refine Met.ofW (cc := cX7_later) (maxL := 2) (ret := (some .long)) (by decide) rfl ?_
  intro p e s m args below meth c s₁ B hml hv
  obtain ⟨rfl, hH, hK⟩ := hv
  have hx := B.exec
  have hb := B.bytes
  have hr := B.returns
  have hts := atoms_spec (ws := wsX7_later) B.pre
  have hown : s.vm.findClass RX7 = some m.cls := findClass_of_methodNamed B.named
  have hlocks := B.notSynchronized
  subst hH
  have hl := lv_entry ([.long p0]) (n := 2) (Nat.le_of_ble_eq_true rfl)
  rw [lg_entry_eq]
  generalize (lg_sl ([.long p0]) ++ List.replicate (2 - (lg_sl ([.long p0])).length) Slot.unset).toArray = ls at hl ⊢
  have hl : lv_has ls 2 [(0, .long p0)] := hl
  refine lv_lload_n hx hb dX7_later_0 rfl (lv_at hl 0 rfl) ?_
  refine lv_ldc2 (own := RX7) (v := 4294967296) hx hb hown (hts (.constantLong RX7 17 (4294967296)) (by decide +kernel)) dX7_later_1 ?_
  refine lv_ladd hx hb dX7_later_4 ?_
  exact W.lret hx hb hr (fun t ht _ => ⟨_, rfl, Option.some.inj h, ht⟩) (fun _ q => absurd q List.not_mem_nil) dX7_later_5

set_option maxHeartbeats 4000000 in
set_option maxRecDepth 100000 in
theorem c_fl_tossed (l : Launch) (D : va_G) (cI cJ cZ : ClassId) (g : Nat → Nat) (fPk : Nat → Int32) (fWn : Nat → Int32) (fGw : Nat → Int32) (fGk : Nat → Int32) (fOw : Nat → Int32) (fSt : Nat → Int32) (fPe : Int32) (fHo : Int32) (fGr : Int32) (fPa : Int32) (fFt : Int32)  (H0 : Heap) (hP : va_P D vwCl (fW g cI fPk fWn fGw fGk fOw fSt fPe fHo fGr fPa fFt) H0) (p1 : Int64) (p3 : Int32) (rv : Int64) (h : fl_tossed fPk fWn fGw fGk fOw fPe fHo fGr p1 p3 = some rv) : Met l yX3_tossed wsX3_tossed ({ frames := 3, cells := 0, slots := 0, locals := 72 } : Room) (rPc D cI cJ cZ H0 [.ref (g 0), .long p1, .int p3]) (vp_Sl (fun r => r = rv)) 0 0 (fun _ => False) := by
  unfold fl_tossed at h
  refine Met.ofW (cc := cX3_tossed) (maxL := 8) (ret := (some .long)) (by decide) rfl ?_
  intro p e s m args below meth c s₁ B hml hv
  obtain ⟨rfl, hH, hK⟩ := hv
  have hx := B.exec
  have hb := B.bytes
  have hr := B.returns
  have hts := atoms_spec (ws := wsX3_tossed) B.pre
  have hown : s.vm.findClass RX3 = some m.cls := findClass_of_methodNamed B.named
  have hlocks := B.notSynchronized
  subst hH
  have hl := lv_entry ([.ref (g 0), .long p1, .int p3]) (n := 8) (Nat.le_of_ble_eq_true rfl)
  rw [lg_entry_eq]
  generalize (lg_sl ([.ref (g 0), .long p1, .int p3]) ++ List.replicate (8 - (lg_sl ([.ref (g 0), .long p1, .int p3])).length) Slot.unset).toArray = ls at hl ⊢
  have hl : lv_has ls 8 [(0, .ref (g 0)), (1, .long p1), (3, .int p3)] := hl
  have hiX3 : ∀ w ∈ u_ws RX3 TX3 11, w ∈ wsX3_tossed := fun w hw => List.mem_cons_of_mem _ (List.mem_append_right _ hw)
  refine lv_aload_n hx hb dX3_tossed_0 rfl (lv_at hl 0 rfl) ?_
  refine lv_lload_n hx hb dX3_tossed_1 rfl (lv_at hl 1 rfl) ?_
  refine lv_iload_n hx hb dX3_tossed_2 rfl (lv_at hl 2 rfl) ?_
  obtain ⟨q1, hq1, h⟩ := bS h
  refine rcI (va_runV (As := [.long p1, .int p3]) (rest := []) ⟨hx, hb, hml, hown, hts⟩ (c_fl_liftAt l D cI cJ cZ g fPk fWn fGw fGk fOw fSt fPe fHo fGr fPa fFt s.heap hP p1 p3 q1 hq1) (cwV 2 hts gX3_tossed_X3_liftAt rfl rfl rfl (by decide +kernel) ⟨Nat.le_of_ble_eq_true rfl, Nat.le_of_ble_eq_true rfl⟩) (rPreV hK hP (ci := 2) (q0 := 0) rfl rfl) rfl rfl hl.1 rfl (lv_room (Nat.le_of_ble_eq_true rfl)) dX3_tossed_3 ⟨Nat.zero_le _, Nat.zero_le _⟩) ?_
  refine lv_istore (lv' := [(4, .int q1), (0, .ref (g 0)), (1, .long p1), (3, .int p3)]) hx hb dX3_tossed_6 hl (by decide) rfl (fun ls hl => ?_)
  refine lv_lload_n hx hb dX3_tossed_8 rfl (lv_at hl 2 rfl) ?_
  obtain ⟨q2, hq2, h⟩ := bS h
  refine rcL (va_runS (As := [.long p1]) (rest := []) ⟨hx, hb, hml, hown, hts⟩ (c_sc_later l D cI cJ cZ   s.heap p1 q2 hq2) (va_cwS 1 hts gX3_tossed_X7_later rfl rfl rfl (by decide +kernel) ⟨Nat.le_of_ble_eq_true rfl, Nat.le_of_ble_eq_true rfl⟩) (rPreS hK) rfl rfl hl.1 rfl (lv_room (Nat.le_of_ble_eq_true rfl)) dX3_tossed_9 ⟨Nat.zero_le _, Nat.zero_le _⟩) ?_
  refine lv_lstore (lv' := [(5, .long q2), (4, .int q1), (0, .ref (g 0)), (1, .long p1), (3, .int p3)]) hx hb dX3_tossed_12 hl (by decide) rfl (fun ls hl => ?_)
  refine lv_iconst (v := 0) hx hb dX3_tossed_14 (by decide) ?_
  refine lv_istore (lv' := [(7, .int 0), (5, .long q2), (4, .int q1), (0, .ref (g 0)), (1, .long p1), (3, .int p3)]) hx hb dX3_tossed_15 hl (by decide) rfl (fun ls hl => ?_)
  have L17 : ∀ (n : Nat) (x7_17 : Int32) (x5_17 : Int64) (ls : Array Slot) (kx : Int32 → Int64 → Option (Int64)), fl_tossed_L17 fPk fGw fGk fOw fPe fGr p1 p3 q1 kx n x7_17 x5_17 = some rv → lv_has ls 8 [(7, .int x7_17), (5, .long x5_17), (4, .int q1), (0, .ref (g 0)), (1, .long p1), (3, .int p3)] → (∀ (y7_17 : Int32) (y5_17 : Int64) (ls : Array Slot), kx y7_17 y5_17 = some rv → lv_has ls 8 [(7, .int y7_17), (5, .long y5_17), (4, .int q1), (0, .ref (g 0)), (1, .long p1), (3, .int p3)] → W p l e (headSpec wsX3_tossed ({ frames := 3, cells := 0, slots := 0, locals := 72 } : Room)).room s m ([.ref (g 0), .long p1, .int p3] : List Value).toArray below meth c s.heap [] 0 0 (MQ below (vp_Sl (fun r => r = rv)) ([.ref (g 0), .long p1, .int p3] : List Value).toArray s 0 0 (fun _ => False)) (F0 m 60 ls [])) → W p l e (headSpec wsX3_tossed ({ frames := 3, cells := 0, slots := 0, locals := 72 } : Room)).room s m ([.ref (g 0), .long p1, .int p3] : List Value).toArray below meth c s.heap [] 0 0 (MQ below (vp_Sl (fun r => r = rv)) ([.ref (g 0), .long p1, .int p3] : List Value).toArray s 0 0 (fun _ => False)) (F0 m 17 ls []) := by
    intro n
    induction n with
    | zero => intro _ _ _ _ h; rw [fl_tossed_L17.eq_1] at h; cases h
    | succ n ih =>
      intro x7_17 x5_17 ls kx h hl hk
      rw [fl_tossed_L17.eq_2] at h
      refine lv_iload hx hb dX3_tossed_17 (lv_at hl 0 rfl) ?_
      refine lv_aload_n hx hb dX3_tossed_19 rfl (lv_at hl 3 rfl) ?_
      refine va_get (D := D) (ci := 2) (v := .int fGr) (C := RX3) (T := TX3) (N := 11) hx hb hts hiX3 hown hK.1 hP 0 rfl rfl 8 (by decide) (hts (.fieldLink RX3 37 "WinnowedGuilt$Floor" "grains" "I") (by decide +kernel)) (fun _ h9 => h9) rfl dX3_tossed_20 ?_
      refine lv_icmp_ge (tgt := 60) hx hb dX3_tossed_23 (by decide) (fun c3 => ?_) (fun c3 => ?_)
      · have h := iT c3 h
        exact hk _ _ _ h (lv_sub hl [0, 1, 2, 3, 4, 5] rfl)
      · have h := iF c3 h
        refine lv_lload_n hx hb dX3_tossed_26 rfl (lv_at hl 4 rfl) ?_
        refine lv_iload hx hb dX3_tossed_27 (lv_at hl 0 rfl) ?_
        obtain ⟨q4, hq4, h⟩ := bS h
        refine rcI (va_runS (As := [.long p1, .int x7_17]) (rest := []) ⟨hx, hb, hml, hown, hts⟩ (c_sc_placeOf l D cI cJ cZ   s.heap p1 x7_17 q4 hq4) (va_cwS 2 hts gX3_tossed_X7_placeOf rfl rfl rfl (by decide +kernel) ⟨Nat.le_of_ble_eq_true rfl, Nat.le_of_ble_eq_true rfl⟩) (rPreS hK) rfl rfl hl.1 rfl (lv_room (Nat.le_of_ble_eq_true rfl)) dX3_tossed_29 ⟨Nat.zero_le _, Nat.zero_le _⟩) ?_
        refine lv_iload_n hx hb dX3_tossed_32 rfl (lv_at hl 5 rfl) ?_
        refine lv_icmp_ne (tgt := 54) hx hb dX3_tossed_33 (by decide) (fun c5 => ?_) (fun c5 => ?_)
        · have h := iF c5 h
          refine lv_iinc (v := (x7_17 + 1)) (lv' := [(7, .int (x7_17 + 1)), (5, .long x5_17), (4, .int q1), (0, .ref (g 0)), (1, .long p1), (3, .int p3)]) hx hb dX3_tossed_54 hl (k := 0) rfl rfl (by decide) rfl (fun ls hl => ?_)
          refine lv_goto (tgt := 17) hx hb dX3_tossed_57 (by decide) ?_
          exact ih _ _ _ _ h (lv_sub hl [0, 1, 2, 3, 4, 5] rfl) hk
        · have h := iT c5 h
          refine lv_lload hx hb dX3_tossed_36 (lv_at hl 1 rfl) ?_
          refine lv_iload hx hb dX3_tossed_38 (lv_at hl 0 rfl) ?_
          refine lv_aload_n hx hb dX3_tossed_40 rfl (lv_at hl 3 rfl) ?_
          refine lv_iload hx hb dX3_tossed_41 (lv_at hl 0 rfl) ?_
          refine lv_iload_n hx hb dX3_tossed_43 rfl (lv_at hl 5 rfl) ?_
          refine lv_iload hx hb dX3_tossed_44 (lv_at hl 2 rfl) ?_
          obtain ⟨q6, hq6, h⟩ := bS h
          refine rcI (va_runV (As := [.int x7_17, .int p3, .int q1]) (rest := [.int x7_17, .long x5_17]) ⟨hx, hb, hml, hown, hts⟩ (c_fl_landing l D cI cJ cZ g fPk fWn fGw fGk fOw fSt fPe fHo fGr fPa fFt s.heap hP x7_17 p3 q1 q6 hq6) (cwV 3 hts gX3_tossed_X3_landing rfl rfl rfl (by decide +kernel) ⟨Nat.le_of_ble_eq_true rfl, Nat.le_of_ble_eq_true rfl⟩) (rPreV hK hP (ci := 2) (q0 := 0) rfl rfl) rfl rfl hl.1 rfl (lv_room (Nat.le_of_ble_eq_true rfl)) dX3_tossed_46 ⟨Nat.zero_le _, Nat.zero_le _⟩) ?_
          obtain ⟨q7, hq7, h⟩ := bS h
          refine rcL (va_runS (As := [.long x5_17, .int x7_17, .int q6]) (rest := []) ⟨hx, hb, hml, hown, hts⟩ (c_sc_withPlace l D cI cJ cZ   s.heap x5_17 x7_17 q6 q7 hq7) (va_cwS 3 hts gX3_tossed_X7_withPlace rfl rfl rfl (by decide +kernel) ⟨Nat.le_of_ble_eq_true rfl, Nat.le_of_ble_eq_true rfl⟩) (rPreS hK) rfl rfl hl.1 rfl (lv_room (Nat.le_of_ble_eq_true rfl)) dX3_tossed_49 ⟨Nat.zero_le _, Nat.zero_le _⟩) ?_
          refine lv_lstore (lv' := [(5, .long q7), (7, .int x7_17), (4, .int q1), (0, .ref (g 0)), (1, .long p1), (3, .int p3)]) hx hb dX3_tossed_52 hl (by decide) rfl (fun ls hl => ?_)
          refine lv_iinc (v := (x7_17 + 1)) (lv' := [(7, .int (x7_17 + 1)), (5, .long q7), (4, .int q1), (0, .ref (g 0)), (1, .long p1), (3, .int p3)]) hx hb dX3_tossed_54 hl (k := 1) rfl rfl (by decide) rfl (fun ls hl => ?_)
          refine lv_goto (tgt := 17) hx hb dX3_tossed_57 (by decide) ?_
          exact ih _ _ _ _ h (lv_sub hl [0, 1, 2, 3, 4, 5] rfl) hk
  refine L17 _ _ _ _ _ h hl (fun y7_17 y5_17 ls h hl => ?_)
  refine lv_lload hx hb dX3_tossed_60 (lv_at hl 1 rfl) ?_
  exact W.lret hx hb hr (fun t ht _ => ⟨_, rfl, Option.some.inj h, ht⟩) (fun _ q => absurd q List.not_mem_nil) dX3_tossed_62

set_option maxHeartbeats 4000000 in
set_option maxRecDepth 100000 in
theorem c_ac_forgetFirst (l : Launch) (D : va_G) (cI cJ cZ : ClassId) (a : Nat → Nat) (g : Nat → Nat) (d : Nat → Nat) (xText : Nat → Int32) (xLetters : Int32) (xNow : Int64) (xKept : Nat → Int64) (xIsKept : Nat → Int32) (xChance : Int64) (xScenes : Nat → Int64) (xASize : Int32) (xSKinds : Nat → Int32) (xSLifts : Nat → Int32) (xSFlights : Nat → Int32) (xSSize : Int32) (xTally : Nat → Int32) (xOut : Nat → Int64) (fPk : Nat → Int32) (fWn : Nat → Int32) (fGw : Nat → Int32) (fGk : Nat → Int32) (fOw : Nat → Int32) (fSt : Nat → Int32) (fPe : Int32) (fHo : Int32) (fGr : Int32) (fPa : Int32) (fFt : Int32) (dPk : Nat → Int32) (dWn : Nat → Int32) (dGw : Nat → Int32) (dGk : Nat → Int32) (dOw : Nat → Int32) (dSt : Nat → Int32) (dPe : Int32) (dHo : Int32) (dGr : Int32) (dPa : Int32) (dFt : Int32)  (sz : Nat)  (xScenes_r : Nat → Int64) (xASize_r : Int32) (h : ac_forgetFirst xScenes = some (xScenes_r, xASize_r)) : Met l yX0_forgetFirst wsX0_forgetFirst ({ frames := 0, cells := 0, slots := 0, locals := 0 } : Room) (wPc D cI cJ cZ (xW a g d cI cJ cZ (g 0) (d 0) xText xLetters xNow xKept xIsKept xChance xScenes xASize xSKinds xSLifts xSFlights xSSize xTally xOut fPk fWn fGw fGk fOw fSt fPe fHo fGr fPa fFt dPk dWn dGw dGk dOw dSt dPe dHo dGr dPa dFt) sz [.ref (a 2)]) (wQv D (xW a g d cI cJ cZ (g 0) (d 0) xText xLetters xNow xKept xIsKept xChance xScenes xASize xSKinds xSLifts xSFlights xSSize xTally xOut fPk fWn fGw fGk fOw fSt fPe fHo fGr fPa fFt dPk dWn dGw dGk dOw dSt dPe dHo dGr dPa dFt) (xW a g d cI cJ cZ (g 0) (d 0) xText xLetters xNow xKept xIsKept xChance xScenes_r xASize_r xSKinds xSLifts xSFlights xSSize xTally xOut fPk fWn fGw fGk fOw fSt fPe fHo fGr fPa fFt dPk dWn dGw dGk dOw dSt dPe dHo dGr dPa dFt) sz) 0 0 (va_A (xW a g d cI cJ cZ (g 0) (d 0) xText xLetters xNow xKept xIsKept xChance xScenes xASize xSKinds xSLifts xSFlights xSSize xTally xOut fPk fWn fGw fGk fOw fSt fPe fHo fGr fPa fFt dPk dWn dGw dGk dOw dSt dPe dHo dGr dPa dFt) sz) := by
  unfold ac_forgetFirst at h
  refine Met.ofW (cc := cX0_forgetFirst) (maxL := 2) (ret := none) (by decide) rfl ?_
  intro p e s m args below meth c s₁ B hml hv
  obtain ⟨rfl, hsz, hP, hK, hD0⟩ := hv
  have hx := B.exec
  have hb := B.bytes
  have hr := B.returns
  have hts := atoms_spec (ws := wsX0_forgetFirst) B.pre
  have hown : s.vm.findClass RX0 = some m.cls := findClass_of_methodNamed B.named
  have hlocks := B.notSynchronized
  subst hsz
  have hD := hD0.self (sz := s.heap.size)
  have hA : ∀ q : Nat, s.heap.size ≤ q → va_A (xW a g d cI cJ cZ (g 0) (d 0) xText xLetters xNow xKept xIsKept xChance xScenes xASize xSKinds xSLifts xSFlights xSSize xTally xOut fPk fWn fGw fGk fOw fSt fPe fHo fGr fPa fFt dPk dWn dGw dGk dOw dSt dPe dHo dGr dPa dFt) s.heap.size q := fun q h => Or.inr h
  have hS : va_S (va_A (xW a g d cI cJ cZ (g 0) (d 0) xText xLetters xNow xKept xIsKept xChance xScenes xASize xSKinds xSLifts xSFlights xSSize xTally xOut fPk fWn fGw fGk fOw fSt fPe fHo fGr fPa fFt dPk dWn dGw dGk dOw dSt dPe dHo dGr dPa dFt) s.heap.size) s.heap s.heap [] := va_S.rf
  obtain ⟨A, hAe⟩ : ∃ A, A = va_A (xW a g d cI cJ cZ (g 0) (d 0) xText xLetters xNow xKept xIsKept xChance xScenes xASize xSKinds xSLifts xSFlights xSSize xTally xOut fPk fWn fGw fGk fOw fSt fPe fHo fGr fPa fFt dPk dWn dGw dGk dOw dSt dPe dHo dGr dPa dFt) s.heap.size := ⟨_, rfl⟩
  rw [← hAe] at hD hA hS
  have hl := lv_entry ([.ref (a 2)]) (n := 2) (Nat.le_of_ble_eq_true rfl)
  rw [lg_entry_eq]
  generalize (lg_sl ([.ref (a 2)]) ++ List.replicate (2 - (lg_sl ([.ref (a 2)])).length) Slot.unset).toArray = ls at hl ⊢
  have hl : lv_has ls 2 [(0, .ref (a 2))] := hl
  have hiX0 : ∀ w ∈ u_ws RX0 TX0 2, w ∈ wsX0_forgetFirst := fun w hw => List.mem_cons_of_mem _ (List.mem_append_right _ hw)
  refine lv_iconst (v := 1) hx hb dX0_forgetFirst_0 (by decide) ?_
  refine lv_istore_n (lv' := [(1, .int 1), (0, .ref (a 2))]) hx hb dX0_forgetFirst_1 rfl hl (by decide) rfl (fun ls hl => ?_)
  have L2 : ∀ (n : Nat) (x1_2 : Int32) (xScenes_2x : (Nat → Int64)) (H : Heap) (locs : List Loc) (ls : Array Slot) (kx : Int32 → (Nat → Int64) → Option ((Nat → Int64) × (Int32))), ac_forgetFirst_L2  kx n x1_2 xScenes_2x = some (xScenes_r, xASize_r) → va_P D vwCl (xW a g d cI cJ cZ (g 0) (d 0) xText xLetters xNow xKept xIsKept xChance xScenes_2x xASize xSKinds xSLifts xSFlights xSSize xTally xOut fPk fWn fGw fGk fOw fSt fPe fHo fGr fPa fFt dPk dWn dGw dGk dOw dSt dPe dHo dGr dPa dFt) H → va_D A (xW a g d cI cJ cZ (g 0) (d 0) xText xLetters xNow xKept xIsKept xChance xScenes_2x xASize xSKinds xSLifts xSFlights xSSize xTally xOut fPk fWn fGw fGk fOw fSt fPe fHo fGr fPa fFt dPk dWn dGw dGk dOw dSt dPe dHo dGr dPa dFt) → va_S A s.heap H locs → lv_has ls 2 [(1, .int x1_2), (0, .ref (a 2))] → (∀ (y1_2 : Int32) (xScenes_2 : (Nat → Int64)) (H : Heap) (locs : List Loc) (ls : Array Slot), kx y1_2 xScenes_2 = some (xScenes_r, xASize_r) → va_P D vwCl (xW a g d cI cJ cZ (g 0) (d 0) xText xLetters xNow xKept xIsKept xChance xScenes_2 xASize xSKinds xSLifts xSFlights xSSize xTally xOut fPk fWn fGw fGk fOw fSt fPe fHo fGr fPa fFt dPk dWn dGw dGk dOw dSt dPe dHo dGr dPa dFt) H → va_D A (xW a g d cI cJ cZ (g 0) (d 0) xText xLetters xNow xKept xIsKept xChance xScenes_2 xASize xSKinds xSLifts xSFlights xSSize xTally xOut fPk fWn fGw fGk fOw fSt fPe fHo fGr fPa fFt dPk dWn dGw dGk dOw dSt dPe dHo dGr dPa dFt) → va_S A s.heap H locs → lv_has ls 2 [(1, .int y1_2), (0, .ref (a 2))] → W p l e (headSpec wsX0_forgetFirst ({ frames := 0, cells := 0, slots := 0, locals := 0 } : Room)).room s m ([.ref (a 2)] : List Value).toArray below meth c H locs 0 0 (MQ below (wQv D (xW a g d cI cJ cZ (g 0) (d 0) xText xLetters xNow xKept xIsKept xChance xScenes xASize xSKinds xSLifts xSFlights xSSize xTally xOut fPk fWn fGw fGk fOw fSt fPe fHo fGr fPa fFt dPk dWn dGw dGk dOw dSt dPe dHo dGr dPa dFt) (xW a g d cI cJ cZ (g 0) (d 0) xText xLetters xNow xKept xIsKept xChance xScenes_r xASize_r xSKinds xSLifts xSFlights xSSize xTally xOut fPk fWn fGw fGk fOw fSt fPe fHo fGr fPa fFt dPk dWn dGw dGk dOw dSt dPe dHo dGr dPa dFt) s.heap.size) ([.ref (a 2)] : List Value).toArray s 0 0 (va_A (xW a g d cI cJ cZ (g 0) (d 0) xText xLetters xNow xKept xIsKept xChance xScenes xASize xSKinds xSLifts xSFlights xSSize xTally xOut fPk fWn fGw fGk fOw fSt fPe fHo fGr fPa fFt dPk dWn dGw dGk dOw dSt dPe dHo dGr dPa dFt) s.heap.size)) (F0 m 31 ls [])) → W p l e (headSpec wsX0_forgetFirst ({ frames := 0, cells := 0, slots := 0, locals := 0 } : Room)).room s m ([.ref (a 2)] : List Value).toArray below meth c H locs 0 0 (MQ below (wQv D (xW a g d cI cJ cZ (g 0) (d 0) xText xLetters xNow xKept xIsKept xChance xScenes xASize xSKinds xSLifts xSFlights xSSize xTally xOut fPk fWn fGw fGk fOw fSt fPe fHo fGr fPa fFt dPk dWn dGw dGk dOw dSt dPe dHo dGr dPa dFt) (xW a g d cI cJ cZ (g 0) (d 0) xText xLetters xNow xKept xIsKept xChance xScenes_r xASize_r xSKinds xSLifts xSFlights xSSize xTally xOut fPk fWn fGw fGk fOw fSt fPe fHo fGr fPa fFt dPk dWn dGw dGk dOw dSt dPe dHo dGr dPa dFt) s.heap.size) ([.ref (a 2)] : List Value).toArray s 0 0 (va_A (xW a g d cI cJ cZ (g 0) (d 0) xText xLetters xNow xKept xIsKept xChance xScenes xASize xSKinds xSLifts xSFlights xSSize xTally xOut fPk fWn fGw fGk fOw fSt fPe fHo fGr fPa fFt dPk dWn dGw dGk dOw dSt dPe dHo dGr dPa dFt) s.heap.size)) (F0 m 2 ls []) := by
    intro n
    induction n with
    | zero => intro _ _ _ _ _ _ h; rw [ac_forgetFirst_L2.eq_1] at h; cases h
    | succ n ih =>
      intro x1_2 xScenes_2x H locs ls kx h hP hD hS hl hk
      rw [ac_forgetFirst_L2.eq_2] at h
      refine lv_iload_n hx hb dX0_forgetFirst_2 rfl (lv_at hl 0 rfl) ?_
      refine lv_aload_n hx hb dX0_forgetFirst_3 rfl (lv_at hl 1 rfl) ?_
      refine va_get (D := D) (ci := 0) (v := .ref (a 7)) (C := RX0) (T := TX0) (N := 2) hx hb hts hiX0 hown hK.1 hP 4 rfl rfl 0 (by decide) (hts (.fieldLink RX0 9 "WinnowedGuilt$Acts" "scenes" "[J") (by decide +kernel)) (fun _ h9 => h9) rfl dX0_forgetFirst_4 ?_
      refine va_alen (v := 14) hx hb hK.1 hP 5 1 rfl rfl rfl dX0_forgetFirst_7 ?_
      refine lv_icmp_ge (tgt := 31) hx hb dX0_forgetFirst_8 (by decide) (fun c1 => ?_) (fun c1 => ?_)
      · have h := iT c1 h
        exact hk _ _ _ _ _ h hP hD hS (lv_sub hl [0, 1] rfl)
      · have h := iF c1 h
        refine lv_aload_n hx hb dX0_forgetFirst_11 rfl (lv_at hl 1 rfl) ?_
        refine va_get (D := D) (ci := 0) (v := .ref (a 7)) (C := RX0) (T := TX0) (N := 2) hx hb hts hiX0 hown hK.1 hP 4 rfl rfl 0 (by decide) (hts (.fieldLink RX0 9 "WinnowedGuilt$Acts" "scenes" "[J") (by decide +kernel)) (fun _ h9 => h9) rfl dX0_forgetFirst_12 ?_
        refine lv_iload_n hx hb dX0_forgetFirst_15 rfl (lv_at hl 0 rfl) ?_
        refine lv_iconst (v := 1) hx hb dX0_forgetFirst_16 (by decide) ?_
        refine lv_isub hx hb dX0_forgetFirst_17 ?_
        refine lv_aload_n hx hb dX0_forgetFirst_18 rfl (lv_at hl 1 rfl) ?_
        refine va_get (D := D) (ci := 0) (v := .ref (a 7)) (C := RX0) (T := TX0) (N := 2) hx hb hts hiX0 hown hK.1 hP 4 rfl rfl 0 (by decide) (hts (.fieldLink RX0 9 "WinnowedGuilt$Acts" "scenes" "[J") (by decide +kernel)) (fun _ h9 => h9) rfl dX0_forgetFirst_19 ?_
        refine lv_iload_n hx hb dX0_forgetFirst_22 rfl (lv_at hl 0 rfl) ?_
        obtain ⟨hi2, h⟩ := gI_some h
        refine ldL (v := (xScenes_2x (Int32.toNatClampNeg x1_2))) hx hb hK.1 hP 5 rfl rfl hi2 rfl dX0_forgetFirst_23 ?_
        obtain ⟨hi3, h⟩ := gI_some h
        refine va_last hx hb hK.1 hP hD hS 5 1 rfl rfl hi3 dX0_forgetFirst_24 (fun H locs hP hD hS => ?_)
        have hP : va_P D vwCl (xW a g d cI cJ cZ (g 0) (d 0) xText xLetters xNow xKept xIsKept xChance (vp_updL xScenes_2x (Int32.toNatClampNeg (x1_2 - 1)) (xScenes_2x (Int32.toNatClampNeg x1_2))) xASize xSKinds xSLifts xSFlights xSSize xTally xOut fPk fWn fGw fGk fOw fSt fPe fHo fGr fPa fFt dPk dWn dGw dGk dOw dSt dPe dHo dGr dPa dFt) H := hP
        have hD : va_D A (xW a g d cI cJ cZ (g 0) (d 0) xText xLetters xNow xKept xIsKept xChance (vp_updL xScenes_2x (Int32.toNatClampNeg (x1_2 - 1)) (xScenes_2x (Int32.toNatClampNeg x1_2))) xASize xSKinds xSLifts xSFlights xSSize xTally xOut fPk fWn fGw fGk fOw fSt fPe fHo fGr fPa fFt dPk dWn dGw dGk dOw dSt dPe dHo dGr dPa dFt) := hD
        refine lv_iinc (v := (x1_2 + 1)) (lv' := [(1, .int (x1_2 + 1)), (0, .ref (a 2))]) hx hb dX0_forgetFirst_25 hl (k := 0) rfl rfl (by decide) rfl (fun ls hl => ?_)
        refine lv_goto (tgt := 2) hx hb dX0_forgetFirst_28 (by decide) ?_
        exact ih _ _ _ _ _ _ h hP hD hS (lv_sub hl [0, 1] rfl) hk
  refine L2 _ _ _ _ _ _ _ h hP hD hS hl (fun y1_2 xScenes_2 H locs ls h hP hD hS hl => ?_)
  refine lv_aload_n hx hb dX0_forgetFirst_31 rfl (lv_at hl 1 rfl) ?_
  refine lv_aload_n hx hb dX0_forgetFirst_32 rfl (lv_at hl 1 rfl) ?_
  refine va_get (D := D) (ci := 0) (v := .ref (a 7)) (C := RX0) (T := TX0) (N := 2) hx hb hts hiX0 hown hK.1 hP 4 rfl rfl 0 (by decide) (hts (.fieldLink RX0 9 "WinnowedGuilt$Acts" "scenes" "[J") (by decide +kernel)) (fun _ h9 => h9) rfl dX0_forgetFirst_33 ?_
  refine va_alen (v := 14) hx hb hK.1 hP 5 1 rfl rfl rfl dX0_forgetFirst_36 ?_
  refine lv_iconst (v := 1) hx hb dX0_forgetFirst_37 (by decide) ?_
  refine lv_isub hx hb dX0_forgetFirst_38 ?_
  refine va_put (D := D) (ci := 0) (v := .int (14 - 1)) (ty := .int) (C := RX0) (T := TX0) (N := 2) hx hb hts hiX0 tyX0 tyX0_ok nmX0 hown hK.1 hP hD hS 4 rfl rfl 1 (by decide) (hts (.fieldLink RX0 15 "WinnowedGuilt$Acts" "size" "I") (by decide +kernel)) (fun _ h9 => h9) rfl (by decide +kernel) rfl rfl (Nat.le_of_ble_eq_true rfl) dX0_forgetFirst_39 (fun H locs hP hD hS => ?_)
  have hP : va_P D vwCl (xW a g d cI cJ cZ (g 0) (d 0) xText xLetters xNow xKept xIsKept xChance xScenes_2 (14 - 1) xSKinds xSLifts xSFlights xSSize xTally xOut fPk fWn fGw fGk fOw fSt fPe fHo fGr fPa fFt dPk dWn dGw dGk dOw dSt dPe dHo dGr dPa dFt) H := hP
  have hD : va_D A (xW a g d cI cJ cZ (g 0) (d 0) xText xLetters xNow xKept xIsKept xChance xScenes_2 (14 - 1) xSKinds xSLifts xSFlights xSSize xTally xOut fPk fWn fGw fGk fOw fSt fPe fHo fGr fPa fFt dPk dWn dGw dGk dOw dSt dPe dHo dGr dPa dFt) := hD
  cases h
  subst hAe
  exact W.vret hx hb hr (fun t ht _ => ⟨⟨(), rfl, trivial, by rw [ht]; exact hP, hD⟩, hS.F ht⟩) hS.2.2 dX0_forgetFirst_42

set_option maxHeartbeats 4000000 in
set_option maxRecDepth 100000 in
theorem c_ac_add (l : Launch) (D : va_G) (cI cJ cZ : ClassId) (a : Nat → Nat) (g : Nat → Nat) (d : Nat → Nat) (xText : Nat → Int32) (xLetters : Int32) (xNow : Int64) (xKept : Nat → Int64) (xIsKept : Nat → Int32) (xChance : Int64) (xScenes : Nat → Int64) (xASize : Int32) (xSKinds : Nat → Int32) (xSLifts : Nat → Int32) (xSFlights : Nat → Int32) (xSSize : Int32) (xTally : Nat → Int32) (xOut : Nat → Int64) (fPk : Nat → Int32) (fWn : Nat → Int32) (fGw : Nat → Int32) (fGk : Nat → Int32) (fOw : Nat → Int32) (fSt : Nat → Int32) (fPe : Int32) (fHo : Int32) (fGr : Int32) (fPa : Int32) (fFt : Int32) (dPk : Nat → Int32) (dWn : Nat → Int32) (dGw : Nat → Int32) (dGk : Nat → Int32) (dOw : Nat → Int32) (dSt : Nat → Int32) (dPe : Int32) (dHo : Int32) (dGr : Int32) (dPa : Int32) (dFt : Int32)  (sz : Nat) (p1 : Int64) (xScenes_r : Nat → Int64) (xASize_r : Int32) (h : ac_add xScenes xASize p1 = some (xScenes_r, xASize_r)) : Met l yX0_add wsX0_add ({ frames := 1, cells := 0, slots := 0, locals := 21 } : Room) (wPc D cI cJ cZ (xW a g d cI cJ cZ (g 0) (d 0) xText xLetters xNow xKept xIsKept xChance xScenes xASize xSKinds xSLifts xSFlights xSSize xTally xOut fPk fWn fGw fGk fOw fSt fPe fHo fGr fPa fFt dPk dWn dGw dGk dOw dSt dPe dHo dGr dPa dFt) sz [.ref (a 2), .long p1]) (wQv D (xW a g d cI cJ cZ (g 0) (d 0) xText xLetters xNow xKept xIsKept xChance xScenes xASize xSKinds xSLifts xSFlights xSSize xTally xOut fPk fWn fGw fGk fOw fSt fPe fHo fGr fPa fFt dPk dWn dGw dGk dOw dSt dPe dHo dGr dPa dFt) (xW a g d cI cJ cZ (g 0) (d 0) xText xLetters xNow xKept xIsKept xChance xScenes_r xASize_r xSKinds xSLifts xSFlights xSSize xTally xOut fPk fWn fGw fGk fOw fSt fPe fHo fGr fPa fFt dPk dWn dGw dGk dOw dSt dPe dHo dGr dPa dFt) sz) 0 0 (va_A (xW a g d cI cJ cZ (g 0) (d 0) xText xLetters xNow xKept xIsKept xChance xScenes xASize xSKinds xSLifts xSFlights xSSize xTally xOut fPk fWn fGw fGk fOw fSt fPe fHo fGr fPa fFt dPk dWn dGw dGk dOw dSt dPe dHo dGr dPa dFt) sz) := by
  unfold ac_add at h
  refine Met.ofW (cc := cX0_add) (maxL := 3) (ret := none) (by decide) rfl ?_
  intro p e s m args below meth c s₁ B hml hv
  obtain ⟨rfl, hsz, hP, hK, hD0⟩ := hv
  have hx := B.exec
  have hb := B.bytes
  have hr := B.returns
  have hts := atoms_spec (ws := wsX0_add) B.pre
  have hown : s.vm.findClass RX0 = some m.cls := findClass_of_methodNamed B.named
  have hlocks := B.notSynchronized
  subst hsz
  have hD := hD0.self (sz := s.heap.size)
  have hA : ∀ q : Nat, s.heap.size ≤ q → va_A (xW a g d cI cJ cZ (g 0) (d 0) xText xLetters xNow xKept xIsKept xChance xScenes xASize xSKinds xSLifts xSFlights xSSize xTally xOut fPk fWn fGw fGk fOw fSt fPe fHo fGr fPa fFt dPk dWn dGw dGk dOw dSt dPe dHo dGr dPa dFt) s.heap.size q := fun q h => Or.inr h
  have hS : va_S (va_A (xW a g d cI cJ cZ (g 0) (d 0) xText xLetters xNow xKept xIsKept xChance xScenes xASize xSKinds xSLifts xSFlights xSSize xTally xOut fPk fWn fGw fGk fOw fSt fPe fHo fGr fPa fFt dPk dWn dGw dGk dOw dSt dPe dHo dGr dPa dFt) s.heap.size) s.heap s.heap [] := va_S.rf
  obtain ⟨A, hAe⟩ : ∃ A, A = va_A (xW a g d cI cJ cZ (g 0) (d 0) xText xLetters xNow xKept xIsKept xChance xScenes xASize xSKinds xSLifts xSFlights xSSize xTally xOut fPk fWn fGw fGk fOw fSt fPe fHo fGr fPa fFt dPk dWn dGw dGk dOw dSt dPe dHo dGr dPa dFt) s.heap.size := ⟨_, rfl⟩
  rw [← hAe] at hD hA hS
  have hl := lv_entry ([.ref (a 2), .long p1]) (n := 3) (Nat.le_of_ble_eq_true rfl)
  rw [lg_entry_eq]
  generalize (lg_sl ([.ref (a 2), .long p1]) ++ List.replicate (3 - (lg_sl ([.ref (a 2), .long p1])).length) Slot.unset).toArray = ls at hl ⊢
  have hl : lv_has ls 3 [(0, .ref (a 2)), (1, .long p1)] := hl
  have hiX0 : ∀ w ∈ u_ws RX0 TX0 2, w ∈ wsX0_add := fun w hw => List.mem_cons_of_mem _ (List.mem_append_right _ hw)
  refine lv_aload_n hx hb dX0_add_0 rfl (lv_at hl 0 rfl) ?_
  refine va_get (D := D) (ci := 0) (v := .int xASize) (C := RX0) (T := TX0) (N := 2) hx hb hts hiX0 hown hK.1 hP 4 rfl rfl 1 (by decide) (hts (.fieldLink RX0 15 "WinnowedGuilt$Acts" "size" "I") (by decide +kernel)) (fun _ h9 => h9) rfl dX0_add_1 ?_
  refine lv_aload_n hx hb dX0_add_4 rfl (lv_at hl 0 rfl) ?_
  refine va_get (D := D) (ci := 0) (v := .ref (a 7)) (C := RX0) (T := TX0) (N := 2) hx hb hts hiX0 hown hK.1 hP 4 rfl rfl 0 (by decide) (hts (.fieldLink RX0 9 "WinnowedGuilt$Acts" "scenes" "[J") (by decide +kernel)) (fun _ h9 => h9) rfl dX0_add_5 ?_
  refine va_alen (v := 14) hx hb hK.1 hP 5 1 rfl rfl rfl dX0_add_8 ?_
  refine lv_icmp_lt (tgt := 16) hx hb dX0_add_9 (by decide) (fun c1 => ?_) (fun c1 => ?_)
  · have h := iT c1 h
    refine lv_aload_n hx hb dX0_add_16 rfl (lv_at hl 0 rfl) ?_
    refine va_get (D := D) (ci := 0) (v := .int xASize) (C := RX0) (T := TX0) (N := 2) hx hb hts hiX0 hown hK.1 hP 4 rfl rfl 1 (by decide) (hts (.fieldLink RX0 15 "WinnowedGuilt$Acts" "size" "I") (by decide +kernel)) (fun _ h9 => h9) rfl dX0_add_17 ?_
    refine lv_if_lt (tgt := 55) hx hb dX0_add_20 (by decide) (fun c2 => ?_) (fun c2 => ?_)
    · have h := iT c2 h
      cases h
      subst hAe
      exact W.vret hx hb hr (fun t ht _ => ⟨⟨(), rfl, trivial, by rw [ht]; exact hP, hD⟩, hS.F ht⟩) hS.2.2 dX0_add_55
    · have h := iF c2 h
      refine lv_aload_n hx hb dX0_add_23 rfl (lv_at hl 0 rfl) ?_
      refine va_get (D := D) (ci := 0) (v := .int xASize) (C := RX0) (T := TX0) (N := 2) hx hb hts hiX0 hown hK.1 hP 4 rfl rfl 1 (by decide) (hts (.fieldLink RX0 15 "WinnowedGuilt$Acts" "size" "I") (by decide +kernel)) (fun _ h9 => h9) rfl dX0_add_24 ?_
      refine lv_aload_n hx hb dX0_add_27 rfl (lv_at hl 0 rfl) ?_
      refine va_get (D := D) (ci := 0) (v := .ref (a 7)) (C := RX0) (T := TX0) (N := 2) hx hb hts hiX0 hown hK.1 hP 4 rfl rfl 0 (by decide) (hts (.fieldLink RX0 9 "WinnowedGuilt$Acts" "scenes" "[J") (by decide +kernel)) (fun _ h9 => h9) rfl dX0_add_28 ?_
      refine va_alen (v := 14) hx hb hK.1 hP 5 1 rfl rfl rfl dX0_add_31 ?_
      refine lv_icmp_ge (tgt := 55) hx hb dX0_add_32 (by decide) (fun c3 => ?_) (fun c3 => ?_)
      · have h := iT c3 h
        cases h
        subst hAe
        exact W.vret hx hb hr (fun t ht _ => ⟨⟨(), rfl, trivial, by rw [ht]; exact hP, hD⟩, hS.F ht⟩) hS.2.2 dX0_add_55
      · have h := iF c3 h
        refine lv_aload_n hx hb dX0_add_35 rfl (lv_at hl 0 rfl) ?_
        refine va_get (D := D) (ci := 0) (v := .ref (a 7)) (C := RX0) (T := TX0) (N := 2) hx hb hts hiX0 hown hK.1 hP 4 rfl rfl 0 (by decide) (hts (.fieldLink RX0 9 "WinnowedGuilt$Acts" "scenes" "[J") (by decide +kernel)) (fun _ h9 => h9) rfl dX0_add_36 ?_
        refine lv_aload_n hx hb dX0_add_39 rfl (lv_at hl 0 rfl) ?_
        refine va_get (D := D) (ci := 0) (v := .int xASize) (C := RX0) (T := TX0) (N := 2) hx hb hts hiX0 hown hK.1 hP 4 rfl rfl 1 (by decide) (hts (.fieldLink RX0 15 "WinnowedGuilt$Acts" "size" "I") (by decide +kernel)) (fun _ h9 => h9) rfl dX0_add_40 ?_
        refine lv_lload_n hx hb dX0_add_43 rfl (lv_at hl 1 rfl) ?_
        obtain ⟨hi4, h⟩ := gI_some h
        refine va_last hx hb hK.1 hP hD hS 5 1 rfl rfl hi4 dX0_add_44 (fun H locs hP hD hS => ?_)
        have hP : va_P D vwCl (xW a g d cI cJ cZ (g 0) (d 0) xText xLetters xNow xKept xIsKept xChance (vp_updL xScenes (Int32.toNatClampNeg xASize) p1) xASize xSKinds xSLifts xSFlights xSSize xTally xOut fPk fWn fGw fGk fOw fSt fPe fHo fGr fPa fFt dPk dWn dGw dGk dOw dSt dPe dHo dGr dPa dFt) H := hP
        have hD : va_D A (xW a g d cI cJ cZ (g 0) (d 0) xText xLetters xNow xKept xIsKept xChance (vp_updL xScenes (Int32.toNatClampNeg xASize) p1) xASize xSKinds xSLifts xSFlights xSSize xTally xOut fPk fWn fGw fGk fOw fSt fPe fHo fGr fPa fFt dPk dWn dGw dGk dOw dSt dPe dHo dGr dPa dFt) := hD
        refine lv_aload_n hx hb dX0_add_45 rfl (lv_at hl 0 rfl) ?_
        refine lv_dup hx hb dX0_add_46 rfl ?_
        refine va_get (D := D) (ci := 0) (v := .int xASize) (C := RX0) (T := TX0) (N := 2) hx hb hts hiX0 hown hK.1 hP 4 rfl rfl 1 (by decide) (hts (.fieldLink RX0 15 "WinnowedGuilt$Acts" "size" "I") (by decide +kernel)) (fun _ h9 => h9) rfl dX0_add_47 ?_
        refine lv_iconst (v := 1) hx hb dX0_add_50 (by decide) ?_
        refine lv_iadd hx hb dX0_add_51 ?_
        refine va_put (D := D) (ci := 0) (v := .int (xASize + 1)) (ty := .int) (C := RX0) (T := TX0) (N := 2) hx hb hts hiX0 tyX0 tyX0_ok nmX0 hown hK.1 hP hD hS 4 rfl rfl 1 (by decide) (hts (.fieldLink RX0 15 "WinnowedGuilt$Acts" "size" "I") (by decide +kernel)) (fun _ h9 => h9) rfl (by decide +kernel) rfl rfl (Nat.le_of_ble_eq_true rfl) dX0_add_52 (fun H locs hP hD hS => ?_)
        have hP : va_P D vwCl (xW a g d cI cJ cZ (g 0) (d 0) xText xLetters xNow xKept xIsKept xChance (vp_updL xScenes (Int32.toNatClampNeg xASize) p1) (xASize + 1) xSKinds xSLifts xSFlights xSSize xTally xOut fPk fWn fGw fGk fOw fSt fPe fHo fGr fPa fFt dPk dWn dGw dGk dOw dSt dPe dHo dGr dPa dFt) H := hP
        have hD : va_D A (xW a g d cI cJ cZ (g 0) (d 0) xText xLetters xNow xKept xIsKept xChance (vp_updL xScenes (Int32.toNatClampNeg xASize) p1) (xASize + 1) xSKinds xSLifts xSFlights xSSize xTally xOut fPk fWn fGw fGk fOw fSt fPe fHo fGr fPa fFt dPk dWn dGw dGk dOw dSt dPe dHo dGr dPa dFt) := hD
        cases h
        subst hAe
        exact W.vret hx hb hr (fun t ht _ => ⟨⟨(), rfl, trivial, by rw [ht]; exact hP, hD⟩, hS.F ht⟩) hS.2.2 dX0_add_55
  · have h := iF c1 h
    refine lv_aload_n hx hb dX0_add_12 rfl (lv_at hl 0 rfl) ?_
    obtain ⟨q2, hq2, h⟩ := bS h
    refine wcV (va_runV (As := []) (rest := []) ⟨hx, hb, hml, hown, hts⟩ (c_ac_forgetFirst l D cI cJ cZ a g d xText xLetters xNow xKept xIsKept xChance xScenes xASize xSKinds xSLifts xSFlights xSSize xTally xOut fPk fWn fGw fGk fOw fSt fPe fHo fGr fPa fFt dPk dWn dGw dGk dOw dSt dPe dHo dGr dPa dFt s.heap.size  q2.1 q2.2 hq2) (cwV 0 hts gX0_add_X0_forgetFirst rfl rfl rfl (by decide +kernel) ⟨Nat.le_of_ble_eq_true rfl, Nat.le_of_ble_eq_true rfl⟩) (wPreV hK hP hD (ci := 0) (q0 := 4) rfl rfl) rfl rfl hl.1 rfl (lv_room (Nat.le_of_ble_eq_true rfl)) dX0_add_13 ⟨Nat.zero_le _, Nat.zero_le _⟩) hD hS hA (fun H locs hP hD hS => ?_)
    have hP : va_P D vwCl (xW a g d cI cJ cZ (g 0) (d 0) xText xLetters xNow xKept xIsKept xChance q2.1 q2.2 xSKinds xSLifts xSFlights xSSize xTally xOut fPk fWn fGw fGk fOw fSt fPe fHo fGr fPa fFt dPk dWn dGw dGk dOw dSt dPe dHo dGr dPa dFt) H := hP
    have hD : va_D A (xW a g d cI cJ cZ (g 0) (d 0) xText xLetters xNow xKept xIsKept xChance q2.1 q2.2 xSKinds xSLifts xSFlights xSSize xTally xOut fPk fWn fGw fGk fOw fSt fPe fHo fGr fPa fFt dPk dWn dGw dGk dOw dSt dPe dHo dGr dPa dFt) := hD
    refine lv_aload_n hx hb dX0_add_16 rfl (lv_at hl 0 rfl) ?_
    refine va_get (D := D) (ci := 0) (v := .int q2.2) (C := RX0) (T := TX0) (N := 2) hx hb hts hiX0 hown hK.1 hP 4 rfl rfl 1 (by decide) (hts (.fieldLink RX0 15 "WinnowedGuilt$Acts" "size" "I") (by decide +kernel)) (fun _ h9 => h9) rfl dX0_add_17 ?_
    refine lv_if_lt (tgt := 55) hx hb dX0_add_20 (by decide) (fun c3 => ?_) (fun c3 => ?_)
    · have h := iT c3 h
      cases h
      subst hAe
      exact W.vret hx hb hr (fun t ht _ => ⟨⟨(), rfl, trivial, by rw [ht]; exact hP, hD⟩, hS.F ht⟩) hS.2.2 dX0_add_55
    · have h := iF c3 h
      refine lv_aload_n hx hb dX0_add_23 rfl (lv_at hl 0 rfl) ?_
      refine va_get (D := D) (ci := 0) (v := .int q2.2) (C := RX0) (T := TX0) (N := 2) hx hb hts hiX0 hown hK.1 hP 4 rfl rfl 1 (by decide) (hts (.fieldLink RX0 15 "WinnowedGuilt$Acts" "size" "I") (by decide +kernel)) (fun _ h9 => h9) rfl dX0_add_24 ?_
      refine lv_aload_n hx hb dX0_add_27 rfl (lv_at hl 0 rfl) ?_
      refine va_get (D := D) (ci := 0) (v := .ref (a 7)) (C := RX0) (T := TX0) (N := 2) hx hb hts hiX0 hown hK.1 hP 4 rfl rfl 0 (by decide) (hts (.fieldLink RX0 9 "WinnowedGuilt$Acts" "scenes" "[J") (by decide +kernel)) (fun _ h9 => h9) rfl dX0_add_28 ?_
      refine va_alen (v := 14) hx hb hK.1 hP 5 1 rfl rfl rfl dX0_add_31 ?_
      refine lv_icmp_ge (tgt := 55) hx hb dX0_add_32 (by decide) (fun c4 => ?_) (fun c4 => ?_)
      · have h := iT c4 h
        cases h
        subst hAe
        exact W.vret hx hb hr (fun t ht _ => ⟨⟨(), rfl, trivial, by rw [ht]; exact hP, hD⟩, hS.F ht⟩) hS.2.2 dX0_add_55
      · have h := iF c4 h
        refine lv_aload_n hx hb dX0_add_35 rfl (lv_at hl 0 rfl) ?_
        refine va_get (D := D) (ci := 0) (v := .ref (a 7)) (C := RX0) (T := TX0) (N := 2) hx hb hts hiX0 hown hK.1 hP 4 rfl rfl 0 (by decide) (hts (.fieldLink RX0 9 "WinnowedGuilt$Acts" "scenes" "[J") (by decide +kernel)) (fun _ h9 => h9) rfl dX0_add_36 ?_
        refine lv_aload_n hx hb dX0_add_39 rfl (lv_at hl 0 rfl) ?_
        refine va_get (D := D) (ci := 0) (v := .int q2.2) (C := RX0) (T := TX0) (N := 2) hx hb hts hiX0 hown hK.1 hP 4 rfl rfl 1 (by decide) (hts (.fieldLink RX0 15 "WinnowedGuilt$Acts" "size" "I") (by decide +kernel)) (fun _ h9 => h9) rfl dX0_add_40 ?_
        refine lv_lload_n hx hb dX0_add_43 rfl (lv_at hl 1 rfl) ?_
        obtain ⟨hi5, h⟩ := gI_some h
        refine va_last hx hb hK.1 hP hD hS 5 1 rfl rfl hi5 dX0_add_44 (fun H locs hP hD hS => ?_)
        have hP : va_P D vwCl (xW a g d cI cJ cZ (g 0) (d 0) xText xLetters xNow xKept xIsKept xChance (vp_updL q2.1 (Int32.toNatClampNeg q2.2) p1) q2.2 xSKinds xSLifts xSFlights xSSize xTally xOut fPk fWn fGw fGk fOw fSt fPe fHo fGr fPa fFt dPk dWn dGw dGk dOw dSt dPe dHo dGr dPa dFt) H := hP
        have hD : va_D A (xW a g d cI cJ cZ (g 0) (d 0) xText xLetters xNow xKept xIsKept xChance (vp_updL q2.1 (Int32.toNatClampNeg q2.2) p1) q2.2 xSKinds xSLifts xSFlights xSSize xTally xOut fPk fWn fGw fGk fOw fSt fPe fHo fGr fPa fFt dPk dWn dGw dGk dOw dSt dPe dHo dGr dPa dFt) := hD
        refine lv_aload_n hx hb dX0_add_45 rfl (lv_at hl 0 rfl) ?_
        refine lv_dup hx hb dX0_add_46 rfl ?_
        refine va_get (D := D) (ci := 0) (v := .int q2.2) (C := RX0) (T := TX0) (N := 2) hx hb hts hiX0 hown hK.1 hP 4 rfl rfl 1 (by decide) (hts (.fieldLink RX0 15 "WinnowedGuilt$Acts" "size" "I") (by decide +kernel)) (fun _ h9 => h9) rfl dX0_add_47 ?_
        refine lv_iconst (v := 1) hx hb dX0_add_50 (by decide) ?_
        refine lv_iadd hx hb dX0_add_51 ?_
        refine va_put (D := D) (ci := 0) (v := .int (q2.2 + 1)) (ty := .int) (C := RX0) (T := TX0) (N := 2) hx hb hts hiX0 tyX0 tyX0_ok nmX0 hown hK.1 hP hD hS 4 rfl rfl 1 (by decide) (hts (.fieldLink RX0 15 "WinnowedGuilt$Acts" "size" "I") (by decide +kernel)) (fun _ h9 => h9) rfl (by decide +kernel) rfl rfl (Nat.le_of_ble_eq_true rfl) dX0_add_52 (fun H locs hP hD hS => ?_)
        have hP : va_P D vwCl (xW a g d cI cJ cZ (g 0) (d 0) xText xLetters xNow xKept xIsKept xChance (vp_updL q2.1 (Int32.toNatClampNeg q2.2) p1) (q2.2 + 1) xSKinds xSLifts xSFlights xSSize xTally xOut fPk fWn fGw fGk fOw fSt fPe fHo fGr fPa fFt dPk dWn dGw dGk dOw dSt dPe dHo dGr dPa dFt) H := hP
        have hD : va_D A (xW a g d cI cJ cZ (g 0) (d 0) xText xLetters xNow xKept xIsKept xChance (vp_updL q2.1 (Int32.toNatClampNeg q2.2) p1) (q2.2 + 1) xSKinds xSLifts xSFlights xSSize xTally xOut fPk fWn fGw fGk fOw fSt fPe fHo fGr fPa fFt dPk dWn dGw dGk dOw dSt dPe dHo dGr dPa dFt) := hD
        cases h
        subst hAe
        exact W.vret hx hb hr (fun t ht _ => ⟨⟨(), rfl, trivial, by rw [ht]; exact hP, hD⟩, hS.F ht⟩) hS.2.2 dX0_add_55

set_option maxHeartbeats 4000000 in
set_option maxRecDepth 100000 in
theorem c_xx_actTo (l : Launch) (D : va_G) (cI cJ cZ : ClassId) (a : Nat → Nat) (g : Nat → Nat) (d : Nat → Nat) (xText : Nat → Int32) (xLetters : Int32) (xNow : Int64) (xKept : Nat → Int64) (xIsKept : Nat → Int32) (xChance : Int64) (xScenes : Nat → Int64) (xASize : Int32) (xSKinds : Nat → Int32) (xSLifts : Nat → Int32) (xSFlights : Nat → Int32) (xSSize : Int32) (xTally : Nat → Int32) (xOut : Nat → Int64) (fPk : Nat → Int32) (fWn : Nat → Int32) (fGw : Nat → Int32) (fGk : Nat → Int32) (fOw : Nat → Int32) (fSt : Nat → Int32) (fPe : Int32) (fHo : Int32) (fGr : Int32) (fPa : Int32) (fFt : Int32) (dPk : Nat → Int32) (dWn : Nat → Int32) (dGw : Nat → Int32) (dGk : Nat → Int32) (dOw : Nat → Int32) (dSt : Nat → Int32) (dPe : Int32) (dHo : Int32) (dGr : Int32) (dPa : Int32) (dFt : Int32)  (sz : Nat) (p1 : Int64) (xNow_r : Int64) (xScenes_r : Nat → Int64) (xASize_r : Int32) (h : xx_actTo xNow xScenes xASize p1 = some (xNow_r, xScenes_r, xASize_r)) : Met l yX11_actTo wsX11_actTo ({ frames := 2, cells := 0, slots := 0, locals := 43 } : Room) (wPc D cI cJ cZ (xW a g d cI cJ cZ (g 0) (d 0) xText xLetters xNow xKept xIsKept xChance xScenes xASize xSKinds xSLifts xSFlights xSSize xTally xOut fPk fWn fGw fGk fOw fSt fPe fHo fGr fPa fFt dPk dWn dGw dGk dOw dSt dPe dHo dGr dPa dFt) sz [.ref (a 0), .long p1]) (wQv D (xW a g d cI cJ cZ (g 0) (d 0) xText xLetters xNow xKept xIsKept xChance xScenes xASize xSKinds xSLifts xSFlights xSSize xTally xOut fPk fWn fGw fGk fOw fSt fPe fHo fGr fPa fFt dPk dWn dGw dGk dOw dSt dPe dHo dGr dPa dFt) (xW a g d cI cJ cZ (g 0) (d 0) xText xLetters xNow_r xKept xIsKept xChance xScenes_r xASize_r xSKinds xSLifts xSFlights xSSize xTally xOut fPk fWn fGw fGk fOw fSt fPe fHo fGr fPa fFt dPk dWn dGw dGk dOw dSt dPe dHo dGr dPa dFt) sz) 0 0 (va_A (xW a g d cI cJ cZ (g 0) (d 0) xText xLetters xNow xKept xIsKept xChance xScenes xASize xSKinds xSLifts xSFlights xSSize xTally xOut fPk fWn fGw fGk fOw fSt fPe fHo fGr fPa fFt dPk dWn dGw dGk dOw dSt dPe dHo dGr dPa dFt) sz) := by
  unfold xx_actTo at h
  refine Met.ofW (cc := cX11_actTo) (maxL := 3) (ret := none) (by decide) rfl ?_
  intro p e s m args below meth c s₁ B hml hv
  obtain ⟨rfl, hsz, hP, hK, hD0⟩ := hv
  have hx := B.exec
  have hb := B.bytes
  have hr := B.returns
  have hts := atoms_spec (ws := wsX11_actTo) B.pre
  have hown : s.vm.findClass RX11 = some m.cls := findClass_of_methodNamed B.named
  have hlocks := B.notSynchronized
  subst hsz
  have hD := hD0.self (sz := s.heap.size)
  have hA : ∀ q : Nat, s.heap.size ≤ q → va_A (xW a g d cI cJ cZ (g 0) (d 0) xText xLetters xNow xKept xIsKept xChance xScenes xASize xSKinds xSLifts xSFlights xSSize xTally xOut fPk fWn fGw fGk fOw fSt fPe fHo fGr fPa fFt dPk dWn dGw dGk dOw dSt dPe dHo dGr dPa dFt) s.heap.size q := fun q h => Or.inr h
  have hS : va_S (va_A (xW a g d cI cJ cZ (g 0) (d 0) xText xLetters xNow xKept xIsKept xChance xScenes xASize xSKinds xSLifts xSFlights xSSize xTally xOut fPk fWn fGw fGk fOw fSt fPe fHo fGr fPa fFt dPk dWn dGw dGk dOw dSt dPe dHo dGr dPa dFt) s.heap.size) s.heap s.heap [] := va_S.rf
  obtain ⟨A, hAe⟩ : ∃ A, A = va_A (xW a g d cI cJ cZ (g 0) (d 0) xText xLetters xNow xKept xIsKept xChance xScenes xASize xSKinds xSLifts xSFlights xSSize xTally xOut fPk fWn fGw fGk fOw fSt fPe fHo fGr fPa fFt dPk dWn dGw dGk dOw dSt dPe dHo dGr dPa dFt) s.heap.size := ⟨_, rfl⟩
  rw [← hAe] at hD hA hS
  have hl := lv_entry ([.ref (a 0), .long p1]) (n := 3) (Nat.le_of_ble_eq_true rfl)
  rw [lg_entry_eq]
  generalize (lg_sl ([.ref (a 0), .long p1]) ++ List.replicate (3 - (lg_sl ([.ref (a 0), .long p1])).length) Slot.unset).toArray = ls at hl ⊢
  have hl : lv_has ls 3 [(0, .ref (a 0)), (1, .long p1)] := hl
  have hiX11 : ∀ w ∈ u_ws RX11 TX11 11, w ∈ wsX11_actTo := fun w hw => List.mem_cons_of_mem _ (List.mem_append_left _ (List.mem_append_right _ hw))
  refine lv_aload_n hx hb dX11_actTo_0 rfl (lv_at hl 0 rfl) ?_
  refine va_get (D := D) (ci := 4) (v := .ref (a 2)) (C := RX11) (T := TX11) (N := 11) hx hb hts hiX11 hown hK.1 hP 0 rfl rfl 5 (by decide) (hts (.fieldLink RX11 34 "WinnowedGuilt" "acts" "LWinnowedGuilt$Acts;") (by decide +kernel)) (fun _ h9 => h9) rfl dX11_actTo_1 ?_
  refine lv_aload_n hx hb dX11_actTo_4 rfl (lv_at hl 0 rfl) ?_
  refine va_get (D := D) (ci := 4) (v := .long xNow) (C := RX11) (T := TX11) (N := 11) hx hb hts hiX11 hown hK.1 hP 0 rfl rfl 4 (by decide) (hts (.fieldLink RX11 27 "WinnowedGuilt" "now" "J") (by decide +kernel)) (fun _ h9 => h9) rfl dX11_actTo_5 ?_
  obtain ⟨q1, hq1, h⟩ := bS h
  refine wcV (va_runV (As := [.long xNow]) (rest := []) ⟨hx, hb, hml, hown, hts⟩ (c_ac_add l D cI cJ cZ a g d xText xLetters xNow xKept xIsKept xChance xScenes xASize xSKinds xSLifts xSFlights xSSize xTally xOut fPk fWn fGw fGk fOw fSt fPe fHo fGr fPa fFt dPk dWn dGw dGk dOw dSt dPe dHo dGr dPa dFt s.heap.size xNow q1.1 q1.2 hq1) (cwV 1 hts gX11_actTo_X0_add rfl rfl rfl (by decide +kernel) ⟨Nat.le_of_ble_eq_true rfl, Nat.le_of_ble_eq_true rfl⟩) (wPreV hK hP hD (ci := 0) (q0 := 4) rfl rfl) rfl rfl hl.1 rfl (lv_room (Nat.le_of_ble_eq_true rfl)) dX11_actTo_8 ⟨Nat.zero_le _, Nat.zero_le _⟩) hD hS hA (fun H locs hP hD hS => ?_)
  have hP : va_P D vwCl (xW a g d cI cJ cZ (g 0) (d 0) xText xLetters xNow xKept xIsKept xChance q1.1 q1.2 xSKinds xSLifts xSFlights xSSize xTally xOut fPk fWn fGw fGk fOw fSt fPe fHo fGr fPa fFt dPk dWn dGw dGk dOw dSt dPe dHo dGr dPa dFt) H := hP
  have hD : va_D A (xW a g d cI cJ cZ (g 0) (d 0) xText xLetters xNow xKept xIsKept xChance q1.1 q1.2 xSKinds xSLifts xSFlights xSSize xTally xOut fPk fWn fGw fGk fOw fSt fPe fHo fGr fPa fFt dPk dWn dGw dGk dOw dSt dPe dHo dGr dPa dFt) := hD
  refine lv_aload_n hx hb dX11_actTo_11 rfl (lv_at hl 0 rfl) ?_
  refine lv_lload_n hx hb dX11_actTo_12 rfl (lv_at hl 1 rfl) ?_
  refine va_put (D := D) (ci := 4) (v := .long p1) (ty := .long) (C := RX11) (T := TX11) (N := 11) hx hb hts hiX11 tyX11 tyX11_ok nmX11 hown hK.1 hP hD hS 0 rfl rfl 4 (by decide) (hts (.fieldLink RX11 27 "WinnowedGuilt" "now" "J") (by decide +kernel)) (fun _ h9 => h9) rfl (by decide +kernel) rfl rfl (Nat.le_of_ble_eq_true rfl) dX11_actTo_13 (fun H locs hP hD hS => ?_)
  have hP : va_P D vwCl (xW a g d cI cJ cZ (g 0) (d 0) xText xLetters p1 xKept xIsKept xChance q1.1 q1.2 xSKinds xSLifts xSFlights xSSize xTally xOut fPk fWn fGw fGk fOw fSt fPe fHo fGr fPa fFt dPk dWn dGw dGk dOw dSt dPe dHo dGr dPa dFt) H := hP
  have hD : va_D A (xW a g d cI cJ cZ (g 0) (d 0) xText xLetters p1 xKept xIsKept xChance q1.1 q1.2 xSKinds xSLifts xSFlights xSSize xTally xOut fPk fWn fGw fGk fOw fSt fPe fHo fGr fPa fFt dPk dWn dGw dGk dOw dSt dPe dHo dGr dPa dFt) := hD
  cases h
  subst hAe
  exact W.vret hx hb hr (fun t ht _ => ⟨⟨(), rfl, trivial, by rw [ht]; exact hP, hD⟩, hS.F ht⟩) hS.2.2 dX11_actTo_16

set_option maxHeartbeats 4000000 in
set_option maxRecDepth 100000 in
theorem c_xx_toss (l : Launch) (D : va_G) (cI cJ cZ : ClassId) (a : Nat → Nat) (g : Nat → Nat) (d : Nat → Nat) (xText : Nat → Int32) (xLetters : Int32) (xNow : Int64) (xKept : Nat → Int64) (xIsKept : Nat → Int32) (xChance : Int64) (xScenes : Nat → Int64) (xASize : Int32) (xSKinds : Nat → Int32) (xSLifts : Nat → Int32) (xSFlights : Nat → Int32) (xSSize : Int32) (xTally : Nat → Int32) (xOut : Nat → Int64) (fPk : Nat → Int32) (fWn : Nat → Int32) (fGw : Nat → Int32) (fGk : Nat → Int32) (fOw : Nat → Int32) (fSt : Nat → Int32) (fPe : Int32) (fHo : Int32) (fGr : Int32) (fPa : Int32) (fFt : Int32) (dPk : Nat → Int32) (dWn : Nat → Int32) (dGw : Nat → Int32) (dGk : Nat → Int32) (dOw : Nat → Int32) (dSt : Nat → Int32) (dPe : Int32) (dHo : Int32) (dGr : Int32) (dPa : Int32) (dFt : Int32)  (sz : Nat) (p1 : Int32) (rv : Int32) (xNow_r : Int64) (xScenes_r : Nat → Int64) (xASize_r : Int32) (h : xx_toss xNow xScenes xASize fPk fWn fGw fGk fOw fPe fHo fGr p1 = some (rv, xNow_r, xScenes_r, xASize_r)) : Met l yX11_toss wsX11_toss ({ frames := 4, cells := 0, slots := 0, locals := 99 } : Room) (wPc D cI cJ cZ (xW a g d cI cJ cZ (g 0) (d 0) xText xLetters xNow xKept xIsKept xChance xScenes xASize xSKinds xSLifts xSFlights xSSize xTally xOut fPk fWn fGw fGk fOw fSt fPe fHo fGr fPa fFt dPk dWn dGw dGk dOw dSt dPe dHo dGr dPa dFt) sz [.ref (a 0), .int p1]) (wQi D (xW a g d cI cJ cZ (g 0) (d 0) xText xLetters xNow xKept xIsKept xChance xScenes xASize xSKinds xSLifts xSFlights xSSize xTally xOut fPk fWn fGw fGk fOw fSt fPe fHo fGr fPa fFt dPk dWn dGw dGk dOw dSt dPe dHo dGr dPa dFt) (xW a g d cI cJ cZ (g 0) (d 0) xText xLetters xNow_r xKept xIsKept xChance xScenes_r xASize_r xSKinds xSLifts xSFlights xSSize xTally xOut fPk fWn fGw fGk fOw fSt fPe fHo fGr fPa fFt dPk dWn dGw dGk dOw dSt dPe dHo dGr dPa dFt) sz rv) 0 0 (va_A (xW a g d cI cJ cZ (g 0) (d 0) xText xLetters xNow xKept xIsKept xChance xScenes xASize xSKinds xSLifts xSFlights xSSize xTally xOut fPk fWn fGw fGk fOw fSt fPe fHo fGr fPa fFt dPk dWn dGw dGk dOw dSt dPe dHo dGr dPa dFt) sz) := by
  unfold xx_toss at h
  refine Met.ofW (cc := cX11_toss) (maxL := 3) (ret := (some .int)) (by decide) rfl ?_
  intro p e s m args below meth c s₁ B hml hv
  obtain ⟨rfl, hsz, hP, hK, hD0⟩ := hv
  have hx := B.exec
  have hb := B.bytes
  have hr := B.returns
  have hts := atoms_spec (ws := wsX11_toss) B.pre
  have hown : s.vm.findClass RX11 = some m.cls := findClass_of_methodNamed B.named
  have hlocks := B.notSynchronized
  subst hsz
  have hD := hD0.self (sz := s.heap.size)
  have hA : ∀ q : Nat, s.heap.size ≤ q → va_A (xW a g d cI cJ cZ (g 0) (d 0) xText xLetters xNow xKept xIsKept xChance xScenes xASize xSKinds xSLifts xSFlights xSSize xTally xOut fPk fWn fGw fGk fOw fSt fPe fHo fGr fPa fFt dPk dWn dGw dGk dOw dSt dPe dHo dGr dPa dFt) s.heap.size q := fun q h => Or.inr h
  have hS : va_S (va_A (xW a g d cI cJ cZ (g 0) (d 0) xText xLetters xNow xKept xIsKept xChance xScenes xASize xSKinds xSLifts xSFlights xSSize xTally xOut fPk fWn fGw fGk fOw fSt fPe fHo fGr fPa fFt dPk dWn dGw dGk dOw dSt dPe dHo dGr dPa dFt) s.heap.size) s.heap s.heap [] := va_S.rf
  obtain ⟨A, hAe⟩ : ∃ A, A = va_A (xW a g d cI cJ cZ (g 0) (d 0) xText xLetters xNow xKept xIsKept xChance xScenes xASize xSKinds xSLifts xSFlights xSSize xTally xOut fPk fWn fGw fGk fOw fSt fPe fHo fGr fPa fFt dPk dWn dGw dGk dOw dSt dPe dHo dGr dPa dFt) s.heap.size := ⟨_, rfl⟩
  rw [← hAe] at hD hA hS
  have hl := lv_entry ([.ref (a 0), .int p1]) (n := 3) (Nat.le_of_ble_eq_true rfl)
  rw [lg_entry_eq]
  generalize (lg_sl ([.ref (a 0), .int p1]) ++ List.replicate (3 - (lg_sl ([.ref (a 0), .int p1])).length) Slot.unset).toArray = ls at hl ⊢
  have hl : lv_has ls 3 [(0, .ref (a 0)), (1, .int p1)] := hl
  have hiX11 : ∀ w ∈ u_ws RX11 TX11 11, w ∈ wsX11_toss := fun w hw => List.mem_cons_of_mem _ (List.mem_append_left _ (List.mem_append_left _ (List.mem_append_right _ hw)))
  refine lv_aload_n hx hb dX11_toss_0 rfl (lv_at hl 0 rfl) ?_
  refine va_get (D := D) (ci := 4) (v := .ref (g 0)) (C := RX11) (T := TX11) (N := 11) hx hb hts hiX11 hown hK.1 hP 0 rfl rfl 2 (by decide) (hts (.fieldLink RX11 16 "WinnowedGuilt" "ground" "LWinnowedGuilt$Floor;") (by decide +kernel)) (fun _ h9 => h9) rfl dX11_toss_1 ?_
  refine lv_iload_n hx hb dX11_toss_4 rfl (lv_at hl 1 rfl) ?_
  have hG := hP.sub (ws' := (fW g cI fPk fWn fGw fGk fOw fSt fPe fHo fGr fPa fFt)) [13, 14, 15, 16, 17, 18, 19] rfl
  obtain ⟨q1, hq1, h⟩ := bS h
  refine rcI (va_runV (As := [.int p1]) (rest := []) ⟨hx, hb, hml, hown, hts⟩ (c_fl_isPerson l D cI cJ cZ g fPk fWn fGw fGk fOw fSt fPe fHo fGr fPa fFt s.heap hG p1 q1 hq1) (cwV 1 hts gX11_toss_X3_isPerson rfl rfl rfl (by decide +kernel) ⟨Nat.le_of_ble_eq_true rfl, Nat.le_of_ble_eq_true rfl⟩) (rPreV hK hG (ci := 2) (q0 := 0) rfl rfl) rfl rfl hl.1 rfl (lv_room (Nat.le_of_ble_eq_true rfl)) dX11_toss_5 ⟨Nat.zero_le _, Nat.zero_le _⟩) ?_
  refine lv_if_ne (tgt := 13) hx hb dX11_toss_8 (by decide) (fun c2 => ?_) (fun c2 => ?_)
  · have h := iF c2 h
    refine lv_aload_n hx hb dX11_toss_13 rfl (lv_at hl 0 rfl) ?_
    refine va_get (D := D) (ci := 4) (v := .ref (g 0)) (C := RX11) (T := TX11) (N := 11) hx hb hts hiX11 hown hK.1 hP 0 rfl rfl 2 (by decide) (hts (.fieldLink RX11 16 "WinnowedGuilt" "ground" "LWinnowedGuilt$Floor;") (by decide +kernel)) (fun _ h9 => h9) rfl dX11_toss_14 ?_
    refine lv_aload_n hx hb dX11_toss_17 rfl (lv_at hl 0 rfl) ?_
    refine va_get (D := D) (ci := 4) (v := .long xNow) (C := RX11) (T := TX11) (N := 11) hx hb hts hiX11 hown hK.1 hP 0 rfl rfl 4 (by decide) (hts (.fieldLink RX11 27 "WinnowedGuilt" "now" "J") (by decide +kernel)) (fun _ h9 => h9) rfl dX11_toss_18 ?_
    refine lv_iload_n hx hb dX11_toss_21 rfl (lv_at hl 1 rfl) ?_
    have hG := hP.sub (ws' := (fW g cI fPk fWn fGw fGk fOw fSt fPe fHo fGr fPa fFt)) [13, 14, 15, 16, 17, 18, 19] rfl
    obtain ⟨q3, hq3, h⟩ := bS h
    refine rcI (va_runV (As := [.long xNow, .int p1]) (rest := []) ⟨hx, hb, hml, hown, hts⟩ (c_fl_flyingBits l D cI cJ cZ g fPk fWn fGw fGk fOw fSt fPe fHo fGr fPa fFt s.heap hG xNow p1 q3 hq3) (cwV 2 hts gX11_toss_X3_flyingBits rfl rfl rfl (by decide +kernel) ⟨Nat.le_of_ble_eq_true rfl, Nat.le_of_ble_eq_true rfl⟩) (rPreV hK hG (ci := 2) (q0 := 0) rfl rfl) rfl rfl hl.1 rfl (lv_room (Nat.le_of_ble_eq_true rfl)) dX11_toss_22 ⟨Nat.zero_le _, Nat.zero_le _⟩) ?_
    obtain ⟨q4, hq4, h⟩ := bS h
    refine rcI (va_runS (As := [.int q3]) (rest := []) ⟨hx, hb, hml, hown, hts⟩ (c_ji_bitCount l D cI cJ cZ   s.heap q3 q4 hq4) (va_cwS 1 hts gX11_toss_J6_bitCount_0f7a4 rfl rfl rfl (by decide +kernel) ⟨Nat.le_of_ble_eq_true rfl, Nat.le_of_ble_eq_true rfl⟩) (rPreS hK) rfl rfl hl.1 rfl (lv_room (Nat.le_of_ble_eq_true rfl)) dX11_toss_25 ⟨Nat.zero_le _, Nat.zero_le _⟩) ?_
    refine lv_istore_n (lv' := [(2, .int q4), (0, .ref (a 0)), (1, .int p1)]) hx hb dX11_toss_28 rfl hl (by decide) rfl (fun ls hl => ?_)
    refine lv_aload_n hx hb dX11_toss_29 rfl (lv_at hl 1 rfl) ?_
    refine lv_aload_n hx hb dX11_toss_30 rfl (lv_at hl 1 rfl) ?_
    refine va_get (D := D) (ci := 4) (v := .ref (g 0)) (C := RX11) (T := TX11) (N := 11) hx hb hts hiX11 hown hK.1 hP 0 rfl rfl 2 (by decide) (hts (.fieldLink RX11 16 "WinnowedGuilt" "ground" "LWinnowedGuilt$Floor;") (by decide +kernel)) (fun _ h9 => h9) rfl dX11_toss_31 ?_
    refine lv_aload_n hx hb dX11_toss_34 rfl (lv_at hl 1 rfl) ?_
    refine va_get (D := D) (ci := 4) (v := .long xNow) (C := RX11) (T := TX11) (N := 11) hx hb hts hiX11 hown hK.1 hP 0 rfl rfl 4 (by decide) (hts (.fieldLink RX11 27 "WinnowedGuilt" "now" "J") (by decide +kernel)) (fun _ h9 => h9) rfl dX11_toss_35 ?_
    refine lv_iload_n hx hb dX11_toss_38 rfl (lv_at hl 2 rfl) ?_
    have hG := hP.sub (ws' := (fW g cI fPk fWn fGw fGk fOw fSt fPe fHo fGr fPa fFt)) [13, 14, 15, 16, 17, 18, 19] rfl
    obtain ⟨q5, hq5, h⟩ := bS h
    refine rcL (va_runV (As := [.long xNow, .int p1]) (rest := [.ref (a 0)]) ⟨hx, hb, hml, hown, hts⟩ (c_fl_tossed l D cI cJ cZ g fPk fWn fGw fGk fOw fSt fPe fHo fGr fPa fFt s.heap hG xNow p1 q5 hq5) (cwV 2 hts gX11_toss_X3_tossed rfl rfl rfl (by decide +kernel) ⟨Nat.le_of_ble_eq_true rfl, Nat.le_of_ble_eq_true rfl⟩) (rPreV hK hG (ci := 2) (q0 := 0) rfl rfl) rfl rfl hl.1 rfl (lv_room (Nat.le_of_ble_eq_true rfl)) dX11_toss_39 ⟨Nat.zero_le _, Nat.zero_le _⟩) ?_
    obtain ⟨q6, hq6, h⟩ := bS h
    refine wcV (va_runV (As := [.long q5]) (rest := []) ⟨hx, hb, hml, hown, hts⟩ (c_xx_actTo l D cI cJ cZ a g d xText xLetters xNow xKept xIsKept xChance xScenes xASize xSKinds xSLifts xSFlights xSSize xTally xOut fPk fWn fGw fGk fOw fSt fPe fHo fGr fPa fFt dPk dWn dGw dGk dOw dSt dPe dHo dGr dPa dFt s.heap.size q5 q6.1 q6.2.1 q6.2.2 hq6) (cwV 1 hts gX11_toss_X11_actTo rfl rfl rfl (by decide +kernel) ⟨Nat.le_of_ble_eq_true rfl, Nat.le_of_ble_eq_true rfl⟩) (wPreV hK hP hD (ci := 4) (q0 := 0) rfl rfl) rfl rfl hl.1 rfl (lv_room (Nat.le_of_ble_eq_true rfl)) dX11_toss_42 ⟨Nat.zero_le _, Nat.zero_le _⟩) hD hS hA (fun H locs hP hD hS => ?_)
    have hP : va_P D vwCl (xW a g d cI cJ cZ (g 0) (d 0) xText xLetters q6.1 xKept xIsKept xChance q6.2.1 q6.2.2 xSKinds xSLifts xSFlights xSSize xTally xOut fPk fWn fGw fGk fOw fSt fPe fHo fGr fPa fFt dPk dWn dGw dGk dOw dSt dPe dHo dGr dPa dFt) H := hP
    have hD : va_D A (xW a g d cI cJ cZ (g 0) (d 0) xText xLetters q6.1 xKept xIsKept xChance q6.2.1 q6.2.2 xSKinds xSLifts xSFlights xSSize xTally xOut fPk fWn fGw fGk fOw fSt fPe fHo fGr fPa fFt dPk dWn dGw dGk dOw dSt dPe dHo dGr dPa dFt) := hD
    refine lv_iload_n hx hb dX11_toss_45 rfl (lv_at hl 0 rfl) ?_
    cases h
    subst hAe
    exact W.iret hx hb hr (fun t ht _ => ⟨⟨_, (), rfl, rfl, by rw [ht]; exact hP, hD⟩, hS.F ht⟩) hS.2.2 dX11_toss_46
  · have h := iT c2 h
    refine lv_iconst (v := (-1)) hx hb dX11_toss_11 (by decide) ?_
    cases h
    subst hAe
    exact W.iret hx hb hr (fun t ht _ => ⟨⟨_, (), rfl, rfl, by rw [ht]; exact hP, hD⟩, hS.F ht⟩) hS.2.2 dX11_toss_12

set_option maxHeartbeats 4000000 in
set_option maxRecDepth 100000 in
theorem c_xx_calm (l : Launch) (D : va_G) (cI cJ cZ : ClassId) (a : Nat → Nat) (g : Nat → Nat) (d : Nat → Nat) (xText : Nat → Int32) (xLetters : Int32) (xNow : Int64) (xKept : Nat → Int64) (xIsKept : Nat → Int32) (xChance : Int64) (xScenes : Nat → Int64) (xASize : Int32) (xSKinds : Nat → Int32) (xSLifts : Nat → Int32) (xSFlights : Nat → Int32) (xSSize : Int32) (xTally : Nat → Int32) (xOut : Nat → Int64) (fPk : Nat → Int32) (fWn : Nat → Int32) (fGw : Nat → Int32) (fGk : Nat → Int32) (fOw : Nat → Int32) (fSt : Nat → Int32) (fPe : Int32) (fHo : Int32) (fGr : Int32) (fPa : Int32) (fFt : Int32) (dPk : Nat → Int32) (dWn : Nat → Int32) (dGw : Nat → Int32) (dGk : Nat → Int32) (dOw : Nat → Int32) (dSt : Nat → Int32) (dPe : Int32) (dHo : Int32) (dGr : Int32) (dPa : Int32) (dFt : Int32)  (sz : Nat)  (rv : Int32) (xNow_r : Int64) (xScenes_r : Nat → Int64) (xASize_r : Int32) (h : xx_calm xNow xScenes xASize fWn fHo = some (rv, xNow_r, xScenes_r, xASize_r)) : Met l yX11_calm wsX11_calm ({ frames := 3, cells := 0, slots := 0, locals := 65 } : Room) (wPc D cI cJ cZ (xW a g d cI cJ cZ (g 0) (d 0) xText xLetters xNow xKept xIsKept xChance xScenes xASize xSKinds xSLifts xSFlights xSSize xTally xOut fPk fWn fGw fGk fOw fSt fPe fHo fGr fPa fFt dPk dWn dGw dGk dOw dSt dPe dHo dGr dPa dFt) sz [.ref (a 0)]) (wQi D (xW a g d cI cJ cZ (g 0) (d 0) xText xLetters xNow xKept xIsKept xChance xScenes xASize xSKinds xSLifts xSFlights xSSize xTally xOut fPk fWn fGw fGk fOw fSt fPe fHo fGr fPa fFt dPk dWn dGw dGk dOw dSt dPe dHo dGr dPa dFt) (xW a g d cI cJ cZ (g 0) (d 0) xText xLetters xNow_r xKept xIsKept xChance xScenes_r xASize_r xSKinds xSLifts xSFlights xSSize xTally xOut fPk fWn fGw fGk fOw fSt fPe fHo fGr fPa fFt dPk dWn dGw dGk dOw dSt dPe dHo dGr dPa dFt) sz rv) 0 0 (va_A (xW a g d cI cJ cZ (g 0) (d 0) xText xLetters xNow xKept xIsKept xChance xScenes xASize xSKinds xSLifts xSFlights xSSize xTally xOut fPk fWn fGw fGk fOw fSt fPe fHo fGr fPa fFt dPk dWn dGw dGk dOw dSt dPe dHo dGr dPa dFt) sz) := by
  unfold xx_calm at h
  refine Met.ofW (cc := cX11_calm) (maxL := 1) (ret := (some .int)) (by decide) rfl ?_
  intro p e s m args below meth c s₁ B hml hv
  obtain ⟨rfl, hsz, hP, hK, hD0⟩ := hv
  have hx := B.exec
  have hb := B.bytes
  have hr := B.returns
  have hts := atoms_spec (ws := wsX11_calm) B.pre
  have hown : s.vm.findClass RX11 = some m.cls := findClass_of_methodNamed B.named
  have hlocks := B.notSynchronized
  subst hsz
  have hD := hD0.self (sz := s.heap.size)
  have hA : ∀ q : Nat, s.heap.size ≤ q → va_A (xW a g d cI cJ cZ (g 0) (d 0) xText xLetters xNow xKept xIsKept xChance xScenes xASize xSKinds xSLifts xSFlights xSSize xTally xOut fPk fWn fGw fGk fOw fSt fPe fHo fGr fPa fFt dPk dWn dGw dGk dOw dSt dPe dHo dGr dPa dFt) s.heap.size q := fun q h => Or.inr h
  have hS : va_S (va_A (xW a g d cI cJ cZ (g 0) (d 0) xText xLetters xNow xKept xIsKept xChance xScenes xASize xSKinds xSLifts xSFlights xSSize xTally xOut fPk fWn fGw fGk fOw fSt fPe fHo fGr fPa fFt dPk dWn dGw dGk dOw dSt dPe dHo dGr dPa dFt) s.heap.size) s.heap s.heap [] := va_S.rf
  obtain ⟨A, hAe⟩ : ∃ A, A = va_A (xW a g d cI cJ cZ (g 0) (d 0) xText xLetters xNow xKept xIsKept xChance xScenes xASize xSKinds xSLifts xSFlights xSSize xTally xOut fPk fWn fGw fGk fOw fSt fPe fHo fGr fPa fFt dPk dWn dGw dGk dOw dSt dPe dHo dGr dPa dFt) s.heap.size := ⟨_, rfl⟩
  rw [← hAe] at hD hA hS
  have hl := lv_entry ([.ref (a 0)]) (n := 1) (Nat.le_of_ble_eq_true rfl)
  rw [lg_entry_eq]
  generalize (lg_sl ([.ref (a 0)]) ++ List.replicate (1 - (lg_sl ([.ref (a 0)])).length) Slot.unset).toArray = ls at hl ⊢
  have hl : lv_has ls 1 [(0, .ref (a 0))] := hl
  have hiX11 : ∀ w ∈ u_ws RX11 TX11 11, w ∈ wsX11_calm := fun w hw => List.mem_cons_of_mem _ (List.mem_append_left _ (List.mem_append_left _ (List.mem_append_right _ hw)))
  refine lv_aload_n hx hb dX11_calm_0 rfl (lv_at hl 0 rfl) ?_
  refine lv_aload_n hx hb dX11_calm_1 rfl (lv_at hl 0 rfl) ?_
  refine va_get (D := D) (ci := 4) (v := .long xNow) (C := RX11) (T := TX11) (N := 11) hx hb hts hiX11 hown hK.1 hP 0 rfl rfl 4 (by decide) (hts (.fieldLink RX11 27 "WinnowedGuilt" "now" "J") (by decide +kernel)) (fun _ h9 => h9) rfl dX11_calm_2 ?_
  obtain ⟨q1, hq1, h⟩ := bS h
  refine rcL (va_runS (As := [.long xNow]) (rest := [.ref (a 0)]) ⟨hx, hb, hml, hown, hts⟩ (c_sc_later l D cI cJ cZ   s.heap xNow q1 hq1) (va_cwS 1 hts gX11_calm_X7_later rfl rfl rfl (by decide +kernel) ⟨Nat.le_of_ble_eq_true rfl, Nat.le_of_ble_eq_true rfl⟩) (rPreS hK) rfl rfl hl.1 rfl (lv_room (Nat.le_of_ble_eq_true rfl)) dX11_calm_5 ⟨Nat.zero_le _, Nat.zero_le _⟩) ?_
  obtain ⟨q2, hq2, h⟩ := bS h
  refine wcV (va_runV (As := [.long q1]) (rest := []) ⟨hx, hb, hml, hown, hts⟩ (c_xx_actTo l D cI cJ cZ a g d xText xLetters xNow xKept xIsKept xChance xScenes xASize xSKinds xSLifts xSFlights xSSize xTally xOut fPk fWn fGw fGk fOw fSt fPe fHo fGr fPa fFt dPk dWn dGw dGk dOw dSt dPe dHo dGr dPa dFt s.heap.size q1 q2.1 q2.2.1 q2.2.2 hq2) (cwV 1 hts gX11_calm_X11_actTo rfl rfl rfl (by decide +kernel) ⟨Nat.le_of_ble_eq_true rfl, Nat.le_of_ble_eq_true rfl⟩) (wPreV hK hP hD (ci := 4) (q0 := 0) rfl rfl) rfl rfl hl.1 rfl (lv_room (Nat.le_of_ble_eq_true rfl)) dX11_calm_8 ⟨Nat.zero_le _, Nat.zero_le _⟩) hD hS hA (fun H locs hP hD hS => ?_)
  have hP : va_P D vwCl (xW a g d cI cJ cZ (g 0) (d 0) xText xLetters q2.1 xKept xIsKept xChance q2.2.1 q2.2.2 xSKinds xSLifts xSFlights xSSize xTally xOut fPk fWn fGw fGk fOw fSt fPe fHo fGr fPa fFt dPk dWn dGw dGk dOw dSt dPe dHo dGr dPa dFt) H := hP
  have hD : va_D A (xW a g d cI cJ cZ (g 0) (d 0) xText xLetters q2.1 xKept xIsKept xChance q2.2.1 q2.2.2 xSKinds xSLifts xSFlights xSSize xTally xOut fPk fWn fGw fGk fOw fSt fPe fHo fGr fPa fFt dPk dWn dGw dGk dOw dSt dPe dHo dGr dPa dFt) := hD
  refine lv_aload_n hx hb dX11_calm_11 rfl (lv_at hl 0 rfl) ?_
  refine va_get (D := D) (ci := 4) (v := .ref (g 0)) (C := RX11) (T := TX11) (N := 11) hx hb hts hiX11 hown hK.1 hP 0 rfl rfl 2 (by decide) (hts (.fieldLink RX11 16 "WinnowedGuilt" "ground" "LWinnowedGuilt$Floor;") (by decide +kernel)) (fun _ h9 => h9) rfl dX11_calm_12 ?_
  refine lv_aload_n hx hb dX11_calm_15 rfl (lv_at hl 0 rfl) ?_
  refine va_get (D := D) (ci := 4) (v := .long q2.1) (C := RX11) (T := TX11) (N := 11) hx hb hts hiX11 hown hK.1 hP 0 rfl rfl 4 (by decide) (hts (.fieldLink RX11 27 "WinnowedGuilt" "now" "J") (by decide +kernel)) (fun _ h9 => h9) rfl dX11_calm_16 ?_
  have hG := hP.sub (ws' := (fW g cI fPk fWn fGw fGk fOw fSt fPe fHo fGr fPa fFt)) [13, 14, 15, 16, 17, 18, 19] rfl
  obtain ⟨q3, hq3, h⟩ := bS h
  refine rcI (va_runV (As := [.long q2.1]) (rest := []) ⟨hx, hb, hml, hown, hts⟩ (c_fl_windAt l D cI cJ cZ g fPk fWn fGw fGk fOw fSt fPe fHo fGr fPa fFt H hG q2.1 q3 hq3) (cwV 1 hts gX11_calm_X3_windAt rfl rfl rfl (by decide +kernel) ⟨Nat.le_of_ble_eq_true rfl, Nat.le_of_ble_eq_true rfl⟩) (rPreV hK hG (ci := 2) (q0 := 0) rfl rfl) rfl rfl hl.1 rfl (lv_room (Nat.le_of_ble_eq_true rfl)) dX11_calm_19 ⟨Nat.zero_le _, Nat.zero_le _⟩) ?_
  cases h
  subst hAe
  exact W.iret hx hb hr (fun t ht _ => ⟨⟨_, (), rfl, rfl, by rw [ht]; exact hP, hD⟩, hS.F ht⟩) hS.2.2 dX11_calm_22

set_option maxHeartbeats 4000000 in
set_option maxRecDepth 100000 in
theorem c_fl_canPick (l : Launch) (D : va_G) (cI cJ cZ : ClassId) (g : Nat → Nat) (fPk : Nat → Int32) (fWn : Nat → Int32) (fGw : Nat → Int32) (fGk : Nat → Int32) (fOw : Nat → Int32) (fSt : Nat → Int32) (fPe : Int32) (fHo : Int32) (fGr : Int32) (fPa : Int32) (fFt : Int32)  (H0 : Heap) (hP : va_P D vwCl (fW g cI fPk fWn fGw fGk fOw fSt fPe fHo fGr fPa fFt) H0) (p1 : Int64) (p3 : Int32) (rv : Int32) (h : fl_canPick fGk fOw fGr p1 p3 = some rv) : Met l yX3_canPick wsX3_canPick ({ frames := 2, cells := 0, slots := 0, locals := 45 } : Room) (rPc D cI cJ cZ H0 [.ref (g 0), .long p1, .int p3]) (vp_Si (fun r => r = rv)) 0 0 (fun _ => False) := by
  unfold fl_canPick at h
  refine Met.ofW (cc := cX3_canPick) (maxL := 4) (ret := (some .boolean)) (by decide) rfl ?_
  intro p e s m args below meth c s₁ B hml hv
  obtain ⟨rfl, hH, hK⟩ := hv
  have hx := B.exec
  have hb := B.bytes
  have hr := B.returns
  have hts := atoms_spec (ws := wsX3_canPick) B.pre
  have hown : s.vm.findClass RX3 = some m.cls := findClass_of_methodNamed B.named
  have hlocks := B.notSynchronized
  subst hH
  have hl := lv_entry ([.ref (g 0), .long p1, .int p3]) (n := 4) (Nat.le_of_ble_eq_true rfl)
  rw [lg_entry_eq]
  generalize (lg_sl ([.ref (g 0), .long p1, .int p3]) ++ List.replicate (4 - (lg_sl ([.ref (g 0), .long p1, .int p3])).length) Slot.unset).toArray = ls at hl ⊢
  have hl : lv_has ls 4 [(0, .ref (g 0)), (1, .long p1), (3, .int p3)] := hl
  refine lv_aload_n hx hb dX3_canPick_0 rfl (lv_at hl 0 rfl) ?_
  refine lv_iload_n hx hb dX3_canPick_1 rfl (lv_at hl 2 rfl) ?_
  obtain ⟨q1, hq1, h⟩ := bS h
  refine rcI (va_runV (As := [.int p3]) (rest := []) ⟨hx, hb, hml, hown, hts⟩ (c_fl_isGrain l D cI cJ cZ g fPk fWn fGw fGk fOw fSt fPe fHo fGr fPa fFt s.heap hP p3 q1 hq1) (cwV 1 hts gX3_canPick_X3_isGrain rfl rfl rfl (by decide +kernel) ⟨Nat.le_of_ble_eq_true rfl, Nat.le_of_ble_eq_true rfl⟩) (rPreV hK hP (ci := 2) (q0 := 0) rfl rfl) rfl rfl hl.1 rfl (lv_room (Nat.le_of_ble_eq_true rfl)) dX3_canPick_2 ⟨Nat.zero_le _, Nat.zero_le _⟩) ?_
  refine lv_if_eq (tgt := 30) hx hb dX3_canPick_5 (by decide) (fun c2 => ?_) (fun c2 => ?_)
  · have h := iT c2 h
    refine lv_iconst (v := 0) hx hb dX3_canPick_30 (by decide) ?_
    exact W.zret hx hb hr (by decide) (fun t ht _ => ⟨_, rfl, Option.some.inj h, ht⟩) (fun _ q => absurd q List.not_mem_nil) dX3_canPick_31
  · have h := iF c2 h
    refine lv_aload_n hx hb dX3_canPick_8 rfl (lv_at hl 0 rfl) ?_
    refine lv_iload_n hx hb dX3_canPick_9 rfl (lv_at hl 2 rfl) ?_
    obtain ⟨q3, hq3, h⟩ := bS h
    refine rcI (va_runV (As := [.int p3]) (rest := []) ⟨hx, hb, hml, hown, hts⟩ (c_fl_grainKind l D cI cJ cZ g fPk fWn fGw fGk fOw fSt fPe fHo fGr fPa fFt s.heap hP p3 q3 hq3) (cwV 1 hts gX3_canPick_X3_grainKind rfl rfl rfl (by decide +kernel) ⟨Nat.le_of_ble_eq_true rfl, Nat.le_of_ble_eq_true rfl⟩) (rPreV hK hP (ci := 2) (q0 := 0) rfl rfl) rfl rfl hl.1 rfl (lv_room (Nat.le_of_ble_eq_true rfl)) dX3_canPick_10 ⟨Nat.zero_le _, Nat.zero_le _⟩) ?_
    refine lv_iconst (v := 3) hx hb dX3_canPick_13 (by decide) ?_
    refine lv_icmp_ne (tgt := 30) hx hb dX3_canPick_14 (by decide) (fun c4 => ?_) (fun c4 => ?_)
    · have h := iF c4 h
      refine lv_iconst (v := 0) hx hb dX3_canPick_30 (by decide) ?_
      exact W.zret hx hb hr (by decide) (fun t ht _ => ⟨_, rfl, Option.some.inj h, ht⟩) (fun _ q => absurd q List.not_mem_nil) dX3_canPick_31
    · have h := iT c4 h
      refine lv_aload_n hx hb dX3_canPick_17 rfl (lv_at hl 0 rfl) ?_
      refine lv_lload_n hx hb dX3_canPick_18 rfl (lv_at hl 1 rfl) ?_
      refine lv_iload_n hx hb dX3_canPick_19 rfl (lv_at hl 2 rfl) ?_
      obtain ⟨q5, hq5, h⟩ := bS h
      refine rcI (va_runV (As := [.long p1, .int p3]) (rest := []) ⟨hx, hb, hml, hown, hts⟩ (c_fl_isRight l D cI cJ cZ g fPk fWn fGw fGk fOw fSt fPe fHo fGr fPa fFt s.heap hP p1 p3 q5 hq5) (cwV 2 hts gX3_canPick_X3_isRight rfl rfl rfl (by decide +kernel) ⟨Nat.le_of_ble_eq_true rfl, Nat.le_of_ble_eq_true rfl⟩) (rPreV hK hP (ci := 2) (q0 := 0) rfl rfl) rfl rfl hl.1 rfl (lv_room (Nat.le_of_ble_eq_true rfl)) dX3_canPick_20 ⟨Nat.zero_le _, Nat.zero_le _⟩) ?_
      refine lv_if_ne (tgt := 30) hx hb dX3_canPick_23 (by decide) (fun c6 => ?_) (fun c6 => ?_)
      · have h := iF c6 h
        refine lv_iconst (v := 0) hx hb dX3_canPick_30 (by decide) ?_
        exact W.zret hx hb hr (by decide) (fun t ht _ => ⟨_, rfl, Option.some.inj h, ht⟩) (fun _ q => absurd q List.not_mem_nil) dX3_canPick_31
      · have h := iT c6 h
        refine lv_iconst (v := 1) hx hb dX3_canPick_26 (by decide) ?_
        refine lv_goto (tgt := 31) hx hb dX3_canPick_27 (by decide) ?_
        exact W.zret hx hb hr (by decide) (fun t ht _ => ⟨_, rfl, Option.some.inj h, ht⟩) (fun _ q => absurd q List.not_mem_nil) dX3_canPick_31

set_option maxHeartbeats 4000000 in
set_option maxRecDepth 100000 in
theorem c_fl_picked (l : Launch) (D : va_G) (cI cJ cZ : ClassId) (g : Nat → Nat) (fPk : Nat → Int32) (fWn : Nat → Int32) (fGw : Nat → Int32) (fGk : Nat → Int32) (fOw : Nat → Int32) (fSt : Nat → Int32) (fPe : Int32) (fHo : Int32) (fGr : Int32) (fPa : Int32) (fFt : Int32)  (H0 : Heap) (hP : va_P D vwCl (fW g cI fPk fWn fGw fGk fOw fSt fPe fHo fGr fPa fFt) H0) (p1 : Int64) (p3 : Int32) (rv : Int64) (h : fl_picked fOw p1 p3 = some rv) : Met l yX3_picked wsX3_picked ({ frames := 1, cells := 0, slots := 0, locals := 24 } : Room) (rPc D cI cJ cZ H0 [.ref (g 0), .long p1, .int p3]) (vp_Sl (fun r => r = rv)) 0 0 (fun _ => False) := by
  unfold fl_picked at h
  refine Met.ofW (cc := cX3_picked) (maxL := 4) (ret := (some .long)) (by decide) rfl ?_
  intro p e s m args below meth c s₁ B hml hv
  obtain ⟨rfl, hH, hK⟩ := hv
  have hx := B.exec
  have hb := B.bytes
  have hr := B.returns
  have hts := atoms_spec (ws := wsX3_picked) B.pre
  have hown : s.vm.findClass RX3 = some m.cls := findClass_of_methodNamed B.named
  have hlocks := B.notSynchronized
  subst hH
  have hl := lv_entry ([.ref (g 0), .long p1, .int p3]) (n := 4) (Nat.le_of_ble_eq_true rfl)
  rw [lg_entry_eq]
  generalize (lg_sl ([.ref (g 0), .long p1, .int p3]) ++ List.replicate (4 - (lg_sl ([.ref (g 0), .long p1, .int p3])).length) Slot.unset).toArray = ls at hl ⊢
  have hl : lv_has ls 4 [(0, .ref (g 0)), (1, .long p1), (3, .int p3)] := hl
  refine lv_lload_n hx hb dX3_picked_0 rfl (lv_at hl 1 rfl) ?_
  refine lv_iload_n hx hb dX3_picked_1 rfl (lv_at hl 2 rfl) ?_
  refine lv_aload_n hx hb dX3_picked_2 rfl (lv_at hl 0 rfl) ?_
  refine lv_iload_n hx hb dX3_picked_3 rfl (lv_at hl 2 rfl) ?_
  obtain ⟨q1, hq1, h⟩ := bS h
  refine rcI (va_runV (As := [.int p3]) (rest := [.int p3, .long p1]) ⟨hx, hb, hml, hown, hts⟩ (c_fl_ownerOf l D cI cJ cZ g fPk fWn fGw fGk fOw fSt fPe fHo fGr fPa fFt s.heap hP p3 q1 hq1) (cwV 1 hts gX3_picked_X3_ownerOf rfl rfl rfl (by decide +kernel) ⟨Nat.le_of_ble_eq_true rfl, Nat.le_of_ble_eq_true rfl⟩) (rPreV hK hP (ci := 2) (q0 := 0) rfl rfl) rfl rfl hl.1 rfl (lv_room (Nat.le_of_ble_eq_true rfl)) dX3_picked_4 ⟨Nat.zero_le _, Nat.zero_le _⟩) ?_
  obtain ⟨q2, hq2, h⟩ := bS h
  refine rcL (va_runS (As := [.long p1, .int p3, .int q1]) (rest := []) ⟨hx, hb, hml, hown, hts⟩ (c_sc_withPlace l D cI cJ cZ   s.heap p1 p3 q1 q2 hq2) (va_cwS 3 hts gX3_picked_X7_withPlace rfl rfl rfl (by decide +kernel) ⟨Nat.le_of_ble_eq_true rfl, Nat.le_of_ble_eq_true rfl⟩) (rPreS hK) rfl rfl hl.1 rfl (lv_room (Nat.le_of_ble_eq_true rfl)) dX3_picked_7 ⟨Nat.zero_le _, Nat.zero_le _⟩) ?_
  exact W.lret hx hb hr (fun t ht _ => ⟨_, rfl, Option.some.inj h, ht⟩) (fun _ q => absurd q List.not_mem_nil) dX3_picked_10

set_option maxHeartbeats 4000000 in
set_option maxRecDepth 100000 in
theorem c_xx_pick (l : Launch) (D : va_G) (cI cJ cZ : ClassId) (a : Nat → Nat) (g : Nat → Nat) (d : Nat → Nat) (xText : Nat → Int32) (xLetters : Int32) (xNow : Int64) (xKept : Nat → Int64) (xIsKept : Nat → Int32) (xChance : Int64) (xScenes : Nat → Int64) (xASize : Int32) (xSKinds : Nat → Int32) (xSLifts : Nat → Int32) (xSFlights : Nat → Int32) (xSSize : Int32) (xTally : Nat → Int32) (xOut : Nat → Int64) (fPk : Nat → Int32) (fWn : Nat → Int32) (fGw : Nat → Int32) (fGk : Nat → Int32) (fOw : Nat → Int32) (fSt : Nat → Int32) (fPe : Int32) (fHo : Int32) (fGr : Int32) (fPa : Int32) (fFt : Int32) (dPk : Nat → Int32) (dWn : Nat → Int32) (dGw : Nat → Int32) (dGk : Nat → Int32) (dOw : Nat → Int32) (dSt : Nat → Int32) (dPe : Int32) (dHo : Int32) (dGr : Int32) (dPa : Int32) (dFt : Int32)  (sz : Nat) (p1 : Int32) (rv : Int32) (xNow_r : Int64) (xScenes_r : Nat → Int64) (xASize_r : Int32) (h : xx_pick xNow xScenes xASize fGk fOw fGr p1 = some (rv, xNow_r, xScenes_r, xASize_r)) : Met l yX11_pick wsX11_pick ({ frames := 3, cells := 0, slots := 0, locals := 68 } : Room) (wPc D cI cJ cZ (xW a g d cI cJ cZ (g 0) (d 0) xText xLetters xNow xKept xIsKept xChance xScenes xASize xSKinds xSLifts xSFlights xSSize xTally xOut fPk fWn fGw fGk fOw fSt fPe fHo fGr fPa fFt dPk dWn dGw dGk dOw dSt dPe dHo dGr dPa dFt) sz [.ref (a 0), .int p1]) (wQi D (xW a g d cI cJ cZ (g 0) (d 0) xText xLetters xNow xKept xIsKept xChance xScenes xASize xSKinds xSLifts xSFlights xSSize xTally xOut fPk fWn fGw fGk fOw fSt fPe fHo fGr fPa fFt dPk dWn dGw dGk dOw dSt dPe dHo dGr dPa dFt) (xW a g d cI cJ cZ (g 0) (d 0) xText xLetters xNow_r xKept xIsKept xChance xScenes_r xASize_r xSKinds xSLifts xSFlights xSSize xTally xOut fPk fWn fGw fGk fOw fSt fPe fHo fGr fPa fFt dPk dWn dGw dGk dOw dSt dPe dHo dGr dPa dFt) sz rv) 0 0 (va_A (xW a g d cI cJ cZ (g 0) (d 0) xText xLetters xNow xKept xIsKept xChance xScenes xASize xSKinds xSLifts xSFlights xSSize xTally xOut fPk fWn fGw fGk fOw fSt fPe fHo fGr fPa fFt dPk dWn dGw dGk dOw dSt dPe dHo dGr dPa dFt) sz) := by
  unfold xx_pick at h
  refine Met.ofW (cc := cX11_pick) (maxL := 3) (ret := (some .int)) (by decide) rfl ?_
  intro p e s m args below meth c s₁ B hml hv
  obtain ⟨rfl, hsz, hP, hK, hD0⟩ := hv
  have hx := B.exec
  have hb := B.bytes
  have hr := B.returns
  have hts := atoms_spec (ws := wsX11_pick) B.pre
  have hown : s.vm.findClass RX11 = some m.cls := findClass_of_methodNamed B.named
  have hlocks := B.notSynchronized
  subst hsz
  have hD := hD0.self (sz := s.heap.size)
  have hA : ∀ q : Nat, s.heap.size ≤ q → va_A (xW a g d cI cJ cZ (g 0) (d 0) xText xLetters xNow xKept xIsKept xChance xScenes xASize xSKinds xSLifts xSFlights xSSize xTally xOut fPk fWn fGw fGk fOw fSt fPe fHo fGr fPa fFt dPk dWn dGw dGk dOw dSt dPe dHo dGr dPa dFt) s.heap.size q := fun q h => Or.inr h
  have hS : va_S (va_A (xW a g d cI cJ cZ (g 0) (d 0) xText xLetters xNow xKept xIsKept xChance xScenes xASize xSKinds xSLifts xSFlights xSSize xTally xOut fPk fWn fGw fGk fOw fSt fPe fHo fGr fPa fFt dPk dWn dGw dGk dOw dSt dPe dHo dGr dPa dFt) s.heap.size) s.heap s.heap [] := va_S.rf
  obtain ⟨A, hAe⟩ : ∃ A, A = va_A (xW a g d cI cJ cZ (g 0) (d 0) xText xLetters xNow xKept xIsKept xChance xScenes xASize xSKinds xSLifts xSFlights xSSize xTally xOut fPk fWn fGw fGk fOw fSt fPe fHo fGr fPa fFt dPk dWn dGw dGk dOw dSt dPe dHo dGr dPa dFt) s.heap.size := ⟨_, rfl⟩
  rw [← hAe] at hD hA hS
  have hl := lv_entry ([.ref (a 0), .int p1]) (n := 3) (Nat.le_of_ble_eq_true rfl)
  rw [lg_entry_eq]
  generalize (lg_sl ([.ref (a 0), .int p1]) ++ List.replicate (3 - (lg_sl ([.ref (a 0), .int p1])).length) Slot.unset).toArray = ls at hl ⊢
  have hl : lv_has ls 3 [(0, .ref (a 0)), (1, .int p1)] := hl
  have hiX11 : ∀ w ∈ u_ws RX11 TX11 11, w ∈ wsX11_pick := fun w hw => List.mem_cons_of_mem _ (List.mem_append_left _ (List.mem_append_left _ (List.mem_append_right _ hw)))
  refine lv_aload_n hx hb dX11_pick_0 rfl (lv_at hl 0 rfl) ?_
  refine va_get (D := D) (ci := 4) (v := .ref (g 0)) (C := RX11) (T := TX11) (N := 11) hx hb hts hiX11 hown hK.1 hP 0 rfl rfl 2 (by decide) (hts (.fieldLink RX11 16 "WinnowedGuilt" "ground" "LWinnowedGuilt$Floor;") (by decide +kernel)) (fun _ h9 => h9) rfl dX11_pick_1 ?_
  refine lv_iload_n hx hb dX11_pick_4 rfl (lv_at hl 1 rfl) ?_
  have hG := hP.sub (ws' := (fW g cI fPk fWn fGw fGk fOw fSt fPe fHo fGr fPa fFt)) [13, 14, 15, 16, 17, 18, 19] rfl
  obtain ⟨q1, hq1, h⟩ := bS h
  refine rcI (va_runV (As := [.int p1]) (rest := []) ⟨hx, hb, hml, hown, hts⟩ (c_fl_isGrain l D cI cJ cZ g fPk fWn fGw fGk fOw fSt fPe fHo fGr fPa fFt s.heap hG p1 q1 hq1) (cwV 1 hts gX11_pick_X3_isGrain rfl rfl rfl (by decide +kernel) ⟨Nat.le_of_ble_eq_true rfl, Nat.le_of_ble_eq_true rfl⟩) (rPreV hK hG (ci := 2) (q0 := 0) rfl rfl) rfl rfl hl.1 rfl (lv_room (Nat.le_of_ble_eq_true rfl)) dX11_pick_5 ⟨Nat.zero_le _, Nat.zero_le _⟩) ?_
  refine lv_if_ne (tgt := 13) hx hb dX11_pick_8 (by decide) (fun c2 => ?_) (fun c2 => ?_)
  · have h := iF c2 h
    refine lv_aload_n hx hb dX11_pick_13 rfl (lv_at hl 0 rfl) ?_
    refine va_get (D := D) (ci := 4) (v := .ref (g 0)) (C := RX11) (T := TX11) (N := 11) hx hb hts hiX11 hown hK.1 hP 0 rfl rfl 2 (by decide) (hts (.fieldLink RX11 16 "WinnowedGuilt" "ground" "LWinnowedGuilt$Floor;") (by decide +kernel)) (fun _ h9 => h9) rfl dX11_pick_14 ?_
    refine lv_aload_n hx hb dX11_pick_17 rfl (lv_at hl 0 rfl) ?_
    refine va_get (D := D) (ci := 4) (v := .long xNow) (C := RX11) (T := TX11) (N := 11) hx hb hts hiX11 hown hK.1 hP 0 rfl rfl 4 (by decide) (hts (.fieldLink RX11 27 "WinnowedGuilt" "now" "J") (by decide +kernel)) (fun _ h9 => h9) rfl dX11_pick_18 ?_
    refine lv_iload_n hx hb dX11_pick_21 rfl (lv_at hl 1 rfl) ?_
    have hG := hP.sub (ws' := (fW g cI fPk fWn fGw fGk fOw fSt fPe fHo fGr fPa fFt)) [13, 14, 15, 16, 17, 18, 19] rfl
    obtain ⟨q3, hq3, h⟩ := bS h
    refine rcI (va_runV (As := [.long xNow, .int p1]) (rest := []) ⟨hx, hb, hml, hown, hts⟩ (c_fl_canPick l D cI cJ cZ g fPk fWn fGw fGk fOw fSt fPe fHo fGr fPa fFt s.heap hG xNow p1 q3 hq3) (cwV 2 hts gX11_pick_X3_canPick rfl rfl rfl (by decide +kernel) ⟨Nat.le_of_ble_eq_true rfl, Nat.le_of_ble_eq_true rfl⟩) (rPreV hK hG (ci := 2) (q0 := 0) rfl rfl) rfl rfl hl.1 rfl (lv_room (Nat.le_of_ble_eq_true rfl)) dX11_pick_22 ⟨Nat.zero_le _, Nat.zero_le _⟩) ?_
    refine lv_if_ne (tgt := 31) hx hb dX11_pick_25 (by decide) (fun c4 => ?_) (fun c4 => ?_)
    · have h := iF c4 h
      refine lv_aload_n hx hb dX11_pick_31 rfl (lv_at hl 0 rfl) ?_
      refine va_get (D := D) (ci := 4) (v := .long xNow) (C := RX11) (T := TX11) (N := 11) hx hb hts hiX11 hown hK.1 hP 0 rfl rfl 4 (by decide) (hts (.fieldLink RX11 27 "WinnowedGuilt" "now" "J") (by decide +kernel)) (fun _ h9 => h9) rfl dX11_pick_32 ?_
      refine lv_iload_n hx hb dX11_pick_35 rfl (lv_at hl 1 rfl) ?_
      obtain ⟨q5, hq5, h⟩ := bS h
      refine rcI (va_runS (As := [.long xNow, .int p1]) (rest := []) ⟨hx, hb, hml, hown, hts⟩ (c_sc_placeOf l D cI cJ cZ   s.heap xNow p1 q5 hq5) (va_cwS 2 hts gX11_pick_X7_placeOf rfl rfl rfl (by decide +kernel) ⟨Nat.le_of_ble_eq_true rfl, Nat.le_of_ble_eq_true rfl⟩) (rPreS hK) rfl rfl hl.1 rfl (lv_room (Nat.le_of_ble_eq_true rfl)) dX11_pick_36 ⟨Nat.zero_le _, Nat.zero_le _⟩) ?_
      refine lv_istore_n (lv' := [(2, .int q5), (0, .ref (a 0)), (1, .int p1)]) hx hb dX11_pick_39 rfl hl (by decide) rfl (fun ls hl => ?_)
      refine lv_aload_n hx hb dX11_pick_40 rfl (lv_at hl 1 rfl) ?_
      refine lv_aload_n hx hb dX11_pick_41 rfl (lv_at hl 1 rfl) ?_
      refine va_get (D := D) (ci := 4) (v := .ref (g 0)) (C := RX11) (T := TX11) (N := 11) hx hb hts hiX11 hown hK.1 hP 0 rfl rfl 2 (by decide) (hts (.fieldLink RX11 16 "WinnowedGuilt" "ground" "LWinnowedGuilt$Floor;") (by decide +kernel)) (fun _ h9 => h9) rfl dX11_pick_42 ?_
      refine lv_aload_n hx hb dX11_pick_45 rfl (lv_at hl 1 rfl) ?_
      refine va_get (D := D) (ci := 4) (v := .long xNow) (C := RX11) (T := TX11) (N := 11) hx hb hts hiX11 hown hK.1 hP 0 rfl rfl 4 (by decide) (hts (.fieldLink RX11 27 "WinnowedGuilt" "now" "J") (by decide +kernel)) (fun _ h9 => h9) rfl dX11_pick_46 ?_
      refine lv_iload_n hx hb dX11_pick_49 rfl (lv_at hl 2 rfl) ?_
      have hG := hP.sub (ws' := (fW g cI fPk fWn fGw fGk fOw fSt fPe fHo fGr fPa fFt)) [13, 14, 15, 16, 17, 18, 19] rfl
      obtain ⟨q6, hq6, h⟩ := bS h
      refine rcL (va_runV (As := [.long xNow, .int p1]) (rest := [.ref (a 0)]) ⟨hx, hb, hml, hown, hts⟩ (c_fl_picked l D cI cJ cZ g fPk fWn fGw fGk fOw fSt fPe fHo fGr fPa fFt s.heap hG xNow p1 q6 hq6) (cwV 2 hts gX11_pick_X3_picked rfl rfl rfl (by decide +kernel) ⟨Nat.le_of_ble_eq_true rfl, Nat.le_of_ble_eq_true rfl⟩) (rPreV hK hG (ci := 2) (q0 := 0) rfl rfl) rfl rfl hl.1 rfl (lv_room (Nat.le_of_ble_eq_true rfl)) dX11_pick_50 ⟨Nat.zero_le _, Nat.zero_le _⟩) ?_
      obtain ⟨q7, hq7, h⟩ := bS h
      refine wcV (va_runV (As := [.long q6]) (rest := []) ⟨hx, hb, hml, hown, hts⟩ (c_xx_actTo l D cI cJ cZ a g d xText xLetters xNow xKept xIsKept xChance xScenes xASize xSKinds xSLifts xSFlights xSSize xTally xOut fPk fWn fGw fGk fOw fSt fPe fHo fGr fPa fFt dPk dWn dGw dGk dOw dSt dPe dHo dGr dPa dFt s.heap.size q6 q7.1 q7.2.1 q7.2.2 hq7) (cwV 1 hts gX11_pick_X11_actTo rfl rfl rfl (by decide +kernel) ⟨Nat.le_of_ble_eq_true rfl, Nat.le_of_ble_eq_true rfl⟩) (wPreV hK hP hD (ci := 4) (q0 := 0) rfl rfl) rfl rfl hl.1 rfl (lv_room (Nat.le_of_ble_eq_true rfl)) dX11_pick_53 ⟨Nat.zero_le _, Nat.zero_le _⟩) hD hS hA (fun H locs hP hD hS => ?_)
      have hP : va_P D vwCl (xW a g d cI cJ cZ (g 0) (d 0) xText xLetters q7.1 xKept xIsKept xChance q7.2.1 q7.2.2 xSKinds xSLifts xSFlights xSSize xTally xOut fPk fWn fGw fGk fOw fSt fPe fHo fGr fPa fFt dPk dWn dGw dGk dOw dSt dPe dHo dGr dPa dFt) H := hP
      have hD : va_D A (xW a g d cI cJ cZ (g 0) (d 0) xText xLetters q7.1 xKept xIsKept xChance q7.2.1 q7.2.2 xSKinds xSLifts xSFlights xSSize xTally xOut fPk fWn fGw fGk fOw fSt fPe fHo fGr fPa fFt dPk dWn dGw dGk dOw dSt dPe dHo dGr dPa dFt) := hD
      refine lv_iload_n hx hb dX11_pick_56 rfl (lv_at hl 0 rfl) ?_
      cases h
      subst hAe
      exact W.iret hx hb hr (fun t ht _ => ⟨⟨_, (), rfl, rfl, by rw [ht]; exact hP, hD⟩, hS.F ht⟩) hS.2.2 dX11_pick_57
    · have h := iT c4 h
      refine lv_bipush (v := (-3)) hx hb dX11_pick_28 (by decide) ?_
      cases h
      subst hAe
      exact W.iret hx hb hr (fun t ht _ => ⟨⟨_, (), rfl, rfl, by rw [ht]; exact hP, hD⟩, hS.F ht⟩) hS.2.2 dX11_pick_30
  · have h := iT c2 h
    refine lv_iconst (v := (-1)) hx hb dX11_pick_11 (by decide) ?_
    cases h
    subst hAe
    exact W.iret hx hb hr (fun t ht _ => ⟨⟨_, (), rfl, rfl, by rw [ht]; exact hP, hD⟩, hS.F ht⟩) hS.2.2 dX11_pick_12

set_option maxHeartbeats 4000000 in
set_option maxRecDepth 100000 in
theorem c_sc_withHolder (l : Launch) (D : va_G) (cI cJ cZ : ClassId)  (H0 : Heap) (p0 : Int64) (p2 : Int32) (rv : Int64) (h : sc_withHolder p0 p2 = some rv) : Met l yX7_withHolder wsX7_withHolder ({ frames := 0, cells := 0, slots := 0, locals := 0 } : Room) (rPc D cI cJ cZ H0 [.long p0, .int p2]) (vp_Sl (fun r => r = rv)) 0 0 (fun _ => False) := by
  unfold sc_withHolder at h
  refine Met.ofW (cc := cX7_withHolder) (maxL := 3) (ret := (some .long)) (by decide) rfl ?_
  intro p e s m args below meth c s₁ B hml hv
  obtain ⟨rfl, hH, hK⟩ := hv
  have hx := B.exec
  have hb := B.bytes
  have hr := B.returns
  have hts := atoms_spec (ws := wsX7_withHolder) B.pre
  have hown : s.vm.findClass RX7 = some m.cls := findClass_of_methodNamed B.named
  have hlocks := B.notSynchronized
  subst hH
  have hl := lv_entry ([.long p0, .int p2]) (n := 3) (Nat.le_of_ble_eq_true rfl)
  rw [lg_entry_eq]
  generalize (lg_sl ([.long p0, .int p2]) ++ List.replicate (3 - (lg_sl ([.long p0, .int p2])).length) Slot.unset).toArray = ls at hl ⊢
  have hl : lv_has ls 3 [(0, .long p0), (2, .int p2)] := hl
  refine lv_lload_n hx hb dX7_withHolder_0 rfl (lv_at hl 0 rfl) ?_
  refine lv_ldc2 (own := RX7) (v := (-4026531841)) hx hb hown (hts (.constantLong RX7 15 (-4026531841)) (by decide +kernel)) dX7_withHolder_1 ?_
  refine lv_land hx hb dX7_withHolder_4 ?_
  refine lv_iload_n hx hb dX7_withHolder_5 rfl (lv_at hl 1 rfl) ?_
  refine lv_i2l (v := (Int32.toInt64 p2)) hx hb dX7_withHolder_6 rfl ?_
  refine lv_bipush (v := 28) hx hb dX7_withHolder_7 (by decide) ?_
  refine lv_lshl (v := ((Int32.toInt64 p2) <<< (Int32.toInt64 (28 : Int32) &&& 63))) hx hb dX7_withHolder_9 rfl ?_
  refine lv_lor hx hb dX7_withHolder_10 ?_
  exact W.lret hx hb hr (fun t ht _ => ⟨_, rfl, Option.some.inj h, ht⟩) (fun _ q => absurd q List.not_mem_nil) dX7_withHolder_11
