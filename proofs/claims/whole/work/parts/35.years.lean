/-! ===== years ===== -/
theorem lN_div9 {m : Nat} (h : m < 2147483648) : lN m / 9 = lN (m / 9) := by
  apply Int64.toInt_inj.mp
  have e9 : (9 : Int64).toInt = ((9 : Nat) : Int) := by decide
  have hd : (m : Int).tdiv ((9 : Nat) : Int) = ((m / 9 : Nat) : Int) := (Int.ofNat_tdiv m 9).symm
  rw [Int64.toInt_div, lN_toInt (by omega), lN_toInt (show m / 9 < 2 ^ 31 by omega), e9, hd]
  exact Int.bmod_eq_of_le (by omega) (by omega)
theorem lN_all (L : Int64) : ∃ u, u < 18446744073709551616 ∧ L = lN u := by
  refine ⟨L.toBitVec.toNat, L.toBitVec.isLt, wb_inj ?_⟩
  rw [wb_tb, BitVec.ofNat_toNat]
  exact (BitVec.setWidth_eq _).symm
theorem lot_eq (q : Int64) : ∃ m, m < 9 ∧ (Int64.toInt32 (Int64.toUInt64 q >>> ((Int32.toInt64 (33 : Int32)).toUInt64 &&& Int64.toUInt64 63)).toInt64) - (Int64.toInt32 (Int64.toUInt64 q >>> ((Int32.toInt64 (33 : Int32)).toUInt64 &&& Int64.toUInt64 63)).toInt64) / 9 * 9 = nI m ∧ (Int64.toInt32 ((Int64.toUInt64 q >>> ((Int32.toInt64 (33 : Int32)).toUInt64 &&& Int64.toUInt64 63)).toInt64 - (Int64.toUInt64 q >>> ((Int32.toInt64 (33 : Int32)).toUInt64 &&& Int64.toUInt64 63)).toInt64 / 9 * 9)) = nI m := by
  obtain ⟨u, hu, rfl⟩ := lN_all q
  have e : (33 : Int32) = nI 33 := rfl
  have hm : u / 2 ^ 33 < 2147483648 := by omega
  rw [e, wb_shr (show u < 2 ^ 64 from hu) (by omega)]
  generalize u / 2 ^ 33 = m at hm
  refine ⟨m % 9, Nat.mod_lt _ (by decide), ?_, ?_⟩
  · rw [lN_i, n_remL hm (by decide) (by decide)]
  · have e9 : lN (m / 9) * 9 = lN (m / 9 * 9) := lN_mul (m / 9) 9
    rw [lN_div9 hm, e9, lN_sub (by omega), lN_i]
    have : m - m / 9 * 9 = m % 9 := by omega
    rw [this]
def zYr (F : FD) (U : Sc) (m : Nat) : Sc := if m = 8 then zLa U else if 4 ≤ m then (if m - 4 < oP F then zHd U (m - 4) else U) else (if m < oP F then zTo F U m 0 else U)
theorem zYr_ck (F : FD) (U : Sc) (m : Nat) : (zYr F U m).2.2 ≤ U.2.2 + 1 := by
  unfold zYr
  repeat' split
  all_goals first | exact Nat.le_refl _ | exact Nat.le_succ _
section O10
variable {F : FD} {fPk fWn fGw fGk fOw : Nat → Int32} {fPe fHo fGr : Int32} {L : Int64} {S U : Sc}
variable {mKind mWind mWeight mSort mOwner mNow now0 now : Nat → Int32} {mPeople mHours mGrains : Int32}
theorem x_year (hF : RF F fPk fWn fGw fGk fOw fPe fHo fGr) (hX : RX F L U) {m : Nat} (hm : m < 9) (hk : U.2.2 + 1 < 1048576) : ∃ L1, gu_yearBehind fPk fWn fGw fGk fOw fPe fHo fGr L (nI m) = some L1 ∧ RX F L1 (zYr F U m) := by
  have h4 := hF.1.1
  have h7 := hF.1.2.2.1
  unfold gu_yearBehind zYr
  by_cases h8 : m = 8
  · obtain ⟨L1, e, q⟩ := x_later hX h7 hk
    exact ⟨L1, by rw [if_pos ((n_eqL (by omega) (by decide)).mpr h8), e, b_s], by rw [if_pos h8]; exact q⟩
  · rw [if_neg (fun z => h8 ((n_eqL (by omega) (by decide)).mp z)), if_neg h8]
    by_cases hm4 : 4 ≤ m
    · have e4 : nI m - 4 = nI (m - 4) := n_subL (c := 4) hm4
      rw [if_pos ((n_Lle (by omega) (by decide)).mpr hm4), if_pos hm4, e4]
      by_cases hp : m - 4 < oP F
      · obtain ⟨L1, e, q⟩ := x_withH hX h7 h4 hp
        exact ⟨L1, by rw [x_perT hF hp, b_s, i10, e, b_s], by rw [if_pos hp]; exact q⟩
      · exact ⟨L, by rw [x_perF hF (by omega) (by omega), b_s, i00], by rw [if_neg hp]; exact hX⟩
    · rw [if_neg (fun z => hm4 ((n_Lle (by omega) (by decide)).mp z)), if_neg hm4]
      by_cases hp : m < oP F
      · obtain ⟨L1, e, q⟩ := x_tossed hF hX hp hk
        exact ⟨L1, by rw [x_perT hF hp, b_s, i10, e, b_s], by rw [if_pos hp]; exact q⟩
      · exact ⟨L, by rw [x_perF hF (by omega) (by omega), b_s, i00], by rw [if_neg hp]; exact hX⟩
theorem op_years_loop (hF : RF F fPk fWn fGw fGk fOw fPe fHo fGr) (hG : RF F mKind mWind mWeight mSort mOwner mPeople mHours mGrains) {p : Nat} (hp : p ≤ 30) (kx : Int32 → Int64 → Int64 → Option (Int32 × Int64)) (km : Int32 → (Nat → Int32) → (Nat → Int32) → Int64 → Option (Int32 × (Nat → Int32) × (Nat → Int32) × Int64)) :
    ∀ (d k n : Nat) (L : Int64) (now mv : Nat → Int32) (U : Sc) (sd : Int64), k + d = p → d < n → RX F L U → TR F now0 now U → U.2.2 + d < 5000 →
      ∃ L1 now1 mv1 U1 sd1, xx_years_L22 fPk fWn fGw fGk fOw fPe fHo fGr (nI p) kx n (nI k) L sd = kx (nI p) L1 sd1 ∧ mm_years_L21 mPeople mHours mGrains mKind mWind mWeight mSort mOwner (nI p) km n (nI k) now mv sd = km (nI p) now1 mv1 sd1 ∧ RX F L1 U1 ∧ TR F now0 now1 U1 := by
  have h4 := hG.1.1
  have h7 := hG.1.2.2.1
  intro d
  induction d with
  | zero =>
    intro k n L now mv U sd hk hn hX hT hck
    obtain ⟨n, rfl⟩ : ∃ m, n = m + 1 := ⟨n - 1, by omega⟩
    obtain rfl : k = p := by omega
    have c : nI k ≤ nI k := (n_le (by omega) (by omega)).mpr (by omega)
    exact ⟨L, now, mv, U, sd, by rw [xx_years_L22.eq_2, if_pos c], by rw [mm_years_L21.eq_2, if_pos c], hX, hT⟩
  | succ d ih =>
    intro k n L now mv U sd hk hn hX hT hck
    obtain ⟨n, rfl⟩ : ∃ m, n = m + 1 := ⟨n - 1, by omega⟩
    have c : ¬ nI p ≤ nI k := fun z => by have := (n_le (by omega) (by omega)).mp z; omega
    obtain ⟨m, hm, e1, e2⟩ := lot_eq ((sd * 6364136223846793005) + 1442695040888963407)
    have en : gu_nextChance sd = some ((sd * 6364136223846793005) + 1442695040888963407) := rfl
    rw [xx_years_L22.eq_2, mm_years_L21.eq_2, if_neg c, if_neg c, en, b_s, e1, e2, nI_1]
    generalize (sd * 6364136223846793005) + 1442695040888963407 = sd1
    obtain ⟨L1, ey, hX1⟩ := x_year hF hX hm (by omega)
    have hck1 := zYr_ck F U m
    rw [ey, b_s]
    by_cases h8 : m = 8
    · have ez : zYr F U m = zLa U := by unfold zYr; rw [if_pos h8]
      rw [ez] at hX1 hck1
      rw [if_pos ((n_eqL (by omega) (by decide)).mpr h8)]
      refine ih (k + 1) n L1 _ mv _ sd1 (by omega) (by omega) hX1 ⟨⟨hX1.1, fun g hg => ?_, ?_, ?_⟩, TR.upd_hi (by omega) hT.2⟩ (by omega)
      · unfold upd
        rw [if_neg (by omega)]
        exact hT.1.2.1 g hg
      · exact hT.1.2.2.1
      · have := hT.1.2.2.2
        show now 17 + 1 = nI (U.2.2 + 1)
        rw [← nI_1]
        exact congrArg (· + 1) this
    · rw [if_neg (fun z => h8 ((n_eqL (by omega) (by decide)).mp z))]
      by_cases hm4 : 4 ≤ m
      · have e4 : nI m - 4 = nI (m - 4) := n_subL (c := 4) hm4
        rw [if_pos ((n_Lle (by omega) (by decide)).mpr hm4), if_neg (fun z => by have : m ≤ 3 := (n_leL (by omega) (by decide)).mp z; omega), e4]
        by_cases hp : m - 4 < oP F
        · have ez : zYr F U m = zHd U (m - 4) := by unfold zYr; rw [if_neg h8, if_pos hm4, if_pos hp]
          rw [ez] at hX1 hck1
          rw [m_perT hG hp, b_s, i10]
          refine ih (k + 1) n L1 _ mv _ sd1 (by omega) (by omega) hX1 ⟨⟨hX1.1, fun g hg => ?_, ?_, ?_⟩, TR.upd_hi (by omega) hT.2⟩ (by omega)
          · unfold upd
            rw [if_neg (by omega)]
            exact hT.1.2.1 g hg
          · show nI (m - 4) = hI (m - 4)
            unfold hI
            rw [if_neg (by omega)]
          · exact hT.1.2.2.2
        · have ez : zYr F U m = U := by unfold zYr; rw [if_neg h8, if_pos hm4, if_neg hp]
          rw [ez] at hX1 hck1
          rw [m_perF hG (by omega) (by omega), b_s, i00]
          exact ih (k + 1) n L1 now mv U sd1 (by omega) (by omega) hX1 hT (by omega)
      · rw [if_neg (fun z => hm4 ((n_Lle (by omega) (by decide)).mp z))]
        by_cases hp : m < oP F
        · have ez : zYr F U m = zTo F U m 0 := by unfold zYr; rw [if_neg h8, if_neg hm4, if_pos hp]
          rw [ez] at hX1 hck1
          obtain ⟨now1, mv1, e, hM1, hq⟩ := m_toss1 hG hT.1 hp (by omega) mv
          rw [m_perT hG hp, b_s, i10, e, b_s]
          exact ih (k + 1) n L1 now1 mv1 _ sd1 (by omega) (by omega) hX1 ⟨hM1, fun j hj => (hq j (Or.inl hj)).trans (hT.2 j hj)⟩ (by omega)
        · have ez : zYr F U m = U := by unfold zYr; rw [if_neg h8, if_neg hm4, if_neg hp]
          rw [ez] at hX1 hck1
          rw [m_perF hG (by omega) (by omega), b_s, i00, if_pos ((n_leL (by omega) (by decide)).mpr (show m ≤ 3 by omega))]
          exact ih (k + 1) n L1 now mv U sd1 (by omega) (by omega) hX1 hT (by omega)
theorem m_inT {a j c : Nat} (h1 : a ≤ j) (h2 : j ≤ c) (hc : c < 2147483648) : mm_in (Int32.toInt64 (nI j)) (Int32.toInt64 (nI a)) (Int32.toInt64 (nI c)) = some 1 := by
  rw [m_in, if_pos ⟨(n_le (by omega) (by omega)).mpr h1, (n_le (by omega) (by omega)).mpr h2⟩]
theorem m_inF {p : Int32} {a c : Nat} (h : p < nI a ∨ nI c < p) : mm_in (Int32.toInt64 p) (Int32.toInt64 (nI a)) (Int32.toInt64 (nI c)) = some 0 := by
  rw [m_in, if_neg]
  rintro ⟨h1, h2⟩
  have h1 := (fa_le _ _).mp h1
  have h2 := (fa_le _ _).mp h2
  rcases h with h | h
  · have := (fa_lt _ _).mp h
    omega
  · have := (fa_lt _ _).mp h
    omega
theorem op_years (hF : RF F fPk fWn fGw fGk fOw fPe fHo fGr) (hG : RF F mKind mWind mWeight mSort mOwner mPeople mHours mGrains) (hX : RX F L S) (hM : RM F mNow 0 S) (hk : S.2.2 < 1000) (mv : Nat → Int32) (sd : Int64) (p : Int32) :
    ∃ r now1 mv1 sd1, xx_years L sd fPk fWn fGw fGk fOw fPe fHo fGr p = some (r, sd1) ∧ mm_years mPeople mHours mGrains mKind mWind mWeight mSort mOwner mNow mv sd p = some (r, now1, mv1, sd1) ∧ RM F now1 0 S := by
  have h4 := hF.1.1
  have h7 := hF.1.2.2.1
  have em : ∀ s : Int32, mm_in (Int32.toInt64 s) 1 30 = mm_in (Int32.toInt64 s) (Int32.toInt64 (nI 1)) (Int32.toInt64 (nI 30)) := fun s => rfl
  unfold xx_years mm_years
  rcases pk_ix p (show 31 < 2 ^ 31 by omega) with h | h | ⟨j, hj, rfl⟩
  · have h1 : p < 1 := by
      have z1 := (fa_lt _ _).mp h
      have z3 : (0 : Int32).toInt = 0 := by decide
      have z4 : (1 : Int32).toInt = 1 := by decide
      exact (fa_lt _ _).mpr (by omega)
    exact ⟨-2, mNow, mv, sd, by rw [if_pos h1], by rw [em, m_inF (Or.inl h1), b_s, i00], hM⟩
  · have z2 := (fa_le _ _).mp h
    have z4 : (nI 31).toInt = 31 := by decide
    have z5 : (1 : Int32).toInt = 1 := by decide
    have z6 : (30 : Int32).toInt = 30 := by decide
    have h1 : ¬ p < 1 := fun z => by
      have z1 := (fa_lt _ _).mp z
      omega
    have h2 : ¬ p ≤ 30 := fun z => by
      have z1 := (fa_le _ _).mp z
      omega
    have h3 : nI 30 < p := (fa_lt _ _).mpr (by have z7 : (nI 30).toInt = 30 := by decide
                                               omega)
    exact ⟨-2, mNow, mv, sd, by rw [if_neg h1, if_neg h2], by rw [em, m_inF (Or.inr h3), b_s, i00], hM⟩
  · by_cases h0 : j = 0
    · subst h0
      have h1 : nI 0 < 1 := by decide
      exact ⟨-2, mNow, mv, sd, by rw [if_pos h1], by rw [em, m_inF (Or.inl h1), b_s, i00], hM⟩
    · obtain ⟨now1, e1, hM1, hM0, hq⟩ := m_lay mNow F S hM h7
      obtain ⟨L1, now2, mv2, U1, sd1, a1, a2, hX1, hT1⟩ := op_years_loop hF hG (show j ≤ 30 by omega) (fun y4_22 y2_22 xChance_22 => (Option.bind (fl_goneWeight fGw fGr y2_22) fun q3 => (some (q3, xChance_22)))) (fun y2_21 mNow_21 mMoved_21 mSeed_21 => (Option.bind (mm_lyingAt mGrains mNow_21 1 8) fun q4 => (Option.bind (mm_weighs mGrains mWeight q4) fun q5 => (some (q5, mNow_21, mMoved_21, mSeed_21))))) j 0 1000 L now1 mv S sd (by omega) (by omega) hX (now0 := now1) ⟨hM1, fun _ _ => rfl⟩ (by omega)
      refine ⟨nI (zWt F (zB (yL U1 8) (oN F)) (oN F)), now2, mv2, sd1, ?_, ?_, TR_back h7 hM0 hT1.2⟩
      · rw [if_neg (fun z => by have : j < 1 := (n_ltL (by omega) (by decide)).mp z; omega), if_pos ((n_leL (by omega) (by decide)).mpr (show j ≤ 30 by omega))]
        refine Eq.trans a1 ?_
        show Option.bind (fl_goneWeight fGw fGr L1) _ = _
        rw [x_goneW hF hX1, b_s]
      · rw [em, m_inT (by omega) (by omega) (by decide), b_s, i10, e1, b_s]
        refine Eq.trans a2 ?_
        show Option.bind (mm_lyingAt mGrains now2 1 (nI 8)) _ = _
        rw [m_lying1 hG hT1.1 (show 8 < 16 by decide), b_s, m_weighs hG (zB_128 hG.1 _), b_s]
end O10
