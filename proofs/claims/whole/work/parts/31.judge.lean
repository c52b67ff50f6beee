/-! ===== judge ===== -/
theorem x_pair_loop (kx : Int32 → Int32 → Option Int32) {e row : Nat} (he : e < 100) (hr : row < 2147483648) : ∀ (d k n : Nat), k + d = e → d < n → dg_pairAt_L4 (nI e) kx n (nI k) (nI (row / 100 ^ k)) = kx (nI e) (nI (row / 100 ^ e)) := by
  intro d
  induction d with
  | zero =>
    intro k n hk hn
    obtain ⟨n, rfl⟩ : ∃ m, n = m + 1 := ⟨n - 1, by omega⟩
    obtain rfl : k = e := by omega
    rw [dg_pairAt_L4.eq_2, if_pos ((n_le (by omega) (by omega)).mpr (by omega))]
  | succ d ih =>
    intro k n hk hn
    obtain ⟨n, rfl⟩ : ∃ m, n = m + 1 := ⟨n - 1, by omega⟩
    have hlt : row / 100 ^ k < 2147483648 := Nat.lt_of_le_of_lt (Nat.div_le_self _ _) hr
    rw [dg_pairAt_L4.eq_2, if_neg (fun z => by have := (n_le (by omega) (by omega)).mp z; omega), nI_1, n_divL hlt (by decide) (by decide), Nat.div_div_eq_div_mul, ← Nat.pow_succ]
    exact ih (k + 1) n (by omega) (by omega)
theorem x_pair {e row : Nat} (he : e < 100) (hr : row < 2147483648) : dg_pairAt (nI row) (nI e) = some (nI (row / 100 ^ e % 100)) := by
  unfold dg_pairAt
  have h := x_pair_loop (fun y3_4 y2_4 => (some (y2_4 - y2_4 / 100 * 100))) he hr e 0 1000 (by omega) (by omega)
  rw [Nat.pow_zero, Nat.div_one] at h
  refine Eq.trans h ?_
  show some (nI (row / 100 ^ e) - nI (row / 100 ^ e) / 100 * 100) = _
  rw [n_remL (Nat.lt_of_le_of_lt (Nat.div_le_self _ _) hr) (by decide) (by decide)]
theorem x_span : ∀ n, n < 5 → dg_rowSpan (nI n) = some (nI (100 ^ n)) := by decide +kernel
section O6
variable {F : FD} {fPk fWn fGw fGk fOw : Nat → Int32} {fPe fHo fGr : Int32} {L : Int64} {S U : Sc}
variable {mKind mWind mWeight mSort mOwner mNow now0 now : Nat → Int32} {mPeople mHours mGrains : Int32}
theorem zBeh_ck (F : FD) (U : Sc) (h w : Nat) : (zBeh F U h w).2.2 ≤ U.2.2 + 1 := by
  unfold zBeh
  split
  · rw [zTu_ck]
    exact Nat.le_refl _
  · split
    · exact Nat.le_succ _
    · split
      · exact Nat.le_succ _
      · exact Nat.le_succ _
theorem op_judge_loop (hF : RF F fPk fWn fGw fGk fOw fPe fHo fGr) (hG : RF F mKind mWind mWeight mSort mOwner mPeople mHours mGrains) {n0 row : Nat} (hn0 : n0 ≤ 4) (hr : row < 2147483648) :
    ∀ (d k n : Nat) (L : Int64) (now mv : Nat → Int32) (U : Sc), k + d = n0 → d < n → RX F L U → TR F now0 now U → U.2.2 + d < 5000 →
      ∃ r now1 mv1, dg_firstWrong_L6 fPk fWn fGw fGk fOw fPe fHo fGr (nI n0) (nI row) (fun _ _ => some (-9)) n (nI k) L = some r ∧ mm_judge_L39 mPeople mHours mGrains mKind mWind mWeight mSort mOwner (nI n0) (nI row) (fun _ a b => some (-9, a, b)) n (nI k) now mv = some (r, now1, mv1) ∧ (∀ j, j < 9 → now1 j = now0 j) := by
  intro d
  induction d with
  | zero =>
    intro k n L now mv U hk hn hX hT hck
    obtain ⟨n, rfl⟩ : ∃ m, n = m + 1 := ⟨n - 1, by omega⟩
    have c : nI n0 ≤ nI k := (n_le (by omega) (by omega)).mpr (by omega)
    refine ⟨-9, now, mv, ?_, ?_, hT.2⟩
    · rw [dg_firstWrong_L6.eq_2, if_pos c]
    · rw [mm_judge_L39.eq_2, if_pos c]
  | succ d ih =>
    intro k n L now mv U hk hn hX hT hck
    obtain ⟨n, rfl⟩ : ∃ m, n = m + 1 := ⟨n - 1, by omega⟩
    have c : ¬ nI n0 ≤ nI k := fun z => by have := (n_le (by omega) (by omega)).mp z; omega
    have es : (nI n0 - 1) - nI k = nI (n0 - 1 - k) := by
      have e1 : nI n0 - 1 = nI (n0 - 1) := n_subL (c := 1) (show 1 ≤ n0 by omega)
      rw [e1, pk_sub (by omega)]
    have hp4 : (100 : Nat) ^ (n0 - 1 - k) ≤ 100 ^ 4 := Nat.pow_le_pow_right (by decide) (by omega)
    have hp0 : 0 < (100 : Nat) ^ (n0 - 1 - k) := Nat.pow_pos (by decide)
    have hp4' : (100 : Nat) ^ 4 = 100000000 := rfl
    have epw : mm_power 100 (nI (n0 - 1 - k)) = some (nI (100 ^ (n0 - 1 - k))) := m_power 100 (n0 - 1 - k) (by omega)
    have hlt : row / 100 ^ (n0 - 1 - k) < 2147483648 := Nat.lt_of_le_of_lt (Nat.div_le_self _ _) hr
    obtain ⟨e, he⟩ : ∃ e, e = row / 100 ^ (n0 - 1 - k) % 100 := ⟨_, rfl⟩
    have he2 : e < 100 := by rw [he]; exact Nat.mod_lt _ (by decide)
    have ediv : nI row / nI (100 ^ (n0 - 1 - k)) = nI (row / 100 ^ (n0 - 1 - k)) := n_div hr hp0 (by omega)
    have erem : nI (row / 100 ^ (n0 - 1 - k)) - nI (row / 100 ^ (n0 - 1 - k)) / 100 * 100 = nI e := by rw [n_remL hlt (by decide) (by decide), he]
    have e1 : nI e / 10 = nI (e / 10) := n_divL (by omega) (by decide) (by decide)
    have e2 : nI e - nI (e / 10) * 10 = nI (e % 10) := by
      rw [← e1]
      exact n_remL (by omega) (by decide) (by decide)
    have hcan := x_canBe hF hX (h := e / 10) (w := e % 10) (by omega) (by omega)
    obtain ⟨now1, mv1, em, hT1⟩ := m_try hG hT (h := e / 10) (w := e % 10) (by omega) (by omega) (by omega) mv
    rw [dg_firstWrong_L6.eq_2, mm_judge_L39.eq_2, if_neg c, if_neg c, es, x_pair (by omega) hr, b_s, epw, b_s, gD_n hp0 (by omega), ediv, erem, ← he, e1, e2, hcan, b_s, em, b_s]
    by_cases hc : zCan F U (e / 10) (e % 10) = true
    · obtain ⟨L1, eb, hX1⟩ := x_behind hF hX (h := e / 10) (w := e % 10) (by omega) hc (by omega)
      rw [if_pos hc] at hT1 ⊢
      have hck1 := zBeh_ck F U (e / 10) (e % 10)
      obtain ⟨r, now2, mv2, a, b, q⟩ := ih (k + 1) n L1 now1 mv1 _ (by omega) (by omega) hX1 hT1 (by omega)
      refine ⟨r, now2, mv2, ?_, ?_, q⟩
      · rw [i10, eb, b_s, nI_1]
        exact a
      · show (if (1 : Int32) = 0 then _ else _) = _
        rw [i10, nI_1]
        exact b
    · rw [if_neg hc] at hT1 ⊢
      exact ⟨nI k, now1, mv1, by rw [i00], by show (if (0 : Int32) = 0 then _ else _) = _; rw [i00], hT1.2⟩
theorem op_judge (hF : RF F fPk fWn fGw fGk fOw fPe fHo fGr) (hG : RF F mKind mWind mWeight mSort mOwner mPeople mHours mGrains) (hX : RX F L S) (hM : RM F mNow 0 S) (hk : S.2.2 < 1000) (mv : Nat → Int32) (p q : Int32) :
    ∃ r now1 mv1, xx_judge L fPk fWn fGw fGk fOw fPe fHo fGr p q = some r ∧ mm_judge mPeople mHours mGrains mKind mWind mWeight mSort mOwner mNow mv p q = some (r, now1, mv1) ∧ RM F now1 0 S := by
  have h7 := hF.1.2.2.1
  have e1 : (1 : Int64) = Int32.toInt64 1 := by decide
  have e4 : (4 : Int64) = Int32.toInt64 4 := by decide
  have e0 : (0 : Int64) = Int32.toInt64 0 := by decide
  have t0 : (0 : Int32).toInt = 0 := by decide
  have t1 : (1 : Int32).toInt = 1 := by decide
  have t4 : (4 : Int32).toInt = 4 := by decide
  by_cases hp : 1 ≤ p ∧ p ≤ 4
  · obtain ⟨n, hn, rfl⟩ : ∃ n : Nat, n < 5 ∧ p = nI n := by
      rcases pk_ix p (show 5 < 2 ^ 31 by omega) with h | h | h
      · have a1 := (fa_lt _ _).mp h; have a2 := (fa_le _ _).mp hp.1; omega
      · have a1 := (fa_le _ _).mp h; have a2 := (fa_le _ _).mp hp.2; have a3 : (nI 5).toInt = 5 := by decide
        omega
      · exact h
    have hn1 : 1 ≤ n := by
      have := hp.1
      exact (n_Lle (c := 1) (show n < 2147483648 by omega) (by decide)).mp this
    have hp4 : (100 : Nat) ^ n ≤ 100 ^ 4 := Nat.pow_le_pow_right (by decide) (by omega)
    have hp0 : 0 < (100 : Nat) ^ n := Nat.pow_pos (by decide)
    have hp4' : (100 : Nat) ^ 4 = 100000000 := rfl
    have epw : mm_power 100 (nI n) = some (nI (100 ^ n)) := m_power 100 n (by omega)
    have c1 : ¬ nI n < 1 := fun z => by have := (n_ltL (show n < 2147483648 by omega) (by decide)).mp z; omega
    have c2 : ¬ 4 < nI n := fun z => by have := (n_Llt (show n < 2147483648 by omega) (by decide)).mp z; omega
    have ts : (nI (100 ^ n) - 1).toInt = (100 ^ n : Nat) - 1 := n_subT (by omega)
    have tp : (nI (100 ^ n)).toInt = (100 ^ n : Nat) := nI_toInt (by omega)
    unfold xx_judge mm_judge
    rw [if_neg c1, if_neg c2, x_span n hn, b_s, e1, e4, m_in, if_pos hp, b_s, i10, epw, b_s, e0, m_in, b_s]
    by_cases hq : 0 ≤ q ∧ q ≤ nI (100 ^ n) - 1
    · obtain ⟨row, hrow, rfl⟩ : ∃ n1 : Nat, n1 < 100 ^ n ∧ q = nI n1 := by
        rcases pk_ix q (show 100 ^ n < 2 ^ 31 by omega) with h | h | h
        · have a1 := (fa_lt _ _).mp h; have a2 := (fa_le _ _).mp hq.1; omega
        · have a1 := (fa_le _ _).mp h; have a2 := (fa_le _ _).mp hq.2; omega
        · exact h
      rw [if_pos hq, i10, if_neg (n_neg (by omega)), if_pos ((n_lt (by omega) (by omega)).mpr hrow)]
      obtain ⟨now1, e, hM1, hM0, hj⟩ := m_lay mNow F S hM h7
      obtain ⟨r, now2, mv2, a, b, c⟩ := op_judge_loop (now0 := now1) hF hG (n0 := n) (row := row) (by omega) (by omega) n 0 1000 L now1 mv S (by omega) (by omega) hX ⟨hM1, fun _ _ => rfl⟩ (by omega)
      refine ⟨r, now2, mv2, ?_, ?_, RM_cong h7 hM0 (fun j hj => by rw [Nat.zero_add, c j hj])⟩
      · have a : dg_firstWrong fPk fWn fGw fGk fOw fPe fHo fGr L (nI n) (nI row) = some r := a
        rw [a, b_s]
      · rw [e, b_s]
        exact b
    · refine ⟨-2, mNow, mv, ?_, ?_, hM⟩
      · by_cases hq0 : q < 0
        · rw [if_pos hq0]
        · rw [if_neg hq0, if_neg (fun z => hq ⟨by rw [fa_lt] at hq0; rw [fa_le]; omega, by rw [fa_lt] at z; rw [fa_le]; omega⟩)]
      · rw [if_neg hq, i00]
  · refine ⟨-2, mNow, mv, ?_, ?_, hM⟩
    · unfold xx_judge
      by_cases c1 : p < 1
      · rw [if_pos c1]
      · rw [if_neg c1, if_pos]
        rw [fa_lt] at c1 ⊢
        rw [fa_le, fa_le] at hp
        omega
    · unfold mm_judge
      rw [e1, e4, m_in, if_neg hp, b_s, i00]
end O6
