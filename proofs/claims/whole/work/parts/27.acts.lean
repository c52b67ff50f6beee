/-! ===== acts: a row that the class shifts, and that the model keeps in a ring ===== -/
def RA (F : FD) (K : Nat) (sc : Nat → Int64) (as ac nx : Int32) (row : Nat → Int32) : Prop :=
  ∃ (s n : Nat) (T : Nat → Sc), s ≤ 14 ∧ n < 14 ∧ as = nI s ∧ ac = nI s ∧ nx = nI n ∧ ∀ i, i < s → RX F (sc i) (T i) ∧ RM F row (9 * ((n + 14 - s + i) % 14)) (T i) ∧ (T i).2.2 ≤ K
theorem RM_cong {F : FD} {S : Sc} {now now1 : Nat → Int32} {b b1 : Nat} (h7 : oN F ≤ 7) (hM : RM F now b S) (h : ∀ j, j < 9 → now1 (b1 + j) = now (b + j)) : RM F now1 b1 S := by
  refine ⟨hM.1, fun g hg => ?_, ?_, ?_⟩
  · rw [h g (by omega)]
    exact hM.2.1 g hg
  · rw [h 7 (by omega)]
    exact hM.2.2.1
  · rw [h 8 (by omega)]
    exact hM.2.2.2
theorem RA_mono {F : FD} {K K1 : Nat} {sc : Nat → Int64} {as ac nx : Int32} {row : Nat → Int32} (h : K ≤ K1) (hA : RA F K sc as ac nx row) : RA F K1 sc as ac nx row := by
  obtain ⟨s, n, T, h1, h2, h3, h4, h5, h6⟩ := hA
  exact ⟨s, n, T, h1, h2, h3, h4, h5, fun i hi => ⟨(h6 i hi).1, (h6 i hi).2.1, Nat.le_trans (h6 i hi).2.2 h⟩⟩
theorem m_keepAct_loop {n0 : Nat} (hn0 : n0 < 14) (now row0 : Nat → Int32) (kx : Int32 → (Nat → Int32) → Option (Int32 × Int32 × (Nat → Int32))) :
    ∀ (d k n : Nat) (row : Nat → Int32), k + d = 9 → d < n → (∀ j, row j = if 9 * n0 ≤ j ∧ j < 9 * n0 + k then now (j - 9 * n0) else row0 j) →
      ∃ row1 : Nat → Int32, mm_keepAct_L2 now (nI n0) kx n (nI k) row = kx 9 row1 ∧ (∀ j, row1 j = if 9 * n0 ≤ j ∧ j < 9 * n0 + 9 then now (j - 9 * n0) else row0 j) := by
  intro d
  induction d with
  | zero =>
    intro k n row hk hn h
    obtain ⟨n, rfl⟩ : ∃ m, n = m + 1 := ⟨n - 1, by omega⟩
    obtain rfl : k = 9 := by omega
    refine ⟨row, ?_, h⟩
    rw [mm_keepAct_L2.eq_2, if_pos (by decide)]
    rfl
  | succ d ih =>
    intro k n row hk hn h
    obtain ⟨n, rfl⟩ : ∃ m, n = m + 1 := ⟨n - 1, by omega⟩
    rw [mm_keepAct_L2.eq_2, i9, l9, if_neg (fun z => by have := (n_le (by omega) (by omega)).mp z; omega), gI_n (show k < 18 by omega) (by omega), gI_n (show 9 * n0 + k < 126 by omega) (by omega), n_cl (show 9 * n0 + k < 2147483648 by omega), n_cl (show k < 2147483648 by omega), nI_1]
    refine ih (k + 1) n _ (by omega) (by omega) (fun j => ?_)
    unfold upd
    by_cases hj : j = 9 * n0 + k
    · rw [if_pos hj, if_pos (by omega), hj, Nat.add_sub_cancel_left]
    · rw [if_neg hj, h j]
      by_cases q : 9 * n0 ≤ j ∧ j < 9 * n0 + k
      · rw [if_pos q, if_pos (by omega)]
      · rw [if_neg q, if_neg (by omega)]
theorem m_keepAct {n0 s : Nat} (hn0 : n0 < 14) (hs : s ≤ 14) (now row0 : Nat → Int32) : ∃ row1 : Nat → Int32, mm_keepAct now (nI s) (nI n0) row0 = some (nI (if s < 14 then s + 1 else 14), nI ((n0 + 1) % 14), row1) ∧ (∀ j, row1 j = if 9 * n0 ≤ j ∧ j < 9 * n0 + 9 then now (j - 9 * n0) else row0 j) := by
  unfold mm_keepAct
  obtain ⟨row1, e, q⟩ := m_keepAct_loop hn0 now row0 (fun y1_2 mRow_2 => (if 14 ≤ nI s then (some (14, ((nI n0 + 1) - (nI n0 + 1) / 14 * 14), mRow_2)) else (some ((nI s + 1), ((nI n0 + 1) - (nI n0 + 1) / 14 * 14), mRow_2)))) 9 0 1000 row0 (by omega) (by omega) (fun j => by rw [if_neg (by omega)])
  refine ⟨row1, ?_, q⟩
  refine Eq.trans e ?_
  show (if 14 ≤ nI s then (some (14, ((nI n0 + 1) - (nI n0 + 1) / 14 * 14), row1)) else (some ((nI s + 1), ((nI n0 + 1) - (nI n0 + 1) / 14 * 14), row1))) = _
  rw [nI_1, nI_1, n_remL (by omega) (by decide) (by decide)]
  by_cases h : s < 14
  · rw [if_neg (fun z => by have := (n_Lle (by omega) (by decide)).mp z; omega), if_pos h]
  · rw [if_pos ((n_Lle (by omega) (by decide)).mpr (by omega)), if_neg h]
    rfl
theorem x_forget_loop (sc0 : Nat → Int64) (kx : Int32 → (Nat → Int64) → Option ((Nat → Int64) × Int32)) :
    ∀ (d k n : Nat) (sc : Nat → Int64), 1 ≤ k → k + d = 14 → d < n → (∀ j, sc j = if j + 1 < k then sc0 (j + 1) else sc0 j) →
      ∃ sc1 : Nat → Int64, ac_forgetFirst_L2 kx n (nI k) sc = kx 14 sc1 ∧ (∀ j, sc1 j = if j + 1 < 14 then sc0 (j + 1) else sc0 j) := by
  intro d
  induction d with
  | zero =>
    intro k n sc hk1 hk hn h
    obtain ⟨n, rfl⟩ : ∃ m, n = m + 1 := ⟨n - 1, by omega⟩
    obtain rfl : k = 14 := by omega
    refine ⟨sc, ?_, h⟩
    rw [ac_forgetFirst_L2.eq_2, if_pos (by decide)]
    rfl
  | succ d ih =>
    intro k n sc hk1 hk hn h
    obtain ⟨n, rfl⟩ : ∃ m, n = m + 1 := ⟨n - 1, by omega⟩
    rw [ac_forgetFirst_L2.eq_2, l14, if_neg (fun z => by have := (n_le (by omega) (by omega)).mp z; omega), n_subL (c := 1) hk1, gI_n (show k < 14 by omega) (by omega), gI_n (show k - 1 < 14 by omega) (by omega), n_cl (show k - 1 < 2147483648 by omega), n_cl (show k < 2147483648 by omega), nI_1]
    refine ih (k + 1) n _ (by omega) (by omega) (by omega) (fun j => ?_)
    unfold vp_updL
    by_cases hj : j = k - 1
    · rw [if_pos hj, if_pos (by omega), h k, if_neg (by omega), hj, Nat.sub_add_cancel hk1]
    · rw [if_neg hj, h j]
      by_cases q : j + 1 < k
      · rw [if_pos q, if_pos (by omega)]
      · rw [if_neg q, if_neg (by omega)]
theorem x_add_lo {s : Nat} (hs : s < 14) (sc : Nat → Int64) (L : Int64) : ac_add sc (nI s) L = some (vp_updL sc s L, nI (s + 1)) := by
  unfold ac_add
  rw [if_pos ((n_ltL (by omega) (by decide)).mpr (by omega)), if_neg (n_neg (by omega)), if_neg (fun z => by have := (n_Lle (by omega) (by decide)).mp z; omega), gI_n hs (by omega), n_cl (by omega), nI_1]
theorem x_add_hi (sc : Nat → Int64) (L : Int64) : ∃ sc1 : Nat → Int64, ac_add sc (nI 14) L = some (vp_updL sc1 13 L, nI 14) ∧ (∀ j, j < 13 → sc1 j = sc (j + 1)) := by
  obtain ⟨sc1, e, q⟩ := x_forget_loop sc (fun y1_2 xScenes_2 => (some (xScenes_2, (14 - 1)))) 13 1 1000 sc (by omega) (by omega) (by omega) (fun j => by rw [if_neg (by omega)])
  refine ⟨sc1, ?_, fun j hj => by rw [q, if_pos (by omega)]⟩
  have e2 : ac_forgetFirst sc = some (sc1, nI 13) := e
  unfold ac_add
  rw [if_neg (by decide), e2, b_s]
  show (if nI 13 < 0 then some (sc1, nI 13) else if 14 ≤ nI 13 then some (sc1, nI 13) else gI (nI 13) 14 (some (vp_updL sc1 (Int32.toNatClampNeg (nI 13)) L, nI 13 + 1))) = _
  rw [if_neg (by decide), if_neg (by decide), gI_n (by omega) (by omega), n_cl (by omega), nI_1]
theorem act_add {F : FD} {K : Nat} {sc : Nat → Int64} {as ac nx : Int32} {row now : Nat → Int32} {L : Int64} {S : Sc} (h7 : oN F ≤ 7) (hA : RA F K sc as ac nx row) (hX : RX F L S) (hM : RM F now 0 S) (hk : S.2.2 ≤ K) :
    ∃ sc1 as1 ac1 nx1 row1, ac_add sc as L = some (sc1, as1) ∧ mm_keepAct now ac nx row = some (ac1, nx1, row1) ∧ RA F K sc1 as1 ac1 nx1 row1 := by
  obtain ⟨s, n, T, hs, hn, rfl, rfl, rfl, h6⟩ := hA
  obtain ⟨row1, e, q⟩ := m_keepAct hn hs now row
  have keep : ∀ (b : Nat) (U : Sc), b < 14 → b ≠ n → RM F row (9 * b) U → RM F row1 (9 * b) U := fun b U hb hbn hU => RM_cong h7 hU (fun j hj => by rw [q, if_neg (by omega)])
  have new : RM F row1 (9 * n) S := RM_cong h7 hM (fun j hj => by rw [q, if_pos (by omega), Nat.add_sub_cancel_left, Nat.zero_add])
  by_cases h14 : s < 14
  · rw [if_pos h14] at e
    refine ⟨_, _, _, _, _, x_add_lo h14 sc L, e, s + 1, (n + 1) % 14, fun i => if i = s then S else T i, by omega, by omega, rfl, rfl, rfl, fun i hi => ?_⟩
    dsimp only
    by_cases hi2 : i = s
    · rw [if_pos hi2]
      refine ⟨?_, ?_, hk⟩
      · unfold vp_updL
        rw [if_pos hi2]
        exact hX
      · rw [show ((n + 1) % 14 + 14 - (s + 1) + i) % 14 = n by omega]
        exact new
    · rw [if_neg hi2]
      obtain ⟨g1, g2, g3⟩ := h6 i (by omega)
      refine ⟨?_, ?_, g3⟩
      · unfold vp_updL
        rw [if_neg hi2]
        exact g1
      · rw [show ((n + 1) % 14 + 14 - (s + 1) + i) % 14 = (n + 14 - s + i) % 14 by omega]
        exact keep _ _ (by omega) (by omega) g2
  · obtain rfl : s = 14 := by omega
    rw [if_neg h14] at e
    obtain ⟨sc1, e1, q1⟩ := x_add_hi sc L
    refine ⟨_, _, _, _, _, e1, e, 14, (n + 1) % 14, fun i => if i = 13 then S else T (i + 1), by omega, by omega, rfl, rfl, rfl, fun i hi => ?_⟩
    dsimp only
    by_cases hi2 : i = 13
    · rw [if_pos hi2]
      refine ⟨?_, ?_, hk⟩
      · unfold vp_updL
        rw [if_pos hi2]
        exact hX
      · rw [show ((n + 1) % 14 + 14 - 14 + i) % 14 = n by omega]
        exact new
    · rw [if_neg hi2]
      obtain ⟨g1, g2, g3⟩ := h6 (i + 1) (by omega)
      refine ⟨?_, ?_, g3⟩
      · unfold vp_updL
        rw [if_neg hi2, q1 i (by omega)]
        exact g1
      · rw [show ((n + 1) % 14 + 14 - 14 + i) % 14 = (n + 14 - 14 + (i + 1)) % 14 by omega]
        exact keep _ _ (by omega) (by omega) g2
theorem zU_B (c : Nat → Bool) {n : Nat} (hn : n ≤ 7) : zU (zB c n) = zN c n := by
  unfold zU
  simp only [zB_bit]
  rcases (show n = 0 ∨ n = 1 ∨ n = 2 ∨ n = 3 ∨ n = 4 ∨ n = 5 ∨ n = 6 ∨ n = 7 by omega) with rfl | rfl | rfl | rfl | rfl | rfl | rfl | rfl <;> simp [zN]
section O2
variable {F : FD} {fPk fWn fGw fGk fOw : Nat → Int32} {fPe fHo fGr : Int32} {L : Int64} {S : Sc}
variable {mKind mWind mWeight mSort mOwner mNow : Nat → Int32} {mPeople mHours mGrains : Int32}
variable {K : Nat} {sc : Nat → Int64} {as ac nx : Int32} {row : Nat → Int32}
theorem yF_0 (F : FD) (S : Sc) (p : Nat) : yFu F S p 0 = yF F S p := rfl
theorem x_actTo {sc1 : Nat → Int64} {as1 : Int32} (L1 : Int64) (e : ac_add sc as L = some (sc1, as1)) : xx_actTo L sc as L1 = some (L1, sc1, as1) := by
  unfold xx_actTo
  rw [e, b_s]
theorem op_toss (hF : RF F fPk fWn fGw fGk fOw fPe fHo fGr) (hG : RF F mKind mWind mWeight mSort mOwner mPeople mHours mGrains) (hX : RX F L S) (hM : RM F mNow 0 S) (hA : RA F K sc as ac nx row) (hk : S.2.2 ≤ K) (hK : K < 1000) (mv : Nat → Int32) (p : Int32) :
    ∃ r L1 sc1 as1 now1 mv1 ac1 nx1 row1 S1, xx_toss L sc as fPk fWn fGw fGk fOw fPe fHo fGr p = some (r, L1, sc1, as1) ∧ mm_toss mPeople mHours mGrains mKind mWind mWeight mSort mOwner mNow mv ac nx row p = some (r, now1, mv1, ac1, nx1, row1) ∧ RX F L1 S1 ∧ RM F now1 0 S1 ∧ S1.2.2 ≤ K + 1 ∧ RA F (K + 1) sc1 as1 ac1 nx1 row1 := by
  have h4 := hF.1.1
  have h7 := hF.1.2.2.1
  have bad : (p < 0 ∨ nI (oP F) ≤ p) → xx_toss L sc as fPk fWn fGw fGk fOw fPe fHo fGr p = some (-1, L, sc, as) ∧ mm_toss mPeople mHours mGrains mKind mWind mWeight mSort mOwner mNow mv ac nx row p = some (-1, mNow, mv, ac, nx, row) := fun h => by
    refine ⟨?_, ?_⟩
    · unfold xx_toss
      rw [x_per0 hF h, b_s, if_pos rfl]
    · unfold mm_toss
      rw [m_per0 hG h, b_s, if_pos rfl]
  rcases pk_ix p (show oP F < 2 ^ 31 by omega) with h | h | ⟨j, hj, rfl⟩
  · exact ⟨_, _, _, _, _, _, _, _, _, S, (bad (Or.inl h)).1, (bad (Or.inl h)).2, hX, hM, by omega, RA_mono (by omega) hA⟩
  · exact ⟨_, _, _, _, _, _, _, _, _, S, (bad (Or.inr h)).1, (bad (Or.inr h)).2, hX, hM, by omega, RA_mono (by omega) hA⟩
  · obtain ⟨sc1, as1, ac1, nx1, row1, e1, e2, hA1⟩ := act_add h7 hA hX hM hk
    obtain ⟨L1, e3, hX1⟩ := x_tossed hF hX hj (by omega)
    obtain ⟨now1, mv1, e4, hM1, -⟩ := m_toss0 hG hM hj (by omega) mv
    refine ⟨nI (zN (yFu F S j 0) (oN F)), L1, sc1, as1, now1, mv1, ac1, nx1, row1, zTo F S j 0, ?_, ?_, hX1, hM1, Nat.succ_le_succ hk, RA_mono (by omega) hA1⟩
    · unfold xx_toss
      rw [x_perT hF hj, b_s, i10, x_flying hF hX hj, b_s, x_bits _ (zB_128 hF.1 _), b_s, e3, b_s, x_actTo L1 e1, b_s, zU_B _ h7, yF_0]
    · unfold mm_toss
      rw [m_perT hG hj, b_s, i10, e2, b_s, e4, b_s]
theorem op_calm (hF : RF F fPk fWn fGw fGk fOw fPe fHo fGr) (hG : RF F mKind mWind mWeight mSort mOwner mPeople mHours mGrains) (hX : RX F L S) (hM : RM F mNow 0 S) (hA : RA F K sc as ac nx row) (hk : S.2.2 ≤ K) (hK : K < 1000) :
    ∃ r L1 sc1 as1 now1 ac1 nx1 row1 S1, xx_calm L sc as fWn fHo = some (r, L1, sc1, as1) ∧ mm_calm mHours mWind mNow ac nx row = some (r, now1, ac1, nx1, row1) ∧ RX F L1 S1 ∧ RM F now1 0 S1 ∧ S1.2.2 ≤ K + 1 ∧ RA F (K + 1) sc1 as1 ac1 nx1 row1 := by
  have h7 := hF.1.2.2.1
  obtain ⟨sc1, as1, ac1, nx1, row1, e1, e2, hA1⟩ := act_add h7 hA hX hM hk
  obtain ⟨L1, e3, hX1⟩ := x_later hX h7 (by omega)
  have hM1 : RM F (upd mNow 8 ((mNow 8) + 1)) 0 (zLa S) := by
    refine ⟨hX1.1, fun g hg => ?_, ?_, ?_⟩
    · unfold upd
      rw [if_neg (by omega)]
      exact hM.2.1 g hg
    · exact hM.2.2.1
    · have := hM.2.2.2
      rw [Nat.zero_add] at this
      show mNow 8 + 1 = nI (S.2.2 + 1)
      rw [this, nI_1]
  refine ⟨nI (zW F (zLa S).2.2), L1, sc1, as1, upd mNow 8 ((mNow 8) + 1), ac1, nx1, row1, zLa S, ?_, ?_, hX1, hM1, Nat.succ_le_succ hk, RA_mono (by omega) hA1⟩
  rotate_left
  · unfold mm_calm
    rw [e2, b_s, m_wind0 hG hM1, b_s]
  · unfold xx_calm
    rw [e3, b_s, x_actTo L1 e1, b_s, x_wind hF hX1, b_s]
theorem op_pick (hF : RF F fPk fWn fGw fGk fOw fPe fHo fGr) (hG : RF F mKind mWind mWeight mSort mOwner mPeople mHours mGrains) (hX : RX F L S) (hM : RM F mNow 0 S) (hA : RA F K sc as ac nx row) (hk : S.2.2 ≤ K) (p : Int32) :
    ∃ r L1 sc1 as1 now1 ac1 nx1 row1 S1, xx_pick L sc as fGk fOw fGr p = some (r, L1, sc1, as1) ∧ mm_pick mGrains mSort mOwner mNow ac nx row p = some (r, now1, ac1, nx1, row1) ∧ RX F L1 S1 ∧ RM F now1 0 S1 ∧ S1.2.2 ≤ K + 1 ∧ RA F (K + 1) sc1 as1 ac1 nx1 row1 := by
  have h4 := hF.1.1
  have h7 := hF.1.2.2.1
  have bad : (p < 0 ∨ nI (oN F) ≤ p) → xx_pick L sc as fGk fOw fGr p = some (-1, L, sc, as) ∧ mm_pick mGrains mSort mOwner mNow ac nx row p = some (-1, mNow, ac, nx, row) := fun h => by
    refine ⟨?_, ?_⟩
    · unfold xx_pick
      rw [x_gra0 hF h, b_s, if_pos rfl]
    · unfold mm_pick
      rw [m_gra0 hG h, b_s, if_pos rfl]
  rcases pk_ix p (show oN F < 2 ^ 31 by omega) with h | h | ⟨g, hg, rfl⟩
  · exact ⟨_, _, _, _, _, _, _, _, S, (bad (Or.inl h)).1, (bad (Or.inl h)).2, hX, hM, by omega, RA_mono (by omega) hA⟩
  · exact ⟨_, _, _, _, _, _, _, _, S, (bad (Or.inr h)).1, (bad (Or.inr h)).2, hX, hM, by omega, RA_mono (by omega) hA⟩
  · have hS := hX.1.1 g hg
    obtain ⟨hw1, hw2, hs, ho⟩ := hF.1.2.2.2.2.2 g hg
    have c1 : fl_canPick fGk fOw fGr L (nI g) = some (if oS F g = 3 ∧ ¬ S.1 g = oO F g then 1 else 0) := by
      unfold fl_canPick
      rw [x_graT hF hg, b_s, i10, x_sort hF hg, b_s, x_isRight hF hX hg, b_s]
      by_cases h3 : oS F g = 3
      · rw [if_pos ((n_eqL (by omega) (by decide)).mpr h3)]
        by_cases h1 : S.1 g = oO F g
        · rw [if_pos h1, i10, if_neg (fun z => z.2 h1)]
        · rw [if_neg h1, i00, if_pos ⟨h3, h1⟩]
      · rw [if_neg (fun z => h3 ((n_eqL (by omega) (by decide)).mp z)), if_neg (fun z => h3 z.1)]
    have c2 : mm_canPick mGrains mSort mOwner mNow 0 (nI g) = some (if oS F g = 3 ∧ ¬ S.1 g = oO F g then 1 else 0) := by
      unfold mm_canPick
      have e0 : (9 : Int32) * 0 + nI g = nI g := by
        have := i9 0 g
        rw [Nat.mul_zero, Nat.zero_add] at this
        exact this
      rw [e0, m_graT hG hg, b_s, i10]
      simp only [gI_n (show g < 7 by omega) (show (7 : Nat) < 2147483648 by omega), gI_n (show g < 18 by omega) (show (18 : Nat) < 2147483648 by omega), n_cl (show g < 2147483648 by omega), m_at hM hg, hG.2.2.2.2.2.2.2.1 g hg, hG.2.2.2.2.2.2.2.2 g hg]
      by_cases h3 : oS F g = 3
      · rw [if_pos ((n_eqL (by omega) (by decide)).mpr h3)]
        by_cases h1 : S.1 g = oO F g
        · rw [if_pos ((n_eq (by omega) (by omega)).mpr h1), if_neg (fun z => z.2 h1)]
        · rw [if_neg (fun z => h1 ((n_eq (by omega) (by omega)).mp z)), if_pos ⟨h3, h1⟩]
      · rw [if_neg (fun z => h3 ((n_eqL (by omega) (by decide)).mp z)), if_neg (fun z => h3 z.1)]
    by_cases hc : oS F g = 3 ∧ ¬ S.1 g = oO F g
    · rw [if_pos hc] at c1 c2
      obtain ⟨sc1, as1, ac1, nx1, row1, e1, e2, hA1⟩ := act_add h7 hA hX hM hk
      obtain ⟨L1, e3, hX1⟩ := x_picked hF hX hg
      have hM1 : RM F (upd mNow g (nI (oO F g))) 0 (zPi F S g) := by
        refine ⟨hX1.1, fun j hj => ?_, ?_, ?_⟩
        · show upd mNow g (nI (oO F g)) (0 + j) = nI (if j = g then oO F g else S.1 j)
          rw [Nat.zero_add]
          unfold upd
          by_cases hjg : j = g
          · rw [if_pos hjg, if_pos hjg]
          · rw [if_neg hjg, if_neg hjg, m_at hM hj]
        · unfold upd
          rw [if_neg (by omega)]
          exact hM.2.2.1
        · unfold upd
          rw [if_neg (by omega)]
          exact hM.2.2.2
      refine ⟨nI (S.1 g), L1, sc1, as1, _, ac1, nx1, row1, zPi F S g, ?_, ?_, hX1, hM1, Nat.le_succ_of_le hk, RA_mono (by omega) hA1⟩
      · unfold xx_pick
        rw [x_graT hF hg, b_s, i10, c1, b_s, i10, x_place h7 hX hg, b_s, e3, b_s, x_actTo L1 e1, b_s]
      · unfold mm_pick
        rw [m_graT hG hg, b_s, i10, c2, b_s, i10, e2, b_s]
        simp only [gI_n (show g < 7 by omega) (show (7 : Nat) < 2147483648 by omega), gI_n (show g < 18 by omega) (show (18 : Nat) < 2147483648 by omega), n_cl (show g < 2147483648 by omega), m_at hM hg, hG.2.2.2.2.2.2.2.2 g hg]
    · rw [if_neg hc] at c1 c2
      refine ⟨-3, L, sc, as, mNow, ac, nx, row, S, ?_, ?_, hX, hM, by omega, RA_mono (by omega) hA⟩
      · unfold xx_pick
        rw [x_graT hF hg, b_s, i10, c1, b_s, i00]
      · unfold mm_pick
        rw [m_graT hG hg, b_s, i10, c2, b_s, i00]
theorem op_fan (hF : RF F fPk fWn fGw fGk fOw fPe fHo fGr) (hG : RF F mKind mWind mWeight mSort mOwner mPeople mHours mGrains) (hX : RX F L S) (hM : RM F mNow 0 S) (hA : RA F K sc as ac nx row) (hk : S.2.2 ≤ K) (p : Int32) :
    ∃ r L1 sc1 as1 now1 ac1 nx1 row1 S1, xx_fan L sc as fPe p = some (r, L1, sc1, as1) ∧ mm_fan mPeople mNow ac nx row p = some (r, now1, ac1, nx1, row1) ∧ RX F L1 S1 ∧ RM F now1 0 S1 ∧ S1.2.2 ≤ K + 1 ∧ RA F (K + 1) sc1 as1 ac1 nx1 row1 := by
  have h4 := hF.1.1
  have h7 := hF.1.2.2.1
  have bad : (p < 0 ∨ nI (oP F) ≤ p) → xx_fan L sc as fPe p = some (-1, L, sc, as) ∧ mm_fan mPeople mNow ac nx row p = some (-1, mNow, ac, nx, row) := fun h => by
    refine ⟨?_, ?_⟩
    · unfold xx_fan
      rw [x_per0 hF h, b_s, if_pos rfl]
    · unfold mm_fan
      rw [m_per0 hG h, b_s, if_pos rfl]
  rcases pk_ix p (show oP F < 2 ^ 31 by omega) with h | h | ⟨g, hg, rfl⟩
  · exact ⟨_, _, _, _, _, _, _, _, S, (bad (Or.inl h)).1, (bad (Or.inl h)).2, hX, hM, by omega, RA_mono (by omega) hA⟩
  · exact ⟨_, _, _, _, _, _, _, _, S, (bad (Or.inr h)).1, (bad (Or.inr h)).2, hX, hM, by omega, RA_mono (by omega) hA⟩
  · have h77 : mNow 7 = hI S.2.1 := hM.2.2.1
    by_cases hc : S.2.1 = g
    · have hcc := (hI_eq hX.1 h4 (show g < 15 by omega)).mpr hc
      refine ⟨-3, L, sc, as, mNow, ac, nx, row, S, ?_, ?_, hX, hM, by omega, RA_mono (by omega) hA⟩
      · unfold xx_fan
        rw [x_perT hF hg, b_s, i10, x_holder hX, b_s, if_pos hcc]
      · unfold mm_fan
        rw [m_perT hG hg, b_s, i10, h77, if_pos hcc]
    · have hcc : ¬ hI S.2.1 = nI g := fun z => hc ((hI_eq hX.1 h4 (show g < 15 by omega)).mp z)
      obtain ⟨sc1, as1, ac1, nx1, row1, e1, e2, hA1⟩ := act_add h7 hA hX hM hk
      obtain ⟨L1, e3, hX1⟩ := x_withH hX h7 h4 hg
      have hM1 : RM F (upd mNow 7 (nI g)) 0 (zHd S g) := by
        refine ⟨hX1.1, fun j hj => ?_, ?_, ?_⟩
        · unfold upd
          rw [if_neg (by omega)]
          exact hM.2.1 j hj
        · show nI g = hI g
          unfold hI
          rw [if_neg (by omega)]
        · exact hM.2.2.2
      refine ⟨hI S.2.1, L1, sc1, as1, _, ac1, nx1, row1, zHd S g, ?_, ?_, hX1, hM1, Nat.le_succ_of_le hk, RA_mono (by omega) hA1⟩
      · unfold xx_fan
        rw [x_perT hF hg, b_s, i10, x_holder hX, b_s, if_neg hcc, e3, b_s, x_actTo L1 e1, b_s]
      · unfold mm_fan
        rw [m_perT hG hg, b_s, i10, h77, if_neg hcc, e2, b_s]
theorem m_undo_loop {n0 : Nat} (hn0 : n0 < 14) (row now0 : Nat → Int32) (kx : Int32 → (Nat → Int32) → Option (Int32 × (Nat → Int32) × Int32 × Int32)) :
    ∀ (d k n : Nat) (now : Nat → Int32), k + d = 9 → d < n → (∀ j, now j = if j < k then row (9 * n0 + j) else now0 j) →
      ∃ now1 : Nat → Int32, mm_undo_L36 (nI n0) row kx n (nI k) now = kx 9 now1 ∧ (∀ j, now1 j = if j < 9 then row (9 * n0 + j) else now0 j) := by
  intro d
  induction d with
  | zero =>
    intro k n now hk hn h
    obtain ⟨n, rfl⟩ : ∃ m, n = m + 1 := ⟨n - 1, by omega⟩
    obtain rfl : k = 9 := by omega
    refine ⟨now, ?_, h⟩
    rw [mm_undo_L36.eq_2, if_pos (by decide)]
    rfl
  | succ d ih =>
    intro k n now hk hn h
    obtain ⟨n, rfl⟩ : ∃ m, n = m + 1 := ⟨n - 1, by omega⟩
    rw [mm_undo_L36.eq_2, i9, l9, if_neg (fun z => by have := (n_le (by omega) (by omega)).mp z; omega), gI_n (show 9 * n0 + k < 126 by omega) (by omega), gI_n (show k < 18 by omega) (by omega), n_cl (show 9 * n0 + k < 2147483648 by omega), n_cl (show k < 2147483648 by omega), nI_1]
    refine ih (k + 1) n _ (by omega) (by omega) (fun j => ?_)
    unfold upd
    by_cases hj : j = k
    · rw [if_pos hj, if_pos (by omega), hj]
    · rw [if_neg hj, h j]
      by_cases q : j < k
      · rw [if_pos q, if_pos (by omega)]
      · rw [if_neg q, if_neg (by omega)]
theorem op_undo (hF : RF F fPk fWn fGw fGk fOw fPe fHo fGr) (hX : RX F L S) (hM : RM F mNow 0 S) (hA : RA F K sc as ac nx row) (hk : S.2.2 ≤ K) :
    ∃ r L1 as1 now1 ac1 nx1 S1, xx_undo L sc as = some (r, L1, as1) ∧ mm_undo mNow ac nx row = some (r, now1, ac1, nx1) ∧ RX F L1 S1 ∧ RM F now1 0 S1 ∧ S1.2.2 ≤ K ∧ RA F K sc as1 ac1 nx1 row := by
  have h7 := hF.1.2.2.1
  obtain ⟨s, n, T, hs, hn, rfl, rfl, rfl, h6⟩ := id hA
  by_cases h0 : s = 0
  · subst h0
    refine ⟨-3, L, nI 0, mNow, nI 0, nI n, S, ?_, ?_, hX, hM, hk, hA⟩
    · unfold xx_undo
      rw [if_neg (by decide)]
    · unfold mm_undo
      rw [if_pos (show nI 0 = 0 from rfl)]
  · obtain ⟨g1, g2, g3⟩ := h6 (s - 1) (by omega)
    have en : (nI n + 13) - (nI n + 13) / 14 * 14 = nI ((n + 13) % 14) := by
      rw [l13, nI_add, n_remL (by omega) (by decide) (by decide)]
    have es : nI s - 1 = nI (s - 1) := n_subL (c := 1) (show 1 ≤ s by omega)
    obtain ⟨now1, e, q⟩ := m_undo_loop (n0 := (n + 13) % 14) (by omega) row mNow (fun y1_36 mNow_36 => (some (nI (s - 1), mNow_36, nI (s - 1), nI ((n + 13) % 14)))) 9 0 1000 mNow (by omega) (by omega) (fun j => by rw [if_neg (by omega)])
    refine ⟨nI (s - 1), sc (s - 1), nI (s - 1), now1, nI (s - 1), nI ((n + 13) % 14), T (s - 1), ?_, ?_, g1, ?_, g3, s - 1, (n + 13) % 14, T, by omega, by omega, rfl, rfl, rfl, fun i hi => ?_⟩
    · unfold xx_undo ac_takeLast
      rw [if_pos ((n_Llt (by omega) (by decide)).mpr (by omega)), if_neg (fun z => by have := (n_leL (show s < 2147483648 by omega) (by decide)).mp z; omega), if_pos ((n_leL (by omega) (by decide)).mpr (by omega)), es, gI_n (show s - 1 < 14 by omega) (by omega), n_cl (by omega), b_s]
    · unfold mm_undo
      rw [if_neg (fun z => by have := (n_eqL (show s < 2147483648 by omega) (by decide)).mp z; omega), en, es]
      exact e
    · refine RM_cong h7 g2 (fun j hj => ?_)
      rw [Nat.zero_add, q, if_pos hj, show (n + 14 - s + (s - 1)) % 14 = (n + 13) % 14 by omega]
    · obtain ⟨k1, k2, k3⟩ := h6 i (by omega)
      refine ⟨k1, ?_, k3⟩
      rw [show ((n + 13) % 14 + 14 - (s - 1) + i) % 14 = (n + 14 - s + i) % 14 by omega]
      exact k2
end O2
