/-! ===== questions on the first level ===== -/
theorem i10 {α : Type} {a b : α} : (if (1 : Int32) = 0 then a else b) = b := if_neg (by decide)
theorem i00 {α : Type} {a b : α} : (if (0 : Int32) = 0 then a else b) = a := if_pos rfl
section O1
variable {F : FD} {fPk fWn fGw fGk fOw : Nat → Int32} {fPe fHo fGr : Int32} {L : Int64} {S : Sc}
variable {mKind mWind mWeight mSort mOwner mNow : Nat → Int32} {mPeople mHours mGrains : Int32} {v : Nat}
theorem x_perT (hF : RF F fPk fWn fGw fGk fOw fPe fHo fGr) {j : Nat} (hj : j < oP F) : fl_isPerson fPe (nI j) = some 1 := by
  have h4 := hF.1.1
  rw [hF.2.1, x_isP (by omega) (by omega), if_pos hj]
theorem x_perF (hF : RF F fPk fWn fGw fGk fOw fPe fHo fGr) {j : Nat} (hj : oP F ≤ j) (hj2 : j < 2147483648) : fl_isPerson fPe (nI j) = some 0 := by
  have h4 := hF.1.1
  rw [hF.2.1, x_isP (by omega) (by omega), if_neg (by omega)]
theorem x_per0 (hF : RF F fPk fWn fGw fGk fOw fPe fHo fGr) {x : Int32} (h : x < 0 ∨ nI (oP F) ≤ x) : fl_isPerson fPe x = some 0 := by rw [hF.2.1, x_isP0 h]
theorem x_graT (hF : RF F fPk fWn fGw fGk fOw fPe fHo fGr) {j : Nat} (hj : j < oN F) : fl_isGrain fGr (nI j) = some 1 := by
  have h4 := hF.1.2.2.1
  rw [hF.2.2.2.1, x_isG (by omega) (by omega), if_pos hj]
theorem x_graF (hF : RF F fPk fWn fGw fGk fOw fPe fHo fGr) {j : Nat} (hj : oN F ≤ j) (hj2 : j < 2147483648) : fl_isGrain fGr (nI j) = some 0 := by
  have h4 := hF.1.2.2.1
  rw [hF.2.2.2.1, x_isG (by omega) (by omega), if_neg (by omega)]
theorem x_gra0 (hF : RF F fPk fWn fGw fGk fOw fPe fHo fGr) {x : Int32} (h : x < 0 ∨ nI (oN F) ≤ x) : fl_isGrain fGr x = some 0 := by rw [hF.2.2.2.1, x_isG0 h]
theorem m_perT (hF : RF F mKind mWind mWeight mSort mOwner mPeople mHours mGrains) {j : Nat} (hj : j < oP F) : mm_isPerson mPeople (nI j) = some 1 := by
  have h4 := hF.1.1
  rw [hF.2.1, m_isP (by omega) (by omega), if_pos hj]
theorem m_perF (hF : RF F mKind mWind mWeight mSort mOwner mPeople mHours mGrains) {j : Nat} (hj : oP F ≤ j) (hj2 : j < 2147483648) : mm_isPerson mPeople (nI j) = some 0 := by
  have h4 := hF.1.1
  rw [hF.2.1, m_isP (by omega) (by omega), if_neg (by omega)]
theorem m_per0 (hF : RF F mKind mWind mWeight mSort mOwner mPeople mHours mGrains) {x : Int32} (h : x < 0 ∨ nI (oP F) ≤ x) : mm_isPerson mPeople x = some 0 := by
  have h4 := hF.1.1
  rw [hF.2.1, m_isP0 (by omega) h]
theorem m_graT (hF : RF F mKind mWind mWeight mSort mOwner mPeople mHours mGrains) {j : Nat} (hj : j < oN F) : mm_isGrain mGrains (nI j) = some 1 := by
  have h4 := hF.1.2.2.1
  rw [hF.2.2.2.1, m_isG (by omega) (by omega), if_pos hj]
theorem m_graF (hF : RF F mKind mWind mWeight mSort mOwner mPeople mHours mGrains) {j : Nat} (hj : oN F ≤ j) (hj2 : j < 2147483648) : mm_isGrain mGrains (nI j) = some 0 := by
  have h4 := hF.1.2.2.1
  rw [hF.2.2.2.1, m_isG (by omega) (by omega), if_neg (by omega)]
theorem m_gra0 (hF : RF F mKind mWind mWeight mSort mOwner mPeople mHours mGrains) {x : Int32} (h : x < 0 ∨ nI (oN F) ≤ x) : mm_isGrain mGrains x = some 0 := by
  have h4 := hF.1.2.2.1
  rw [hF.2.2.2.1, m_isG0 (by omega) h]
/-- the levels by their literals -/
theorem m_wind0 (hF : RF F mKind mWind mWeight mSort mOwner mPeople mHours mGrains) (hM : RM F mNow 0 S) : mm_windOn mHours mWind mNow 0 = some (nI (zW F S.2.2)) := m_wind (v := 0) hF (by decide) hM
theorem m_lift0 (hF : RF F mKind mWind mWeight mSort mOwner mPeople mHours mGrains) (hM : RM F mNow 0 S) {p : Nat} (hp : p < oP F) : mm_liftAt mHours mKind mWind mNow 0 (nI p) 0 = some (nI (zL F S p)) := m_lift (v := 0) (u := 0) hF (by decide) hM hp
theorem m_lift1 (hF : RF F mKind mWind mWeight mSort mOwner mPeople mHours mGrains) (hM : RM F mNow 9 S) {p : Nat} (hp : p < oP F) : mm_liftAt mHours mKind mWind mNow 1 (nI p) 0 = some (nI (zL F S p)) := m_lift (v := 1) (u := 0) hF (by decide) hM hp
theorem m_lies0 (hF : RF F mKind mWind mWeight mSort mOwner mPeople mHours mGrains) (hM : RM F mNow 0 S) {g : Nat} (hg : g < oN F) : mm_lies mPeople mNow 0 (nI g) = some (if S.1 g < oP F then 1 else 0) := m_lies (v := 0) hF (by decide) hM hg
theorem m_lies1 (hF : RF F mKind mWind mWeight mSort mOwner mPeople mHours mGrains) (hM : RM F mNow 9 S) {g : Nat} (hg : g < oN F) : mm_lies mPeople mNow 1 (nI g) = some (if S.1 g < oP F then 1 else 0) := m_lies (v := 1) hF (by decide) hM hg
theorem m_flies1 (hF : RF F mKind mWind mWeight mSort mOwner mPeople mHours mGrains) (hM : RM F mNow 9 S) {g l : Nat} (hg : g < oN F) (hl : l < 1000) : mm_flies mKind mWeight mSort mOwner mNow 1 (nI g) (nI l) = some (nI (zY F g (S.1 g) l)) := m_flies (v := 1) hF (by decide) hM hg hl
theorem m_goes0 (hF : RF F mKind mWind mWeight mSort mOwner mPeople mHours mGrains) (hM : RM F mNow 0 S) {g : Nat} (hg : g < oN F) (hp : S.1 g < oP F) : mm_goesTo mPeople mHours mKind mWind mWeight mSort mOwner mNow 0 (nI g) 0 = some (nI (zG F g (S.1 g) (zL F S (S.1 g)))) := m_goes (v := 0) (u := 0) hF (by decide) hM hg hp (by decide)
theorem m_toss0 (hF : RF F mKind mWind mWeight mSort mOwner mPeople mHours mGrains) (hM : RM F mNow 0 S) {p : Nat} (hp : p < oP F) (hk : S.2.2 + 1 < 1048576) (mv : Nat → Int32) :
    ∃ now1 mv1 : Nat → Int32, mm_tossBy mPeople mHours mGrains mKind mWind mWeight mSort mOwner mNow mv 0 (nI p) 0 = some (nI (zN (yFu F S p 0) (oN F)), now1, mv1) ∧ RM F now1 0 (zTo F S p 0) ∧ (∀ j, (j < 0 ∨ 9 ≤ j) → now1 j = mNow j) := m_toss (v := 0) (u := 0) hF (by decide) hM hp (by decide) hk mv
theorem m_toss1 (hF : RF F mKind mWind mWeight mSort mOwner mPeople mHours mGrains) (hM : RM F mNow 9 S) {p : Nat} (hp : p < oP F) (hk : S.2.2 + 1 < 1048576) (mv : Nat → Int32) :
    ∃ now1 mv1 : Nat → Int32, mm_tossBy mPeople mHours mGrains mKind mWind mWeight mSort mOwner mNow mv 1 (nI p) 0 = some (nI (zN (yFu F S p 0) (oN F)), now1, mv1) ∧ RM F now1 9 (zTo F S p 0) ∧ (∀ j, (j < 9 ∨ 18 ≤ j) → now1 j = mNow j) := m_toss (v := 1) (u := 0) hF (by decide) hM hp (by decide) hk mv
theorem m_lying0 (hF : RF F mKind mWind mWeight mSort mOwner mPeople mHours mGrains) (hM : RM F mNow 0 S) {p : Nat} (hp : p < 16) : mm_lyingAt mGrains mNow 0 (nI p) = some (nI (zB (yL S p) (oN F))) := m_lying (v := 0) hF (by decide) hM hp
theorem m_lying1 (hF : RF F mKind mWind mWeight mSort mOwner mPeople mHours mGrains) (hM : RM F mNow 9 S) {p : Nat} (hp : p < 16) : mm_lyingAt mGrains mNow 1 (nI p) = some (nI (zB (yL S p) (oN F))) := m_lying (v := 1) hF (by decide) hM hp
theorem m_right0 (hF : RF F mKind mWind mWeight mSort mOwner mPeople mHours mGrains) (hM : RM F mNow 0 S) : mm_rightOn mGrains mOwner mNow 0 = some (nI (zB (yR F S) (oN F))) := m_right (v := 0) hF (by decide) hM
theorem m_right1 (hF : RF F mKind mWind mWeight mSort mOwner mPeople mHours mGrains) (hM : RM F mNow 9 S) : mm_rightOn mGrains mOwner mNow 1 = some (nI (zB (yR F S) (oN F))) := m_right (v := 1) hF (by decide) hM
theorem m_clean0 (hF : RF F mKind mWind mWeight mSort mOwner mPeople mHours mGrains) (hM : RM F mNow 0 S) {p : Nat} (hp : p < 16) : mm_isClean mGrains mOwner mNow 0 (nI p) = some (zCl (zB (yL S p) (oN F)) (zB (yR F S) (oN F))) := m_clean (v := 0) hF (by decide) hM hp
theorem m_clean1 (hF : RF F mKind mWind mWeight mSort mOwner mPeople mHours mGrains) (hM : RM F mNow 9 S) {p : Nat} (hp : p < 16) : mm_isClean mGrains mOwner mNow 1 (nI p) = some (zCl (zB (yL S p) (oN F)) (zB (yR F S) (oN F))) := m_clean (v := 1) hF (by decide) hM hp
theorem m_guilt0 (hF : RF F mKind mWind mWeight mSort mOwner mPeople mHours mGrains) (hM : RM F mNow 0 S) {p : Nat} (hp : p < 16) : mm_guilt mGrains mWeight mSort mNow 0 (nI p) = some (nI (zGu F (zB (yL S p) (oN F)) (oN F))) := m_guilt (v := 0) hF (by decide) hM hp
theorem m_guilt1 (hF : RF F mKind mWind mWeight mSort mOwner mPeople mHours mGrains) (hM : RM F mNow 9 S) {p : Nat} (hp : p < 16) : mm_guilt mGrains mWeight mSort mNow 1 (nI p) = some (nI (zGu F (zB (yL S p) (oN F)) (oN F))) := m_guilt (v := 1) hF (by decide) hM hp
theorem m_at (hM : RM F mNow 0 S) {g : Nat} (hg : g < oN F) : mNow g = nI (S.1 g) := by
  have := hM.2.1 g hg
  rw [Nat.zero_add] at this
  exact this
/-- person -/
theorem op_person (hF : RF F fPk fWn fGw fGk fOw fPe fHo fGr) (hG : RF F mKind mWind mWeight mSort mOwner mPeople mHours mGrains) (hX : RX F L S) (hM : RM F mNow 0 S) (p q : Int32) :
    ∃ r, xx_person L fPk fWn fGw fGk fOw fPe fHo fGr p q = some r ∧ mm_person mPeople mHours mGrains mKind mWind mWeight mSort mOwner mNow p q = some r := by
  have h4 := hF.1.1
  have bad : (p < 0 ∨ nI (oP F) ≤ p) → ∃ r, xx_person L fPk fWn fGw fGk fOw fPe fHo fGr p q = some r ∧ mm_person mPeople mHours mGrains mKind mWind mWeight mSort mOwner mNow p q = some r := fun h => by
    refine ⟨-1, ?_, ?_⟩
    · unfold xx_person
      rw [x_per0 hF h, b_s, if_pos rfl]
    · unfold mm_person
      rw [m_per0 hG h, b_s, if_pos rfl]
  rcases pk_ix p (show oP F < 2 ^ 31 by omega) with h | h | ⟨j, hj, rfl⟩
  · exact bad (Or.inl h)
  · exact bad (Or.inr h)
  · have hb := zB_128 hF.1 (yL S j)
    have e1 : xx_person L fPk fWn fGw fGk fOw fPe fHo fGr (nI j) q = mm_person mPeople mHours mGrains mKind mWind mWeight mSort mOwner mNow (nI j) q := by
      unfold xx_person mm_person
      simp only [x_perT hF hj, m_perT hG hj, b_s, i10, x_kind hF hj, x_lift hF hX hj, x_guilt hF hX (show j < 16 by omega), x_lying hF hX (show j < 16 by omega), x_clean hF hX (show j < 16 by omega), x_ownW hF hX (show j < 16 by omega), gI_n (show j < 4 by omega) (show (4 : Nat) < 2147483648 by omega), n_cl (show j < 2147483648 by omega), hG.2.2.2.2.1 j hj, m_lift0 hG hM hj, m_guilt0 hG hM (show j < 16 by omega), m_lying0 hG hM (show j < 16 by omega), m_clean0 hG hM (show j < 16 by omega), m_right0 hG hM, fa_and, m_weighs hG (Nat.lt_of_le_of_lt Nat.and_le_left hb)]
    have e2 : ∃ r, xx_person L fPk fWn fGw fGk fOw fPe fHo fGr (nI j) q = some r := by
      unfold xx_person
      simp only [x_perT hF hj, b_s, i10, x_kind hF hj, x_lift hF hX hj, x_guilt hF hX (show j < 16 by omega), x_lying hF hX (show j < 16 by omega), x_clean hF hX (show j < 16 by omega), x_ownW hF hX (show j < 16 by omega)]
      repeat' split
      all_goals exact ⟨_, rfl⟩
    obtain ⟨r, hr⟩ := e2
    exact ⟨r, hr, e1 ▸ hr⟩
theorem op_grain (hF : RF F fPk fWn fGw fGk fOw fPe fHo fGr) (hG : RF F mKind mWind mWeight mSort mOwner mPeople mHours mGrains) (hX : RX F L S) (hM : RM F mNow 0 S) (p q : Int32) :
    ∃ r, xx_grain L fPk fWn fGw fGk fOw fPe fHo fGr p q = some r ∧ mm_grain mPeople mHours mGrains mKind mWind mWeight mSort mOwner mNow p q = some r := by
  have h4 := hF.1.1
  have h7 := hF.1.2.2.1
  have bad : (p < 0 ∨ nI (oN F) ≤ p) → ∃ r, xx_grain L fPk fWn fGw fGk fOw fPe fHo fGr p q = some r ∧ mm_grain mPeople mHours mGrains mKind mWind mWeight mSort mOwner mNow p q = some r := fun h => by
    refine ⟨-1, ?_, ?_⟩
    · unfold xx_grain
      rw [x_gra0 hF h, b_s, if_pos rfl]
    · unfold mm_grain
      rw [m_gra0 hG h, b_s, if_pos rfl]
  rcases pk_ix p (show oN F < 2 ^ 31 by omega) with h | h | ⟨j, hj, rfl⟩
  · exact bad (Or.inl h)
  · exact bad (Or.inr h)
  · have hS := hX.1.1 j hj
    obtain ⟨hw1, hw2, hs, ho⟩ := hF.1.2.2.2.2.2 j hj
    have hr : (if nI (S.1 j) = nI (oO F j) then (some 1 : Option Int32) else some 0) = some (if S.1 j = oO F j then 1 else 0) := by
      by_cases hc : S.1 j = oO F j
      · rw [if_pos ((n_eq (by omega) (by omega)).mpr hc), if_pos hc]
      · rw [if_neg (fun z => hc ((n_eq (by omega) (by omega)).mp z)), if_neg hc]
    have hr2' : (if (if S.1 j = oO F j then (1 : Int32) else 0) = 0 then (some 0 : Option Int32) else some 1) = some (if S.1 j = oO F j then 1 else 0) := by
      by_cases hc : S.1 j = oO F j
      · rw [if_pos hc, if_neg (by decide)]
      · rw [if_neg hc, if_pos rfl]
    have mk : ∀ {a b : Option Int32}, a = b → (∃ r, a = some r) → ∃ r, a = some r ∧ b = some r := fun h1 h2 => by
      obtain ⟨r, hr⟩ := h2
      exact ⟨r, hr, h1 ▸ hr⟩
    by_cases hl : S.1 j < oP F
    · have hli := zL_le hF.1 S (S.1 j)
      refine mk ?_ ?_
      · unfold xx_grain mm_grain
        simp only [m_graT hG hj, b_s, i10, gI_n (show j < 7 by omega) (show (7 : Nat) < 2147483648 by omega), gI_n (show j < 18 by omega) (show (18 : Nat) < 2147483648 by omega), n_cl (show j < 2147483648 by omega), hG.2.2.2.2.2.2.1 j hj, hG.2.2.2.2.2.2.2.1 j hj, hG.2.2.2.2.2.2.2.2 j hj, m_at hM hj, m_lies0 hG hM hj, if_pos hl, m_lift0 hG hM hl, m_goes0 hG hM hj hl, m_own hs (show zL F S (S.1 j) < 1000 by omega), hr, x_graT hF hj, x_place h7 hX hj, x_lift hF hX hl, x_weight hF hj, x_sort hF hj, x_owner hF hj, x_perT hF hl, x_own hs (show zL F S (S.1 j) < 1000 by omega), x_landing hF hj hl (show zL F S (S.1 j) < 1000 by omega), x_isRight hF hX hj, hr2']
      · unfold xx_grain
        simp only [b_s, i10, x_graT hF hj, x_place h7 hX hj, x_lift hF hX hl, x_weight hF hj, x_sort hF hj, x_owner hF hj, x_perT hF hl, x_own hs (show zL F S (S.1 j) < 1000 by omega), x_landing hF hj hl (show zL F S (S.1 j) < 1000 by omega), x_isRight hF hX hj, hr2']
        repeat' split
        all_goals exact ⟨_, rfl⟩
    · have h89 : S.1 j = 8 ∨ S.1 j = 9 := by omega
      refine mk ?_ ?_
      · unfold xx_grain mm_grain
        simp only [m_graT hG hj, b_s, i10, i00, if_true, if_false, gI_n (show j < 7 by omega) (show (7 : Nat) < 2147483648 by omega), gI_n (show j < 18 by omega) (show (18 : Nat) < 2147483648 by omega), n_cl (show j < 2147483648 by omega), hG.2.2.2.2.2.2.1 j hj, hG.2.2.2.2.2.2.2.1 j hj, hG.2.2.2.2.2.2.2.2 j hj, m_at hM hj, m_lies0 hG hM hj, if_neg hl, hr, x_graT hF hj, x_place h7 hX hj, x_lift8 hF hX (show 4 ≤ S.1 j by omega) (show S.1 j < 15 by omega), x_weight hF hj, x_sort hF hj, x_owner hF hj, x_perF hF (show oP F ≤ S.1 j by omega) (show S.1 j < 2147483648 by omega), x_landing8 hF hj h89, x_isRight hF hX hj, hr2']
      · unfold xx_grain
        simp only [b_s, i10, i00, if_true, if_false, x_graT hF hj, x_place h7 hX hj, x_lift8 hF hX (show 4 ≤ S.1 j by omega) (show S.1 j < 15 by omega), x_weight hF hj, x_sort hF hj, x_owner hF hj, x_perF hF (show oP F ≤ S.1 j by omega) (show S.1 j < 2147483648 by omega), x_landing8 hF hj h89, x_isRight hF hX hj, hr2']
        repeat' split
        all_goals exact ⟨_, rfl⟩
end O1
