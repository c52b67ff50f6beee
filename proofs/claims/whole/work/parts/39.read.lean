/-! ===== reading: figures, growing floors ===== -/
abbrev CT : Type := (Nat → Int32) × (Nat → Int32) × (Nat → Int32) × (Nat → Int32) × (Nat → Int32) × (Nat → Int32) × Int32 × Int32 × Int32 × Int32 × Int32
abbrev MT : Type := (Nat → Int32) × (Nat → Int32) × (Nat → Int32) × Int32 × Int32 × Int32 × Int32 × Int32
def aP (F : FD) (j : Nat) : FD := ((oP F + 1, oH F, oN F), (fun i => if i = oP F then j else oK F i), oW F, oG F, oS F, oO F)
def aH (F : FD) (j : Nat) : FD := ((oP F, oH F + 1, oN F), oK F, (fun i => if i = oH F then j else oW F i), oG F, oS F, oO F)
def aG (F : FD) (w s o : Nat) : FD := ((oP F, oH F, oN F + 1), oK F, oW F, (fun i => if i = oN F then w else oG F i), (fun i => if i = oN F then s else oS F i), (fun i => if i = oN F then o else oO F i))
section O14
variable {F : FD} {k w g s o : Nat → Int32} {p h n : Int32}
theorem RF_addP {k1 : Nat → Int32} {j : Nat} (hF : RF F k w g s o p h n) (hP : oP F < 4) (hj : j ≤ 3) (hk : ∀ i, i < oP F → k1 i = k i) (hk1 : k1 (oP F) = nI j) : RF (aP F j) k1 w g s o (nI (oP F + 1)) h n := by
  obtain ⟨⟨a1, a2, a3, a4, a5, a6⟩, b1, b2, b3, c1, c2, c3, c4, c5⟩ := hF
  refine ⟨⟨hP, a2, a3, fun i hi => ?_, a5, fun i hi => ?_⟩, rfl, b2, b3, fun i hi => ?_, c2, c3, c4, c5⟩
  · have hi' : i < oP F + 1 := hi
    show (if i = oP F then j else oK F i) ≤ 3
    split
    · exact hj
    · exact a4 i (by omega)
  · obtain ⟨x1, x2, x3, x4⟩ := a6 i hi
    exact ⟨x1, x2, x3, Nat.lt_succ_of_lt x4⟩
  · have hi' : i < oP F + 1 := hi
    show k1 i = nI (if i = oP F then j else oK F i)
    by_cases hc : i = oP F
    · rw [if_pos hc, hc]
      exact hk1
    · rw [if_neg hc, hk i (by omega)]
      exact c1 i (by omega)
theorem RF_addH {w1 : Nat → Int32} {j : Nat} (hF : RF F k w g s o p h n) (hH : oH F < 6) (hj : j ≤ 9) (hk : ∀ i, i < oH F → w1 i = w i) (hk1 : w1 (oH F) = nI j) : RF (aH F j) k w1 g s o p (nI (oH F + 1)) n := by
  obtain ⟨⟨a1, a2, a3, a4, a5, a6⟩, b1, b2, b3, c1, c2, c3, c4, c5⟩ := hF
  refine ⟨⟨a1, hH, a3, a4, fun i hi => ?_, a6⟩, b1, rfl, b3, c1, fun i hi => ?_, c3, c4, c5⟩
  · have hi' : i < oH F + 1 := hi
    show (if i = oH F then j else oW F i) ≤ 9
    split
    · exact hj
    · exact a5 i (by omega)
  · have hi' : i < oH F + 1 := hi
    show w1 i = nI (if i = oH F then j else oW F i)
    by_cases hc : i = oH F
    · rw [if_pos hc, hc]
      exact hk1
    · rw [if_neg hc, hk i (by omega)]
      exact c2 i (by omega)
theorem RF_addG {g1 s1 o1 : Nat → Int32} {a b c : Nat} (hF : RF F k w g s o p h n) (hN : oN F < 7) (ha : 1 ≤ a ∧ a ≤ 9) (hb : b ≤ 3) (hc : c < oP F) (hg : ∀ i, i < oN F → g1 i = g i ∧ s1 i = s i ∧ o1 i = o i) (hg1 : g1 (oN F) = nI a ∧ s1 (oN F) = nI b ∧ o1 (oN F) = nI c) : RF (aG F a b c) k w g1 s1 o1 p h (nI (oN F + 1)) := by
  obtain ⟨⟨a1, a2, a3, a4, a5, a6⟩, b1, b2, b3, c1, c2, c3, c4, c5⟩ := hF
  refine ⟨⟨a1, a2, hN, a4, a5, fun i hi => ?_⟩, b1, b2, rfl, c1, c2, fun i hi => ?_, fun i hi => ?_, fun i hi => ?_⟩
  · have hi' : i < oN F + 1 := hi
    show 1 ≤ (if i = oN F then a else oG F i) ∧ (if i = oN F then a else oG F i) ≤ 9 ∧ (if i = oN F then b else oS F i) ≤ 3 ∧ (if i = oN F then c else oO F i) < oP F
    by_cases hq : i = oN F
    · rw [if_pos hq, if_pos hq, if_pos hq]
      exact ⟨ha.1, ha.2, hb, hc⟩
    · rw [if_neg hq, if_neg hq, if_neg hq]
      exact a6 i (by omega)
  · have hi' : i < oN F + 1 := hi
    show g1 i = nI (if i = oN F then a else oG F i)
    by_cases hq : i = oN F
    · rw [if_pos hq, hq]
      exact hg1.1
    · rw [if_neg hq, (hg i (by omega)).1]
      exact c3 i (by omega)
  · have hi' : i < oN F + 1 := hi
    show s1 i = nI (if i = oN F then b else oS F i)
    by_cases hq : i = oN F
    · rw [if_pos hq, hq]
      exact hg1.2.1
    · rw [if_neg hq, (hg i (by omega)).2.1]
      exact c4 i (by omega)
  · have hi' : i < oN F + 1 := hi
    show o1 i = nI (if i = oN F then c else oO F i)
    by_cases hq : i = oN F
    · rw [if_pos hq, hq]
      exact hg1.2.2
    · rw [if_neg hq, (hg i (by omega)).2.2]
      exact c5 i (by omega)
end O14
/-- what was read: the same floor and the same first places -/
def FN (c : CT) (m : MT) : Prop := ∃ (F : FD) (st : Nat → Nat), RF F c.1 c.2.1 c.2.2.1 c.2.2.2.1 c.2.2.2.2.1 c.2.2.2.2.2.2.1 c.2.2.2.2.2.2.2.1 c.2.2.2.2.2.2.2.2.1 ∧ (∀ j, j < oN F → c.2.2.2.2.2.1 j = nI (st j) ∧ st j < oP F) ∧ RF F m.1 m.2.1 (fun j => m.2.2.1 (4 * j)) (fun j => m.2.2.1 (4 * j + 1)) (fun j => m.2.2.1 (4 * j + 2)) m.2.2.2.1 m.2.2.2.2.1 m.2.2.2.2.2.1 ∧ (∀ j, j < oN F → m.2.2.1 (4 * j + 3) = nI (st j))
def RR (A : Option (Int32 × CT)) (B : Option (Int32 × MT)) : Prop := ∃ (r : Int32) (c : CT) (m : MT), A = some (r, c) ∧ B = some (r, m) ∧ ((r = -9 ∧ FN c m) ∨ ¬ r = -9)
section O15
variable {tx : Nat → Int32} {n k lo hi : Nat}
theorem dgt (tx : Nat → Int32) {n k : Nat} (hk : k ≤ n) (lo hi : Nat) (hlo : lo < 100) (hhi : hi < 100) : (∃ j, k < n ∧ tx k - 48 = nI j ∧ lo ≤ j ∧ j ≤ hi) ∨ (k = n ∨ k < n ∧ (tx k - 48 < nI lo ∨ nI hi < tx k - 48)) := by
  rcases Nat.lt_or_ge k n with h | h
  · by_cases h1 : tx k - 48 < nI lo
    · exact Or.inr (Or.inr ⟨h, Or.inl h1⟩)
    · by_cases h2 : nI hi < tx k - 48
      · exact Or.inr (Or.inr ⟨h, Or.inr h2⟩)
      · refine Or.inl ?_
        have h1' : ¬ (tx k - 48).toInt < (nI lo).toInt := fun z => h1 ((fa_lt _ _).mpr z)
        have h2' : ¬ (nI hi).toInt < (tx k - 48).toInt := fun z => h2 ((fa_lt _ _).mpr z)
        rw [nI_toInt (show lo < 2147483648 by omega)] at h1'
        rw [nI_toInt (show hi < 2147483648 by omega)] at h2'
        refine ⟨(tx k - 48).toInt.toNat, h, ?_, by omega, by omega⟩
        apply Int32.toInt_inj.mp
        rw [nI_toInt (by omega)]
        omega
  · exact Or.inr (Or.inl (by omega))
theorem fig_ok (hn : n ≤ 56) {j : Nat} (hk : k < n) (e : tx k - 48 = nI j) (h1 : lo ≤ j) (h2 : j ≤ hi) (hhi : hi < 100) : mm_figure tx (nI n) (nI k) (-9) (nI lo) (nI hi) = some (nI j, nI (k + 1), -9) := by
  unfold mm_figure
  rw [if_pos rfl, if_neg (fun z => by have := (n_le (by omega) (by omega)).mp z; omega), gI_n (show k < 56 by omega) (by decide), n_cl (by omega), e, m_inT h1 h2 (by omega), b_s, i10, nI_1]
theorem in9 (lo hi : Nat) (h : lo < 100) : mm_in (Int32.toInt64 (-9)) (Int32.toInt64 (nI lo)) (Int32.toInt64 (nI hi)) = some 0 := by
  refine m_inF (Or.inl ((fa_lt _ _).mpr ?_))
  rw [nI_toInt (by omega)]
  have : (-9 : Int32).toInt = -9 := by decide
  omega
theorem fig_bad (hn : n ≤ 56) (hlo : lo < 100) (h : k = n ∨ k < n ∧ (tx k - 48 < nI lo ∨ nI hi < tx k - 48)) : mm_figure tx (nI n) (nI k) (-9) (nI lo) (nI hi) = some (nI lo, nI k, nI k) := by
  unfold mm_figure
  rw [if_pos rfl]
  rcases h with rfl | ⟨hk, h⟩
  · rw [if_pos ((n_le (by omega) (by omega)).mpr (Nat.le_refl _)), in9 lo hi hlo, b_s, i00]
  · rw [if_neg (fun z => by have := (n_le (by omega) (by omega)).mp z; omega), gI_n (show k < 56 by omega) (by decide), n_cl (by omega), m_inF h, b_s, i00]
theorem fig_f (hlo : lo < 100) {f : Nat} (hf : f < 100) (a : Int32) : mm_figure tx (nI n) a (nI f) (nI lo) (nI hi) = some (nI lo, a, nI f) := by
  unfold mm_figure
  rw [if_neg (n_m9 (by omega)), in9 lo hi hlo, b_s, i00, if_neg (n_m9 (by omega))]
end O15
