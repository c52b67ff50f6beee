/-! ===== the leaves of the model ===== -/
theorem m_in (a b c : Int32) : mm_in (Int32.toInt64 a) (Int32.toInt64 b) (Int32.toInt64 c) = some (if b ≤ a ∧ a ≤ c then 1 else 0) := by
  unfold mm_in
  have e1 : (lg_cmp (Int32.toInt64 a) (Int32.toInt64 b) < 0) ↔ a < b := (lg_cmp_lt _ _).trans (fa_wide_lt a b)
  have e2 : (0 < lg_cmp (Int32.toInt64 a) (Int32.toInt64 c)) ↔ c < a := (lg_cmp_gt _ _).trans (fa_wide_lt c a)
  by_cases h1 : a < b
  · rw [if_pos (e1.mpr h1), if_neg (fun z => by rw [fa_lt] at h1; have := (fa_le _ _).mp z.1; omega)]
  · rw [if_neg (fun z => h1 (e1.mp z))]
    by_cases h2 : c < a
    · rw [if_pos (e2.mpr h2), if_neg (fun z => by rw [fa_lt] at h2; have := (fa_le _ _).mp z.2; omega)]
    · rw [if_neg (fun z => h2 (e2.mp z)), if_pos ⟨by rw [fa_lt] at h1; rw [fa_le]; omega, by rw [fa_lt] at h2; rw [fa_le]; omega⟩]
theorem n_subT {P : Nat} (h : P < 1073741824) : (nI P - 1).toInt = (P : Int) - 1 := pk_sub_toInt (a := P) (b := 1) h (by decide)
theorem m_isP {P j : Nat} (hP : P < 1073741824) (hj : j < 2147483648) : mm_isPerson (nI P) (nI j) = some (if j < P then 1 else 0) := by
  unfold mm_isPerson
  have e0 : (0 : Int64) = Int32.toInt64 0 := by decide
  rw [e0, m_in, b_s]
  have ht := n_subT hP
  have hjt := nI_toInt (show j < 2 ^ 31 from hj)
  have h0 : (0 : Int32).toInt = 0 := by decide
  by_cases h : j < P
  · rw [if_pos ⟨by rw [fa_le]; omega, by rw [fa_le]; omega⟩, gZ_1, if_pos h]
  · rw [if_neg (fun z => h (by have := (fa_le _ _).mp z.2; omega)), gZ_0, if_neg h]
theorem m_isP0 {P : Nat} {x : Int32} (hP : P < 1073741824) (h : x < 0 ∨ nI P ≤ x) : mm_isPerson (nI P) x = some 0 := by
  unfold mm_isPerson
  have e0 : (0 : Int64) = Int32.toInt64 0 := by decide
  rw [e0, m_in, b_s]
  have ht := n_subT hP
  have hPt := nI_toInt (show P < 2 ^ 31 by omega)
  have h0 : (0 : Int32).toInt = 0 := by decide
  rw [if_neg (fun z => by
    have h1 := (fa_le _ _).mp z.1
    have h2 := (fa_le _ _).mp z.2
    rcases h with h | h
    · have := (fa_lt _ _).mp h; omega
    · have := (fa_le _ _).mp h; omega), gZ_0]
theorem m_isG {P j : Nat} (hP : P < 1073741824) (hj : j < 2147483648) : mm_isGrain (nI P) (nI j) = some (if j < P then 1 else 0) := m_isP hP hj
theorem m_isG0 {P : Nat} {x : Int32} (hP : P < 1073741824) (h : x < 0 ∨ nI P ≤ x) : mm_isGrain (nI P) x = some 0 := m_isP0 hP h
section ML
variable {F : FD} {mKind mWind mWeight mSort mOwner mNow : Nat → Int32} {mPeople mHours mGrains : Int32} {S : Sc} {v : Nat}
theorem i9 (v k : Nat) : (9 : Int32) * nI v + nI k = nI (9 * v + k) := by rw [l9, pk_mul, nI_add]
theorem m_wind (hF : RF F mKind mWind mWeight mSort mOwner mPeople mHours mGrains) (hv : v ≤ 1) (hM : RM F mNow (9 * v) S) : mm_windOn mHours mWind mNow (nI v) = some (nI (zW F S.2.2)) := by
  have hk := hM.1.2.2
  have h6 := hF.1.2.1
  unfold mm_windOn zW
  rw [hF.2.2.1, l8, i9, n_cl (by omega), hM.2.2.2]
  by_cases h : oH F = 0
  · rw [if_pos h, h]
    rfl
  · have hm : S.2.2 % oH F < oH F := Nat.mod_lt _ (by omega)
    rw [if_neg h, if_neg (nI_ne0 (by omega) (by omega)), gI_n (by omega) (by omega), gD_n (by omega) (by omega), n_rem (by omega) (by omega) (by omega), gI_n (by omega) (by omega), n_cl (by omega), hF.2.2.2.2.2.1 _ hm]
theorem m_lift (hF : RF F mKind mWind mWeight mSort mOwner mPeople mHours mGrains) (hv : v ≤ 1) (hM : RM F mNow (9 * v) S) {p u : Nat} (hp : p < oP F) : mm_liftAt mHours mKind mWind mNow (nI v) (nI p) (nI u) = some (nI (zL F S p + u)) := by
  have h4 := hF.1.1
  have hk := hF.1.2.2.2.1 p hp
  unfold mm_liftAt zL
  rw [m_wind hF hv hM, b_s, l7, i9, gI_n (by omega) (by omega), n_cl (by omega), hM.2.2.1]
  simp only [gI_n (show p < 4 by omega) (show (4 : Nat) < 2147483648 by omega), n_cl (show p < 2147483648 by omega), hF.2.2.2.2.1 p hp]
  generalize zW F S.2.2 = w
  by_cases h1 : S.2.1 = p
  · rw [if_pos ((hI_eq hM.1 h4 (by omega)).mpr h1), if_pos h1]
    by_cases h2 : oK F p = 1
    · rw [if_pos ((n_eqL (by omega) (by decide)).mpr h2), if_pos h2, l2, l1, nI_add, nI_add, nI_add]
      exact congrArg (fun z => some (nI z)) (by omega)
    · rw [if_neg (fun z => h2 ((n_eqL (by omega) (by decide)).mp z)), if_neg h2, l2, l0, nI_add, nI_add, nI_add]
      exact congrArg (fun z => some (nI z)) (by omega)
  · rw [if_neg (fun z => h1 ((hI_eq hM.1 h4 (by omega)).mp z)), if_neg h1]
    by_cases h2 : oK F p = 1
    · rw [if_pos ((n_eqL (by omega) (by decide)).mpr h2), if_pos h2, l0, l1, nI_add, nI_add, nI_add]
      exact congrArg (fun z => some (nI z)) (by omega)
    · rw [if_neg (fun z => h2 ((n_eqL (by omega) (by decide)).mp z)), if_neg h2, l0, nI_add, nI_add, nI_add]
      exact congrArg (fun z => some (nI z)) (by omega)
theorem m_own {k l : Nat} (hk : k ≤ 3) (hl : l < 1000) : mm_liftOf (nI l) (nI k) = some (nI (zO k l)) := by
  have h := x_own hk hl
  unfold fl_ownLift at h
  unfold mm_liftOf
  exact h
theorem m_flight {k w l : Nat} (hk : k ≤ 3) (hw : w < 1000) (hl : l < 1000) : mm_flight (nI l) (nI k) (nI w) = some (nI (zF k w (zO k l))) := by
  have hz := zO_lt (k := k) hl
  unfold mm_flight zF
  rw [m_own hk hl, b_s]
  generalize zO k l = o at hz ⊢
  by_cases h2 : k = 2
  · rw [if_pos ((n_eqL (by omega) (by decide)).mpr h2), if_pos h2]
    rfl
  · rw [if_neg (fun z => h2 ((n_eqL (by omega) (by decide)).mp z)), if_neg h2]
    have hs := pk_sub_toInt (a := o) (b := w) (by omega) (by omega)
    have h0 : (0 : Int32).toInt = 0 := by decide
    by_cases hwl : w ≤ o
    · rw [if_pos (by rw [fa_le]; omega), if_pos hwl, pk_sub hwl, l3, n_div (by omega) (by omega) (by omega)]
      by_cases h1 : k = 1
      · rw [if_pos ((n_eqL (by omega) (by decide)).mpr h1), if_pos h1, l2, nI_add]
      · rw [if_neg (fun z => h1 ((n_eqL (by omega) (by decide)).mp z)), if_neg h1, l1, nI_add]
    · rw [if_neg (fun z => hwl (by have := (fa_le _ _).mp z; omega)), if_neg hwl]
      rfl
theorem m_lies (hF : RF F mKind mWind mWeight mSort mOwner mPeople mHours mGrains) (hv : v ≤ 1) (hM : RM F mNow (9 * v) S) {g : Nat} (hg : g < oN F) : mm_lies mPeople mNow (nI v) (nI g) = some (if S.1 g < oP F then 1 else 0) := by
  have h7 := hF.1.2.2.1
  have h4 := hF.1.1
  have hS := hM.1.1 g hg
  unfold mm_lies
  rw [i9, gI_n (by omega) (by omega), n_cl (by omega), hM.2.1 g hg, hF.2.1]
  by_cases h : S.1 g < oP F
  · rw [if_neg (fun z => by have := (n_le (by omega) (by omega)).mp z; omega), if_pos h]
  · rw [if_pos ((n_le (by omega) (by omega)).mpr (by omega)), if_neg h]
theorem m_flies (hF : RF F mKind mWind mWeight mSort mOwner mPeople mHours mGrains) (hv : v ≤ 1) (hM : RM F mNow (9 * v) S) {g l : Nat} (hg : g < oN F) (hl : l < 1000) : mm_flies mKind mWeight mSort mOwner mNow (nI v) (nI g) (nI l) = some (nI (zY F g (S.1 g) l)) := by
  have h7 := hF.1.2.2.1
  have h4 := hF.1.1
  have hS := hM.1.1 g hg
  obtain ⟨hw1, hw2, hs, ho⟩ := hF.1.2.2.2.2.2 g hg
  have hk := hF.1.2.2.2.1 _ ho
  unfold mm_flies zY
  rw [i9]
  simp only [gI_n (show g < 7 by omega) (show 7 < 2147483648 by omega), gI_n (show 9 * v + g < 18 by omega) (show 18 < 2147483648 by omega), n_cl (show g < 2147483648 by omega), n_cl (show 9 * v + g < 2147483648 by omega), hM.2.1 g hg, hF.2.2.2.2.2.2.2.2 g hg, hF.2.2.2.2.2.2.2.1 g hg, hF.2.2.2.2.2.2.1 g hg, m_flight hs (show oG F g < 1000 by omega) hl, b_s]
  rw [gI_n (show oO F g < 4 by omega) (by omega), n_cl (by omega), hF.2.2.2.2.1 _ ho]
  by_cases h3 : oK F (oO F g) = 3
  · rw [if_pos ((n_eqL (by omega) (by decide)).mpr h3)]
    by_cases h1 : S.1 g = oO F g
    · rw [if_pos ((n_eq (by omega) (by omega)).mpr h1), if_pos ⟨h1.symm, by rw [h1]; exact h3⟩]
      rfl
    · rw [if_neg (fun z => h1 ((n_eq (by omega) (by omega)).mp z)), if_neg (fun z => h1 z.1.symm)]
  · rw [if_neg (fun z => h3 ((n_eqL (by omega) (by decide)).mp z)), if_neg (fun z => h3 (by rw [z.1]; exact z.2))]
theorem m_goes (hF : RF F mKind mWind mWeight mSort mOwner mPeople mHours mGrains) (hv : v ≤ 1) (hM : RM F mNow (9 * v) S) {g u : Nat} (hg : g < oN F) (hp : S.1 g < oP F) (hu : u ≤ 3) : mm_goesTo mPeople mHours mKind mWind mWeight mSort mOwner mNow (nI v) (nI g) (nI u) = some (nI (zG F g (S.1 g) (zL F S (S.1 g) + u))) := by
  have h7 := hF.1.2.2.1
  have h4 := hF.1.1
  obtain ⟨hw1, hw2, hs, ho⟩ := hF.1.2.2.2.2.2 g hg
  have hk := hF.1.2.2.2.1 _ hp
  have hli := zL_le hF.1 S (S.1 g)
  have hy := zY_lt (F := F) (g := g) (p := S.1 g) (show zL F S (S.1 g) + u < 1000 by omega)
  unfold mm_goesTo zG
  rw [i9, gI_n (show 9 * v + g < 18 by omega) (by omega), n_cl (show 9 * v + g < 2147483648 by omega), hM.2.1 g hg, m_lift hF hv hM hp, b_s, m_flies hF hv hM hg (by omega), b_s, gI_n (show g < 7 by omega) (by omega), n_cl (show g < 2147483648 by omega), hF.2.2.2.2.2.2.2.1 g hg, gI_n (show S.1 g < 4 by omega) (by omega), n_cl (show S.1 g < 2147483648 by omega), hF.2.2.2.2.1 _ hp, nI_add, hF.2.1]
  generalize zY F g (S.1 g) (zL F S (S.1 g) + u) = f at hy ⊢
  by_cases h0 : f = 0
  · rw [if_pos ((n_eqL (by omega) (by decide)).mpr h0), if_pos h0]
    by_cases h1 : oS F g = 1
    · rw [if_pos ((n_eqL (by omega) (by decide)).mpr h1)]
      by_cases h2 : oK F (S.1 g) = 2
      · rw [if_pos ((n_eqL (by omega) (by decide)).mpr h2), if_pos ⟨h1, h2⟩]
        rfl
      · rw [if_neg (fun z => h2 ((n_eqL (by omega) (by decide)).mp z)), if_neg (fun z => h2 z.2)]
    · rw [if_neg (fun z => h1 ((n_eqL (by omega) (by decide)).mp z)), if_neg (fun z => h1 z.1)]
  · rw [if_neg (fun z => h0 ((n_eqL (by omega) (by decide)).mp z)), if_neg h0]
    by_cases hpf : S.1 g + f < oP F
    · rw [if_neg (fun z => by have := (n_le (by omega) (by omega)).mp z; omega), if_pos hpf]
    · rw [if_pos ((n_le (by omega) (by omega)).mpr (by omega)), if_neg hpf]
      rfl
/-- how many -/
def zN (c : Nat → Bool) : Nat → Nat
  | 0 => 0
  | k + 1 => zN c k + if c k then 1 else 0
theorem zN_le (c : Nat → Bool) : ∀ n, zN c n ≤ n
  | 0 => Nat.le_refl _
  | k + 1 => by
    have := zN_le c k
    unfold zN
    split <;> omega
def yFu (F : FD) (S : Sc) (p u : Nat) : Nat → Bool := fun g => S.1 g == p && !(zY F g p (zL F S p + u) == 0)
theorem zG_flew (hF : okF F) {g p l : Nat} (hp : p < oP F) : (zG F g p l = p ∨ zG F g p l = 9) ↔ zY F g p l = 0 := by
  have h4 := hF.1
  unfold zG
  split
  · split <;> omega
  · split <;> omega
theorem m_toss_1 (hF : RF F mKind mWind mWeight mSort mOwner mPeople mHours mGrains) (hv : v ≤ 1) (hM : RM F mNow (9 * v) S) {p u : Nat} (hp : p < oP F) (hu : u ≤ 3) (kx : Int32 → Int32 → (Nat → Int32) → Option (Int32 × (Nat → Int32) × (Nat → Int32))) :
    ∀ (d k n : Nat) (mv : Nat → Int32), k + d = oN F → d < n → (∀ g, g < k → mv g = nI ((zTo F S p u).1 g)) →
      ∃ mv1 : Nat → Int32, mm_tossBy_L12 mPeople mHours mGrains mKind mWind mWeight mSort mOwner mNow (nI v) (nI p) (nI u) (nI (9 * v)) kx n (nI k) (nI (zN (yFu F S p u) k)) mv = kx (nI (oN F)) (nI (zN (yFu F S p u) (oN F))) mv1 ∧ (∀ g, g < oN F → mv1 g = nI ((zTo F S p u).1 g)) := by
  have h7 := hF.1.2.2.1
  have h4 := hF.1.1
  intro d
  induction d with
  | zero =>
    intro k n mv hk hn h
    obtain ⟨n, rfl⟩ : ∃ m, n = m + 1 := ⟨n - 1, by omega⟩
    obtain rfl : k = oN F := by omega
    refine ⟨mv, ?_, h⟩
    rw [mm_tossBy_L12.eq_2, hF.2.2.2.1, if_pos ((n_le (by omega) (by omega)).mpr (by omega))]
  | succ d ih =>
    intro k n mv hk hn h
    obtain ⟨n, rfl⟩ : ∃ m, n = m + 1 := ⟨n - 1, by omega⟩
    have hkN : k < oN F := by omega
    have hS := hM.1.1 k hkN
    simp only [hF.2.2.2.1] at ih
    rw [mm_tossBy_L12.eq_2, hF.2.2.2.1, if_neg (fun z => by have := (n_le (by omega) (by omega)).mp z; omega), nI_add, gI_n (show 9 * v + k < 18 by omega) (by omega), n_cl (show 9 * v + k < 2147483648 by omega), hM.2.1 k hkN]
    have upx : ∀ (z : Int32), z = nI ((zTo F S p u).1 k) → ∀ g, g < k + 1 → upd mv k z g = nI ((zTo F S p u).1 g) := by
      intro z hz g hg
      unfold upd
      by_cases hgk : g = k
      · subst hgk
        rw [if_pos rfl, hz]
      · rw [if_neg hgk]
        exact h g (by omega)
    by_cases hc : S.1 k = p
    · have hgo := m_goes hF hv hM hkN (by omega) hu
      rw [hc] at hgo
      have hzt : (zTo F S p u).1 k = zG F k p (zL F S p + u) := by
        show (if S.1 k = p then zG F k p (zL F S p + u) else S.1 k) = _
        rw [if_pos hc]
      have hzg := zG_ok (g := k) (l := zL F S p + u) hF.1 hp
      have hfl := zG_flew (g := k) (l := zL F S p + u) hF.1 hp
      rw [if_pos ((n_eq (by omega) (by omega)).mpr hc), hgo, b_s]
      simp only [gI_n (show k < 7 by omega) (show (7 : Nat) < 2147483648 by omega), n_cl (show k < 2147483648 by omega), nI_1, l0, nI_add]
      by_cases hz0 : zY F k p (zL F S p + u) = 0
      · have hcn : zN (yFu F S p u) (k + 1) = zN (yFu F S p u) k := by simp [zN, yFu, hc, hz0]
        have ihh := ih (k + 1) n (upd mv k (nI (zG F k p (zL F S p + u)))) (by omega) (by omega) (upx _ (by rw [hzt]))
        rw [hcn] at ihh
        rcases hfl.mpr hz0 with q | q
        · rw [if_pos ((n_eq (by omega) (by omega)).mpr q), Nat.add_zero]
          exact ihh
        · rw [if_neg (fun z => by have := (n_eq (by omega) (by omega)).mp z; omega), if_pos ((n_eqL (by omega) (by decide)).mpr q), Nat.add_zero]
          exact ihh
      · have hcn : zN (yFu F S p u) (k + 1) = zN (yFu F S p u) k + 1 := by simp [zN, yFu, hc, hz0]
        have ihh := ih (k + 1) n (upd mv k (nI (zG F k p (zL F S p + u)))) (by omega) (by omega) (upx _ (by rw [hzt]))
        rw [hcn] at ihh
        have q : ¬ (zG F k p (zL F S p + u) = p ∨ zG F k p (zL F S p + u) = 9) := fun z => hz0 (hfl.mp z)
        rw [if_neg (fun z => q (Or.inl ((n_eq (by omega) (by omega)).mp z))), if_neg (fun z => q (Or.inr ((n_eqL (by omega) (by decide)).mp z)))]
        exact ihh
    · have hzt : (zTo F S p u).1 k = S.1 k := by
        show (if S.1 k = p then zG F k p (zL F S p + u) else S.1 k) = _
        rw [if_neg hc]
      have hcn : zN (yFu F S p u) (k + 1) = zN (yFu F S p u) k := by simp [zN, yFu, hc]
      have ihh := ih (k + 1) n (upd mv k (nI (S.1 k))) (by omega) (by omega) (upx _ (by rw [hzt]))
      rw [hcn] at ihh
      rw [if_neg (fun z => hc ((n_eq (by omega) (by omega)).mp z)), gI_n (show 9 * v + k < 18 by omega) (by omega), gI_n (show k < 7 by omega) (by omega), n_cl (show k < 2147483648 by omega), nI_1]
      exact ihh
theorem m_toss_2 (hg : mGrains = nI (oN F)) (h7 : oN F ≤ 7) (hv : v ≤ 1) (mv : Nat → Int32) (kx : Int32 → (Nat → Int32) → Option (Int32 × (Nat → Int32) × (Nat → Int32))) (now0 : Nat → Int32) :
    ∀ (d k n : Nat) (now : Nat → Int32), k + d = oN F → d < n → (∀ j, now j = if 9 * v ≤ j ∧ j < 9 * v + k then mv (j - 9 * v) else now0 j) →
      ∃ now1 : Nat → Int32, mm_tossBy_L106 mGrains mv (nI (9 * v)) kx n (nI k) now = kx (nI (oN F)) now1 ∧ (∀ j, now1 j = if 9 * v ≤ j ∧ j < 9 * v + oN F then mv (j - 9 * v) else now0 j) := by
  intro d
  induction d with
  | zero =>
    intro k n now hk hn h
    obtain ⟨n, rfl⟩ : ∃ m, n = m + 1 := ⟨n - 1, by omega⟩
    obtain rfl : k = oN F := by omega
    refine ⟨now, ?_, h⟩
    rw [mm_tossBy_L106.eq_2, hg, if_pos ((n_le (by omega) (by omega)).mpr (by omega))]
  | succ d ih =>
    intro k n now hk hn h
    obtain ⟨n, rfl⟩ : ∃ m, n = m + 1 := ⟨n - 1, by omega⟩
    simp only [hg] at ih
    rw [mm_tossBy_L106.eq_2, hg, if_neg (fun z => by have := (n_le (by omega) (by omega)).mp z; omega), gI_n (show k < 7 by omega) (by omega), nI_add, gI_n (show 9 * v + k < 18 by omega) (by omega), n_cl (show 9 * v + k < 2147483648 by omega), n_cl (show k < 2147483648 by omega), nI_1]
    refine ih (k + 1) n _ (by omega) (by omega) (fun j => ?_)
    unfold upd
    by_cases hj : j = 9 * v + k
    · rw [if_pos hj, if_pos (by omega), hj, Nat.add_sub_cancel_left]
    · rw [if_neg hj, h j]
      by_cases q : 9 * v ≤ j ∧ j < 9 * v + k
      · rw [if_pos q, if_pos (by omega)]
      · rw [if_neg q, if_neg (by omega)]
theorem m_toss (hF : RF F mKind mWind mWeight mSort mOwner mPeople mHours mGrains) (hv : v ≤ 1) (hM : RM F mNow (9 * v) S) {p u : Nat} (hp : p < oP F) (hu : u ≤ 3) (hk : S.2.2 + 1 < 1048576) (mv : Nat → Int32) :
    ∃ now1 mv1 : Nat → Int32, mm_tossBy mPeople mHours mGrains mKind mWind mWeight mSort mOwner mNow mv (nI v) (nI p) (nI u) = some (nI (zN (yFu F S p u) (oN F)), now1, mv1) ∧ RM F now1 (9 * v) (zTo F S p u) ∧ (∀ j, (j < 9 * v ∨ 9 * v + 9 ≤ j) → now1 j = mNow j) := by
  have h7 := hF.1.2.2.1
  unfold mm_tossBy
  have e9 : (9 : Int32) * nI v = nI (9 * v) := by rw [l9, pk_mul]
  simp only [e9, l8, nI_add, gI_n (show 9 * v + 8 < 18 by omega) (show (18 : Nat) < 2147483648 by omega), n_cl (show 9 * v + 8 < 2147483648 by omega)]
  obtain ⟨mv1, e1, q1⟩ := m_toss_1 hF hv hM hp hu (fun y6_12 y5_12 mMoved_12 => (mm_tossBy_L106 mGrains mMoved_12 (nI (9 * v)) (fun y6_106 mNow_106 => (some (y5_12, (upd mNow_106 (9 * v + 8) ((mNow_106 (9 * v + 8)) + 1)), mMoved_12))) 1000 0 mNow)) (oN F) 0 1000 mv (by omega) (by omega) (fun g hg => absurd hg (by omega))
  obtain ⟨now1, e2, q2⟩ := m_toss_2 (F := F) hF.2.2.2.1 h7 hv mv1 (fun y6_106 mNow_106 => (some (nI (zN (yFu F S p u) (oN F)), (upd mNow_106 (9 * v + 8) ((mNow_106 (9 * v + 8)) + 1)), mv1))) mNow (oN F) 0 1000 mNow (by omega) (by omega) (fun j => by rw [if_neg (by omega)])
  refine ⟨upd now1 (9 * v + 8) (now1 (9 * v + 8) + 1), mv1, ?_, ⟨zT_ok hF.1 hM.1 hp hk, fun g hg => ?_, ?_, ?_⟩, fun j hj => ?_⟩
  · exact Eq.trans e1 e2
  · unfold upd
    rw [if_neg (by omega), q2, if_pos (by omega), Nat.add_sub_cancel_left, q1 g hg]
  · unfold upd
    rw [if_neg (by omega), q2, if_neg (by omega), hM.2.2.1]
    rfl
  · unfold upd
    rw [if_pos rfl, q2, if_neg (by omega), hM.2.2.2, nI_1]
    rfl
  · unfold upd
    rw [if_neg (by omega), q2, if_neg (by omega)]
end ML
