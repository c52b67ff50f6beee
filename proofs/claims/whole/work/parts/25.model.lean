/-! ===== the model: sets, weights, guilt, trials ===== -/
section MN
variable {F : FD} {mKind mWind mWeight mSort mOwner mNow : Nat → Int32} {mPeople mHours mGrains : Int32} {S : Sc} {v : Nat}
theorem or0 (x : Int32) : x ||| 0 = x := by
  apply Int32.toBitVec_inj.1
  rw [Int32.toBitVec_or]
  show x.toBitVec ||| 0#32 = x.toBitVec
  exact BitVec.or_zero
theorem add0 (x : Int32) : x + 0 = x := Int32.add_zero x
theorem m_lying_loop (hF : RF F mKind mWind mWeight mSort mOwner mPeople mHours mGrains) (hv : v ≤ 1) (hM : RM F mNow (9 * v) S) {p : Nat} (hp : p < 16) (kx : Int32 → Int32 → Option Int32) :
    ∀ (d k n : Nat), k + d = oN F → d < n → mm_lyingAt_L5 mGrains mNow (nI v) (nI p) kx n (nI k) (nI (zB (yL S p) k)) = kx (nI (oN F)) (nI (zB (yL S p) (oN F))) := by
  have h7 := hF.1.2.2.1
  have h4 := hF.1.1
  intro d
  induction d with
  | zero =>
    intro k n hk hn
    obtain ⟨n, rfl⟩ : ∃ m, n = m + 1 := ⟨n - 1, by omega⟩
    obtain rfl : k = oN F := by omega
    rw [mm_lyingAt_L5.eq_2, hF.2.2.2.1, if_pos ((n_le (by omega) (by omega)).mpr (by omega))]
  | succ d ih =>
    intro k n hk hn
    obtain ⟨n, rfl⟩ : ∃ m, n = m + 1 := ⟨n - 1, by omega⟩
    have hkN : k < oN F := by omega
    have hSk := hM.1.1 k hkN
    have hb := zB_lt (yL S p) k
    simp only [hF.2.2.2.1] at ih
    have ih := ih (k + 1) n (by omega) (by omega)
    rw [mm_lyingAt_L5.eq_2, hF.2.2.2.1, if_neg (fun z => by have := (n_le (by omega) (by omega)).mp z; omega), i9, gI_n (show 9 * v + k < 18 by omega) (by omega), n_cl (by omega), hM.2.1 k hkN]
    by_cases hc : S.1 k = p
    · rw [if_pos ((n_eq (by omega) (by omega)).mpr hc), nI_1, s_or (by omega) hb, ← ih]
      simp [zB, yL, hc]
    · rw [if_neg (fun z => hc ((n_eq (by omega) (by omega)).mp z)), nI_1, or0, ← ih]
      simp [zB, yL, hc]
theorem m_lying (hF : RF F mKind mWind mWeight mSort mOwner mPeople mHours mGrains) (hv : v ≤ 1) (hM : RM F mNow (9 * v) S) {p : Nat} (hp : p < 16) : mm_lyingAt mGrains mNow (nI v) (nI p) = some (nI (zB (yL S p) (oN F))) := by
  have h7 := hF.1.2.2.1
  exact m_lying_loop hF hv hM hp (fun _ y => some y) (oN F) 0 1000 (by omega) (by omega)
theorem m_right_loop (hF : RF F mKind mWind mWeight mSort mOwner mPeople mHours mGrains) (hv : v ≤ 1) (hM : RM F mNow (9 * v) S) (kx : Int32 → Int32 → Option Int32) :
    ∀ (d k n : Nat), k + d = oN F → d < n → mm_rightOn_L4 mGrains mOwner mNow (nI v) kx n (nI k) (nI (zB (yR F S) k)) = kx (nI (oN F)) (nI (zB (yR F S) (oN F))) := by
  have h7 := hF.1.2.2.1
  have h4 := hF.1.1
  intro d
  induction d with
  | zero =>
    intro k n hk hn
    obtain ⟨n, rfl⟩ : ∃ m, n = m + 1 := ⟨n - 1, by omega⟩
    obtain rfl : k = oN F := by omega
    rw [mm_rightOn_L4.eq_2, hF.2.2.2.1, if_pos ((n_le (by omega) (by omega)).mpr (by omega))]
  | succ d ih =>
    intro k n hk hn
    obtain ⟨n, rfl⟩ : ∃ m, n = m + 1 := ⟨n - 1, by omega⟩
    have hkN : k < oN F := by omega
    have hSk := hM.1.1 k hkN
    have ho := (hF.1.2.2.2.2.2 k hkN).2.2.2
    have hb := zB_lt (yR F S) k
    simp only [hF.2.2.2.1] at ih
    have ih := ih (k + 1) n (by omega) (by omega)
    rw [mm_rightOn_L4.eq_2, hF.2.2.2.1, if_neg (fun z => by have := (n_le (by omega) (by omega)).mp z; omega), i9, gI_n (show 9 * v + k < 18 by omega) (by omega), gI_n (show k < 7 by omega) (by omega), n_cl (show 9 * v + k < 2147483648 by omega), n_cl (show k < 2147483648 by omega), hM.2.1 k hkN, hF.2.2.2.2.2.2.2.2 k hkN]
    by_cases hc : S.1 k = oO F k
    · rw [if_pos ((n_eq (by omega) (by omega)).mpr hc), nI_1, s_or (by omega) hb, ← ih]
      simp [zB, yR, hc]
    · rw [if_neg (fun z => hc ((n_eq (by omega) (by omega)).mp z)), nI_1, or0, ← ih]
      simp [zB, yR, hc]
theorem m_right (hF : RF F mKind mWind mWeight mSort mOwner mPeople mHours mGrains) (hv : v ≤ 1) (hM : RM F mNow (9 * v) S) : mm_rightOn mGrains mOwner mNow (nI v) = some (nI (zB (yR F S) (oN F))) := by
  have h7 := hF.1.2.2.1
  exact m_right_loop hF hv hM (fun _ y => some y) (oN F) 0 1000 (by omega) (by omega)
theorem m_clean (hF : RF F mKind mWind mWeight mSort mOwner mPeople mHours mGrains) (hv : v ≤ 1) (hM : RM F mNow (9 * v) S) {p : Nat} (hp : p < 16) : mm_isClean mGrains mOwner mNow (nI v) (nI p) = some (zCl (zB (yL S p) (oN F)) (zB (yR F S) (oN F))) := by
  unfold mm_isClean zCl
  rw [m_lying hF hv hM hp, b_s, m_right hF hv hM, b_s]
  split <;> rfl
theorem m_guilt_loop (hF : RF F mKind mWind mWeight mSort mOwner mPeople mHours mGrains) (hv : v ≤ 1) (hM : RM F mNow (9 * v) S) {p : Nat} (hp : p < 16) (kx : Int32 → Int32 → Option Int32) :
    ∀ (d k n : Nat), k + d = oN F → d < n → mm_guilt_L5 mGrains mWeight mSort mNow (nI v) (nI p) kx n (nI k) (nI (zGu F (zB (yL S p) (oN F)) k)) = kx (nI (oN F)) (nI (zGu F (zB (yL S p) (oN F)) (oN F))) := by
  have h7 := hF.1.2.2.1
  have h4 := hF.1.1
  intro d
  induction d with
  | zero =>
    intro k n hk hn
    obtain ⟨n, rfl⟩ : ∃ m, n = m + 1 := ⟨n - 1, by omega⟩
    obtain rfl : k = oN F := by omega
    rw [mm_guilt_L5.eq_2, hF.2.2.2.1, if_pos ((n_le (by omega) (by omega)).mpr (by omega))]
  | succ d ih =>
    intro k n hk hn
    obtain ⟨n, rfl⟩ : ∃ m, n = m + 1 := ⟨n - 1, by omega⟩
    have hkN : k < oN F := by omega
    have hSk := hM.1.1 k hkN
    have hs := (hF.1.2.2.2.2.2 k hkN).2.2.1
    have hbit := zB_bit (yL S p) (oN F) k
    simp only [hF.2.2.2.1] at ih
    have ih := ih (k + 1) n (by omega) (by omega)
    rw [mm_guilt_L5.eq_2, hF.2.2.2.1, if_neg (fun z => by have := (n_le (by omega) (by omega)).mp z; omega), i9, gI_n (show 9 * v + k < 18 by omega) (by omega), n_cl (show 9 * v + k < 2147483648 by omega), hM.2.1 k hkN]
    simp only [gI_n (show k < 7 by omega) (show (7 : Nat) < 2147483648 by omega), n_cl (show k < 2147483648 by omega), hF.2.2.2.2.2.2.2.1 k hkN, hF.2.2.2.2.2.2.1 k hkN, add0, nI_1, nI_add]
    rw [← ih]
    by_cases hc : S.1 k = p
    · rw [if_pos ((n_eq (by omega) (by omega)).mpr hc)]
      by_cases h1 : oS F k = 1
      · rw [if_pos ((n_eqL (by omega) (by decide)).mpr h1)]
        simp [zGu, hbit, yL, hc, h1]
      · rw [if_neg (fun z => h1 ((n_eqL (by omega) (by decide)).mp z))]
        simp [zGu, hbit, yL, hc, h1, hkN]
    · rw [if_neg (fun z => hc ((n_eq (by omega) (by omega)).mp z))]
      simp [zGu, hbit, yL, hc]
theorem m_guilt (hF : RF F mKind mWind mWeight mSort mOwner mPeople mHours mGrains) (hv : v ≤ 1) (hM : RM F mNow (9 * v) S) {p : Nat} (hp : p < 16) : mm_guilt mGrains mWeight mSort mNow (nI v) (nI p) = some (nI (zGu F (zB (yL S p) (oN F)) (oN F))) := by
  have h7 := hF.1.2.2.1
  exact m_guilt_loop hF hv hM hp (fun _ y => some y) (oN F) 0 1000 (by omega) (by omega)
theorem m_has {b k : Nat} (hb : b < 128) (hk : k < 7) : mm_has (nI b) (nI k) = some (if b.testBit k then 1 else 0) := by
  unfold mm_has
  have h := s_bit b hb k hk
  by_cases hc : b.testBit k = true
  · rw [if_pos (h.mpr hc), if_pos hc]
  · rw [if_neg (fun z => hc (h.mp z)), if_neg hc]
theorem m_weighs_loop (hF : RF F mKind mWind mWeight mSort mOwner mPeople mHours mGrains) {b : Nat} (hb : b < 128) (kx : Int32 → Int32 → Option Int32) :
    ∀ (d k n : Nat), k + d = oN F → d < n → mm_weighs_L4 mGrains mWeight (nI b) kx n (nI k) (nI (zWt F b k)) = kx (nI (oN F)) (nI (zWt F b (oN F))) := by
  have h7 := hF.1.2.2.1
  intro d
  induction d with
  | zero =>
    intro k n hk hn
    obtain ⟨n, rfl⟩ : ∃ m, n = m + 1 := ⟨n - 1, by omega⟩
    obtain rfl : k = oN F := by omega
    rw [mm_weighs_L4.eq_2, hF.2.2.2.1, if_pos ((n_le (by omega) (by omega)).mpr (by omega))]
  | succ d ih =>
    intro k n hk hn
    obtain ⟨n, rfl⟩ : ∃ m, n = m + 1 := ⟨n - 1, by omega⟩
    have hkN : k < oN F := by omega
    simp only [hF.2.2.2.1] at ih
    have ih := ih (k + 1) n (by omega) (by omega)
    rw [mm_weighs_L4.eq_2, hF.2.2.2.1, if_neg (fun z => by have := (n_le (by omega) (by omega)).mp z; omega), m_has hb (by omega), b_s, gI_n (show k < 7 by omega) (by omega), n_cl (show k < 2147483648 by omega), hF.2.2.2.2.2.2.1 k hkN, nI_1, nI_add, add0, ← ih]
    by_cases hc : b.testBit k = true
    · rw [if_pos hc, if_neg (by decide)]
      simp [zWt, hc]
    · rw [if_neg hc, if_pos rfl]
      simp [zWt, hc]
theorem m_weighs (hF : RF F mKind mWind mWeight mSort mOwner mPeople mHours mGrains) {b : Nat} (hb : b < 128) : mm_weighs mGrains mWeight (nI b) = some (nI (zWt F b (oN F))) := by
  have h7 := hF.1.2.2.1
  exact m_weighs_loop hF hb (fun _ y => some y) (oN F) 0 1000 (by omega) (by omega)
theorem m_cleanOnes_loop (hF : RF F mKind mWind mWeight mSort mOwner mPeople mHours mGrains) (hM : RM F mNow 0 S) (kx : Int32 → Int32 → Option Int32) :
    ∀ (d k n : Nat), k + d = oP F → d < n → mm_cleanOnes_L4 mPeople mGrains mOwner mNow kx n (nI k) (nI (zB (fun p => zCl (zB (yL S p) (oN F)) (zB (yR F S) (oN F)) == 1) k)) = kx (nI (oP F)) (nI (zB (fun p => zCl (zB (yL S p) (oN F)) (zB (yR F S) (oN F)) == 1) (oP F))) := by
  have h4 := hF.1.1
  intro d
  induction d with
  | zero =>
    intro k n hk hn
    obtain ⟨n, rfl⟩ : ∃ m, n = m + 1 := ⟨n - 1, by omega⟩
    obtain rfl : k = oP F := by omega
    rw [mm_cleanOnes_L4.eq_2, hF.2.1, if_pos ((n_le (by omega) (by omega)).mpr (by omega))]
  | succ d ih =>
    intro k n hk hn
    obtain ⟨n, rfl⟩ : ∃ m, n = m + 1 := ⟨n - 1, by omega⟩
    have hb := zB_lt (fun p => zCl (zB (yL S p) (oN F)) (zB (yR F S) (oN F)) == 1) k
    simp only [hF.2.1] at ih
    have ih := ih (k + 1) n (by omega) (by omega)
    have hcl := m_clean hF (show 0 ≤ 1 by decide) hM (show k < 16 by omega)
    have hcl : mm_isClean mGrains mOwner mNow 0 (nI k) = _ := hcl
    rw [mm_cleanOnes_L4.eq_2, hF.2.1, if_neg (fun z => by have := (n_le (by omega) (by omega)).mp z; omega), hcl, b_s]
    by_cases hc : zCl (zB (yL S k) (oN F)) (zB (yR F S) (oN F)) = 1
    · rw [hc, if_neg (by decide), nI_1, s_or (by omega) hb, ← ih]
      simp [zB, hc]
    · have h0 : zCl (zB (yL S k) (oN F)) (zB (yR F S) (oN F)) = 0 := by
        unfold zCl at hc ⊢
        split
        · rename_i q
          rw [if_pos q] at hc
          exact absurd rfl hc
        · rfl
      rw [h0, if_pos rfl, nI_1, or0, ← ih]
      simp [zB, h0]
theorem m_cleanOnes (hF : RF F mKind mWind mWeight mSort mOwner mPeople mHours mGrains) (hM : RM F mNow 0 S) : mm_cleanOnes mPeople mGrains mOwner mNow = some (nI (zB (fun p => zCl (zB (yL S p) (oN F)) (zB (yR F S) (oN F)) == 1) (oP F))) := by
  have h4 := hF.1.1
  exact m_cleanOnes_loop hF hM (fun _ y => some y) (oP F) 0 1000 (by omega) (by omega)
/-- a trial is laid: the scene of the second level is that of the first -/
theorem m_lay_loop (now0 : Nat → Int32) (kx : Int32 → (Nat → Int32) → Option (Nat → Int32)) :
    ∀ (d k n : Nat) (now : Nat → Int32), k + d = 9 → d < n → (∀ j, now j = if 9 ≤ j ∧ j < 9 + k then now0 (j - 9) else now0 j) →
      ∃ now1 : Nat → Int32, mm_layTrial_L2 kx n (nI k) now = kx 9 now1 ∧ (∀ j, now1 j = if 9 ≤ j ∧ j < 18 then now0 (j - 9) else now0 j) := by
  intro d
  induction d with
  | zero =>
    intro k n now hk hn h
    obtain ⟨n, rfl⟩ : ∃ m, n = m + 1 := ⟨n - 1, by omega⟩
    obtain rfl : k = 9 := by omega
    refine ⟨now, ?_, h⟩
    rw [mm_layTrial_L2.eq_2, if_pos (by decide)]
    rfl
  | succ d ih =>
    intro k n now hk hn h
    obtain ⟨n, rfl⟩ : ∃ m, n = m + 1 := ⟨n - 1, by omega⟩
    rw [mm_layTrial_L2.eq_2, l9, if_neg (fun z => by have := (n_le (by omega) (by omega)).mp z; omega), gI_n (show k < 18 by omega) (by omega), nI_add, gI_n (show 9 + k < 18 by omega) (by omega), n_cl (show 9 + k < 2147483648 by omega), n_cl (show k < 2147483648 by omega), nI_1]
    refine ih (k + 1) n _ (by omega) (by omega) (fun j => ?_)
    unfold upd
    by_cases hj : j = 9 + k
    · rw [if_pos hj, if_pos (by omega), h k, if_neg (by omega), hj, Nat.add_sub_cancel_left]
    · rw [if_neg hj, h j]
      by_cases q : 9 ≤ j ∧ j < 9 + k
      · rw [if_pos q, if_pos (by omega)]
      · rw [if_neg q, if_neg (by omega)]
theorem m_lay (mNow : Nat → Int32) (F : FD) (S : Sc) (hM : RM F mNow 0 S) (h7 : oN F ≤ 7) : ∃ now1, mm_layTrial mNow = some now1 ∧ RM F now1 9 S ∧ RM F now1 0 S ∧ (∀ j, (j < 9 ∨ 18 ≤ j) → now1 j = mNow j) := by
  obtain ⟨now1, e, q⟩ := m_lay_loop mNow (fun _ y => some y) 9 0 1000 mNow (by omega) (by omega) (fun j => by rw [if_neg (by omega)])
  refine ⟨now1, e, ⟨hM.1, fun g hg => ?_, ?_, ?_⟩, ⟨hM.1, fun g hg => ?_, ?_, ?_⟩, fun j hj => ?_⟩
  · rw [q, if_pos (by omega), Nat.add_sub_cancel_left]
    have := hM.2.1 g hg
    rw [Nat.zero_add] at this
    exact this
  · rw [q, if_pos (by omega)]
    exact hM.2.2.1
  · rw [q, if_pos (by omega)]
    exact hM.2.2.2
  · rw [q, if_neg (by omega)]
    exact hM.2.1 g hg
  · rw [q, if_neg (by omega)]
    exact hM.2.2.1
  · rw [q, if_neg (by omega)]
    exact hM.2.2.2
  · rw [q, if_neg (by omega)]
/-- powers -/
theorem m_power_loop (b : Nat) (e : Nat) (he : e < 100) (kx : Int32 → Int32 → Option Int32) : ∀ (d k n : Nat), k + d = e → d < n → mm_power_L4 (nI b) (nI e) kx n (nI k) (nI (b ^ k)) = kx (nI e) (nI (b ^ e)) := by
  intro d
  induction d with
  | zero =>
    intro k n hk hn
    obtain ⟨n, rfl⟩ : ∃ m, n = m + 1 := ⟨n - 1, by omega⟩
    obtain rfl : k = e := by omega
    rw [mm_power_L4.eq_2, if_pos ((n_le (by omega) (by omega)).mpr (by omega))]
  | succ d ih =>
    intro k n hk hn
    obtain ⟨n, rfl⟩ : ∃ m, n = m + 1 := ⟨n - 1, by omega⟩
    rw [mm_power_L4.eq_2, if_neg (fun z => by have := (n_le (by omega) (by omega)).mp z; omega), nI_1, pk_mul, ← Nat.pow_succ]
    exact ih (k + 1) n (by omega) (by omega)
theorem m_power (b e : Nat) (he : e < 100) : mm_power (nI b) (nI e) = some (nI (b ^ e)) := m_power_loop b e he (fun _ y => some y) e 0 1000 (by omega) (by omega)
/-- ones of a set, as the class counts them -/
def zU (b : Nat) : Nat := (if b.testBit 0 then 1 else 0) + (if b.testBit 1 then 1 else 0) + (if b.testBit 2 then 1 else 0) + (if b.testBit 3 then 1 else 0) + (if b.testBit 4 then 1 else 0) + (if b.testBit 5 then 1 else 0) + (if b.testBit 6 then 1 else 0)
theorem x_bits : ∀ b, b < 128 → ji_bitCount (nI b) = some (nI (zU b)) := by decide +kernel
theorem zU_le (b : Nat) : zU b ≤ 7 := by
  unfold zU
  repeat' split
  all_goals omega
theorem m_ones_loop {b : Nat} (hb : b < 128) (kx : Int32 → Int32 → Option Int32) (n : Nat) : mm_ones_L4 (nI b) kx (n + 8) 0 0 = kx 7 (nI (zU b)) := by
  have hc : ∀ k, k < 7 → ¬ (7 : Int32) ≤ nI k := fun k hk z => by have := (n_Lle (show k < 2147483648 by omega) (by decide)).mp z; omega
  have st : ∀ k, k < 7 → ∀ (m : Nat) (a : Int32), mm_ones_L4 (nI b) kx (m + 1) (nI k) a = mm_ones_L4 (nI b) kx m (nI (k + 1)) (a + (if b.testBit k then 1 else 0)) := by
    intro k hk m a
    rw [mm_ones_L4.eq_2, if_neg (hc k hk), nI_1, s_bit0 b hb k hk]
  have e0 : (0 : Int32) = nI 0 := rfl
  rw [e0, st 0 (by omega), st 1 (by omega), st 2 (by omega), st 3 (by omega), st 4 (by omega), st 5 (by omega), st 6 (by omega), mm_ones_L4.eq_2, if_pos (by decide)]
  have one : ∀ (a : Nat) (c : Bool), nI a + (if c then (1 : Int32) else 0) = nI (a + if c then 1 else 0) := by
    intro a c
    cases c
    · exact nI_add a 0
    · exact nI_add a 1
  rw [one, one, one, one, one, one, one]
  unfold zU
  rw [Nat.zero_add]
  rfl
theorem m_ones {b : Nat} (hb : b < 128) : mm_ones (nI b) = some (nI (zU b)) := m_ones_loop hb (fun _ y => some y) 992
end MN
