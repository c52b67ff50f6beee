/-! ===== share ===== -/
def zAs (F : FD) (S : Sc) (b : Nat) : Nat → Sc
  | 0 => S
  | k + 1 => if b.testBit k then zTo F (zAs F S b k) k 0 else zAs F S b k
theorem zAs_ck (F : FD) (S : Sc) (b : Nat) : ∀ k, (zAs F S b k).2.2 ≤ S.2.2 + k
  | 0 => Nat.le_refl _
  | k + 1 => by
    have := zAs_ck F S b k
    rw [zAs]
    split
    · show (zAs F S b k).2.2 + 1 ≤ _
      omega
    · omega
def zRb (F : FD) (S : Sc) (b : Nat) : Nat := zU (zB (yR F (zAs F S b (oP F))) (oN F))
def zf (n : Nat) : Nat := if n ≤ 1 then 1 else if n = 2 then 2 else if n = 3 then 6 else 24
theorem x_fac : ∀ n, n < 5 → nu_factorial (nI n) = some (nI (zf n)) := by decide +kernel
theorem m_fac : ∀ n, n < 5 → mm_factorial (nI n) = some (nI (zf n)) := by decide +kernel
theorem zf_ok (n : Nat) : 1 ≤ zf n ∧ zf n ≤ 24 := by
  unfold zf
  repeat' split
  all_goals omega
theorem nI_ofInt (n : Nat) : nI n = Int32.ofInt (n : Int) := Int32.ofInt_eq_ofNat.symm
theorem sh_own : ∀ x, x < 16 → ∀ p, p < 4 → ((nI x &&& ((1 : Int32) <<< (nI p &&& 31))) = 0 ↔ x.testBit p = false) := by decide +kernel
theorem sh_or : ∀ x, x < 16 → ∀ p, p < 4 → (nI x ||| ((1 : Int32) <<< (nI p &&& 31))) = nI (x ||| 2 ^ p) ∧ x ||| 2 ^ p < 16 := by decide +kernel
theorem sh_cnt : ∀ P, P < 5 → ∀ p, p < P → ∀ x, x < 2 ^ P → x.testBit p = false → zU x + 1 ≤ P := by decide +kernel
theorem x_gcd : ∀ (b a k n : Nat), a < 2147483648 → b < 2147483648 → b + k < 64 → b < n → nu_commonDivisor_L7 (fun _ _ y => some y) n (nI k) (nI b) (nI a) = some (nI (Nat.gcd b a)) := by
  intro b
  induction b using Nat.strongRecOn with
  | ind b ih =>
    intro a k n ha hb hk hn
    obtain ⟨n, rfl⟩ : ∃ m, n = m + 1 := ⟨n - 1, by omega⟩
    rw [nu_commonDivisor_L7.eq_2, if_neg (fun z => by have := (n_Lle (by omega) (by decide)).mp z; omega)]
    by_cases h : b = 0
    · rw [if_pos ((n_eqL (by omega) (by decide)).mpr h), h, Nat.gcd_zero_left]
    · have hm := Nat.mod_lt a (show 0 < b by omega)
      rw [if_neg (fun z => h ((n_eqL (by omega) (by decide)).mp z)), gD_n (by omega) (by omega), n_rem ha (by omega) hb, nI_1, ih (a % b) hm b (k + 1) n hb (by omega) (by omega) (by omega), Nat.gcd_rec b a]
theorem m_gcd : ∀ (b a n : Nat), a < 2147483648 → b < 2147483648 → b < n → mm_common_L13 (fun _ y => some y) n (nI b) (nI a) = some (nI (Nat.gcd b a)) := by
  intro b
  induction b using Nat.strongRecOn with
  | ind b ih =>
    intro a n ha hb hn
    obtain ⟨n, rfl⟩ : ∃ m, n = m + 1 := ⟨n - 1, by omega⟩
    rw [mm_common_L13.eq_2]
    by_cases h : b = 0
    · rw [if_pos ((n_eqL (by omega) (by decide)).mpr h), h, Nat.gcd_zero_left]
    · have hm := Nat.mod_lt a (show 0 < b by omega)
      rw [if_neg (fun z => h ((n_eqL (by omega) (by decide)).mp z)), gD_n (by omega) (by omega), n_rem ha (by omega) hb, ih (a % b) hm b n hb (by omega) (by omega), Nat.gcd_rec b a]
theorem sh_terms {t : Int32} {z : Int} (ht : t = Int32.ofInt z) (h1 : -100000 ≤ z) (h2 : z ≤ 100000) {f : Nat} (hf1 : 1 ≤ f) (hf2 : f ≤ 24) :
    ∃ g : Nat, 1 ≤ g ∧ g ≤ 24 ∧ mm_common t (nI f) = some (nI g) ∧ (∀ q : Int32, nu_leastTerms t (nI f) q = if q = 0 then some (nI f / nI g) else some (t / nI g)) := by
  have hg : ∀ a, 1 ≤ Nat.gcd f a ∧ Nat.gcd f a ≤ 24 := fun a => ⟨Nat.gcd_pos_of_pos_left a (by omega), Nat.le_trans (Nat.gcd_le_left a (by omega)) hf2⟩
  have hf0 : (0 : Int32) ≤ nI f := (n_Lle (a := f) (c := 0) (by omega) (by decide)).mpr (Nat.zero_le _)
  have hti : t.toInt = z := by
    rw [ht]
    exact Int32.toInt_ofInt_of_le (by omega) (by omega)
  have t0 : (0 : Int32).toInt = 0 := by decide
  have key : ∃ a : Nat, a ≤ 100000 ∧ (if 0 ≤ t then t else 0 - t) = nI a ∧ mm_common t (nI f) = mm_common_L13 (fun _ y => some y) 1000 (nI f) (nI a) := by
    by_cases hz : 0 ≤ z
    · have hc : (0 : Int32) ≤ t := (fa_le _ _).mpr (by omega)
      have e : t = nI z.toNat := by
        rw [ht, nI_ofInt, Int.toNat_of_nonneg hz]
      refine ⟨z.toNat, by omega, by rw [if_pos hc]; exact e, ?_⟩
      unfold mm_common
      rw [if_pos hc, ← e]
    · have hc : ¬ (0 : Int32) ≤ t := fun q => by
        have := (fa_le _ _).mp q
        omega
      have e : -t = nI (-z).toNat := by
        rw [ht, nI_ofInt, Int.toNat_of_nonneg (by omega), Int32.ofInt_neg]
      refine ⟨(-z).toNat, by omega, by rw [if_neg hc, Int32.zero_sub]; exact e, ?_⟩
      unfold mm_common
      rw [if_neg hc, ← e]
  obtain ⟨a, ha, e1, e2⟩ := key
  refine ⟨Nat.gcd f a, (hg a).1, (hg a).2, ?_, fun q => ?_⟩
  · rw [e2, m_gcd f a 1000 (by omega) (by omega) (by omega)]
  · have hga := hg a
    unfold nu_leastTerms nu_commonDivisor
    rw [e1, if_pos hf0]
    have eg : nu_commonDivisor_L7 (fun y4_7 y3_7 y2_7 => (some y2_7)) 1000 0 (nI f) (nI a) = some (nI (Nat.gcd f a)) := x_gcd f a 0 1000 (by omega) (by omega) (by omega) (by omega)
    have em : (if 1 < nI (Nat.gcd f a) then nI (Nat.gcd f a) else 1) = nI (Nat.gcd f a) := by
      by_cases h : 1 < Nat.gcd f a
      · rw [if_pos ((n_Llt (by omega) (by decide)).mpr h)]
      · have : Nat.gcd f a = 1 := by omega
        rw [this]
        rfl
    rw [eg, b_s, em, gD_n (by omega) (by omega), gD_n (by omega) (by omega)]
section O8
variable {F : FD} {fPk fWn fGw fGk fOw : Nat → Int32} {fPe fHo fGr : Int32} {L : Int64} {S U : Sc}
variable {mKind mWind mWeight mSort mOwner mNow now0 now : Nat → Int32} {mPeople mHours mGrains : Int32}
theorem x_rb_loop (hF : RF F fPk fWn fGw fGk fOw fPe fHo fGr) (hk : U.2.2 + 10 < 1048576) {b : Nat} (hb : b < 16) :
    ∀ (d k n : Nat) (L : Int64), k + d = oP F → d < n → RX F L (zAs F U b k) → sh_rightBehind_L6 fPk fWn fGw fGk fOw fPe fHo fGr (nI b) (fun y6_6 y4_6 => (Option.bind (fl_rightBits fOw fGr y4_6) fun q1 => (Option.bind (ji_bitCount q1) fun q2 => (some q2)))) n (nI k) L = some (nI (zRb F U b)) := by
  have h4 := hF.1.1
  intro d
  induction d with
  | zero =>
    intro k n L hkd hn hX
    obtain ⟨n, rfl⟩ : ∃ m, n = m + 1 := ⟨n - 1, by omega⟩
    have c : fPe ≤ nI k := by rw [hF.2.1]; exact (n_le (by omega) (by omega)).mpr (by omega)
    obtain rfl : k = oP F := by omega
    rw [sh_rightBehind_L6.eq_2, if_pos c, x_right hF hX, b_s, x_bits _ (zB_128 hF.1 _), b_s]
    rfl
  | succ d ih =>
    intro k n L hkd hn hX
    obtain ⟨n, rfl⟩ : ∃ m, n = m + 1 := ⟨n - 1, by omega⟩
    have c : ¬ fPe ≤ nI k := by rw [hF.2.1]; exact fun z => by have := (n_le (by omega) (by omega)).mp z; omega
    have ck := zAs_ck F U b k
    rw [sh_rightBehind_L6.eq_2, if_neg c, nI_1]
    by_cases h : b.testBit k = true
    · obtain ⟨L1, e, hX1⟩ := x_tossed hF hX (show k < oP F by omega) (by omega)
      rw [if_pos ((s_bit b (by omega) k (by omega)).mpr h), e, b_s]
      exact ih (k + 1) n L1 (by omega) (by omega) (by rw [zAs, if_pos h]; exact hX1)
    · rw [if_neg (fun z => h ((s_bit b (by omega) k (by omega)).mp z))]
      exact ih (k + 1) n L (by omega) (by omega) (by rw [zAs, if_neg h]; exact hX)
theorem x_rb (hF : RF F fPk fWn fGw fGk fOw fPe fHo fGr) (hX : RX F L S) (hk : S.2.2 + 10 < 1048576) {b : Nat} (hb : b < 16) : sh_rightBehind fPk fWn fGw fGk fOw fPe fHo fGr L (nI b) = some (nI (zRb F S b)) := by
  have h4 := hF.1.1
  exact x_rb_loop hF hk hb (oP F) 0 1000 L (by omega) (by omega) hX
theorem m_rb_loop (hG : RF F mKind mWind mWeight mSort mOwner mPeople mHours mGrains) (hk : U.2.2 + 10 < 1048576) {b : Nat} (hb : b < 16) :
    ∀ (d k n : Nat) (now mv : Nat → Int32), k + d = oP F → d < n → TR F now0 now (zAs F U b k) → ∃ now1 mv1, mm_rightBy_L6 mPeople mHours mGrains mKind mWind mWeight mSort mOwner (nI b) (fun y2_6 mNow_6 mMoved_6 => (Option.bind (mm_rightOn mGrains mOwner mNow_6 1) fun q2 => (Option.bind (mm_ones q2) fun q3 => (some (q3, mNow_6, mMoved_6))))) n (nI k) now mv = some (nI (zRb F U b), now1, mv1) ∧ (∀ j, j < 9 → now1 j = now0 j) := by
  have h4 := hG.1.1
  intro d
  induction d with
  | zero =>
    intro k n now mv hkd hn hT
    obtain ⟨n, rfl⟩ : ∃ m, n = m + 1 := ⟨n - 1, by omega⟩
    have c : mPeople ≤ nI k := by rw [hG.2.1]; exact (n_le (by omega) (by omega)).mpr (by omega)
    obtain rfl : k = oP F := by omega
    refine ⟨now, mv, ?_, hT.2⟩
    rw [mm_rightBy_L6.eq_2, if_pos c, m_right1 hG hT.1, b_s, m_ones (zB_128 hG.1 _), b_s]
    rfl
  | succ d ih =>
    intro k n now mv hkd hn hT
    obtain ⟨n, rfl⟩ : ∃ m, n = m + 1 := ⟨n - 1, by omega⟩
    have c : ¬ mPeople ≤ nI k := by rw [hG.2.1]; exact fun z => by have := (n_le (by omega) (by omega)).mp z; omega
    have ck := zAs_ck F U b k
    rw [mm_rightBy_L6.eq_2, if_neg c, m_has (show b < 128 by omega) (show k < 7 by omega), b_s, nI_1]
    by_cases h : b.testBit k = true
    · obtain ⟨now1, mv1, e, hM1, hq⟩ := m_toss1 hG hT.1 (show k < oP F by omega) (by omega) mv
      obtain ⟨now2, mv2, e2, q⟩ := ih (k + 1) n now1 mv1 (by omega) (by omega) (by rw [zAs, if_pos h]; exact ⟨hM1, fun j hj => (hq j (Or.inl hj)).trans (hT.2 j hj)⟩)
      refine ⟨now2, mv2, ?_, q⟩
      rw [if_pos h, i10, e, b_s]
      exact e2
    · obtain ⟨now2, mv2, e2, q⟩ := ih (k + 1) n now mv (by omega) (by omega) (by rw [zAs, if_neg h]; exact hT)
      refine ⟨now2, mv2, ?_, q⟩
      rw [if_neg h, i00]
      exact e2
theorem m_rb (hG : RF F mKind mWind mWeight mSort mOwner mPeople mHours mGrains) (hM : RM F now 0 S) (hk : S.2.2 + 10 < 1048576) {b : Nat} (hb : b < 16) (mv : Nat → Int32) : ∃ now1 mv1, mm_rightBy mPeople mHours mGrains mKind mWind mWeight mSort mOwner now mv (nI b) = some (nI (zRb F S b), now1, mv1) ∧ RM F now1 0 S := by
  have h4 := hG.1.1
  have h7 := hG.1.2.2.1
  obtain ⟨now1, e1, hM1, hM0, hq⟩ := m_lay now F S hM h7
  obtain ⟨now2, mv2, e2, q⟩ := m_rb_loop hG hk hb (oP F) 0 1000 now1 mv (by omega) (by omega) (now0 := now1) ⟨hM1, fun _ _ => rfl⟩
  refine ⟨now2, mv2, ?_, TR_back h7 hM0 q⟩
  unfold mm_rightBy
  rw [e1, b_s]
  exact e2
theorem op_share_loop (hF : RF F fPk fWn fGw fGk fOw fPe fHo fGr) (hG : RF F mKind mWind mWeight mSort mOwner mPeople mHours mGrains) (hX : RX F L S) (hk : S.2.2 + 10 < 1048576) {p : Nat} (hp : p < oP F) (kx : Int32 → Int32 → (Nat → Int32) → (Nat → Int32) → Option (Int32 × (Nat → Int32) × (Nat → Int32))) :
    ∀ (d k n : Nat) (z : Int) (now mv : Nat → Int32), k + d = 2 ^ oP F → d < n → -(5000 * (k : Int)) ≤ z → z ≤ 5000 * (k : Int) → RM F now 0 S →
      ∃ (z1 : Int) (now1 mv1 : Nat → Int32), sh_gainInAllOrders_L11 fPk fWn fGw fGk fOw fPe fHo fGr L (1 <<< (nI p &&& 31)) (fun y6_11 y5_11 => (some y5_11)) n (nI k) (Int32.ofInt z) = some (Int32.ofInt z1) ∧
        mm_share_L15 mPeople mHours mGrains mKind mWind mWeight mSort mOwner (nI p) kx n (nI k) (Int32.ofInt z) now mv = kx (nI (2 ^ oP F)) (Int32.ofInt z1) now1 mv1 ∧ -100000 ≤ z1 ∧ z1 ≤ 100000 ∧ RM F now1 0 S := by
  have h4 := hF.1.1
  have hp16 : 2 ^ oP F ≤ 16 := Nat.le_trans (Nat.pow_le_pow_right (by decide) h4) (by decide)
  have ex : (1 : Int32) <<< (fPe &&& 31) = nI (2 ^ oP F) := by rw [hF.2.1]; exact s_1 _ (by omega)
  have em : (1 : Int32) <<< (mPeople &&& 31) = nI (2 ^ oP F) := by rw [hG.2.1]; exact s_1 _ (by omega)
  intro d
  induction d with
  | zero =>
    intro k n z now mv hkd hn hz1 hz2 hM
    obtain ⟨n, rfl⟩ : ∃ m, n = m + 1 := ⟨n - 1, by omega⟩
    obtain rfl : k = 2 ^ oP F := by omega
    have c : nI (2 ^ oP F) ≤ nI (2 ^ oP F) := (n_le (by omega) (by omega)).mpr (by omega)
    have hc : ((2 ^ oP F : Nat) : Int) ≤ 16 := by exact_mod_cast hp16
    refine ⟨z, now, mv, ?_, ?_, by omega, by omega, hM⟩
    · rw [sh_gainInAllOrders_L11.eq_2, ex, if_pos c]
    · rw [mm_share_L15.eq_2, em, if_pos c]
  | succ d ih =>
    intro k n z now mv hkd hn hz1 hz2 hM
    obtain ⟨n, rfl⟩ : ∃ m, n = m + 1 := ⟨n - 1, by omega⟩
    have c : ¬ nI (2 ^ oP F) ≤ nI k := fun q => by have := (n_le (by omega) (by omega)).mp q; omega
    rw [sh_gainInAllOrders_L11.eq_2, mm_share_L15.eq_2, ex, em, if_neg c, if_neg c, m_has (show k < 128 by omega) (show p < 7 by omega), b_s, nI_1]
    by_cases h : k.testBit p = true
    · obtain ⟨z1, now1, mv1, a1, a2, a3⟩ := ih (k + 1) n z now mv (by omega) (by omega) (by omega) (by omega) hM
      refine ⟨z1, now1, mv1, ?_, ?_, a3⟩
      · rw [if_neg (fun q => by rw [(sh_own k (by omega) p (by omega)).mp q] at h; cases h)]
        exact a1
      · rw [if_pos h, i10]
        exact a2
    · have hf : k.testBit p = false := by simpa using h
      have hcn := sh_cnt (oP F) (by omega) p hp k (by omega) hf
      obtain ⟨eo, ho⟩ := sh_or k (by omega) p (by omega)
      have e1 : fPe - 1 - nI (zU k) = nI (oP F - 1 - zU k) := by
        have e0 : nI (oP F) - 1 = nI (oP F - 1) := n_subL (c := 1) (show 1 ≤ oP F by omega)
        rw [hF.2.1, e0, pk_sub (by omega)]
      have e2 : mPeople - 1 - nI (zU k) = nI (oP F - 1 - zU k) := by
        have e0 : nI (oP F) - 1 = nI (oP F - 1) := n_subL (c := 1) (show 1 ≤ oP F by omega)
        rw [hG.2.1, e0, pk_sub (by omega)]
      obtain ⟨now1, mv1, m1, hM1⟩ := m_rb hG hM hk (b := k ||| 2 ^ p) ho mv
      obtain ⟨now2, mv2, m2, hM2⟩ := m_rb hG hM1 hk (b := k) (by omega) mv1
      have hA := zf_ok (zU k)
      have hB := zf_ok (oP F - 1 - zU k)
      have hC : zRb F S (k ||| 2 ^ p) ≤ 7 := zU_le _
      have hD : zRb F S k ≤ 7 := zU_le _
      have key : ∀ A B C D : Nat, A ≤ 24 → B ≤ 24 → C ≤ 7 → D ≤ 7 → ∃ y : Int, Int32.ofInt z + nI A * nI B * (nI C - nI D) = Int32.ofInt y ∧ -(5000 * ((k + 1 : Nat) : Int)) ≤ y ∧ y ≤ 5000 * ((k + 1 : Nat) : Int) := by
        intro A B C D a b c d
        have hW : A * B ≤ 24 * 24 := Nat.mul_le_mul a b
        have hWC : A * B * C ≤ 24 * 24 * 7 := Nat.mul_le_mul hW c
        have hWD : A * B * D ≤ 24 * 24 * 7 := Nat.mul_le_mul hW d
        refine ⟨z + (((A * B * C : Nat) : Int) - ((A * B * D : Nat) : Int)), ?_, by omega, by omega⟩
        rw [Int32.ofInt_add, Int32.ofInt_sub, ← nI_ofInt, ← nI_ofInt, ← pk_mul, ← pk_mul, ← pk_mul, ← pk_mul, Int32.mul_sub]
      obtain ⟨y, ey, hy1, hy2⟩ := key (zf (zU k)) (zf (oP F - 1 - zU k)) (zRb F S (k ||| 2 ^ p)) (zRb F S k) hA.2 hB.2 hC hD
      obtain ⟨z1, now3, mv3, a1, a2, a3⟩ := ih (k + 1) n y now2 mv2 (by omega) (by omega) hy1 hy2 hM2
      refine ⟨z1, now3, mv3, ?_, ?_, a3⟩
      · rw [if_pos ((sh_own k (by omega) p (by omega)).mpr hf), x_bits k (by omega), b_s, x_fac _ (by omega), b_s, e1, x_fac _ (by omega), b_s, eo, x_rb hF hX hk ho, b_s, x_rb hF hX hk (show k < 16 by omega), b_s, ey]
        exact a1
      · rw [if_neg h, i00, m_ones (show k < 128 by omega), b_s, m_fac _ (by omega), b_s, b_s, e2, m_fac _ (by omega), b_s, eo, m1, b_s, m2, b_s, ey]
        exact a2
theorem op_share (hF : RF F fPk fWn fGw fGk fOw fPe fHo fGr) (hG : RF F mKind mWind mWeight mSort mOwner mPeople mHours mGrains) (hX : RX F L S) (hM : RM F mNow 0 S) (hk : S.2.2 < 1000) (mv : Nat → Int32) (p q : Int32) :
    ∃ r now1 mv1, xx_share L fPk fWn fGw fGk fOw fPe fHo fGr p q = some r ∧ mm_share mPeople mHours mGrains mKind mWind mWeight mSort mOwner mNow mv p q = some (r, now1, mv1) ∧ RM F now1 0 S := by
  have h4 := hF.1.1
  have hp16 : 2 ^ oP F ≤ 16 := Nat.le_trans (Nat.pow_le_pow_right (by decide) h4) (by decide)
  have bad : (p < 0 ∨ nI (oP F) ≤ p) → ∃ r now1 mv1, xx_share L fPk fWn fGw fGk fOw fPe fHo fGr p q = some r ∧ mm_share mPeople mHours mGrains mKind mWind mWeight mSort mOwner mNow mv p q = some (r, now1, mv1) ∧ RM F now1 0 S := fun h => by
    refine ⟨-1, mNow, mv, ?_, ?_, hM⟩
    · unfold xx_share
      rw [x_per0 hF h, b_s, if_pos rfl]
    · unfold mm_share
      rw [m_per0 hG h, b_s, if_pos rfl]
  rcases pk_ix p (show oP F < 2 ^ 31 by omega) with h | h | ⟨j, hj, rfl⟩
  · exact bad (Or.inl h)
  · exact bad (Or.inr h)
  · obtain ⟨z1, now1, mv1, a1, a2, hz1, hz2, hM1⟩ := op_share_loop hF hG hX (by omega) hj (fun y4_15 y3_15 mNow_15 mMoved_15 => (Option.bind (mm_factorial mPeople) fun q3 => (Option.bind (mm_common y3_15 q3) fun q4 => (if q = 0 then (Option.bind (mm_factorial mPeople) fun q6 => (gD q4 (some ((q6 / q4), mNow_15, mMoved_15)))) else (gD q4 (some ((y3_15 / q4), mNow_15, mMoved_15))))))) (2 ^ oP F) 0 1000 0 mNow mv (by omega) (by omega) (by omega) (by omega) hM
    obtain ⟨g, hg1, hg2, ec, el⟩ := sh_terms (t := Int32.ofInt z1) rfl hz1 hz2 (zf_ok (oP F)).1 (zf_ok (oP F)).2
    have eF : mm_factorial mPeople = some (nI (zf (oP F))) := by rw [hG.2.1, m_fac _ (by omega)]
    have eX : nu_factorial fPe = some (nI (zf (oP F))) := by rw [hF.2.1, x_fac _ (by omega)]
    have ex : xx_share L fPk fWn fGw fGk fOw fPe fHo fGr (nI j) q = if q = 0 then some (nI (zf (oP F)) / nI g) else some (Int32.ofInt z1 / nI g) := by
      unfold xx_share sh_gainInAllOrders
      rw [x_perT hF hj, b_s, i10]
      have a1' : sh_gainInAllOrders_L11 fPk fWn fGw fGk fOw fPe fHo fGr L (1 <<< (nI j &&& 31)) (fun y6_11 y5_11 => (some y5_11)) 1000 0 0 = some (Int32.ofInt z1) := a1
      rw [a1', b_s, eX, b_s, el q]
      split <;> rfl
    have emm : mm_share mPeople mHours mGrains mKind mWind mWeight mSort mOwner mNow mv (nI j) q = if q = 0 then some (nI (zf (oP F)) / nI g, now1, mv1) else some (Int32.ofInt z1 / nI g, now1, mv1) := by
      unfold mm_share
      rw [m_perT hG hj, b_s, i10]
      refine Eq.trans a2 ?_
      show Option.bind (mm_factorial mPeople) _ = _
      rw [eF, b_s, ec, b_s, b_s, gD_n (by omega) (by omega), gD_n (by omega) (by omega)]
    by_cases hq : q = 0
    · rw [if_pos hq] at ex emm
      exact ⟨_, now1, mv1, ex, emm, hM1⟩
    · rw [if_neg hq] at ex emm
      exact ⟨_, now1, mv1, ex, emm, hM1⟩
end O8
