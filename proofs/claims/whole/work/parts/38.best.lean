/-! ===== best, fewest: the model ===== -/
def zAn (f : Nat → Bool) : Nat → Bool
  | 0 => false
  | k + 1 => zAn f k || f k
theorem zAn_cong {f g : Nat → Bool} : ∀ k, (∀ i, i < k → f i = g i) → zAn f k = zAn g k
  | 0, _ => rfl
  | k + 1, h => by
    rw [zAn, zAn, zAn_cong k (fun i hi => h i (by omega)), h k (by omega)]
theorem zAn_none {f : Nat → Bool} : ∀ k, (∀ i, i < k → f i = false) → zAn f k = false
  | 0, _ => rfl
  | k + 1, h => by
    rw [zAn, zAn_none k (fun i hi => h i (by omega)), h k (by omega)]
    rfl
theorem zAn_add (f : Nat → Bool) (a : Nat) : ∀ b, zAn f (a + b) = (zAn f a || zAn (fun i => f (a + i)) b)
  | 0 => by simp [zAn]
  | b + 1 => by
    rw [← Nat.add_assoc, zAn, zAn_add f a b, Bool.or_assoc]
    rfl
def zCp (F : FD) (p : Nat) (U : Sc) : Bool := zCl (zB (yL U p) (oN F)) (zB (yR F U) (oN F)) == 1
def zOw (F : FD) (p d : Nat) (U : Sc) (x : Nat) : Bool := match zDo F d U x with
  | none => false
  | some U1 => zCp F p U1
theorem zOw_blk (F : FD) (p d : Nat) (U : Sc) (t i : Nat) (hi : i < 5 ^ d) : zOw F p (d + 1) U (t * 5 ^ d + i) = (zIs F t && zOw F p d (zTu F U t) i) := by
  have h5 : 0 < 5 ^ d := Nat.pow_pos (by decide)
  have e1 : (t * 5 ^ d + i) / 5 ^ d = t := by
    rw [Nat.mul_comm, Nat.mul_add_div h5, Nat.div_eq_of_lt hi, Nat.add_zero]
  have e2 : (t * 5 ^ d + i) % 5 ^ d = i := by
    rw [Nat.mul_comm, Nat.mul_add_mod, Nat.mod_eq_of_lt hi]
  unfold zOw
  rw [zDo, e1, e2]
  cases zIs F t <;> rfl
theorem zAn_blk (F : FD) (p d : Nat) (U : Sc) (t : Nat) : zAn (zOw F p (d + 1) U) ((t + 1) * 5 ^ d) = (zAn (zOw F p (d + 1) U) (t * 5 ^ d) || (zIs F t && zAn (zOw F p d (zTu F U t)) (5 ^ d))) := by
  rw [Nat.succ_mul, zAn_add]
  congr 1
  cases h : zIs F t with
  | true => exact zAn_cong _ (fun i hi => by rw [zOw_blk F p d U t i hi, h]; rfl)
  | false => exact zAn_none _ (fun i hi => by rw [zOw_blk F p d U t i hi, h]; rfl)
section O13
variable {F : FD} {fPk fWn fGw fGk fOw : Nat → Int32} {fPe fHo fGr : Int32} {L : Int64} {S U : Sc}
variable {mKind mWind mWeight mSort mOwner mNow now0 now : Nat → Int32} {mPeople mHours mGrains : Int32}
theorem m_pow5 {n0 k : Nat} (hk : k < n0) (hn0 : n0 ≤ 4) : mm_power 5 ((nI n0 - 1) - nI k) = some (nI (5 ^ (n0 - 1 - k))) := by
  have e0 : nI n0 - 1 = nI (n0 - 1) := n_subL (c := 1) (show 1 ≤ n0 by omega)
  have es : (nI n0 - 1) - nI k = nI (n0 - 1 - k) := by rw [e0, pk_sub (by omega)]
  rw [es]
  exact m_power 5 (n0 - 1 - k) (by omega)
theorem m_digit {n0 k x : Nat} (hk : k < n0) (hn0 : n0 ≤ 4) (hx : x < 5 ^ n0) : nI x / nI (5 ^ (n0 - 1 - k)) - nI x / nI (5 ^ (n0 - 1 - k)) / 5 * 5 = nI (x % 5 ^ (n0 - k) / 5 ^ (n0 - 1 - k)) ∧ x % 5 ^ (n0 - k) / 5 ^ (n0 - 1 - k) < 5 ∧ x % 5 ^ (n0 - k) % 5 ^ (n0 - 1 - k) = x % 5 ^ (n0 - 1 - k) ∧ 0 < 5 ^ (n0 - 1 - k) ∧ 5 ^ (n0 - 1 - k) ≤ 625 := by
  have hp4 : (5 : Nat) ^ (n0 - 1 - k) ≤ 5 ^ 4 := Nat.pow_le_pow_right (by decide) (by omega)
  have hp0 : 0 < (5 : Nat) ^ (n0 - 1 - k) := Nat.pow_pos (by decide)
  have hx4 : (5 : Nat) ^ n0 ≤ 5 ^ 4 := Nat.pow_le_pow_right (by decide) (by omega)
  have hp4' : (5 : Nat) ^ 4 = 625 := rfl
  have hlt : x / 5 ^ (n0 - 1 - k) < 2147483648 := Nat.lt_of_le_of_lt (Nat.div_le_self _ _) (by omega)
  have e : 5 ^ (n0 - k) = 5 ^ (n0 - 1 - k) * 5 := by
    rw [← Nat.pow_succ]
    congr 1
    omega
  have em : x % 5 ^ (n0 - k) / 5 ^ (n0 - 1 - k) = x / 5 ^ (n0 - 1 - k) % 5 := by
    rw [e, Nat.mod_mul_right_div_self]
  refine ⟨?_, ?_, ?_, hp0, by omega⟩
  · rw [n_div (by omega) hp0 (by omega), n_remL hlt (by decide) (by decide), em]
  · rw [em]
    exact Nat.mod_lt _ (by decide)
  · rw [e]
    exact Nat.mod_mul_right_mod _ _ _
theorem m_row_loop (hG : RF F mKind mWind mWeight mSort mOwner mPeople mHours mGrains) {n0 x : Nat} (hn0 : n0 ≤ 4) (hx : x < 5 ^ n0) :
    ∀ (d k n : Nat) (now mv : Nat → Int32) (U : Sc), k + d = n0 → d < n → TR F now0 now U → U.2.2 + d < 5000 →
      ∃ (r : Int32) (now1 mv1 : Nat → Int32), mm_doRow_L6 mPeople mHours mGrains mKind mWind mWeight mSort mOwner (nI n0) (nI x) (fun y3_6 mNow_6 mMoved_6 => (some (1, mNow_6, mMoved_6))) n (nI k) now mv = some (r, now1, mv1) ∧ (∀ j, j < 9 → now1 j = now0 j) ∧ ((∃ U1, zDo F d U (x % 5 ^ d) = some U1 ∧ r = 1 ∧ RM F now1 9 U1) ∨ (zDo F d U (x % 5 ^ d) = none ∧ r = 0)) := by
  have h4 := hG.1.1
  intro d
  induction d with
  | zero =>
    intro k n now mv U hkd hn hT hk
    obtain ⟨n, rfl⟩ : ∃ m, n = m + 1 := ⟨n - 1, by omega⟩
    obtain rfl : k = n0 := by omega
    exact ⟨1, now, mv, by rw [mm_doRow_L6.eq_2, if_pos ((n_le (by omega) (by omega)).mpr (Nat.le_refl _))], hT.2, Or.inl ⟨U, rfl, rfl, hT.1⟩⟩
  | succ d ih =>
    intro k n now mv U hkd hn hT hk
    obtain ⟨n, rfl⟩ : ∃ m, n = m + 1 := ⟨n - 1, by omega⟩
    obtain ⟨ed, hd5, em, hp0, hp6⟩ := m_digit (show k < n0 by omega) hn0 hx
    have ew : mm_power 5 ((nI n0 - 1) - nI k) = some (nI (5 ^ (n0 - 1 - k))) := m_pow5 (by omega) hn0
    have e1 : n0 - k = d + 1 := by omega
    have e2 : n0 - 1 - k = d := by omega
    rw [e2] at hp0 hp6 ew
    rw [e1, e2] at ed hd5 em
    rw [mm_doRow_L6.eq_2, if_neg (fun z => by have := (n_le (by omega) (by omega)).mp z; omega), ew, b_s, gD_n hp0 (by omega), ed, nI_1, zDo, em]
    by_cases ht : zIs F (x % 5 ^ (d + 1) / 5 ^ d) = true
    · obtain ⟨now1, mv1, e, hT1⟩ := m_turn hG hT ht (by omega) mv
      rw [e, b_s, i10, if_pos ht]
      exact ih (k + 1) n now1 mv1 _ (by omega) (by omega) hT1 (by rw [zTu_ck]; omega)
    · rw [m_turnF hG (by simpa using ht) (by omega), b_s, i00, if_neg ht]
      exact ⟨0, now, mv, rfl, hT.2, Or.inr ⟨rfl, rfl⟩⟩
theorem m_row (hG : RF F mKind mWind mWeight mSort mOwner mPeople mHours mGrains) (hM : RM F now 0 S) {n0 x : Nat} (hn0 : n0 ≤ 4) (hx : x < 5 ^ n0) (hk : S.2.2 < 1000) (mv : Nat → Int32) :
    ∃ (r : Int32) (now1 mv1 : Nat → Int32), mm_doRow mPeople mHours mGrains mKind mWind mWeight mSort mOwner now mv (nI n0) (nI x) = some (r, now1, mv1) ∧ RM F now1 0 S ∧ ((∃ U1, zDo F n0 S x = some U1 ∧ r = 1 ∧ RM F now1 9 U1) ∨ (zDo F n0 S x = none ∧ r = 0)) := by
  have h4 := hG.1.1
  have h7 := hG.1.2.2.1
  obtain ⟨now1, e1, hM1, hM0, hq⟩ := m_lay now F S hM h7
  obtain ⟨r, now2, mv2, e2, q, h⟩ := m_row_loop hG hn0 hx n0 0 1000 now1 mv S (by omega) (by omega) (now0 := now1) ⟨hM1, fun _ _ => rfl⟩ (by omega)
  rw [Nat.mod_eq_of_lt hx] at h
  refine ⟨r, now2, mv2, ?_, TR_back h7 hM0 q, h⟩
  unfold mm_doRow
  rw [e1, b_s]
  exact e2
/-- how the model holds the best row so far -/
def RQ (acc : Option (Nat × Nat)) (x y : Int32) : Prop := (acc = none ∧ x = 0 ∧ y = -9) ∨ ∃ a, acc = some a ∧ x = nI a.2 ∧ y = nI a.1
theorem m_best_loop (hG : RF F mKind mWind mWeight mSort mOwner mPeople mHours mGrains) {n0 : Nat} (hn0 : n0 ≤ 4) (hk : S.2.2 < 1000) (kx : Int32 → Int32 → Int32 → (Nat → Int32) → (Nat → Int32) → Option (Int32 × (Nat → Int32) × (Nat → Int32))) :
    ∀ (d k n : Nat) (x y : Int32) (now mv : Nat → Int32), k + d = 5 ^ n0 → d < n → RQ (zMx (zVl F n0 S) k) x y → RM F now 0 S →
      ∃ x1 y1 now1 mv1, mm_best_L24 mPeople mHours mGrains mKind mWind mWeight mSort mOwner (nI n0) kx n (nI k) x y now mv = kx (nI (5 ^ n0)) x1 y1 now1 mv1 ∧ RQ (zMx (zVl F n0 S) (5 ^ n0)) x1 y1 ∧ RM F now1 0 S := by
  have h4 := hG.1.1
  have h7 := hG.1.2.2.1
  have hp4 : (5 : Nat) ^ n0 ≤ 5 ^ 4 := Nat.pow_le_pow_right (by decide) (by omega)
  have hp4' : (5 : Nat) ^ 4 = 625 := rfl
  have ew : mm_power 5 (nI n0) = some (nI (5 ^ n0)) := m_power 5 n0 (by omega)
  intro d
  induction d with
  | zero =>
    intro k n x y now mv hkd hn hR hM
    obtain ⟨n, rfl⟩ : ∃ m, n = m + 1 := ⟨n - 1, by omega⟩
    obtain rfl : k = 5 ^ n0 := by omega
    exact ⟨x, y, now, mv, by rw [mm_best_L24.eq_2, ew, b_s, if_pos ((n_le (by omega) (by omega)).mpr (Nat.le_refl _))], hR, hM⟩
  | succ d ih =>
    intro k n x y now mv hkd hn hR hM
    obtain ⟨n, rfl⟩ : ∃ m, n = m + 1 := ⟨n - 1, by omega⟩
    obtain ⟨r, now1, mv1, e, hM1, h⟩ := m_row hG hM hn0 (show k < 5 ^ n0 by omega) hk mv
    rw [mm_best_L24.eq_2, ew, b_s, if_neg (fun z => by have := (n_le (by omega) (by omega)).mp z; omega), e, b_s, nI_1]
    rcases h with ⟨U1, hz, rfl, hM9⟩ | ⟨hz, rfl⟩
    · have hv : zVl F n0 S k = some (zRg F U1) := by unfold zVl; rw [hz]; rfl
      have hr7 : zRg F U1 ≤ 7 := zU_le _
      have hmx : zMx (zVl F n0 S) (k + 1) = zCb (zMx (zVl F n0 S) k) (some (zRg F U1, k)) := by rw [zMx, hv]; rfl
      have eo : mm_ones (nI (zB (yR F U1) (oN F))) = some (nI (zRg F U1)) := m_ones (zB_128 hG.1 _)
      rw [i10, m_right1 hG hM9, b_s, b_s, eo, b_s, b_s]
      rcases hR with ⟨hn0', rfl, rfl⟩ | ⟨a, ha, rfl, rfl⟩
      · rw [hn0'] at hmx
        rw [if_neg (fun z => by
          have z1 := (fa_le _ _).mp z
          rw [nI_toInt (by omega)] at z1
          have z2 : (-9 : Int32).toInt = -9 := by decide
          omega)]
        exact ih (k + 1) n _ _ now1 mv1 (by omega) (by omega) (Or.inr ⟨_, hmx, rfl, rfl⟩) hM1
      · have ha7 : a.1 ≤ 7 := zVl_le (zMx_ok _ _ _ ha).2
        rw [ha, zCb_some] at hmx
        by_cases hc : zRg F U1 ≤ a.1
        · rw [if_pos ((n_le (by omega) (by omega)).mpr hc)]
          rw [if_pos hc] at hmx
          exact ih (k + 1) n _ _ now1 mv1 (by omega) (by omega) (Or.inr ⟨_, hmx, rfl, rfl⟩) hM1
        · rw [if_neg (fun z => hc ((n_le (by omega) (by omega)).mp z))]
          rw [if_neg hc] at hmx
          exact ih (k + 1) n _ _ now1 mv1 (by omega) (by omega) (Or.inr ⟨_, hmx, rfl, rfl⟩) hM1
    · have hv : zVl F n0 S k = none := by unfold zVl; rw [hz]; rfl
      have hmx : zMx (zVl F n0 S) (k + 1) = zMx (zVl F n0 S) k := by rw [zMx, hv]; exact zCb_none _
      rw [i00]
      exact ih (k + 1) n _ _ now1 mv1 (by omega) (by omega) (by rw [hmx]; exact hR) hM1
theorem m_best81 {n0 r : Nat} (hn0 : n0 ≤ 4) (hr : r < 5 ^ n0) (kx : Int32 → Int32 → Option (Int32 × (Nat → Int32) × (Nat → Int32))) :
    ∀ (d k n pre : Nat), k + d = n0 → d < n → mm_best_L81 (nI n0) (nI r) kx n (nI k) (nI pre) = kx (nI n0) (nI (zDc d pre (r % 5 ^ d))) := by
  intro d
  induction d with
  | zero =>
    intro k n pre hkd hn
    obtain ⟨n, rfl⟩ : ∃ m, n = m + 1 := ⟨n - 1, by omega⟩
    obtain rfl : k = n0 := by omega
    rw [mm_best_L81.eq_2, if_pos ((n_le (by omega) (by omega)).mpr (Nat.le_refl _)), zDc]
  | succ d ih =>
    intro k n pre hkd hn
    obtain ⟨n, rfl⟩ : ∃ m, n = m + 1 := ⟨n - 1, by omega⟩
    obtain ⟨ed, hd5, em, hp0, hp6⟩ := m_digit (show k < n0 by omega) hn0 hr
    have ew : mm_power 5 ((nI n0 - 1) - nI k) = some (nI (5 ^ (n0 - 1 - k))) := m_pow5 (by omega) hn0
    have e1 : n0 - k = d + 1 := by omega
    have e2 : n0 - 1 - k = d := by omega
    rw [e2] at hp0 hp6 ew
    rw [e1, e2] at ed hd5 em
    rw [mm_best_L81.eq_2, if_neg (fun z => by have := (n_le (by omega) (by omega)).mp z; omega), ew, b_s, gD_n hp0 (by omega), ed, nI_1, l10, pk_mul, nI_add, zDc, em]
    exact ih (k + 1) n _ (by omega) (by omega)
theorem op_best (hF : RF F fPk fWn fGw fGk fOw fPe fHo fGr) (hG : RF F mKind mWind mWeight mSort mOwner mPeople mHours mGrains) (hX : RX F L S) (hM : RM F mNow 0 S) (hk : S.2.2 < 1000) (mv : Nat → Int32) (p q : Int32) :
    ∃ r now1 mv1, xx_best L fPk fWn fGw fGk fOw fPe fHo fGr p q = some r ∧ mm_best mPeople mHours mGrains mKind mWind mWeight mSort mOwner mNow mv p q = some (r, now1, mv1) ∧ RM F now1 0 S := by
  have em : ∀ x : Int32, mm_in (Int32.toInt64 x) 1 4 = mm_in (Int32.toInt64 x) (Int32.toInt64 (nI 1)) (Int32.toInt64 (nI 4)) := fun x => rfl
  have t0 : (0 : Int32).toInt = 0 := by decide
  have t1 : (1 : Int32).toInt = 1 := by decide
  have t4 : (4 : Int32).toInt = 4 := by decide
  have t4' : (nI 4).toInt = 4 := by decide
  have t5' : (nI 5).toInt = 5 := by decide
  unfold xx_best mm_best
  by_cases hp1 : p < 1
  · exact ⟨-2, mNow, mv, by rw [if_pos hp1], by rw [em, m_inF (Or.inl hp1), b_s, i00], hM⟩
  · rw [if_neg hp1]
    rcases pk_ix p (show 5 < 2 ^ 31 by omega) with h | h | ⟨d, hd, rfl⟩
    · exact absurd ((fa_lt _ _).mpr (by have := (fa_lt _ _).mp h; omega)) hp1
    · have h' := (fa_le _ _).mp h
      have hp4 : ¬ p ≤ 4 := fun z => by have := (fa_le _ _).mp z; omega
      exact ⟨-2, mNow, mv, by rw [if_neg hp4], by rw [em, m_inF (Or.inr ((fa_lt _ _).mpr (by omega))), b_s, i00], hM⟩
    · have hd1 : 1 ≤ d := by
        rcases Nat.lt_or_ge d 1 with h | h
        · exact absurd ((n_ltL (by omega) (by decide)).mpr h) hp1
        · exact h
      have hp4 : (5 : Nat) ^ d ≤ 5 ^ 4 := Nat.pow_le_pow_right (by decide) (by omega)
      have hp4' : (5 : Nat) ^ 4 = 625 := rfl
      have ht4 : (10 : Nat) ^ d ≤ 10 ^ 4 := Nat.pow_le_pow_right (by decide) (by omega)
      have ht4' : (10 : Nat) ^ 4 = 10000 := rfl
      obtain ⟨a, ha, ea⟩ := x_most hF d 6 L S 1 (by omega) (by omega) hX (by omega) (by omega)
      have ea' : tu_mostRight fPk fWn fGw fGk fOw fPe fHo fGr 6 L (nI d) 1 = some (nI (a.1 * 100000 + zDc d 1 a.2)) := ea
      have hav : a.1 ≤ 7 := zVl_le (zMx_ok _ _ _ ha).2
      have hai := (zMx_ok _ _ _ ha).1
      have hdc : zDc d 1 a.2 < 100000 := zDc_lt d 1 _ hai (by omega)
      have hmod : (a.1 * 100000 + zDc d 1 a.2) % 100000 = zDc d 1 a.2 := by omega
      have hdiv : (a.1 * 100000 + zDc d 1 a.2) / 100000 = a.1 := by omega
      have ed : nI (a.1 * 100000 + zDc d 1 a.2) / 100000 = nI a.1 := by
        have := n_divL (a := a.1 * 100000 + zDc d 1 a.2) (c := 100000) (by omega) (by decide) (by decide)
        exact Eq.trans this (congrArg nI hdiv)
      have er : nI (a.1 * 100000 + zDc d 1 a.2) - nI (a.1 * 100000 + zDc d 1 a.2) / 100000 * 100000 = nI (zDc d 1 a.2) := by
        have := n_remL (a := a.1 * 100000 + zDc d 1 a.2) (c := 100000) (by omega) (by decide) (by decide)
        exact Eq.trans this (congrArg nI hmod)
      obtain ⟨x1, y1, now1, mv1, a2, hR, hM1⟩ := m_best_loop hG (show d ≤ 4 by omega) hk (fun y5_24 y4_24 y3_24 mNow_24 mMoved_24 => (mm_best_L81 (nI d) y4_24 (fun y6_81 y5_81 => (if q = 0 then (some (y3_24, mNow_24, mMoved_24)) else (some (y5_81, mNow_24, mMoved_24)))) 1000 0 1)) (5 ^ d) 0 1000 0 (-9) mNow mv (by omega) (by omega) (Or.inl ⟨rfl, rfl, rfl⟩) hM
      rcases hR with ⟨hn0, -, -⟩ | ⟨b, hb, rfl, rfl⟩
      · rw [ha] at hn0
        cases hn0
      · rw [ha] at hb
        cases hb
        refine ⟨if q = 0 then nI a.1 else nI (zDc d 1 a.2), now1, mv1, ?_, ?_, hM1⟩
        · rw [if_pos ((n_leL (by omega) (by decide)).mpr (show d ≤ 4 by omega)), ea', b_s, er, ed]
          split <;> rfl
        · rw [em, m_inT hd1 (show d ≤ 4 by omega) (by decide), b_s, i10]
          refine Eq.trans a2 ?_
          have h81 := m_best81 (show d ≤ 4 by omega) hai (fun y6_81 y5_81 => (if q = 0 then (some (nI a.1, now1, mv1)) else (some (y5_81, now1, mv1)))) d 0 1000 1 (by omega) (by omega)
          rw [Nat.mod_eq_of_lt hai] at h81
          refine Eq.trans h81 ?_
          by_cases hq : q = 0
          · simp only [if_pos hq]
          · simp only [if_neg hq]
theorem x_canC (hF : RF F fPk fWn fGw fGk fOw fPe fHo fGr) {p : Nat} (hp : p < oP F) :
    ∀ (d dd : Nat) (L : Int64) (U : Sc), d < dd → d ≤ 4 → RX F L U → U.2.2 + d < 1048576 →
      tu_canBeClean fPk fWn fGw fGk fOw fPe fHo fGr dd L (nI p) (nI d) = some (if zAn (zOw F p d U) (5 ^ d) then 1 else 0) := by
  have h4 := hF.1.1
  intro d
  induction d with
  | zero =>
    intro dd L U hdd hd hX hk
    obtain ⟨dd, rfl⟩ : ∃ m, dd = m + 1 := ⟨dd - 1, by omega⟩
    have e : zAn (zOw F p 0 U) (5 ^ 0) = zCp F p U := by
      show (false || zCp F p U) = _
      rfl
    rw [tu_canBeClean.eq_2, if_neg (show ¬ (0 : Int32) < nI 0 by decide), x_clean hF hX (show p < 16 by omega), b_s, e]
    unfold zCp
    rcases zCl_01 (zB (yL U p) (oN F)) (zB (yR F U) (oN F)) with q | q
    · rw [q]
      exact gZ_1
    · rw [q]
      exact gZ_0
  | succ d ih =>
    intro dd L U hdd hd hX hk
    obtain ⟨dd, rfl⟩ : ∃ m, dd = m + 1 := ⟨dd - 1, by omega⟩
    have c : (0 : Int32) < nI (d + 1) := (n_Llt (c := 0) (by omega) (by decide)).mpr (show 0 < d + 1 by omega)
    have e1 : nI (d + 1) - 1 = nI d := n_subL (a := d + 1) (c := 1) (show 1 ≤ d + 1 by omega)
    have ep : 5 ^ (d + 1) = 5 * 5 ^ d := by rw [Nat.pow_succ, Nat.mul_comm]
    have loop : ∀ (e t n : Nat), t + e = 5 → e < n → zAn (zOw F p (d + 1) U) (t * 5 ^ d) = false →
        tu_canBeClean_L15 (tu_canBeClean fPk fWn fGw fGk fOw fPe fHo fGr dd) fPk fWn fGw fGk fOw fPe fHo fGr L (nI p) (nI (d + 1)) (fun y5_15 => (some 0)) n (nI t) = some (if zAn (zOw F p (d + 1) U) (5 * 5 ^ d) then 1 else 0) := by
      intro e
      induction e with
      | zero =>
        intro t n hte hn hR
        obtain ⟨n, rfl⟩ : ∃ m, n = m + 1 := ⟨n - 1, by omega⟩
        obtain rfl : t = 5 := by omega
        rw [tu_canBeClean_L15.eq_2, if_pos (show (4 : Int32) < nI 5 by decide), hR]
        rfl
      | succ e ihe =>
        intro t n hte hn hR
        obtain ⟨n, rfl⟩ : ∃ m, n = m + 1 := ⟨n - 1, by omega⟩
        have hblk := zAn_blk F p d U t
        rw [hR, Bool.false_or] at hblk
        rw [tu_canBeClean_L15.eq_2, if_neg (fun z => by have : 4 < t := (n_Llt (by omega) (by decide)).mp z; omega), x_isTurn hF (by omega), b_s, nI_1]
        by_cases ht : zIs F t = true
        · obtain ⟨L1, e2, hX1⟩ := x_turned hF hX ht (by omega)
          have ih1 := ih dd L1 (zTu F U t) (by omega) (by omega) hX1 (by rw [zTu_ck]; omega)
          rw [ht, Bool.true_and] at hblk
          rw [if_pos ht, i10, e2, b_s, e1, ih1, b_s]
          by_cases hz : zAn (zOw F p d (zTu F U t)) (5 ^ d) = true
          · rw [if_pos hz, i10]
            rw [hz] at hblk
            have : zAn (zOw F p (d + 1) U) (5 * 5 ^ d) = true := by
              have e5 : 5 * 5 ^ d = (t + 1) * 5 ^ d + e * 5 ^ d := by rw [← Nat.add_mul]; congr 1; omega
              rw [e5, zAn_add, hblk]
              rfl
            rw [this]
            rfl
          · rw [if_neg hz, i00]
            exact ihe (t + 1) n (by omega) (by omega) (by rw [hblk]; simpa using hz)
        · rw [if_neg ht, i00]
          have ht' : zIs F t = false := by simpa using ht
          rw [ht', Bool.false_and] at hblk
          exact ihe (t + 1) n (by omega) (by omega) hblk
    rw [tu_canBeClean.eq_2, if_pos c, ep]
    exact loop 5 0 1000 (by omega) (by omega) (by rw [Nat.zero_mul]; rfl)
theorem m_few19 (hG : RF F mKind mWind mWeight mSort mOwner mPeople mHours mGrains) {p n0 : Nat} (hp : p < oP F) (hn0 : n0 ≤ 4) (hk : S.2.2 < 1000) (kx : Int32 → (Nat → Int32) → (Nat → Int32) → Option (Int32 × (Nat → Int32) × (Nat → Int32))) :
    ∀ (d k n : Nat) (now mv : Nat → Int32), k + d = 5 ^ n0 → d < n → zAn (zOw F p n0 S) k = false → RM F now 0 S →
      ∃ now1 mv1, mm_fewest_L19 mPeople mHours mGrains mKind mWind mWeight mSort mOwner (nI p) (nI n0) kx n (nI k) now mv = (if zAn (zOw F p n0 S) (5 ^ n0) then some (nI n0, now1, mv1) else kx (nI (5 ^ n0)) now1 mv1) ∧ RM F now1 0 S := by
  have h4 := hG.1.1
  have h7 := hG.1.2.2.1
  have hp4 : (5 : Nat) ^ n0 ≤ 5 ^ 4 := Nat.pow_le_pow_right (by decide) (by omega)
  have hp4' : (5 : Nat) ^ 4 = 625 := rfl
  have ew : mm_power 5 (nI n0) = some (nI (5 ^ n0)) := m_power 5 n0 (by omega)
  intro d
  induction d with
  | zero =>
    intro k n now mv hkd hn hR hM
    obtain ⟨n, rfl⟩ : ∃ m, n = m + 1 := ⟨n - 1, by omega⟩
    obtain rfl : k = 5 ^ n0 := by omega
    refine ⟨now, mv, ?_, hM⟩
    rw [mm_fewest_L19.eq_2, ew, b_s, if_pos ((n_le (by omega) (by omega)).mpr (Nat.le_refl _)), hR]
    rfl
  | succ d ih =>
    intro k n now mv hkd hn hR hM
    obtain ⟨n, rfl⟩ : ∃ m, n = m + 1 := ⟨n - 1, by omega⟩
    obtain ⟨r, now1, mv1, e, hM1, h⟩ := m_row hG hM hn0 (show k < 5 ^ n0 by omega) hk mv
    rw [mm_fewest_L19.eq_2, ew, b_s, if_neg (fun z => by have := (n_le (by omega) (by omega)).mp z; omega), e, b_s, nI_1]
    have hnext : zAn (zOw F p n0 S) (k + 1) = zOw F p n0 S k := by rw [zAn, hR, Bool.false_or]
    rcases h with ⟨U1, hz, rfl, hM9⟩ | ⟨hz, rfl⟩
    · have hv : zOw F p n0 S k = zCp F p U1 := by unfold zOw; rw [hz]
      rw [i10, m_clean1 hG hM9 (show p < 16 by omega), b_s]
      rw [hv] at hnext
      unfold zCp at hnext
      rcases zCl_01 (zB (yL U1 p) (oN F)) (zB (yR F U1) (oN F)) with q | q
      · rw [q] at hnext ⊢
        have : zAn (zOw F p n0 S) (5 ^ n0) = true := by
          have e5 : 5 ^ n0 = (k + 1) + d := by omega
          rw [e5, zAn_add, hnext]
          rfl
        exact ⟨now1, mv1, by rw [i10, this]; rfl, hM1⟩
      · rw [q] at hnext ⊢
        rw [i00]
        exact ih (k + 1) n now1 mv1 (by omega) (by omega) hnext hM1
    · have hv : zOw F p n0 S k = false := by unfold zOw; rw [hz]
      rw [i00]
      exact ih (k + 1) n now1 mv1 (by omega) (by omega) (by rw [hnext, hv]) hM1
theorem op_few_loop (hF : RF F fPk fWn fGw fGk fOw fPe fHo fGr) (hG : RF F mKind mWind mWeight mSort mOwner mPeople mHours mGrains) (hX : RX F L S) (hk : S.2.2 < 1000) {p : Nat} (hp : p < oP F) :
    ∀ (d k n n1 : Nat) (now mv : Nat → Int32), k + d = 5 → d < n → d < n1 → RM F now 0 S →
      ∃ r now1 mv1, xx_fewest_L15 L fPk fWn fGw fGk fOw fPe fHo fGr (nI p) (fun y2_15 => (some (-9))) n (nI k) = some r ∧ mm_fewest_L12 mPeople mHours mGrains mKind mWind mWeight mSort mOwner (nI p) (fun y2_12 mNow_12 mMoved_12 => (some ((-9), mNow_12, mMoved_12))) n1 (nI k) now mv = some (r, now1, mv1) ∧ RM F now1 0 S := by
  have h4 := hG.1.1
  intro d
  induction d with
  | zero =>
    intro k n n1 now mv hkd hn hn1 hM
    obtain ⟨n, rfl⟩ : ∃ m, n = m + 1 := ⟨n - 1, by omega⟩
    obtain ⟨n1, rfl⟩ : ∃ m, n1 = m + 1 := ⟨n1 - 1, by omega⟩
    obtain rfl : k = 5 := by omega
    exact ⟨-9, now, mv, by rw [xx_fewest_L15.eq_2, if_pos (show (4 : Int32) < nI 5 by decide)], by rw [mm_fewest_L12.eq_2, if_pos (show (5 : Int32) ≤ nI 5 by decide)], hM⟩
  | succ d ih =>
    intro k n n1 now mv hkd hn hn1 hM
    obtain ⟨n, rfl⟩ : ∃ m, n = m + 1 := ⟨n - 1, by omega⟩
    obtain ⟨n1, rfl⟩ : ∃ m, n1 = m + 1 := ⟨n1 - 1, by omega⟩
    have hp4 : (5 : Nat) ^ k ≤ 5 ^ 4 := Nat.pow_le_pow_right (by decide) (by omega)
    have hp4' : (5 : Nat) ^ 4 = 625 := rfl
    obtain ⟨now1, mv1, e, hM1⟩ := m_few19 hG hp (show k ≤ 4 by omega) hk (fun y3_19 mNow_19 mMoved_19 => (mm_fewest_L12 mPeople mHours mGrains mKind mWind mWeight mSort mOwner (nI p) (fun y2_12 mNow_12 mMoved_12 => (some ((-9), mNow_12, mMoved_12))) n1 (nI k + 1) mNow_19 mMoved_19)) (5 ^ k) 0 1000 now mv (by omega) (by omega) rfl hM
    obtain ⟨r, now2, mv2, e2, e3, hM2⟩ := ih (k + 1) n n1 now1 mv1 (by omega) (by omega) (by omega) hM1
    rw [xx_fewest_L15.eq_2, mm_fewest_L12.eq_2, if_neg (fun z => by have : 4 < k := (n_Llt (by omega) (by decide)).mp z; omega), if_neg (fun z => by have : 5 ≤ k := (n_Lle (by omega) (by decide)).mp z; omega), x_canC hF hp k 6 L S (by omega) (by omega) hX (by omega), b_s]
    by_cases hz : zAn (zOw F p k S) (5 ^ k) = true
    · rw [if_pos hz] at e ⊢
      exact ⟨nI k, now1, mv1, by rw [i10], e, hM1⟩
    · rw [if_neg hz] at e ⊢
      refine ⟨r, now2, mv2, by rw [i00, nI_1]; exact e2, ?_, hM2⟩
      refine Eq.trans e ?_
      show mm_fewest_L12 mPeople mHours mGrains mKind mWind mWeight mSort mOwner (nI p) _ n1 (nI k + 1) now1 mv1 = _
      rw [nI_1]
      exact e3
theorem op_fewest (hF : RF F fPk fWn fGw fGk fOw fPe fHo fGr) (hG : RF F mKind mWind mWeight mSort mOwner mPeople mHours mGrains) (hX : RX F L S) (hM : RM F mNow 0 S) (hk : S.2.2 < 1000) (mv : Nat → Int32) (p : Int32) :
    ∃ r now1 mv1, xx_fewest L fPk fWn fGw fGk fOw fPe fHo fGr p = some r ∧ mm_fewest mPeople mHours mGrains mKind mWind mWeight mSort mOwner mNow mv p = some (r, now1, mv1) ∧ RM F now1 0 S := by
  have h4 := hF.1.1
  unfold xx_fewest mm_fewest
  rcases pk_ix p (show oP F < 2 ^ 31 by omega) with h | h | ⟨j, hj, rfl⟩
  · exact ⟨-1, mNow, mv, by rw [x_per0 hF (Or.inl h), b_s, i00], by rw [m_per0 hG (Or.inl h), b_s, i00], hM⟩
  · exact ⟨-1, mNow, mv, by rw [x_per0 hF (Or.inr h), b_s, i00], by rw [m_per0 hG (Or.inr h), b_s, i00], hM⟩
  · rw [x_perT hF hj, m_perT hG hj, b_s, b_s, i10, i10]
    exact op_few_loop hF hG hX hk hj 5 0 1000 1000 mNow mv (by omega) (by omega) (by omega) hM
end O13
