/-! numbers (wb_, fa_, fb_ rows began as kit/laws' texts) -/
theorem wb_tb (n : Nat) : (lN n).toBitVec = BitVec.ofNat 64 n := rfl
theorem wb_inj {a b : Int64} (h : a.toBitVec = b.toBitVec) : a = b := Int64.toBitVec_inj.mp h
theorem wb_tn {n : Nat} (h : n < 2 ^ 64) : (lN n).toBitVec.toNat = n := by rw [wb_tb, BitVec.toNat_ofNat, Nat.mod_eq_of_lt h]
theorem wb_c : ∀ k, k < 64 → ((nI k).toInt64 &&& 63) = lN k := by decide +kernel
theorem wb_cu : ∀ k, k < 64 → ((nI k).toInt64.toUInt64 &&& Int64.toUInt64 63) = UInt64.ofNat k := by decide +kernel
theorem wb_sm : ∀ k, k < 64 → (BitVec.ofNat 64 k).smod 64 = BitVec.ofNat 64 k := by decide +kernel
theorem wb_shr {n k : Nat} (hn : n < 2 ^ 64) (hk : k < 64) : ((lN n).toUInt64 >>> ((nI k).toInt64.toUInt64 &&& Int64.toUInt64 63)).toInt64 = lN (n / 2 ^ k) := by
  rw [wb_cu k hk]
  apply wb_inj
  apply BitVec.eq_of_toNat_eq
  show ((lN n).toUInt64 >>> UInt64.ofNat k).toNat = (BitVec.ofNat 64 _).toNat
  have h1 : (UInt64.ofNat k).toNat = k := by
    show (BitVec.ofNat 64 k).toNat = k
    rw [BitVec.toNat_ofNat, Nat.mod_eq_of_lt (by omega)]
  have h2 : (lN n).toUInt64.toNat = n := wb_tn hn
  rw [UInt64.toNat_shiftRight, h1, h2, Nat.mod_eq_of_lt hk, Nat.shiftRight_eq_div_pow, BitVec.toNat_ofNat, Nat.mod_eq_of_lt (Nat.lt_of_le_of_lt (Nat.div_le_self _ _) hn)]
theorem wb_shl (n : Nat) {k : Nat} (hk : k < 64) : lN n <<< ((nI k).toInt64 &&& 63) = lN (n * 2 ^ k) := by
  rw [wb_c k hk]
  apply wb_inj
  rw [Int64.toBitVec_shiftLeft, wb_tb, wb_tb, wb_tb, wb_sm k hk]
  apply BitVec.eq_of_toNat_eq
  rw [BitVec.shiftLeft_eq', BitVec.toNat_shiftLeft, BitVec.toNat_ofNat, BitVec.toNat_ofNat, BitVec.toNat_ofNat, Nat.mod_eq_of_lt (show k < 2 ^ 64 by omega), Nat.shiftLeft_eq, Nat.mul_mod, Nat.mod_mod, ← Nat.mul_mod]
theorem fb_andL (a b : Nat) : lN a &&& lN b = lN (a &&& b) := by
  apply Int64.toBitVec_inj.1
  show BitVec.ofNat 64 a &&& BitVec.ofNat 64 b = BitVec.ofNat 64 (a &&& b)
  apply BitVec.eq_of_getLsbD_eq
  intro i hi
  simp [hi]
theorem fb_orL (a b : Nat) : lN a ||| lN b = lN (a ||| b) := by
  apply Int64.toBitVec_inj.1
  show BitVec.ofNat 64 a ||| BitVec.ofNat 64 b = BitVec.ofNat 64 (a ||| b)
  apply BitVec.eq_of_getLsbD_eq
  intro i hi
  simp [hi]
theorem fb_xorL (a b : Nat) : lN a ^^^ lN b = lN (a ^^^ b) := by
  apply Int64.toBitVec_inj.1
  show BitVec.ofNat 64 a ^^^ BitVec.ofNat 64 b = BitVec.ofNat 64 (a ^^^ b)
  apply BitVec.eq_of_getLsbD_eq
  intro i hi
  simp [hi]
theorem fa_lt (a b : Int32) : a < b ↔ a.toInt < b.toInt := Int32.lt_iff_toInt_lt
theorem fa_le (a b : Int32) : a ≤ b ↔ a.toInt ≤ b.toInt := Int32.le_iff_toInt_le
theorem fa_eq (a b : Int32) : a = b ↔ a.toInt = b.toInt := Int32.toInt_inj.symm
theorem fa_lt64 (a b : Int64) : a < b ↔ a.toInt < b.toInt := Int64.lt_iff_toInt_lt
theorem fa_le64 (a b : Int64) : a ≤ b ↔ a.toInt ≤ b.toInt := Int64.le_iff_toInt_le
theorem fa_wide_lt (a b : Int32) : a.toInt64 < b.toInt64 ↔ a < b := by rw [fa_lt64, fa_lt, Int32.toInt_toInt64, Int32.toInt_toInt64]
theorem fa_wide_le (a b : Int32) : a.toInt64 ≤ b.toInt64 ↔ a ≤ b := by rw [fa_le64, fa_le, Int32.toInt_toInt64, Int32.toInt_toInt64]
theorem fa_and (a b : Nat) : nI a &&& nI b = nI (a &&& b) := by
  apply Int32.toBitVec_inj.1
  show BitVec.ofNat 32 a &&& BitVec.ofNat 32 b = BitVec.ofNat 32 (a &&& b)
  apply BitVec.eq_of_getLsbD_eq
  intro i hi
  simp [hi]
theorem fa_or (a b : Nat) : nI a ||| nI b = nI (a ||| b) := by
  apply Int32.toBitVec_inj.1
  show BitVec.ofNat 32 a ||| BitVec.ofNat 32 b = BitVec.ofNat 32 (a ||| b)
  apply BitVec.eq_of_getLsbD_eq
  intro i hi
  simp [hi]
theorem fa_mask (n k : Nat) : nI n &&& nI (2 ^ k - 1) = nI (n % 2 ^ k) := by rw [fa_and, Nat.and_two_pow_sub_one_eq_mod]
/-! my own: numbers against literals, the guards on numbers -/
theorem n_lit (c : Nat) : (OfNat.ofNat c : Int32) = nI c := rfl
theorem n_ofN (c : Nat) : (OfNat.ofNat c : Nat) = c := rfl
theorem n_eqL {a c : Nat} (ha : a < 2147483648) (hc : (OfNat.ofNat c : Nat) < 2147483648) : (nI a = (OfNat.ofNat c : Int32)) ↔ a = OfNat.ofNat c := nI_eq ha hc
theorem n_Leq {a c : Nat} (ha : a < 2147483648) (hc : (OfNat.ofNat c : Nat) < 2147483648) : ((OfNat.ofNat c : Int32) = nI a) ↔ OfNat.ofNat c = a := nI_eq hc ha
theorem n_leL {a c : Nat} (ha : a < 2147483648) (hc : (OfNat.ofNat c : Nat) < 2147483648) : (nI a ≤ (OfNat.ofNat c : Int32)) ↔ a ≤ OfNat.ofNat c := nI_leI ha hc
theorem n_Lle {a c : Nat} (ha : a < 2147483648) (hc : (OfNat.ofNat c : Nat) < 2147483648) : ((OfNat.ofNat c : Int32) ≤ nI a) ↔ OfNat.ofNat c ≤ a := nI_leI hc ha
theorem n_ltL {a c : Nat} (ha : a < 2147483648) (hc : (OfNat.ofNat c : Nat) < 2147483648) : (nI a < (OfNat.ofNat c : Int32)) ↔ a < OfNat.ofNat c := nI_ltI ha hc
theorem n_Llt {a c : Nat} (ha : a < 2147483648) (hc : (OfNat.ofNat c : Nat) < 2147483648) : ((OfNat.ofNat c : Int32) < nI a) ↔ OfNat.ofNat c < a := nI_ltI hc ha
theorem n_le {a b : Nat} (ha : a < 2147483648) (hb : b < 2147483648) : nI a ≤ nI b ↔ a ≤ b := nI_leI ha hb
theorem n_lt {a b : Nat} (ha : a < 2147483648) (hb : b < 2147483648) : nI a < nI b ↔ a < b := nI_ltI ha hb
theorem n_eq {a b : Nat} (ha : a < 2147483648) (hb : b < 2147483648) : nI a = nI b ↔ a = b := nI_eq ha hb
theorem n_addL (a c : Nat) : nI a + (OfNat.ofNat c : Int32) = nI (a + OfNat.ofNat c) := nI_add a c
theorem n_Ladd (a c : Nat) : (OfNat.ofNat c : Int32) + nI a = nI (OfNat.ofNat c + a) := nI_add c a
theorem n_mulL (a c : Nat) : nI a * (OfNat.ofNat c : Int32) = nI (a * OfNat.ofNat c) := pk_mul a c
theorem n_Lmul (a c : Nat) : (OfNat.ofNat c : Int32) * nI a = nI (OfNat.ofNat c * a) := pk_mul c a
theorem n_subL {a c : Nat} (h : (OfNat.ofNat c : Nat) ≤ a) : nI a - (OfNat.ofNat c : Int32) = nI (a - OfNat.ofNat c) := pk_sub h
theorem n_Lsub {a c : Nat} (h : a ≤ (OfNat.ofNat c : Nat)) : (OfNat.ofNat c : Int32) - nI a = nI (OfNat.ofNat c - a) := pk_sub h
theorem n_divL {a c : Nat} (ha : a < 2147483648) (h0 : 0 < (OfNat.ofNat c : Nat)) (hc : (OfNat.ofNat c : Nat) < 2147483648) : nI a / (OfNat.ofNat c : Int32) = nI (a / OfNat.ofNat c) := pk_div ha h0 hc
theorem n_div {a c : Nat} (ha : a < 2147483648) (h0 : 0 < c) (hc : c < 2147483648) : nI a / nI c = nI (a / c) := pk_div ha h0 hc
theorem n_rem {a c : Nat} (ha : a < 2147483648) (h0 : 0 < c) (hc : c < 2147483648) : nI a - nI a / nI c * nI c = nI (a % c) := pk_rem ha h0 hc
theorem n_remL {a c : Nat} (ha : a < 2147483648) (h0 : 0 < (OfNat.ofNat c : Nat)) (hc : (OfNat.ofNat c : Nat) < 2147483648) : nI a - nI a / (OfNat.ofNat c : Int32) * (OfNat.ofNat c : Int32) = nI (a % OfNat.ofNat c) := pk_rem ha h0 hc
theorem n_cl {n : Nat} (h : n < 2147483648) : Int32.toNatClampNeg (nI n) = n := nI_clamp h
theorem n_m9 {a : Nat} (h : a < 2147483648) : ¬ nI a = (-9) := fun e => by
  have h1 := congrArg Int32.toInt e
  rw [nI_toInt h] at h1
  have h2 : (-9 : Int32).toInt = -9 := by decide
  omega
theorem n_m9' {a : Nat} (h : a < 2147483648) : ¬ (-9) = nI a := fun e => n_m9 h e.symm
theorem n_neg {a : Nat} (h : a < 2147483648) : ¬ nI a < 0 := nI_pos h
theorem b_s {α β : Type} (a : α) (f : α → Option β) : Option.bind (some a) f = f a := rfl
theorem gI_n {α : Type} {j n : Nat} {k : Option α} (h : j < n) (hn : n < 2147483648) : gI (nI j) n k = k := by
  have q : ixOk (nI j) n = true := by
    unfold ixOk
    exact decide_eq_true (vp_in_nI h hn)
  unfold gI
  rw [if_pos q]
theorem gD_n {α : Type} {y : Nat} {k : Option α} (h : 0 < y) (hn : y < 2147483648) : gD (nI y) k = k := by
  unfold gD
  rw [if_neg (nI_ne0 h hn)]
theorem gZ_0 {α : Type} {k : Option α} : gZ 0 k = k := by
  unfold gZ
  rw [if_pos (Or.inl rfl)]
theorem gZ_1 {α : Type} {k : Option α} : gZ 1 k = k := by
  unfold gZ
  rw [if_pos (Or.inr rfl)]
theorem gZ_b {α : Type} {c : Prop} [Decidable c] {k : Option α} : gZ (if c then 1 else 0) k = k := by
  by_cases h : c
  · rw [if_pos h, gZ_1]
  · rw [if_neg h, gZ_0]
theorem n_and15 (n : Nat) : nI n &&& 15 = nI (n % 16) := fa_mask n 4
/-! ===== a scene as a number ===== -/
theorem sc_place {x g : Nat} (hx : x < 18446744073709551616) (hg : g < 16) : sc_placeOf (lN x) (nI g) = some (nI (x / 2 ^ (4 * g) % 16)) := by
  unfold sc_placeOf
  have e : (4 : Int32) * nI g = nI (4 * g) := pk_mul 4 g
  rw [e, wb_shr (show x < 2 ^ 64 from hx) (by omega), lN_i, n_and15]
theorem sc_clock {x : Nat} (hx : x < 18446744073709551616) : sc_clockOf (lN x) = some (nI (x / 4294967296)) := by
  unfold sc_clockOf
  have e : (32 : Int32) = nI 32 := rfl
  rw [e, wb_shr (show x < 2 ^ 64 from hx) (by omega), lN_i]
def hI (h : Nat) : Int32 := if h = 15 then -9 else nI h
theorem sc_holder {x : Nat} (hx : x < 18446744073709551616) : sc_holderOf (lN x) = some (hI (x / 268435456 % 16)) := by
  unfold sc_holderOf hI
  have e : (28 : Int32) = nI 28 := rfl
  rw [e, wb_shr (show x < 2 ^ 64 from hx) (by omega), lN_i, n_and15]
  have hlt : x / 2 ^ 28 % 16 < 2147483648 := by omega
  by_cases q : x / 2 ^ 28 % 16 = 15
  · rw [if_pos ((n_eqL hlt (by decide)).mpr q), if_pos q]
  · rw [if_neg (fun z => q ((n_eqL hlt (by decide)).mp z)), if_neg q]
/-- the number with the k-th figure (of sixteen) changed -/
def zs (x j p : Nat) : Nat := (x &&& ((15 * 2 ^ (4 * j)) ^^^ 18446744073709551615)) ||| (p * 2 ^ (4 * j))
theorem zs_bit {x j p : Nat} (hx : x < 18446744073709551616) (hj : j < 8) (hp : p < 16) (i : Nat) : (zs x j p).testBit i = if 4 * j ≤ i ∧ i < 4 * j + 4 then p.testBit (i - 4 * j) else x.testBit i := by
  unfold zs
  have h15 : ∀ k, (15 : Nat).testBit k = decide (k < 4) := fun k => Nat.testBit_two_pow_sub_one 4 k
  have hF : ∀ k, (18446744073709551615 : Nat).testBit k = decide (k < 64) := fun k => Nat.testBit_two_pow_sub_one 64 k
  rw [Nat.testBit_or, Nat.testBit_and, Nat.testBit_xor, Nat.testBit_mul_two_pow, Nat.testBit_mul_two_pow, h15, hF]
  by_cases h1 : 4 * j ≤ i
  · by_cases h2 : i < 4 * j + 4
    · rw [if_pos ⟨h1, h2⟩]
      simp [h1, show i - 4 * j < 4 by omega, show i < 64 by omega]
    · rw [if_neg (fun z => h2 z.2)]
      have h3 : p.testBit (i - 4 * j) = false := Nat.testBit_lt_two_pow (Nat.lt_of_lt_of_le hp (by
        show 2 ^ 4 ≤ 2 ^ (i - 4 * j)
        exact Nat.pow_le_pow_right (by decide) (by omega)))
      have h4 : ¬ i - 4 * j < 4 := by omega
      by_cases h5 : i < 64
      · simp [h3, h4, h5]
      · have h6 : x.testBit i = false := Nat.testBit_lt_two_pow (Nat.lt_of_lt_of_le hx (by
          show 2 ^ 64 ≤ 2 ^ i
          exact Nat.pow_le_pow_right (by decide) (by omega)))
        simp [h3, h4, h6]
  · rw [if_neg (fun z => h1 z.1)]
    have h5 : i < 64 := by omega
    simp [h1, h5]
theorem zs_dig {x j p k : Nat} (hx : x < 18446744073709551616) (hj : j < 8) (hp : p < 16) : zs x j p / 2 ^ (4 * k) % 16 = if k = j then p else x / 2 ^ (4 * k) % 16 := by
  have e16 : (16 : Nat) = 2 ^ 4 := rfl
  apply Nat.eq_of_testBit_eq
  intro i
  by_cases hk : k = j
  · subst hk
    rw [if_pos rfl, e16, Nat.testBit_mod_two_pow, Nat.testBit_div_two_pow, zs_bit hx hj hp]
    by_cases hi : i < 4
    · rw [if_pos (by omega), show i + 4 * k - 4 * k = i by omega]
      simp [hi]
    · have h3 : p.testBit i = false := Nat.testBit_lt_two_pow (Nat.lt_of_lt_of_le hp (by
        show 2 ^ 4 ≤ 2 ^ i
        exact Nat.pow_le_pow_right (by decide) (by omega)))
      simp [hi, h3]
  · rw [if_neg hk, e16, Nat.testBit_mod_two_pow, Nat.testBit_mod_two_pow, Nat.testBit_div_two_pow, Nat.testBit_div_two_pow, zs_bit hx hj hp]
    by_cases hi : i < 4
    · rw [if_neg (by omega)]
    · simp [hi]
theorem zs_hi {x j p : Nat} (hx : x < 18446744073709551616) (hj : j < 8) (hp : p < 16) : zs x j p / 4294967296 = x / 4294967296 := by
  apply Nat.eq_of_testBit_eq
  intro i
  have e : (4294967296 : Nat) = 2 ^ 32 := rfl
  rw [e, Nat.testBit_div_two_pow, Nat.testBit_div_two_pow, zs_bit hx hj hp, if_neg (by omega)]
theorem zs_lt {x j p : Nat} (hx : x < 18446744073709551616) (hj : j < 8) (hp : p < 16) : zs x j p < 18446744073709551616 := by
  have h1 := zs_hi hx hj hp
  have h2 : zs x j p = 4294967296 * (zs x j p / 4294967296) + zs x j p % 4294967296 := (Nat.div_add_mod _ _).symm
  omega
theorem sc_withP {x j p : Nat} (hj : j < 8) : sc_withPlace (lN x) (nI j) (nI p) = some (lN (zs x j p)) ∨ 2147483648 ≤ p := by
  rcases Nat.lt_or_ge p 2147483648 with hp | hp
  · left
    unfold sc_withPlace zs
    have e : (4 : Int32) * nI j = nI (4 * j) := pk_mul 4 j
    have e1 : (15 : Int64) = lN 15 := rfl
    have e2 : (-1 : Int64) = lN 18446744073709551615 := by decide
    have e3 : Int32.toInt64 (nI p) = lN p := nI_l hp
    rw [e, e3, e1, e2, wb_shl 15 (by omega), wb_shl p (by omega), fb_xorL, fb_andL, fb_orL]
  · exact Or.inr hp
theorem sc_withPl {x j p : Nat} (hj : j < 8) (hp : p < 16) : sc_withPlace (lN x) (nI j) (nI p) = some (lN (zs x j p)) := by
  rcases sc_withP (x := x) (p := p) hj with h | h
  · exact h
  · omega
theorem sc_withH {x h : Nat} (hh : h < 16) : sc_withHolder (lN x) (nI h) = some (lN (zs x 7 h)) := by
  unfold sc_withHolder zs
  have e1 : (-4026531841 : Int64) = lN ((15 * 2 ^ (4 * 7)) ^^^ 18446744073709551615) := by decide
  have e3 : Int32.toInt64 (nI h) = lN h := nI_l (by omega)
  have e4 : (28 : Int32) = nI 28 := rfl
  rw [e3, e1, e4, wb_shl h (by omega), fb_andL, fb_orL]
theorem sc_lat (x : Nat) : sc_later (lN x) = some (lN (x + 4294967296)) := by
  unfold sc_later
  exact congrArg some (lN_add x 4294967296)
