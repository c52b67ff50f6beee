/-! ===== gust ===== -/
theorem gcd_half {b r k : Nat} (h0 : 0 < r) (hr : r < b) (hb : b < 2 ^ (k + 1)) : b % r < 2 ^ k := by
  have h1 := Nat.mod_lt b h0
  have h2 := Nat.div_add_mod b r
  have h3 : 1 ≤ b / r := (Nat.le_div_iff_mul_le h0).mpr (by omega)
  have h4 : r * 1 ≤ r * (b / r) := Nat.mul_le_mul_left r h3
  rw [Nat.pow_succ] at hb
  omega
theorem x_gcdL : ∀ (k b a c n : Nat), b < 2 ^ k → a < 2147483648 → b < 2147483648 → c + 2 * k < 64 → 2 * k < n → nu_commonDivisor_L7 (fun _ _ y => some y) n (nI c) (nI b) (nI a) = some (nI (Nat.gcd b a)) := by
  intro k
  induction k with
  | zero =>
    intro b a c n hb ha hb2 hc hn
    exact x_gcd b a c n ha hb2 (by omega) (by omega)
  | succ k ih =>
    intro b a c n hb ha hb2 hc hn
    obtain ⟨n, rfl⟩ : ∃ m, n = m + 2 := ⟨n - 2, by omega⟩
    by_cases h : b = 0
    · exact x_gcd b a c _ ha hb2 (by omega) (by omega)
    · have hm := Nat.mod_lt a (show 0 < b by omega)
      rw [nu_commonDivisor_L7.eq_2, if_neg (fun z => by have : 64 ≤ c := (n_Lle (by omega) (by decide)).mp z; omega), if_neg (fun z => h ((n_eqL (by omega) (by decide)).mp z)), gD_n (by omega) (by omega), n_rem ha (by omega) hb2, nI_1, Nat.gcd_rec b a]
      by_cases h2 : a % b = 0
      · exact x_gcd _ _ _ _ hb2 (by omega) (by omega) (by omega)
      · have hh := gcd_half (show 0 < a % b by omega) hm hb
        rw [nu_commonDivisor_L7.eq_2, if_neg (fun z => by have : 64 ≤ c + 1 := (n_Lle (by omega) (by decide)).mp z; omega), if_neg (fun z => h2 ((n_eqL (by omega) (by decide)).mp z)), gD_n (by omega) (by omega), n_rem hb2 (by omega) (by omega), nI_1, Nat.gcd_rec (a % b) b]
        exact ih (b % (a % b)) (a % b) (c + 1 + 1) n hh (by omega) (by have := Nat.mod_lt b (show 0 < a % b by omega); omega) (by omega) (by omega)
theorem m_gcdL : ∀ (k b a n : Nat), b < 2 ^ k → a < 2147483648 → b < 2147483648 → 2 * k < n → mm_common_L13 (fun _ y => some y) n (nI b) (nI a) = some (nI (Nat.gcd b a)) := by
  intro k
  induction k with
  | zero =>
    intro b a n hb ha hb2 hn
    exact m_gcd b a n ha hb2 (by omega)
  | succ k ih =>
    intro b a n hb ha hb2 hn
    obtain ⟨n, rfl⟩ : ∃ m, n = m + 2 := ⟨n - 2, by omega⟩
    by_cases h : b = 0
    · exact m_gcd b a _ ha hb2 (by omega)
    · have hm := Nat.mod_lt a (show 0 < b by omega)
      rw [mm_common_L13.eq_2, if_neg (fun z => h ((n_eqL (by omega) (by decide)).mp z)), gD_n (by omega) (by omega), n_rem ha (by omega) hb2, Nat.gcd_rec b a]
      by_cases h2 : a % b = 0
      · exact m_gcd _ _ _ hb2 (by omega) (by omega)
      · have hh := gcd_half (show 0 < a % b by omega) hm hb
        rw [mm_common_L13.eq_2, if_neg (fun z => h2 ((n_eqL (by omega) (by decide)).mp z)), gD_n (by omega) (by omega), n_rem hb2 (by omega) (by omega), Nat.gcd_rec (a % b) b]
        exact ih (b % (a % b)) (a % b) n hh (by omega) (by have := Nat.mod_lt b (show 0 < a % b by omega); omega) (by omega)
theorem gu_terms {a f : Nat} (ha : a ≤ 100000) (hf1 : 1 ≤ f) (hf2 : f ≤ 100000) :
    ∃ g : Nat, 1 ≤ g ∧ g ≤ 100000 ∧ mm_common (nI a) (nI f) = some (nI g) ∧ (∀ q : Int32, nu_leastTerms (nI a) (nI f) q = if q = 0 then some (nI f / nI g) else some (nI a / nI g)) := by
  have hg : 1 ≤ Nat.gcd f a ∧ Nat.gcd f a ≤ 100000 := ⟨Nat.gcd_pos_of_pos_left a (by omega), Nat.le_trans (Nat.gcd_le_left a (by omega)) hf2⟩
  have hf0 : (0 : Int32) ≤ nI f := (n_Lle (a := f) (c := 0) (by omega) (by decide)).mpr (Nat.zero_le _)
  have ha0 : (0 : Int32) ≤ nI a := (n_Lle (a := a) (c := 0) (by omega) (by decide)).mpr (Nat.zero_le _)
  refine ⟨Nat.gcd f a, hg.1, hg.2, ?_, fun q => ?_⟩
  · unfold mm_common
    rw [if_pos ha0]
    exact m_gcdL 17 f a 1000 (by omega) (by omega) (by omega) (by omega)
  · unfold nu_leastTerms nu_commonDivisor
    rw [if_pos ha0, if_pos hf0]
    have eg : nu_commonDivisor_L7 (fun y4_7 y3_7 y2_7 => (some y2_7)) 1000 0 (nI f) (nI a) = some (nI (Nat.gcd f a)) := x_gcdL 17 f a 0 1000 (by omega) (by omega) (by omega) (by omega) (by omega)
    have em : (if 1 < nI (Nat.gcd f a) then nI (Nat.gcd f a) else 1) = nI (Nat.gcd f a) := by
      by_cases h : 1 < Nat.gcd f a
      · rw [if_pos ((n_Llt (by omega) (by decide)).mpr h)]
      · have : Nat.gcd f a = 1 := by omega
        rw [this]
        rfl
    rw [eg, b_s, em, gD_n (by omega) (by omega), gD_n (by omega) (by omega)]
/-- one grain alone: its place and the clock -/
def gS (F : FD) (g h u : Nat) (s : Nat × Nat) : Nat × Nat := (if s.1 < oP F then zG F g s.1 (zL F (fun _ => 0, h, s.2) s.1 + u) else s.1, s.2 + 1)
def gY (F : FD) (g h q : Nat) : Nat → Nat × Nat → Nat
  | 0, s => if s.1 = 8 then 1 else 0
  | d + 1, s => q * gY F g h q d (gS F g h 3 s) + (10 - q) * gY F g h q d (gS F g h 0 s)
def gW (q : Nat) : Nat → Nat → Nat
  | 0, _ => 1
  | d + 1, b => (if b % 2 = 1 then q else 10 - q) * gW q d (b / 2)
def gE (F : FD) (g h : Nat) : Nat → Nat → Nat × Nat → Nat
  | 0, _, s => s.1
  | d + 1, b, s => gE F g h d (b / 2) (gS F g h (if b % 2 = 1 then 3 else 0) s)
def zSm (f : Nat → Nat) : Nat → Nat
  | 0 => 0
  | k + 1 => zSm f k + f k
theorem zSm_pair (f : Nat → Nat) : ∀ m, zSm f (2 * m) = zSm (fun b => f (2 * b + 1)) m + zSm (fun b => f (2 * b)) m
  | 0 => rfl
  | m + 1 => by
    have h := zSm_pair f m
    have e : 2 * (m + 1) = 2 * m + 1 + 1 := by omega
    rw [e, zSm, zSm, zSm, zSm, h]
    omega
theorem zSm_mul (c : Nat) (f : Nat → Nat) : ∀ m, zSm (fun b => c * f b) m = c * zSm f m
  | 0 => rfl
  | m + 1 => by
    rw [zSm, zSm, zSm_mul c f m, Nat.mul_add]
theorem gW_odd (q d b : Nat) : gW q (d + 1) (2 * b + 1) = q * gW q d b := by
  rw [gW, if_pos (by omega)]
  have : (2 * b + 1) / 2 = b := by omega
  rw [this]
theorem gW_even (q d b : Nat) : gW q (d + 1) (2 * b) = (10 - q) * gW q d b := by
  rw [gW, if_neg (by omega)]
  have : (2 * b) / 2 = b := by omega
  rw [this]
theorem gE_odd (F : FD) (g h d b : Nat) (s : Nat × Nat) : gE F g h (d + 1) (2 * b + 1) s = gE F g h d b (gS F g h 3 s) := by
  rw [gE, if_pos (by omega)]
  have : (2 * b + 1) / 2 = b := by omega
  rw [this]
theorem gE_even (F : FD) (g h d b : Nat) (s : Nat × Nat) : gE F g h (d + 1) (2 * b) s = gE F g h d b (gS F g h 0 s) := by
  rw [gE, if_neg (by omega)]
  have : (2 * b) / 2 = b := by omega
  rw [this]
theorem gW_all {q : Nat} (hq : q ≤ 10) : ∀ d, zSm (gW q d) (2 ^ d) = 10 ^ d
  | 0 => rfl
  | d + 1 => by
    rw [Nat.pow_succ, Nat.mul_comm, zSm_pair]
    simp only [gW_odd, gW_even]
    rw [zSm_mul, zSm_mul, gW_all hq d, ← Nat.add_mul, Nat.pow_succ, Nat.mul_comm (10 ^ d)]
    congr 1
    omega
theorem gY_all (F : FD) (g h q : Nat) : ∀ d s, zSm (fun b => gW q d b * (if gE F g h d b s = 8 then 1 else 0)) (2 ^ d) = gY F g h q d s
  | 0, s => by
    show 0 + 1 * (if s.1 = 8 then 1 else 0) = _
    rw [Nat.zero_add, Nat.one_mul]
    rfl
  | d + 1, s => by
    rw [Nat.pow_succ, Nat.mul_comm, zSm_pair]
    simp only [gW_odd, gW_even, gE_odd, gE_even, Nat.mul_assoc]
    rw [zSm_mul, zSm_mul, gY_all F g h q d, gY_all F g h q d]
    rfl
theorem gY_le (F : FD) (g h : Nat) {q : Nat} (hq : q ≤ 10) : ∀ d s, gY F g h q d s ≤ 10 ^ d
  | 0, s => by
    rw [gY]
    split <;> decide
  | d + 1, s => by
    rw [gY]
    have h1 := Nat.mul_le_mul_left q (gY_le F g h hq d (gS F g h 3 s))
    have h2 := Nat.mul_le_mul_left (10 - q) (gY_le F g h hq d (gS F g h 0 s))
    have h3 : q * 10 ^ d + (10 - q) * 10 ^ d = 10 ^ (d + 1) := by
      rw [← Nat.add_mul, Nat.pow_succ, Nat.mul_comm (10 ^ d)]
      congr 1
      omega
    omega
section O11
variable {F : FD} {fPk fWn fGw fGk fOw : Nat → Int32} {fPe fHo fGr : Int32} {L : Int64} {S U V : Sc}
variable {mKind mWind mWeight mSort mOwner mNow now0 now : Nat → Int32} {mPeople mHours mGrains : Int32}
theorem x_put (h7 : oN F ≤ 7) (h4 : oP F ≤ 4) (hX : RX F L U) {g p : Nat} (hg : g < oN F) (hp : p < oP F ∨ p = 8 ∨ p = 9) : ∃ L1, sc_withPlace L (nI g) (nI p) = some L1 ∧ RX F L1 (fun j => if j = g then p else U.1 j, U.2.1, U.2.2) := by
  obtain ⟨hS, x, rfl, hx, h1, h2, h3⟩ := hX
  refine ⟨lN (zs x g p), sc_withPl (by omega) (by omega), ⟨fun j hj => ?_, hS.2.1, hS.2.2⟩, zs x g p, rfl, zs_lt hx (by omega) (by omega), fun j hj => ?_, ?_, ?_⟩
  · show (if j = g then p else U.1 j) < oP F ∨ (if j = g then p else U.1 j) = 8 ∨ (if j = g then p else U.1 j) = 9
    split
    · exact hp
    · exact hS.1 j hj
  · rw [zs_dig hx (by omega) (by omega), h1 j hj]
  · have := zs_dig (k := 7) hx (show g < 8 by omega) (show p < 16 by omega)
    rw [if_neg (by omega)] at this
    exact this.trans h2
  · rw [zs_hi hx (by omega) (by omega)]
    exact h3
theorem x_moved (hF : RF F fPk fWn fGw fGk fOw fPe fHo fGr) (hX : RX F L U) {g u : Nat} (hg : g < oN F) (hu : u ≤ 3) (hk : U.2.2 + 1 < 1048576) :
    ∃ L1 U1, gu_moved fPk fWn fGw fGk fOw fPe fHo L (nI g) (nI u) = some L1 ∧ RX F L1 U1 ∧ U1.2.1 = U.2.1 ∧ (U1.1 g, U1.2.2) = gS F g U.2.1 u (U.1 g, U.2.2) := by
  have h4 := hF.1.1
  have h7 := hF.1.2.2.1
  have hl := zL_le hF.1 U (U.1 g)
  unfold gu_moved
  rw [x_place h7 hX hg, b_s]
  rcases hX.1.1 g hg with hp | hp
  · rw [x_lift hF hX hp, b_s, nI_add, x_landing hF hg hp (by omega), b_s]
    obtain ⟨L1, e1, hX1⟩ := x_put h7 h4 hX hg (zG_ok hF.1 hp (g := g) (l := zL F U (U.1 g) + u))
    obtain ⟨L2, e2, hX2⟩ := x_later hX1 h7 hk
    rw [e1, b_s, e2, b_s]
    refine ⟨L2, _, rfl, hX2, rfl, ?_⟩
    unfold gS
    rw [if_pos hp]
    show (if g = g then _ else _, U.2.2 + 1) = _
    rw [if_pos rfl]
    rfl
  · have hp15 : U.1 g < 15 := by omega
    rw [x_lift8 hF hX (show 4 ≤ U.1 g by omega) hp15, b_s, nI_add, x_landing8 hF hg hp, b_s]
    obtain ⟨L1, e1, hX1⟩ := x_put h7 h4 hX hg (Or.inr hp)
    obtain ⟨L2, e2, hX2⟩ := x_later hX1 h7 hk
    rw [e1, b_s, e2, b_s]
    refine ⟨L2, _, rfl, hX2, rfl, ?_⟩
    unfold gS
    rw [if_neg (show ¬ U.1 g < oP F by omega)]
    show (if g = g then _ else _, U.2.2 + 1) = _
    rw [if_pos rfl]
theorem x_ways (hF : RF F fPk fWn fGw fGk fOw fPe fHo fGr) {g q : Nat} (hg : g < oN F) (hq : q ≤ 10) :
    ∀ (d dd : Nat) (L : Int64) (U : Sc), d < dd → d ≤ 5 → RX F L U → U.2.2 + d < 1048576 → gu_waysToBeGone fPk fWn fGw fGk fOw fPe fHo dd L (nI g) (nI d) (nI q) = some (nI (gY F g U.2.1 q d (U.1 g, U.2.2))) := by
  have h4 := hF.1.1
  have h7 := hF.1.2.2.1
  intro d
  induction d with
  | zero =>
    intro dd L U hdd hd hX hk
    obtain ⟨dd, rfl⟩ : ∃ m, dd = m + 1 := ⟨dd - 1, by omega⟩
    have hp := hX.1.1 g hg
    rw [gu_waysToBeGone.eq_2, if_neg (show ¬ (0 : Int32) < nI 0 by decide), x_place h7 hX hg, b_s, gY]
    by_cases h : U.1 g = 8
    · rw [if_pos ((n_eqL (by omega) (by decide)).mpr h), if_pos h]
      rfl
    · rw [if_neg (fun z => h ((n_eqL (by omega) (by decide)).mp z)), if_neg h]
      rfl
  | succ d ih =>
    intro dd L U hdd hd hX hk
    obtain ⟨dd, rfl⟩ : ∃ m, dd = m + 1 := ⟨dd - 1, by omega⟩
    have c : (0 : Int32) < nI (d + 1) := (n_Llt (c := 0) (by omega) (by decide)).mpr (show 0 < d + 1 by omega)
    have e1 : nI (d + 1) - 1 = nI d := n_subL (a := d + 1) (c := 1) (show 1 ≤ d + 1 by omega)
    have eq10 : (10 : Int32) - nI q = nI (10 - q) := n_Lsub (c := 10) hq
    obtain ⟨L1, U1, a1, hX1, hh1, hs1⟩ := x_moved hF hX hg (show 3 ≤ 3 by omega) (by omega)
    obtain ⟨L2, U2, a2, hX2, hh2, hs2⟩ := x_moved hF hX hg (show 0 ≤ 3 by omega) (by omega)
    have k1 : U1.2.2 = U.2.2 + 1 := congrArg Prod.snd hs1
    have k2 : U2.2.2 = U.2.2 + 1 := congrArg Prod.snd hs2
    have a1' : gu_moved fPk fWn fGw fGk fOw fPe fHo L (nI g) 3 = some L1 := a1
    have a2' : gu_moved fPk fWn fGw fGk fOw fPe fHo L (nI g) 0 = some L2 := a2
    have i1 := ih dd L1 U1 (by omega) (by omega) hX1 (by omega)
    have i2 := ih dd L2 U2 (by omega) (by omega) hX2 (by omega)
    rw [hs1, hh1] at i1
    rw [hs2, hh2] at i2
    rw [gu_waysToBeGone.eq_2, if_pos c, a1', b_s, e1, i1, b_s, a2', b_s, i2, b_s, eq10, pk_mul, pk_mul, nI_add, gY]
theorem m_gust64 (hG : RF F mKind mWind mWeight mSort mOwner mPeople mHours mGrains) {g q b nn h : Nat} (hg : g < oN F) (hq : q ≤ 10) (hb : b < 32) (hnn : nn ≤ 5) (kx : Int32 → Int32 → (Nat → Int32) → (Nat → Int32) → Option (Int32 × (Nat → Int32) × (Nat → Int32))) :
    ∀ (d i n acc : Nat) (now mv : Nat → Int32) (V : Sc) (s : Nat × Nat), i + d = nn → d < n → TR F now0 now V → V.1 g = s.1 → V.2.1 = h → (s.1 < oP F → V.2.2 = s.2) → V.2.2 + d < 5000 →
      ∃ now1 mv1 V1, mm_gust_L64 mPeople mHours mGrains mKind mWind mWeight mSort mOwner (nI g) (nI nn) (nI q) (nI b) kx n (nI i) (nI acc) now mv = kx (nI nn) (nI (acc * gW q d (b / 2 ^ i))) now1 mv1 ∧ TR F now0 now1 V1 ∧ V1.1 g = gE F g h d (b / 2 ^ i) s := by
  have h4 := hG.1.1
  have h7 := hG.1.2.2.1
  intro d
  induction d with
  | zero =>
    intro i n acc now mv V s hi hn hT hs hh hck hk
    obtain ⟨n, rfl⟩ : ∃ m, n = m + 1 := ⟨n - 1, by omega⟩
    obtain rfl : i = nn := by omega
    refine ⟨now, mv, V, ?_, hT, hs⟩
    rw [mm_gust_L64.eq_2, if_pos ((n_le (by omega) (by omega)).mpr (Nat.le_refl _)), gW, Nat.mul_one]
  | succ d ih =>
    intro i n acc now mv V s hi hn hT hs hh hck hk
    obtain ⟨n, rfl⟩ : ∃ m, n = m + 1 := ⟨n - 1, by omega⟩
    have c : ¬ nI nn ≤ nI i := fun z => by have := (n_le (by omega) (by omega)).mp z; omega
    have eq10 : (10 : Int32) - nI q = nI (10 - q) := n_Lsub (c := 10) hq
    have e9 : (9 : Int32) + nI g = nI (9 + g) := nI_add 9 g
    have hdiv : b / 2 ^ (i + 1) = b / 2 ^ i / 2 := by rw [Nat.pow_succ, Nat.div_div_eq_div_mul]
    have htb : b.testBit i = decide (b / 2 ^ i % 2 = 1) := Nat.testBit_eq_decide_div_mod_eq
    have eg := hT.1.2.1 g hg
    have hb1 : b / 2 ^ i % 2 = 1 → mm_has (nI b) (nI i) = some 1 := fun z => by
      have : b.testBit i = true := by rw [htb]; exact decide_eq_true z
      rw [m_has (show b < 128 by omega) (show i < 7 by omega), if_pos this]
    have hb0 : ¬ b / 2 ^ i % 2 = 1 → mm_has (nI b) (nI i) = some 0 := fun z => by
      have : ¬ b.testBit i = true := by rw [htb]; exact fun w => z (of_decide_eq_true w)
      rw [m_has (show b < 128 by omega) (show i < 7 by omega), if_neg this]
    -- one step of the model
    have step : ∃ now1 mv1 V1, TR F now0 now1 V1 ∧ (V1.1 g = (gS F g h (if b / 2 ^ i % 2 = 1 then 3 else 0) s).1) ∧ V1.2.1 = h ∧ ((gS F g h (if b / 2 ^ i % 2 = 1 then 3 else 0) s).1 < oP F → V1.2.2 = (gS F g h (if b / 2 ^ i % 2 = 1 then 3 else 0) s).2) ∧ V1.2.2 ≤ V.2.2 + 1 ∧
        mm_gust_L64 mPeople mHours mGrains mKind mWind mWeight mSort mOwner (nI g) (nI nn) (nI q) (nI b) kx (n + 1) (nI i) (nI acc) now mv = mm_gust_L64 mPeople mHours mGrains mKind mWind mWeight mSort mOwner (nI g) (nI nn) (nI q) (nI b) kx n (nI (i + 1)) (nI (acc * (if b / 2 ^ i % 2 = 1 then q else 10 - q))) now1 mv1 := by
      by_cases hp : s.1 < oP F
      · have hpV : V.1 g < oP F := by rw [hs]; exact hp
        have hck := hck hp
        have hgen : ∀ u, u ≤ 3 → ∃ now1 mv1 : Nat → Int32, mm_tossBy mPeople mHours mGrains mKind mWind mWeight mSort mOwner now mv 1 (nI (V.1 g)) (nI u) = some (nI (zN (yFu F V (V.1 g) u) (oN F)), now1, mv1) ∧ TR F now0 now1 (zTo F V (V.1 g) u) ∧ (zTo F V (V.1 g) u).1 g = (gS F g h u s).1 := fun u hu => by
          obtain ⟨now1, mv1, e, hM1, hq1⟩ := m_toss (v := 1) hG (by decide) hT.1 hpV hu (by omega) mv
          refine ⟨now1, mv1, e, ⟨hM1, fun j hj => (hq1 j (Or.inl hj)).trans (hT.2 j hj)⟩, ?_⟩
          show (if V.1 g = V.1 g then zG F g (V.1 g) (zL F V (V.1 g) + u) else _) = _
          unfold gS
          rw [if_pos rfl, if_pos hp, hs]
          show zG F g s.1 (zL F V s.1 + u) = zG F g s.1 (zL F (fun _ => 0, h, s.2) s.1 + u)
          have : zL F V s.1 = zL F (fun _ => 0, h, s.2) s.1 := by
            unfold zL
            rw [hh, hck]
          rw [this]
        by_cases hbit : b / 2 ^ i % 2 = 1
        · obtain ⟨now1, mv1, e, hT1, hg1⟩ := hgen 3 (by omega)
          have e' : mm_tossBy mPeople mHours mGrains mKind mWind mWeight mSort mOwner now mv 1 (nI (V.1 g)) 3 = some (nI (zN (yFu F V (V.1 g) 3) (oN F)), now1, mv1) := e
          rw [if_pos hbit, if_pos hbit]
          refine ⟨now1, mv1, _, hT1, hg1, hh, fun _ => ?_, Nat.le_refl _, ?_⟩
          · show V.2.2 + 1 = s.2 + 1
            omega
          · rw [mm_gust_L64.eq_2, if_neg c, hb1 hbit, b_s, i10, m_lies1 hG hT.1 hg, b_s, if_pos hpV, i10, e9, gI_n (show 9 + g < 18 by omega) (by omega), b_s, i10, n_cl (show 9 + g < 2147483648 by omega), eg, e', b_s, nI_1, pk_mul]
        · obtain ⟨now1, mv1, e, hT1, hg1⟩ := hgen 0 (by omega)
          have e' : mm_tossBy mPeople mHours mGrains mKind mWind mWeight mSort mOwner now mv 1 (nI (V.1 g)) 0 = some (nI (zN (yFu F V (V.1 g) 0) (oN F)), now1, mv1) := e
          rw [if_neg hbit, if_neg hbit]
          refine ⟨now1, mv1, _, hT1, hg1, hh, fun _ => ?_, Nat.le_refl _, ?_⟩
          · show V.2.2 + 1 = s.2 + 1
            omega
          · rw [mm_gust_L64.eq_2, if_neg c, hb0 hbit, b_s, i00, m_lies1 hG hT.1 hg, b_s, if_pos hpV, i10, e9, gI_n (show 9 + g < 18 by omega) (by omega), b_s, i00, n_cl (show 9 + g < 2147483648 by omega), eg, e', b_s, nI_1, eq10, pk_mul]
      · have hpV : ¬ V.1 g < oP F := by rw [hs]; exact hp
        refine ⟨now, mv, V, hT, ?_, hh, fun z => absurd z ?_, Nat.le_succ _, ?_⟩
        · unfold gS
          rw [if_neg hp]
          exact hs
        · unfold gS
          rw [if_neg hp]
          exact hp
        · by_cases hbit : b / 2 ^ i % 2 = 1
          · rw [mm_gust_L64.eq_2, if_neg c, hb1 hbit, b_s, i10, m_lies1 hG hT.1 hg, b_s, if_neg hpV, i00, if_pos hbit, nI_1, pk_mul]
          · rw [mm_gust_L64.eq_2, if_neg c, hb0 hbit, b_s, i00, m_lies1 hG hT.1 hg, b_s, if_neg hpV, i00, if_neg hbit, nI_1, eq10, pk_mul]
    obtain ⟨now1, mv1, V1, hT1, hg1, hh1, hc1, hk1, e⟩ := step
    obtain ⟨now2, mv2, V2, e2, hT2, hg2⟩ := ih (i + 1) n _ now1 mv1 V1 _ (by omega) (by omega) hT1 hg1 hh1 hc1 (by omega)
    refine ⟨now2, mv2, V2, ?_, hT2, ?_⟩
    · rw [e, e2, hdiv, gW, Nat.mul_assoc]
    · rw [hg2, hdiv, gE]
theorem m_gust46 (hG : RF F mKind mWind mWeight mSort mOwner mPeople mHours mGrains) {g q nn : Nat} (hg : g < oN F) (hq : q ≤ 10) (hnn : nn ≤ 5) (hk : S.2.2 < 1000) (kx : Int32 → Int32 → Int32 → (Nat → Int32) → (Nat → Int32) → Option (Int32 × (Nat → Int32) × (Nat → Int32))) :
    ∀ (d k n : Nat) (now mv : Nat → Int32), k + d = 2 ^ nn → d < n → RM F now 0 S →
      ∃ now1 mv1, mm_gust_L46 mPeople mHours mGrains mKind mWind mWeight mSort mOwner (nI g) (nI nn) (nI q) kx n (nI k) (nI (zSm (gW q nn) k)) (nI (zSm (fun b => gW q nn b * (if gE F g S.2.1 nn b (S.1 g, S.2.2) = 8 then 1 else 0)) k)) now mv = kx (nI (2 ^ nn)) (nI (zSm (gW q nn) (2 ^ nn))) (nI (zSm (fun b => gW q nn b * (if gE F g S.2.1 nn b (S.1 g, S.2.2) = 8 then 1 else 0)) (2 ^ nn))) now1 mv1 ∧ RM F now1 0 S := by
  have h4 := hG.1.1
  have h7 := hG.1.2.2.1
  have hp32 : 2 ^ nn ≤ 32 := Nat.le_trans (Nat.pow_le_pow_right (by decide) hnn) (by decide)
  have ex : (1 : Int32) <<< (nI nn &&& 31) = nI (2 ^ nn) := s_1 _ (by omega)
  intro d
  induction d with
  | zero =>
    intro k n now mv hkd hn hM
    obtain ⟨n, rfl⟩ : ∃ m, n = m + 1 := ⟨n - 1, by omega⟩
    obtain rfl : k = 2 ^ nn := by omega
    exact ⟨now, mv, by rw [mm_gust_L46.eq_2, ex, if_pos ((n_le (by omega) (by omega)).mpr (Nat.le_refl _))], hM⟩
  | succ d ih =>
    intro k n now mv hkd hn hM
    obtain ⟨n, rfl⟩ : ∃ m, n = m + 1 := ⟨n - 1, by omega⟩
    obtain ⟨now1, e1, hM1, hM0, hq1⟩ := m_lay now F S hM h7
    have e9 : (9 : Int32) + nI g = nI (9 + g) := nI_add 9 g
    obtain ⟨now2, mv2, V2, e2, hT2, hg2⟩ := m_gust64 hG (h := S.2.1) hg hq (show k < 32 by omega) hnn (fun y9_64 y8_64 mNow_64 mMoved_64 => (gI (9 + nI g) 18 (if (mNow_64 (Int32.toNatClampNeg (9 + nI g))) = 8 then (mm_gust_L46 mPeople mHours mGrains mKind mWind mWeight mSort mOwner (nI g) (nI nn) (nI q) kx n (nI k + 1) (nI (zSm (gW q nn) k) + y8_64) (nI (zSm (fun b => gW q nn b * (if gE F g S.2.1 nn b (S.1 g, S.2.2) = 8 then 1 else 0)) k) + y8_64) mNow_64 mMoved_64) else (mm_gust_L46 mPeople mHours mGrains mKind mWind mWeight mSort mOwner (nI g) (nI nn) (nI q) kx n (nI k + 1) (nI (zSm (gW q nn) k) + y8_64) (nI (zSm (fun b => gW q nn b * (if gE F g S.2.1 nn b (S.1 g, S.2.2) = 8 then 1 else 0)) k) + 0) mNow_64 mMoved_64)))) nn 0 1000 1 now1 mv S (S.1 g, S.2.2) (by omega) (by omega) (now0 := now1) ⟨hM1, fun _ _ => rfl⟩ rfl rfl (fun _ => rfl) (by omega)
    have hpl := hT2.1.1.1 g hg
    have eg := hT2.1.2.1 g hg
    obtain ⟨now3, mv3, e3, hM3⟩ := ih (k + 1) n now2 mv2 (by omega) (by omega) (TR_back h7 hM0 hT2.2)
    refine ⟨now3, mv3, ?_, hM3⟩
    rw [mm_gust_L46.eq_2, ex, if_neg (fun z => by have := (n_le (by omega) (by omega)).mp z; omega), e1, b_s]
    refine Eq.trans e2 ?_
    show gI (9 + nI g) 18 _ = _
    rw [e9, gI_n (show 9 + g < 18 by omega) (by omega), n_cl (show 9 + g < 2147483648 by omega), eg, Nat.pow_zero, Nat.div_one, Nat.one_mul, nI_1, nI_add, nI_add, add0, ← e3, zSm, zSm]
    rw [Nat.pow_zero, Nat.div_one] at hg2
    by_cases h8 : V2.1 g = 8
    · rw [if_pos ((n_eqL (by omega) (by decide)).mpr h8), ← hg2, if_pos h8, Nat.mul_one]
    · rw [if_neg (fun z => h8 ((n_eqL (by omega) (by decide)).mp z)), ← hg2, if_neg h8, Nat.mul_zero]
      rfl
theorem x_gust42 {nn : Nat} (hnn : nn ≤ 5) (kx : Int32 → Int32 → Option Int32) : ∀ (d k n : Nat), k + d = nn → d < n → xx_gust_L42 (nI nn) kx n (nI k) (nI (10 ^ k)) = kx (nI nn) (nI (10 ^ nn)) := by
  intro d
  induction d with
  | zero =>
    intro k n hkd hn
    obtain ⟨n, rfl⟩ : ∃ m, n = m + 1 := ⟨n - 1, by omega⟩
    obtain rfl : k = nn := by omega
    rw [xx_gust_L42.eq_2, if_pos ((n_le (by omega) (by omega)).mpr (Nat.le_refl _))]
  | succ d ih =>
    intro k n hkd hn
    obtain ⟨n, rfl⟩ : ∃ m, n = m + 1 := ⟨n - 1, by omega⟩
    have e : nI (10 ^ k) * 10 = nI (10 ^ (k + 1)) := pk_mul (10 ^ k) 10
    rw [xx_gust_L42.eq_2, if_neg (fun z => by have := (n_le (by omega) (by omega)).mp z; omega), nI_1, e]
    exact ih (k + 1) n (by omega) (by omega)
theorem op_gust (hF : RF F fPk fWn fGw fGk fOw fPe fHo fGr) (hG : RF F mKind mWind mWeight mSort mOwner mPeople mHours mGrains) (hX : RX F L S) (hM : RM F mNow 0 S) (hk : S.2.2 < 1000) (mv : Nat → Int32) (p q s t : Int32) :
    ∃ r now1 mv1, xx_gust L fPk fWn fGw fGk fOw fPe fHo fGr p q s t = some r ∧ mm_gust mPeople mHours mGrains mKind mWind mWeight mSort mOwner mNow mv p q s t = some (r, now1, mv1) ∧ RM F now1 0 S := by
  have h4 := hF.1.1
  have h7 := hF.1.2.2.1
  have em : ∀ x : Int32, mm_in (Int32.toInt64 x) 1 5 = mm_in (Int32.toInt64 x) (Int32.toInt64 (nI 1)) (Int32.toInt64 (nI 5)) := fun x => rfl
  have em2 : ∀ x : Int32, mm_in (Int32.toInt64 x) 0 10 = mm_in (Int32.toInt64 x) (Int32.toInt64 (nI 0)) (Int32.toInt64 (nI 10)) := fun x => rfl
  have t0 : (0 : Int32).toInt = 0 := by decide
  have t1 : (1 : Int32).toInt = 1 := by decide
  have t5 : (5 : Int32).toInt = 5 := by decide
  have t10 : (10 : Int32).toInt = 10 := by decide
  have t5' : (nI 5).toInt = 5 := by decide
  have t6' : (nI 6).toInt = 6 := by decide
  have t10' : (nI 10).toInt = 10 := by decide
  have t11' : (nI 11).toInt = 11 := by decide
  unfold xx_gust mm_gust
  have bad : (p < 0 ∨ nI (oN F) ≤ p) → fl_isGrain fGr p = some 0 ∧ mm_isGrain mGrains p = some 0 := fun h => ⟨x_gra0 hF h, m_gra0 hG h⟩
  rcases pk_ix p (show oN F < 2 ^ 31 by omega) with h | h | ⟨g, hg, rfl⟩
  · exact ⟨-1, mNow, mv, by rw [(bad (Or.inl h)).1, b_s, i00], by rw [(bad (Or.inl h)).2, b_s, i00], hM⟩
  · exact ⟨-1, mNow, mv, by rw [(bad (Or.inr h)).1, b_s, i00], by rw [(bad (Or.inr h)).2, b_s, i00], hM⟩
  · rw [x_graT hF hg, m_graT hG hg, b_s, b_s, i10, i10]
    by_cases hq1 : q < 1
    · exact ⟨-2, mNow, mv, by rw [if_pos hq1], by rw [em, m_inF (Or.inl hq1), b_s, i00], hM⟩
    · rw [if_neg hq1]
      by_cases hq5 : 5 < q
      · exact ⟨-2, mNow, mv, by rw [if_pos hq5], by rw [em, m_inF (Or.inr hq5), b_s, i00], hM⟩
      · rw [if_neg hq5]
        rcases pk_ix q (show 6 < 2 ^ 31 by omega) with h | h | ⟨nn, hnn, rfl⟩
        · exact absurd ((fa_lt _ _).mpr (by have := (fa_lt _ _).mp h; omega)) hq1
        · exact absurd ((fa_lt _ _).mpr (by have := (fa_le _ _).mp h; omega)) hq5
        · have hn1 : 1 ≤ nn := by
            rcases Nat.lt_or_ge nn 1 with h | h
            · exact absurd ((n_ltL (by omega) (by decide)).mpr h) hq1
            · exact h
          rw [em, m_inT hn1 (show nn ≤ 5 by omega) (by decide), b_s, i10, em2]
          rcases pk_ix s (show 11 < 2 ^ 31 by omega) with h | h | ⟨c, hc, rfl⟩
          · exact ⟨-2, mNow, mv, by rw [if_pos h], by rw [m_inF (Or.inl h), b_s, i00], hM⟩
          · have hs2 := (fa_le _ _).mp h
            have hs0 : ¬ s < 0 := fun z => by have := (fa_lt _ _).mp z; omega
            have hs10 : ¬ s ≤ 10 := fun z => by have := (fa_le _ _).mp z; omega
            exact ⟨-2, mNow, mv, by rw [if_neg hs0, if_neg hs10], by rw [m_inF (Or.inr ((fa_lt _ _).mpr (by omega))), b_s, i00], hM⟩
          · rw [if_neg (n_neg (by omega)), if_pos ((n_leL (by omega) (by decide)).mpr (show c ≤ 10 by omega)), m_inT (Nat.zero_le _) (show c ≤ 10 by omega) (by decide), b_s, i10]
            have hp5 : (10 : Nat) ^ nn ≤ 10 ^ 5 := Nat.pow_le_pow_right (by decide) (by omega)
            have hp5' : (10 : Nat) ^ 5 = 100000 := rfl
            have hp0 : 0 < (10 : Nat) ^ nn := Nat.pow_pos (by decide)
            have hT := gY_le F g S.2.1 (show c ≤ 10 by omega) nn (S.1 g, S.2.2)
            obtain ⟨gg, hg1, hg2, ec, el⟩ := gu_terms (a := gY F g S.2.1 c nn (S.1 g, S.2.2)) (f := 10 ^ nn) (by omega) (by omega) (by omega)
            obtain ⟨now1, mv1, a2, hM1⟩ := m_gust46 hG hg (show c ≤ 10 by omega) (show nn ≤ 5 by omega) hk (fun y7_46 y6_46 y5_46 mNow_46 mMoved_46 => (Option.bind (mm_common y5_46 y6_46) fun q7 => (if t = 0 then (gD q7 (some ((y6_46 / q7), mNow_46, mMoved_46))) else (gD q7 (some ((y5_46 / q7), mNow_46, mMoved_46)))))) (2 ^ nn) 0 1000 mNow mv (by omega) (by have := Nat.pow_le_pow_right (show 0 < 2 by decide) (show nn ≤ 5 by omega); omega) hM
            have a1 := x_gust42 (show nn ≤ 5 by omega) (fun y6_42 y5_42 => (Option.bind (gu_waysToBeGone fPk fWn fGw fGk fOw fPe fHo 6 L (nI g) (nI nn) (nI c)) fun q7 => (Option.bind (nu_leastTerms q7 y5_42 t) fun q8 => (some q8)))) nn 0 1000 (by omega) (by omega)
            rw [gW_all (show c ≤ 10 by omega), gY_all] at a2
            have ex : ∀ R : Option Int32, R = (if t = 0 then some (nI (10 ^ nn) / nI gg) else some (nI (gY F g S.2.1 c nn (S.1 g, S.2.2)) / nI gg)) → ∃ r, R = some r ∧ r = (if t = 0 then (nI (10 ^ nn) / nI gg) else (nI (gY F g S.2.1 c nn (S.1 g, S.2.2)) / nI gg)) := fun R hR => ⟨_, by rw [hR]; split <;> rfl, rfl⟩
            refine ⟨if t = 0 then (nI (10 ^ nn) / nI gg) else (nI (gY F g S.2.1 c nn (S.1 g, S.2.2)) / nI gg), now1, mv1, ?_, ?_, hM1⟩
            · refine Eq.trans a1 ?_
              show Option.bind (gu_waysToBeGone fPk fWn fGw fGk fOw fPe fHo 6 L (nI g) (nI nn) (nI c)) _ = _
              rw [x_ways hF hg (show c ≤ 10 by omega) nn 6 L S (by omega) (by omega) hX (by omega), b_s, el t]
              split <;> rfl
            · refine Eq.trans a2 ?_
              show Option.bind (mm_common (nI (gY F g S.2.1 c nn (S.1 g, S.2.2))) (nI (10 ^ nn))) _ = _
              rw [ec, b_s, gD_n (by omega) (by omega), gD_n (by omega) (by omega)]
              split <;> rfl
end O11
