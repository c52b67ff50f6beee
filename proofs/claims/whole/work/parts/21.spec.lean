theorem l0 : (0 : Int32) = nI 0 := rfl
theorem l1 : (1 : Int32) = nI 1 := rfl
theorem l2 : (2 : Int32) = nI 2 := rfl
theorem l3 : (3 : Int32) = nI 3 := rfl
theorem l4 : (4 : Int32) = nI 4 := rfl
theorem l5 : (5 : Int32) = nI 5 := rfl
theorem l6 : (6 : Int32) = nI 6 := rfl
theorem l7 : (7 : Int32) = nI 7 := rfl
theorem l8 : (8 : Int32) = nI 8 := rfl
theorem l9 : (9 : Int32) = nI 9 := rfl
theorem l10 : (10 : Int32) = nI 10 := rfl
theorem l11 : (11 : Int32) = nI 11 := rfl
theorem l12 : (12 : Int32) = nI 12 := rfl
theorem l13 : (13 : Int32) = nI 13 := rfl
theorem l14 : (14 : Int32) = nI 14 := rfl
theorem l15 : (15 : Int32) = nI 15 := rfl
theorem l16 : (16 : Int32) = nI 16 := rfl
theorem l17 : (17 : Int32) = nI 17 := rfl
theorem l18 : (18 : Int32) = nI 18 := rfl
theorem l19 : (19 : Int32) = nI 19 := rfl
theorem l20 : (20 : Int32) = nI 20 := rfl
theorem l48 : (48 : Int32) = nI 48 := rfl
theorem l56 : (56 : Int32) = nI 56 := rfl
theorem l71 : (71 : Int32) = nI 71 := rfl
theorem l72 : (72 : Int32) = nI 72 := rfl
theorem l80 : (80 : Int32) = nI 80 := rfl
theorem l87 : (87 : Int32) = nI 87 := rfl
theorem l100 : (100 : Int32) = nI 100 := rfl
theorem l255 : (255 : Int32) = nI 255 := rfl
theorem l625 : (625 : Int32) = nI 625 := rfl
theorem l1000 : (1000 : Int32) = nI 1000 := rfl
theorem l100000 : (100000 : Int32) = nI 100000 := rfl
/-! ===== what a floor and a scene are: numbers, kinds, winds, weights, sorts, owners; places, holder, clock ===== -/
abbrev FD : Type := (Nat × Nat × Nat) × (Nat → Nat) × (Nat → Nat) × (Nat → Nat) × (Nat → Nat) × (Nat → Nat)
abbrev Sc : Type := (Nat → Nat) × Nat × Nat
def oP (F : FD) : Nat := F.1.1
def oH (F : FD) : Nat := F.1.2.1
def oN (F : FD) : Nat := F.1.2.2
def oK (F : FD) : Nat → Nat := F.2.1
def oW (F : FD) : Nat → Nat := F.2.2.1
def oG (F : FD) : Nat → Nat := F.2.2.2.1
def oS (F : FD) : Nat → Nat := F.2.2.2.2.1
def oO (F : FD) : Nat → Nat := F.2.2.2.2.2
def okF (F : FD) : Prop := oP F ≤ 4 ∧ oH F ≤ 6 ∧ oN F ≤ 7 ∧ (∀ j, j < oP F → oK F j ≤ 3) ∧ (∀ j, j < oH F → oW F j ≤ 9) ∧ (∀ j, j < oN F → 1 ≤ oG F j ∧ oG F j ≤ 9 ∧ oS F j ≤ 3 ∧ oO F j < oP F)
def RF (F : FD) (fPk fWn fGw fGk fOw : Nat → Int32) (fPe fHo fGr : Int32) : Prop :=
  okF F ∧ fPe = nI (oP F) ∧ fHo = nI (oH F) ∧ fGr = nI (oN F) ∧ (∀ j, j < oP F → fPk j = nI (oK F j)) ∧ (∀ j, j < oH F → fWn j = nI (oW F j)) ∧ (∀ j, j < oN F → fGw j = nI (oG F j)) ∧ (∀ j, j < oN F → fGk j = nI (oS F j)) ∧ (∀ j, j < oN F → fOw j = nI (oO F j))
def okS (F : FD) (S : Sc) : Prop := (∀ g, g < oN F → S.1 g < oP F ∨ S.1 g = 8 ∨ S.1 g = 9) ∧ (S.2.1 = 15 ∨ S.2.1 < oP F) ∧ S.2.2 < 1048576
/-- a scene in the class: one number -/
def RX (F : FD) (L : Int64) (S : Sc) : Prop := okS F S ∧ ∃ x : Nat, L = lN x ∧ x < 18446744073709551616 ∧ (∀ g, g < oN F → x / 2 ^ (4 * g) % 16 = S.1 g) ∧ x / 268435456 % 16 = S.2.1 ∧ x / 4294967296 = S.2.2
/-- a scene in the model: nine places of a row, from b on -/
def RM (F : FD) (now : Nat → Int32) (b : Nat) (S : Sc) : Prop := okS F S ∧ (∀ g, g < oN F → now (b + g) = nI (S.1 g)) ∧ now (b + 7) = hI S.2.1 ∧ now (b + 8) = nI S.2.2
def zW (F : FD) (ck : Nat) : Nat := if oH F = 0 then 0 else oW F (ck % oH F)
def zL (F : FD) (S : Sc) (p : Nat) : Nat := zW F S.2.2 + (if S.2.1 = p then 2 else 0) + (if oK F p = 1 then 1 else 0)
def zO (k l : Nat) : Nat := if k = 1 then l + 2 else if k = 3 then l / 2 else l
def zF (k w l : Nat) : Nat := if k = 2 then 0 else if w ≤ l then (l - w) / 3 + 1 + (if k = 1 then 1 else 0) else 0
def zY (F : FD) (g p l : Nat) : Nat := if oO F g = p ∧ oK F p = 3 then 0 else zF (oS F g) (oG F g) (zO (oS F g) l)
def zG (F : FD) (g p l : Nat) : Nat := if zY F g p l = 0 then (if oS F g = 1 ∧ oK F p = 2 then 9 else p) else if p + zY F g p l < oP F then p + zY F g p l else 8
/-- tossed at a place, with so much more wind -/
def zTo (F : FD) (S : Sc) (p u : Nat) : Sc := (fun g => if S.1 g = p then zG F g p (zL F S p + u) else S.1 g, S.2.1, S.2.2 + 1)
def zLa (S : Sc) : Sc := (S.1, S.2.1, S.2.2 + 1)
def zHd (S : Sc) (h : Nat) : Sc := (S.1, h, S.2.2)
def zPi (F : FD) (S : Sc) (g : Nat) : Sc := (fun j => if j = g then oO F g else S.1 j, S.2.1, S.2.2)
/-- a set of the first n grains, as a number -/
def zB (c : Nat → Bool) : Nat → Nat
  | 0 => 0
  | k + 1 => zB c k + if c k then 2 ^ k else 0
theorem zB_lt (c : Nat → Bool) : ∀ n, zB c n < 2 ^ n
  | 0 => by simp [zB]
  | k + 1 => by
    have h := zB_lt c k
    have e : 2 ^ (k + 1) = 2 ^ k + 2 ^ k := by rw [Nat.pow_succ]; omega
    unfold zB
    split <;> omega
theorem zB_cong {c d : Nat → Bool} : ∀ n, (∀ k, k < n → c k = d k) → zB c n = zB d n
  | 0, _ => rfl
  | k + 1, h => by
    unfold zB
    rw [zB_cong k (fun j hj => h j (by omega)), h k (by omega)]
theorem zB_bit (c : Nat → Bool) : ∀ n i, (zB c n).testBit i = (decide (i < n) && c i)
  | 0, i => by simp [zB]
  | k + 1, i => by
    have h := zB_lt c k
    have ih := zB_bit c k i
    unfold zB
    by_cases hc : c k = true
    · rw [if_pos hc]
      rcases Nat.lt_trichotomy i k with q | q | q
      · rw [Nat.add_comm, Nat.testBit_two_pow_add_gt q, ih]
        simp [q, show i < k + 1 by omega]
      · subst q
        rw [Nat.add_comm, Nat.testBit_two_pow_add_eq, ih]
        simp [hc]
      · have e : 2 ^ (k + 1) = 2 ^ k + 2 ^ k := by rw [Nat.pow_succ]; omega
        rw [Nat.testBit_lt_two_pow (Nat.lt_of_lt_of_le (show zB c k + 2 ^ k < 2 ^ (k + 1) by omega) (Nat.pow_le_pow_right (by decide) (by omega)))]
        simp [show ¬ i < k + 1 by omega]
    · rw [if_neg hc, Nat.add_zero, ih]
      rcases Nat.lt_trichotomy i k with q | q | q
      · simp [q, show i < k + 1 by omega]
      · subst q
        simp [hc]
      · simp [show ¬ i < k by omega, show ¬ i < k + 1 by omega]
/-! bits of small numbers, by the kernel -/
theorem s_1 : ∀ k, k < 8 → (1 : Int32) <<< (nI k &&& 31) = nI (2 ^ k) := by decide +kernel
theorem s_or {b k : Nat} (hk : k < 8) (hb : b < 2 ^ k) : nI b ||| ((1 : Int32) <<< (nI k &&& 31)) = nI (b + 2 ^ k) := by
  rw [s_1 k hk, fa_or]
  have h := Nat.two_pow_add_eq_or_of_lt hb 1
  rw [Nat.mul_one] at h
  rw [Nat.or_comm, ← h, Nat.add_comm]
theorem s_bit : ∀ b, b < 128 → ∀ k, k < 7 → (((nI b >>> (nI k &&& 31)) &&& 1) = 1 ↔ b.testBit k = true) := by decide +kernel
theorem s_bit0 : ∀ b, b < 128 → ∀ k, k < 7 → ((nI b >>> (nI k &&& 31)) &&& 1) = if b.testBit k then 1 else 0 := by decide +kernel
theorem s_off : ∀ b, b < 128 → ∀ k, k < 7 → nI b &&& (((1 : Int32) <<< (nI k &&& 31)) ^^^ (-1)) = nI (if b.testBit k then b - 2 ^ k else b) := by decide +kernel
theorem s_offb : ∀ b, b < 128 → ∀ k, k < 7 → (if b.testBit k then b - 2 ^ k else b) < 128 ∧ ∀ i, i < 7 → (if b.testBit k then b - 2 ^ k else b).testBit i = (b.testBit i && decide (i ≠ k)) := by decide +kernel
theorem p_of7 {n : Nat} (h : n ≤ 7) : 2 ^ n ≤ 128 := by
  have := Nat.pow_le_pow_right (show 0 < 2 by decide) h
  exact this
/-! ===== the leaves of the class ===== -/
section CL
variable {F : FD} {fPk fWn fGw fGk fOw : Nat → Int32} {fPe fHo fGr : Int32} {L : Int64} {S : Sc}
theorem x_isP {P j : Nat} (hP : P < 2147483648) (hj : j < 2147483648) : fl_isPerson (nI P) (nI j) = some (if j < P then 1 else 0) := by
  unfold fl_isPerson
  by_cases h : j < P
  · simp (disch := omega) only [l0, l1, l2, l3, l4, l6, l7, n_lt, n_le, if_pos, if_neg]
  · simp (disch := omega) only [l0, l1, l2, l3, l4, l6, l7, n_lt, n_le, if_pos, if_neg]
theorem x_isP0 {P : Nat} {x : Int32} (h : x < 0 ∨ nI P ≤ x) : fl_isPerson (nI P) x = some 0 := by
  unfold fl_isPerson
  by_cases q : x < 0
  · rw [if_pos q]
  · rw [if_neg q, if_pos (h.resolve_left q)]
theorem x_isG {P j : Nat} (hP : P < 2147483648) (hj : j < 2147483648) : fl_isGrain (nI P) (nI j) = some (if j < P then 1 else 0) := by
  unfold fl_isGrain
  by_cases h : j < P
  · simp (disch := omega) only [l0, l1, l2, l3, l4, l6, l7, n_lt, n_le, if_pos, if_neg]
  · simp (disch := omega) only [l0, l1, l2, l3, l4, l6, l7, n_lt, n_le, if_pos, if_neg]
theorem x_isG0 {P : Nat} {x : Int32} (h : x < 0 ∨ nI P ≤ x) : fl_isGrain (nI P) x = some 0 := by
  unfold fl_isGrain
  by_cases q : x < 0
  · rw [if_pos q]
  · rw [if_neg q, if_pos (h.resolve_left q)]
theorem x_kind (hF : RF F fPk fWn fGw fGk fOw fPe fHo fGr) {p : Nat} (hp : p < oP F) : fl_personKind fPk (nI p) = some (nI (oK F p)) := by
  have h4 := hF.1.1
  unfold fl_personKind
  simp (disch := omega) only [l0, l1, l2, l3, l4, l6, l7, n_lt, n_le, if_neg, gI_n, n_cl]
  rw [hF.2.2.2.2.1 p hp]
theorem x_kind8 {p : Nat} (hp : 4 ≤ p) (hp2 : p < 2147483648) : fl_personKind fPk (nI p) = some (-9) := by
  unfold fl_personKind
  simp (disch := omega) only [l0, l1, l2, l3, l4, l6, l7, n_lt, n_le, if_neg, if_pos]
theorem x_weight (hF : RF F fPk fWn fGw fGk fOw fPe fHo fGr) {g : Nat} (hg : g < oN F) : fl_weightOf fGw (nI g) = some (nI (oG F g)) := by
  have h7 := hF.1.2.2.1
  unfold fl_weightOf
  simp (disch := omega) only [l0, l1, l2, l3, l4, l6, l7, n_lt, n_le, if_neg, gI_n, n_cl]
  rw [hF.2.2.2.2.2.2.1 g hg]
theorem x_sort (hF : RF F fPk fWn fGw fGk fOw fPe fHo fGr) {g : Nat} (hg : g < oN F) : fl_grainKind fGk (nI g) = some (nI (oS F g)) := by
  have h7 := hF.1.2.2.1
  unfold fl_grainKind
  simp (disch := omega) only [l0, l1, l2, l3, l4, l6, l7, n_lt, n_le, if_neg, gI_n, n_cl]
  rw [hF.2.2.2.2.2.2.2.1 g hg]
theorem x_owner (hF : RF F fPk fWn fGw fGk fOw fPe fHo fGr) {g : Nat} (hg : g < oN F) : fl_ownerOf fOw (nI g) = some (nI (oO F g)) := by
  have h7 := hF.1.2.2.1
  unfold fl_ownerOf
  simp (disch := omega) only [l0, l1, l2, l3, l4, l6, l7, n_lt, n_le, if_neg, gI_n, n_cl]
  rw [hF.2.2.2.2.2.2.2.2 g hg]
theorem x_place (h7 : oN F ≤ 7) (hX : RX F L S) {g : Nat} (hg : g < oN F) : sc_placeOf L (nI g) = some (nI (S.1 g)) := by
  obtain ⟨-, x, rfl, hx, hp, -, -⟩ := hX
  rw [sc_place hx (by omega), hp g hg]
theorem x_holder (hX : RX F L S) : sc_holderOf L = some (hI S.2.1) := by
  obtain ⟨-, x, rfl, hx, -, hh, -⟩ := hX
  rw [sc_holder hx, hh]
theorem x_clock (hX : RX F L S) : sc_clockOf L = some (nI S.2.2) := by
  obtain ⟨-, x, rfl, hx, -, -, hc⟩ := hX
  rw [sc_clock hx, hc]
theorem zW_le (hF : okF F) (ck : Nat) : zW F ck ≤ 9 := by
  unfold zW
  by_cases h : oH F = 0
  · rw [if_pos h]; omega
  · rw [if_neg h]
    exact hF.2.2.2.2.1 _ (Nat.mod_lt _ (by omega))
theorem zL_le (hF : okF F) (S : Sc) (p : Nat) : zL F S p ≤ 12 := by
  have h := zW_le hF S.2.2
  unfold zL
  split <;> split <;> omega
theorem x_wind (hF : RF F fPk fWn fGw fGk fOw fPe fHo fGr) (hX : RX F L S) : fl_windAt fWn fHo L = some (nI (zW F S.2.2)) := by
  have hk := hX.1.2.2
  have h6 := hF.1.2.1
  unfold fl_windAt zW
  rw [hF.2.2.1, x_clock hX, b_s]
  by_cases h : oH F = 0
  · rw [if_pos h, h]
    rfl
  · have hm : S.2.2 % oH F < oH F := Nat.mod_lt _ (by omega)
    rw [if_neg h]
    simp (disch := omega) only [l0, l1, l2, l3, l4, l6, l7, n_lt, n_rem, n_le, if_pos, if_neg, gD_n, gI_n, n_cl]
    rw [hF.2.2.2.2.2.1 _ hm]
theorem hI_eq (hS : okS F S) (h4 : oP F ≤ 4) {p : Nat} (hp : p < 15) : hI S.2.1 = nI p ↔ S.2.1 = p := by
  unfold hI
  by_cases h : S.2.1 = 15
  · rw [if_pos h]
    exact ⟨fun z => absurd z (n_m9' (by omega)), fun z => by omega⟩
  · rw [if_neg h]
    have := hS.2.1
    exact n_eq (by omega) (by omega)
theorem x_lift (hF : RF F fPk fWn fGw fGk fOw fPe fHo fGr) (hX : RX F L S) {p : Nat} (hp : p < oP F) : fl_liftAt fPk fWn fHo L (nI p) = some (nI (zL F S p)) := by
  have h4 := hF.1.1
  have hk := hF.1.2.2.2.1 p hp
  unfold fl_liftAt zL
  rw [x_wind hF hX, b_s, x_holder hX, b_s, x_kind hF hp]
  simp only [b_s, hI_eq hX.1 h4 (show p < 15 by omega)]
  by_cases h1 : S.2.1 = p
  · by_cases h2 : oK F p = 1
    · simp (disch := omega) only [l0, l1, l2, l3, l4, l6, l7, n_eq, if_pos, nI_add]
    · simp (disch := omega) only [l0, l1, l2, l3, l4, l6, l7, n_eq, if_pos, if_neg, nI_add, Nat.add_zero]
  · by_cases h2 : oK F p = 1
    · simp (disch := omega) only [l0, l1, l2, l3, l4, l6, l7, n_eq, if_pos, if_neg, nI_add, Nat.add_zero]
    · simp (disch := omega) only [l0, l1, l2, l3, l4, l6, l7, n_eq, if_neg, nI_add, Nat.add_zero]
theorem x_lift8 (hF : RF F fPk fWn fGw fGk fOw fPe fHo fGr) (hX : RX F L S) {p : Nat} (hp : 4 ≤ p) (hp2 : p < 15) : fl_liftAt fPk fWn fHo L (nI p) = some (nI (zW F S.2.2)) := by
  have h4 := hF.1.1
  have hh := hX.1.2.1
  unfold fl_liftAt
  rw [x_wind hF hX, b_s, x_holder hX, b_s, x_kind8 hp (by omega)]
  simp only [b_s, hI_eq hX.1 h4 hp2]
  rw [if_neg (by omega), if_neg (by decide)]
theorem x_own {k l : Nat} (hk : k ≤ 3) (hl : l < 1000) : fl_ownLift (nI k) (nI l) = some (nI (zO k l)) := by
  unfold fl_ownLift zO
  by_cases h1 : k = 1
  · simp (disch := omega) only [l0, l1, l2, l3, l4, l6, l7, n_eq, if_pos, nI_add]
  · by_cases h3 : k = 3
    · simp (disch := omega) only [l0, l1, l2, l3, l4, l6, l7, n_eq, if_pos, if_neg, n_div]
    · simp (disch := omega) only [l0, l1, l2, l3, l4, l6, l7, n_eq, if_neg]
theorem x_flown {k w l : Nat} (hk : k ≤ 3) (hw : w < 1000) (hl : l < 2000) : fl_flown (nI k) (nI w) (nI l) = some (nI (zF k w l)) := by
  unfold fl_flown zF
  by_cases h2 : k = 2
  · simp (disch := omega) only [l0, l1, l2, l3, l4, l6, l7, n_eq, if_pos]
  · by_cases hwl : w ≤ l
    · by_cases h1 : k = 1
      · simp (disch := omega) only [l0, l1, l2, l3, l4, l6, l7, n_eq, n_le, if_pos, if_neg, pk_sub, n_div, nI_add]
      · simp (disch := omega) only [l0, l1, l2, l3, l4, l6, l7, n_eq, n_le, if_pos, if_neg, pk_sub, n_div, nI_add]
    · simp (disch := omega) only [l0, l1, l2, l3, l4, l6, l7, n_eq, n_le, if_neg]
theorem zO_lt {k l : Nat} (hl : l < 1000) : zO k l < 1002 := by
  unfold zO
  split
  · omega
  · split <;> omega
theorem zF_lt {k w l : Nat} (hl : l < 2000) : zF k w l < 1000 := by
  unfold zF
  split
  · omega
  · split
    · split <;> omega
    · omega
theorem zY_lt {g p l : Nat} (hl : l < 1000) : zY F g p l < 1000 := by
  unfold zY
  split
  · omega
  · exact zF_lt (Nat.lt_of_lt_of_le (zO_lt hl) (by omega))
theorem x_flight (hF : RF F fPk fWn fGw fGk fOw fPe fHo fGr) {g p l : Nat} (hg : g < oN F) (hp : p < oP F) (hl : l < 1000) : fl_flight fPk fGw fGk fOw fPe (nI g) (nI p) (nI l) = some (nI (zY F g p l)) := by
  have h4 := hF.1.1
  have hk := hF.1.2.2.2.1 p hp
  obtain ⟨hw1, hw2, hs, ho⟩ := hF.1.2.2.2.2.2 g hg
  have hz := zO_lt (k := oS F g) hl
  unfold fl_flight zY
  rw [x_owner hF hg, hF.2.1, x_isP (show oP F < 2147483648 by omega) (show p < 2147483648 by omega), if_pos hp]
  simp only [b_s, x_kind hF hp, x_sort hF hg, x_weight hF hg, x_own hs hl, x_flown hs (show oG F g < 1000 by omega) (show zO (oS F g) l < 2000 by omega)]
  by_cases h1 : oO F g = p
  · by_cases h2 : oK F p = 3
    · simp (disch := omega) only [l0, l1, l2, l3, l4, l6, l7, n_eq, if_pos, if_neg, h1, h2, and_self]
      rfl
    · simp (disch := omega) only [l0, l1, l2, l3, l4, l6, l7, n_eq, if_pos, if_neg, h1, h2, and_false]
      rfl
  · simp (disch := omega) only [l0, l1, l2, l3, l4, l6, l7, n_eq, if_pos, if_neg, h1, false_and]
    rfl
end CL
