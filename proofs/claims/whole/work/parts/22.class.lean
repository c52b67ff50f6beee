/-! ===== the class: landing, tossed, sets of grains ===== -/
section CM
variable {F : FD} {fPk fWn fGw fGk fOw : Nat → Int32} {fPe fHo fGr : Int32} {L : Int64} {S : Sc}
theorem x_landing (hF : RF F fPk fWn fGw fGk fOw fPe fHo fGr) {g p l : Nat} (hg : g < oN F) (hp : p < oP F) (hl : l < 1000) : fl_landing fPk fGw fGk fOw fPe (nI g) (nI p) (nI l) = some (nI (zG F g p l)) := by
  have h4 := hF.1.1
  have hk := hF.1.2.2.2.1 p hp
  obtain ⟨hw1, hw2, hs, ho⟩ := hF.1.2.2.2.2.2 g hg
  have hy := zY_lt (F := F) (g := g) (p := p) hl
  unfold fl_landing zG
  rw [x_flight hF hg hp hl, b_s, hF.2.1, x_isP (show oP F < 2147483648 by omega) (show p < 2147483648 by omega), if_pos hp]
  generalize zY F g p l = f at hy ⊢
  simp only [b_s, x_kind hF hp, x_sort hF hg, nI_add]
  rw [x_isP (show oP F < 2147483648 by omega) (show p + f < 2147483648 by omega), b_s]
  by_cases h0 : f = 0
  · rw [if_pos ((n_leL (show f < 2147483648 by omega) (by decide)).mpr (by omega)), if_pos h0, if_neg (by decide)]
    by_cases h2 : oK F p = 2
    · by_cases h1 : oS F g = 1
      · simp (disch := omega) only [l0, l1, l2, l3, l4, l6, l7, n_eq, if_pos, h1, h2, and_self]
        rfl
      · simp (disch := omega) only [l0, l1, l2, l3, l4, l6, l7, n_eq, if_pos, if_neg, h1, h2, false_and, ite_true, ite_false]
    · simp (disch := omega) only [l0, l1, l2, l3, l4, l6, l7, n_eq, if_neg, h2, and_false, ite_true, ite_false]
  · rw [if_neg (fun z => h0 (by have := (n_leL (show f < 2147483648 by omega) (by decide)).mp z; omega)), if_neg h0]
    by_cases hpf : p + f < oP F
    · rw [if_pos hpf, if_pos hpf, if_neg (by decide)]
    · rw [if_neg hpf, if_neg hpf, if_pos rfl]
      rfl
theorem x_flight8 (hF : RF F fPk fWn fGw fGk fOw fPe fHo fGr) {g p l : Nat} (hg : g < oN F) (hp : p = 8 ∨ p = 9) : fl_flight fPk fGw fGk fOw fPe (nI g) (nI p) (nI l) = some 0 := by
  have h4 := hF.1.1
  obtain ⟨hw1, hw2, hs, ho⟩ := hF.1.2.2.2.2.2 g hg
  unfold fl_flight
  rw [x_owner hF hg, hF.2.1, b_s, if_neg (fun z => by have := (n_eq (show oO F g < 2147483648 by omega) (show p < 2147483648 by omega)).mp z; omega), x_isP (show oP F < 2147483648 by omega) (show p < 2147483648 by omega), if_neg (by omega), b_s, if_pos rfl]
theorem x_landing8 (hF : RF F fPk fWn fGw fGk fOw fPe fHo fGr) {g p l : Nat} (hg : g < oN F) (hp : p = 8 ∨ p = 9) : fl_landing fPk fGw fGk fOw fPe (nI g) (nI p) (nI l) = some (nI p) := by
  have h4 := hF.1.1
  unfold fl_landing
  rw [x_flight8 hF hg hp, b_s, if_pos (by decide), hF.2.1, x_isP (show oP F < 2147483648 by omega) (show p < 2147483648 by omega), if_neg (by omega), b_s, if_pos rfl]
theorem zG_ok (hF : okF F) {g p l : Nat} (hp : p < oP F) : zG F g p l < oP F ∨ zG F g p l = 8 ∨ zG F g p l = 9 := by
  unfold zG
  split
  · split <;> omega
  · split <;> omega
theorem zG_lt16 (hF : okF F) {g p l : Nat} (hp : p < oP F) : zG F g p l < 16 := by
  have := zG_ok (l := l) (g := g) hF hp
  have h4 := hF.1
  omega
theorem zT_ok (hF : okF F) (hS : okS F S) {p u : Nat} (hp : p < oP F) (hk : S.2.2 + 1 < 1048576) : okS F (zTo F S p u) := by
  refine ⟨fun g hg => ?_, hS.2.1, hk⟩
  show (if S.1 g = p then zG F g p (zL F S p + u) else S.1 g) < oP F ∨ (if S.1 g = p then zG F g p (zL F S p + u) else S.1 g) = 8 ∨ (if S.1 g = p then zG F g p (zL F S p + u) else S.1 g) = 9
  split
  · exact zG_ok hF hp
  · exact hS.1 g hg
/-- the loop of 'tossed': the first k grains lie as they will -/
theorem x_tossed_loop (hF : RF F fPk fWn fGw fGk fOw fPe fHo fGr) {x p l : Nat} (hx : x < 18446744073709551616) (hx1 : ∀ g, g < oN F → x / 2 ^ (4 * g) % 16 = S.1 g) (hp : p < oP F) (hS : okS F S) (hl : l < 1000) (kx : Int32 → Int64 → Option Int64) (y0 : Nat) :
    ∀ (d k n y : Nat), k + d = oN F → d < n → y < 18446744073709551616 → (∀ g, g < oN F → y / 2 ^ (4 * g) % 16 = if g < k ∧ S.1 g = p then zG F g p l else S.1 g) → y / 268435456 % 16 = y0 / 268435456 % 16 → y / 4294967296 = y0 / 4294967296 →
      ∃ z : Nat, fl_tossed_L17 fPk fGw fGk fOw fPe fGr (lN x) (nI p) (nI l) kx n (nI k) (lN y) = kx (nI (oN F)) (lN z) ∧ z < 18446744073709551616 ∧ (∀ g, g < oN F → z / 2 ^ (4 * g) % 16 = if S.1 g = p then zG F g p l else S.1 g) ∧ z / 268435456 % 16 = y0 / 268435456 % 16 ∧ z / 4294967296 = y0 / 4294967296 := by
  have h7 := hF.1.2.2.1
  have h4 := hF.1.1
  intro d
  induction d with
  | zero =>
    intro k n y hk hn hy h1 h2 h3
    obtain ⟨n, rfl⟩ : ∃ m, n = m + 1 := ⟨n - 1, by omega⟩
    refine ⟨y, ?_, hy, fun g hg => ?_, h2, h3⟩
    · rw [fl_tossed_L17.eq_2, hF.2.2.2.1, if_pos ((n_le (by omega) (by omega)).mpr (by omega)), show k = oN F by omega]
    · rw [h1 g hg]
      simp [show g < k by omega]
  | succ d ih =>
    intro k n y hk hn hy h1 h2 h3
    obtain ⟨n, rfl⟩ : ∃ m, n = m + 1 := ⟨n - 1, by omega⟩
    have hkN : k < oN F := by omega
    have hSk := hS.1 k hkN
    rw [fl_tossed_L17.eq_2, hF.2.2.2.1, if_neg (fun z => by have := (n_le (by omega) (by omega)).mp z; omega), sc_place hx (by omega), hx1 k hkN, b_s]
    by_cases hc : S.1 k = p
    · rw [if_pos ((n_eq (by omega) (by omega)).mpr hc), x_landing hF hkN hp hl, b_s, sc_withPl (by omega) (zG_lt16 hF.1 hp), b_s, nI_1]
      simp only [hF.2.2.2.1] at ih
      have hz := zG_lt16 (g := k) (l := l) hF.1 hp
      refine ih (k + 1) n (zs y k (zG F k p l)) (by omega) (by omega) (zs_lt hy (by omega) hz) (fun g hg => ?_) ?_ ?_
      · rw [zs_dig hy (by omega) hz, h1 g hg]
        by_cases hgk : g = k
        · subst hgk
          simp [hc]
        · by_cases hlt : g < k
          · simp [hgk, hlt, show g < k + 1 by omega]
          · simp [hgk, hlt, show ¬ g < k + 1 by omega]
      · have := zs_dig (k := 7) hy (show k < 8 by omega) hz
        rw [if_neg (by omega)] at this
        exact this.trans h2
      · rw [zs_hi hy (by omega) hz, h3]
    · rw [if_neg (fun z => hc ((n_eq (by omega) (by omega)).mp z)), nI_1]
      simp only [hF.2.2.2.1] at ih
      refine ih (k + 1) n y (by omega) (by omega) hy (fun g hg => ?_) h2 h3
      rw [h1 g hg]
      by_cases hgk : g = k
      · subst hgk
        simp [hc]
      · by_cases hlt : g < k
        · simp [hlt, show g < k + 1 by omega]
        · simp [hlt, show ¬ g < k + 1 by omega]
theorem x_tossed (hF : RF F fPk fWn fGw fGk fOw fPe fHo fGr) (hX : RX F L S) {p : Nat} (hp : p < oP F) (hk : S.2.2 + 1 < 1048576) : ∃ L1, fl_tossed fPk fWn fGw fGk fOw fPe fHo fGr L (nI p) = some L1 ∧ RX F L1 (zTo F S p 0) := by
  have h7 := hF.1.2.2.1
  have hli := zL_le hF.1 S p
  have hlift := x_lift hF hX hp
  obtain ⟨hS, x, rfl, hx, h1, h2, h3⟩ := hX
  unfold fl_tossed
  rw [hlift, b_s, sc_lat, b_s]
  have hx2 : x + 4294967296 < 18446744073709551616 := by omega
  obtain ⟨z, e, hz, z1, z2, z3⟩ := x_tossed_loop hF (S := S) hx h1 hp hS (show zL F S p < 1000 by omega) (fun _ y => some y) (x + 4294967296) (oN F) 0 1000 (x + 4294967296) (by omega) (by omega) hx2 (fun g hg => by
    rw [if_neg (by omega), ← h1 g hg]
    have hg7 : g < 7 := by omega
    rcases (show g = 0 ∨ g = 1 ∨ g = 2 ∨ g = 3 ∨ g = 4 ∨ g = 5 ∨ g = 6 by omega) with rfl | rfl | rfl | rfl | rfl | rfl | rfl <;> omega) rfl rfl
  refine ⟨lN z, e, zT_ok hF.1 hS hp hk, z, rfl, hz, fun g hg => ?_, ?_, ?_⟩
  · exact z1 g hg
  · show z / 268435456 % 16 = S.2.1
    rw [z2, ← h2]
    omega
  · show z / 4294967296 = S.2.2 + 1
    rw [z3, ← h3]
    omega
theorem x_later (hX : RX F L S) (h7 : oN F ≤ 7) (hk : S.2.2 + 1 < 1048576) : ∃ L1, sc_later L = some L1 ∧ RX F L1 (zLa S) := by
  obtain ⟨hS, x, rfl, hx, h1, h2, h3⟩ := hX
  refine ⟨lN (x + 4294967296), sc_lat x, ⟨hS.1, hS.2.1, hk⟩, x + 4294967296, rfl, by omega, fun g hg => ?_, ?_, ?_⟩
  · show (x + 4294967296) / 2 ^ (4 * g) % 16 = S.1 g
    rw [← h1 g hg]
    rcases (show g = 0 ∨ g = 1 ∨ g = 2 ∨ g = 3 ∨ g = 4 ∨ g = 5 ∨ g = 6 by omega) with rfl | rfl | rfl | rfl | rfl | rfl | rfl <;> omega
  · show (x + 4294967296) / 268435456 % 16 = S.2.1
    omega
  · show (x + 4294967296) / 4294967296 = S.2.2 + 1
    omega
theorem x_withH (hX : RX F L S) (h7 : oN F ≤ 7) (h4 : oP F ≤ 4) {h : Nat} (hh : h < oP F) : ∃ L1, sc_withHolder L (nI h) = some L1 ∧ RX F L1 (zHd S h) := by
  obtain ⟨hS, x, rfl, hx, h1, h2, h3⟩ := hX
  refine ⟨lN (zs x 7 h), sc_withH (by omega), ⟨hS.1, Or.inr hh, hS.2.2⟩, zs x 7 h, rfl, zs_lt hx (by omega) (by omega), fun g hg => ?_, ?_, ?_⟩
  · rw [zs_dig hx (by omega) (by omega), if_neg (by omega)]
    exact h1 g hg
  · have := zs_dig (k := 7) (j := 7) (p := h) hx (by omega) (by omega)
    rw [if_pos rfl] at this
    exact this
  · rw [zs_hi hx (by omega) (by omega)]
    exact h3
theorem x_picked (hF : RF F fPk fWn fGw fGk fOw fPe fHo fGr) (hX : RX F L S) {g : Nat} (hg : g < oN F) : ∃ L1, fl_picked fOw L (nI g) = some L1 ∧ RX F L1 (zPi F S g) := by
  have h7 := hF.1.2.2.1
  have h4 := hF.1.1
  obtain ⟨hw1, hw2, hs, ho⟩ := hF.1.2.2.2.2.2 g hg
  obtain ⟨hS, x, rfl, hx, h1, h2, h3⟩ := hX
  refine ⟨lN (zs x g (oO F g)), ?_, ⟨fun j hj => ?_, hS.2.1, hS.2.2⟩, zs x g (oO F g), rfl, zs_lt hx (by omega) (by omega), fun j hj => ?_, ?_, ?_⟩
  · unfold fl_picked
    rw [x_owner hF hg, b_s, sc_withPl (by omega) (by omega), b_s]
  · show (if j = g then oO F g else S.1 j) < oP F ∨ (if j = g then oO F g else S.1 j) = 8 ∨ (if j = g then oO F g else S.1 j) = 9
    split
    · exact Or.inl ho
    · exact hS.1 j hj
  · rw [zs_dig hx (by omega) (by omega), h1 j hj]
    rfl
  · have := zs_dig (k := 7) hx (show g < 8 by omega) (show oO F g < 16 by omega)
    rw [if_neg (by omega)] at this
    exact this.trans h2
  · rw [zs_hi hx (by omega) (by omega)]
    exact h3
/-- sets of grains -/
def yL (S : Sc) (p : Nat) : Nat → Bool := fun g => S.1 g == p
def yR (F : FD) (S : Sc) : Nat → Bool := fun g => S.1 g == oO F g
def yF (F : FD) (S : Sc) (p : Nat) : Nat → Bool := fun g => S.1 g == p && !(zY F g p (zL F S p) == 0)
theorem x_lying_loop (hF : RF F fPk fWn fGw fGk fOw fPe fHo fGr) (hX : RX F L S) {p : Nat} (hp : p < 16) (kx : Int32 → Int32 → Option Int32) :
    ∀ (d k n : Nat), k + d = oN F → d < n → fl_lyingBits_L6 fGr L (nI p) kx n (nI k) (nI (zB (yL S p) k)) = kx (nI (oN F)) (nI (zB (yL S p) (oN F))) := by
  have h7 := hF.1.2.2.1
  have h4 := hF.1.1
  intro d
  induction d with
  | zero =>
    intro k n hk hn
    obtain ⟨n, rfl⟩ : ∃ m, n = m + 1 := ⟨n - 1, by omega⟩
    obtain rfl : k = oN F := by omega
    rw [fl_lyingBits_L6.eq_2, hF.2.2.2.1, if_pos ((n_le (by omega) (by omega)).mpr (by omega))]
  | succ d ih =>
    intro k n hk hn
    obtain ⟨n, rfl⟩ : ∃ m, n = m + 1 := ⟨n - 1, by omega⟩
    have hkN : k < oN F := by omega
    have hSk := hX.1.1 k hkN
    have hb := zB_lt (yL S p) k
    rw [fl_lyingBits_L6.eq_2, hF.2.2.2.1, if_neg (fun z => by have := (n_le (by omega) (by omega)).mp z; omega), x_place h7 hX hkN, b_s]
    have ih := ih (k + 1) n (by omega) (by omega)
    rw [hF.2.2.2.1] at ih
    by_cases hc : S.1 k = p
    · rw [if_pos ((n_eq (by omega) (by omega)).mpr hc), nI_1, s_or (by omega) hb, ← ih]
      simp [zB, yL, hc]
    · rw [if_neg (fun z => hc ((n_eq (by omega) (by omega)).mp z)), nI_1, ← ih]
      simp [zB, yL, hc]
theorem x_lying (hF : RF F fPk fWn fGw fGk fOw fPe fHo fGr) (hX : RX F L S) {p : Nat} (hp : p < 16) : fl_lyingBits fGr L (nI p) = some (nI (zB (yL S p) (oN F))) := by
  have h7 := hF.1.2.2.1
  exact x_lying_loop hF hX hp (fun _ y => some y) (oN F) 0 1000 (by omega) (by omega)
theorem x_isRight (hF : RF F fPk fWn fGw fGk fOw fPe fHo fGr) (hX : RX F L S) {g : Nat} (hg : g < oN F) : fl_isRight fOw L (nI g) = some (if S.1 g = oO F g then 1 else 0) := by
  have h7 := hF.1.2.2.1
  have h4 := hF.1.1
  have hSk := hX.1.1 g hg
  obtain ⟨hw1, hw2, hs, ho⟩ := hF.1.2.2.2.2.2 g hg
  unfold fl_isRight
  rw [x_place h7 hX hg, b_s, x_owner hF hg, b_s]
  by_cases hc : S.1 g = oO F g
  · rw [if_pos hc, if_pos ((n_eq (by omega) (by omega)).mpr hc)]
  · rw [if_neg hc, if_neg (fun z => hc ((n_eq (by omega) (by omega)).mp z))]
theorem x_right_loop (hF : RF F fPk fWn fGw fGk fOw fPe fHo fGr) (hX : RX F L S) (kx : Int32 → Int32 → Option Int32) :
    ∀ (d k n : Nat), k + d = oN F → d < n → fl_rightBits_L5 fOw fGr L kx n (nI k) (nI (zB (yR F S) k)) = kx (nI (oN F)) (nI (zB (yR F S) (oN F))) := by
  have h7 := hF.1.2.2.1
  intro d
  induction d with
  | zero =>
    intro k n hk hn
    obtain ⟨n, rfl⟩ : ∃ m, n = m + 1 := ⟨n - 1, by omega⟩
    obtain rfl : k = oN F := by omega
    rw [fl_rightBits_L5.eq_2, hF.2.2.2.1, if_pos ((n_le (by omega) (by omega)).mpr (by omega))]
  | succ d ih =>
    intro k n hk hn
    obtain ⟨n, rfl⟩ : ∃ m, n = m + 1 := ⟨n - 1, by omega⟩
    have hkN : k < oN F := by omega
    have hb := zB_lt (yR F S) k
    rw [fl_rightBits_L5.eq_2, hF.2.2.2.1, if_neg (fun z => by have := (n_le (by omega) (by omega)).mp z; omega), x_isRight hF hX hkN, b_s]
    have ih := ih (k + 1) n (by omega) (by omega)
    rw [hF.2.2.2.1] at ih
    by_cases hc : S.1 k = oO F k
    · rw [if_pos hc, if_neg (by decide), nI_1, s_or (by omega) hb, ← ih]
      simp [zB, yR, hc]
    · rw [if_neg hc, if_pos rfl, nI_1, ← ih]
      simp [zB, yR, hc]
theorem x_right (hF : RF F fPk fWn fGw fGk fOw fPe fHo fGr) (hX : RX F L S) : fl_rightBits fOw fGr L = some (nI (zB (yR F S) (oN F))) := by
  have h7 := hF.1.2.2.1
  exact x_right_loop hF hX (fun _ y => some y) (oN F) 0 1000 (by omega) (by omega)
end CM
