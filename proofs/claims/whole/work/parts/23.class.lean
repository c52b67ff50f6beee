/-! ===== the class: weights of sets, guilt, clean ===== -/
def zWt (F : FD) (b : Nat) : Nat → Nat
  | 0 => 0
  | k + 1 => zWt F b k + if b.testBit k then oG F k else 0
def zGu (F : FD) (b : Nat) : Nat → Nat
  | 0 => 0
  | k + 1 => zGu F b k + if b.testBit k && !(oS F k == 1) then oG F k else 0
def zM (F : FD) (b : Nat) : Nat → Nat
  | 0 => b
  | k + 1 => if oS F k = 1 then (if (zM F b k).testBit k then zM F b k - 2 ^ k else zM F b k) else zM F b k
theorem zWt_le {F : FD} (hF : okF F) (b : Nat) : ∀ n, n ≤ oN F → zWt F b n ≤ 9 * n
  | 0, _ => by simp [zWt]
  | k + 1, h => by
    have ih := zWt_le hF b k (by omega)
    have := hF.2.2.2.2.2 k (by omega)
    unfold zWt
    split <;> omega
theorem zM_ok {F : FD} (hF : okF F) {b : Nat} (hb : b < 128) : ∀ n, n ≤ oN F → zM F b n < 128 ∧ ∀ i, i < 7 → (zM F b n).testBit i = (b.testBit i && !(decide (i < n) && oS F i == 1))
  | 0, _ => ⟨hb, fun i hi => by simp [zM]⟩
  | k + 1, h => by
    obtain ⟨h1, h2⟩ := zM_ok hF hb k (by omega)
    have h7 := hF.2.2.1
    unfold zM
    by_cases hs : oS F k = 1
    · rw [if_pos hs]
      obtain ⟨q1, q2⟩ := s_offb _ h1 k (by omega)
      refine ⟨q1, fun i hi => ?_⟩
      rw [q2 i hi, h2 i hi]
      by_cases hik : i = k
      · subst hik
        simp [hs]
      · by_cases hlt : i < k
        · simp [hik, hlt, show i < k + 1 by omega]
        · simp [hik, hlt, show ¬ i < k + 1 by omega]
    · rw [if_neg hs]
      refine ⟨h1, fun i hi => ?_⟩
      rw [h2 i hi]
      by_cases hik : i = k
      · subst hik
        simp [hs]
      · by_cases hlt : i < k
        · simp [hlt, show i < k + 1 by omega]
        · simp [hlt, show ¬ i < k + 1 by omega]
theorem zGu_eq {F : FD} (hF : okF F) {b : Nat} (hb : b < 128) : ∀ n, n ≤ oN F → zWt F (zM F b (oN F)) n = zGu F b n
  | 0, _ => rfl
  | k + 1, h => by
    have h7 := hF.2.2.1
    unfold zWt zGu
    rw [zGu_eq hF hb k (by omega), (zM_ok hF hb (oN F) (Nat.le_refl _)).2 k (by omega)]
    simp [show k < oN F by omega]
theorem zWt_cong {F : FD} {b c : Nat} : ∀ n, (∀ k, k < n → b.testBit k = c.testBit k) → zWt F b n = zWt F c n
  | 0, _ => rfl
  | k + 1, h => by
    unfold zWt
    rw [zWt_cong k (fun j hj => h j (by omega)), h k (by omega)]
section CN
variable {F : FD} {fPk fWn fGw fGk fOw : Nat → Int32} {fPe fHo fGr : Int32} {L : Int64} {S : Sc}
theorem x_weigh_loop (hF : RF F fPk fWn fGw fGk fOw fPe fHo fGr) {b : Nat} (hb : b < 128) (kx : Int32 → Int32 → Option Int32) :
    ∀ (d k n : Nat), k + d = oN F → d < n → fl_weightOfBits_L4 fGw fGr (nI b) kx n (nI k) (nI (zWt F b k)) = kx (nI (oN F)) (nI (zWt F b (oN F))) := by
  have h7 := hF.1.2.2.1
  intro d
  induction d with
  | zero =>
    intro k n hk hn
    obtain ⟨n, rfl⟩ : ∃ m, n = m + 1 := ⟨n - 1, by omega⟩
    obtain rfl : k = oN F := by omega
    rw [fl_weightOfBits_L4.eq_2, hF.2.2.2.1, if_pos ((n_le (by omega) (by omega)).mpr (by omega))]
  | succ d ih =>
    intro k n hk hn
    obtain ⟨n, rfl⟩ : ∃ m, n = m + 1 := ⟨n - 1, by omega⟩
    have hkN : k < oN F := by omega
    rw [fl_weightOfBits_L4.eq_2, hF.2.2.2.1, if_neg (fun z => by have := (n_le (by omega) (by omega)).mp z; omega), x_weight hF hkN, b_s]
    have ih := ih (k + 1) n (by omega) (by omega)
    rw [hF.2.2.2.1] at ih
    by_cases hc : b.testBit k = true
    · rw [if_pos ((s_bit b hb k (by omega)).mpr hc), nI_1, nI_add, ← ih]
      simp [zWt, hc]
    · rw [if_neg (fun z => hc ((s_bit b hb k (by omega)).mp z)), nI_1, ← ih]
      simp [zWt, hc]
theorem x_weigh (hF : RF F fPk fWn fGw fGk fOw fPe fHo fGr) {b : Nat} (hb : b < 128) : fl_weightOfBits fGw fGr (nI b) = some (nI (zWt F b (oN F))) := by
  have h7 := hF.1.2.2.1
  exact x_weigh_loop hF hb (fun _ y => some y) (oN F) 0 1000 (by omega) (by omega)
theorem x_mask_loop (hF : RF F fPk fWn fGw fGk fOw fPe fHo fGr) {b : Nat} (hb : b < 128) (kx : Int32 → Int32 → Option Int32) :
    ∀ (d k n : Nat), k + d = oN F → d < n → fl_guiltOfBits_L4 fGk fGr kx n (nI k) (nI (zM F b k)) = kx (nI (oN F)) (nI (zM F b (oN F))) := by
  have h7 := hF.1.2.2.1
  intro d
  induction d with
  | zero =>
    intro k n hk hn
    obtain ⟨n, rfl⟩ : ∃ m, n = m + 1 := ⟨n - 1, by omega⟩
    obtain rfl : k = oN F := by omega
    rw [fl_guiltOfBits_L4.eq_2, hF.2.2.2.1, if_pos ((n_le (by omega) (by omega)).mpr (by omega))]
  | succ d ih =>
    intro k n hk hn
    obtain ⟨n, rfl⟩ : ∃ m, n = m + 1 := ⟨n - 1, by omega⟩
    have hkN : k < oN F := by omega
    have hs := (hF.1.2.2.2.2.2 k hkN).2.2.1
    rw [fl_guiltOfBits_L4.eq_2, hF.2.2.2.1, if_neg (fun z => by have := (n_le (by omega) (by omega)).mp z; omega), x_sort hF hkN, b_s]
    have ih := ih (k + 1) n (by omega) (by omega)
    rw [hF.2.2.2.1] at ih
    have hm := (zM_ok hF.1 hb k (by omega)).1
    by_cases hc : oS F k = 1
    · rw [if_pos ((n_eqL (by omega) (by decide)).mpr hc), nI_1, s_off _ hm k (by omega), ← ih]
      conv => rhs; rw [zM]
      rw [if_pos hc]
    · rw [if_neg (fun z => hc ((n_eqL (by omega) (by decide)).mp z)), nI_1, ← ih]
      conv => rhs; rw [zM]
      rw [if_neg hc]
theorem x_guiltB (hF : RF F fPk fWn fGw fGk fOw fPe fHo fGr) {b : Nat} (hb : b < 128) : fl_guiltOfBits fGw fGk fGr (nI b) = some (nI (zGu F b (oN F))) := by
  have h7 := hF.1.2.2.1
  unfold fl_guiltOfBits
  have e := x_mask_loop hF hb (fun _ y => (fl_weightOfBits fGw fGr y).bind fun q1 => some q1) (oN F) 0 1000 (by omega) (by omega)
  refine Eq.trans e ?_
  show ((fl_weightOfBits fGw fGr (nI (zM F b (oN F)))).bind fun q1 => some q1) = _
  rw [x_weigh hF (zM_ok hF.1 hb (oN F) (Nat.le_refl _)).1, b_s, zGu_eq hF.1 hb (oN F) (Nat.le_refl _)]
theorem zB_128 (hF : okF F) (c : Nat → Bool) : zB c (oN F) < 128 := Nat.lt_of_lt_of_le (zB_lt c (oN F)) (p_of7 hF.2.2.1)
theorem x_guilt (hF : RF F fPk fWn fGw fGk fOw fPe fHo fGr) (hX : RX F L S) {p : Nat} (hp : p < 16) : fl_guiltOf fGw fGk fGr L (nI p) = some (nI (zGu F (zB (yL S p) (oN F)) (oN F))) := by
  unfold fl_guiltOf
  rw [x_lying hF hX hp, b_s, x_guiltB hF (zB_128 hF.1 _), b_s]
/-- clean: the class and the model ask it alike of two sets -/
def zCl (a b : Nat) : Int32 := if (nI a &&& (nI b ^^^ (-1))) = 0 then 1 else 0
theorem x_clean (hF : RF F fPk fWn fGw fGk fOw fPe fHo fGr) (hX : RX F L S) {p : Nat} (hp : p < 16) : fl_isClean fOw fGr L (nI p) = some (zCl (zB (yL S p) (oN F)) (zB (yR F S) (oN F))) := by
  unfold fl_isClean zCl
  rw [x_lying hF hX hp, b_s, x_right hF hX, b_s]
  split <;> rfl
theorem x_ownW (hF : RF F fPk fWn fGw fGk fOw fPe fHo fGr) (hX : RX F L S) {p : Nat} (hp : p < 16) : fl_ownWeight fGw fOw fGr L (nI p) = some (nI (zWt F (zB (yL S p) (oN F) &&& zB (yR F S) (oN F)) (oN F))) := by
  unfold fl_ownWeight
  rw [x_lying hF hX hp, b_s, x_right hF hX, b_s, fa_and, x_weigh hF (Nat.lt_of_le_of_lt Nat.and_le_left (zB_128 hF.1 _)), b_s]
theorem x_goneW (hF : RF F fPk fWn fGw fGk fOw fPe fHo fGr) (hX : RX F L S) : fl_goneWeight fGw fGr L = some (nI (zWt F (zB (yL S 8) (oN F)) (oN F))) := by
  unfold fl_goneWeight
  have e : (8 : Int32) = nI 8 := rfl
  rw [e, x_lying hF hX (by omega), b_s, x_weigh hF (zB_128 hF.1 _), b_s]
theorem x_flying_loop (hF : RF F fPk fWn fGw fGk fOw fPe fHo fGr) (hX : RX F L S) {p : Nat} (hp : p < oP F) (kx : Int32 → Int32 → Option Int32) :
    ∀ (d k n : Nat), k + d = oN F → d < n → fl_flyingBits_L14 fPk fGw fGk fOw fPe fGr L (nI p) (nI (zL F S p)) kx n (nI k) (nI (zB (yF F S p) k)) = kx (nI (oN F)) (nI (zB (yF F S p) (oN F))) := by
  have h7 := hF.1.2.2.1
  have h4 := hF.1.1
  have hli := zL_le hF.1 S p
  intro d
  induction d with
  | zero =>
    intro k n hk hn
    obtain ⟨n, rfl⟩ : ∃ m, n = m + 1 := ⟨n - 1, by omega⟩
    obtain rfl : k = oN F := by omega
    rw [fl_flyingBits_L14.eq_2, hF.2.2.2.1, if_pos ((n_le (by omega) (by omega)).mpr (by omega))]
  | succ d ih =>
    intro k n hk hn
    obtain ⟨n, rfl⟩ : ∃ m, n = m + 1 := ⟨n - 1, by omega⟩
    have hkN : k < oN F := by omega
    have hSk := hX.1.1 k hkN
    have hb := zB_lt (yF F S p) k
    have hy := zY_lt (F := F) (g := k) (p := p) (show zL F S p < 1000 by omega)
    rw [fl_flyingBits_L14.eq_2, hF.2.2.2.1, if_neg (fun z => by have := (n_le (by omega) (by omega)).mp z; omega), x_place h7 hX hkN, b_s]
    have ih := ih (k + 1) n (by omega) (by omega)
    rw [hF.2.2.2.1] at ih
    by_cases hc : S.1 k = p
    · rw [if_pos ((n_eq (by omega) (by omega)).mpr hc), x_flight hF hkN hp (by omega), b_s]
      by_cases h0 : zY F k p (zL F S p) = 0
      · rw [if_pos ((n_leL (by omega) (by decide)).mpr (by omega)), nI_1, ← ih]
        simp [zB, yF, hc, h0]
      · rw [if_neg (fun z => h0 (by have := (n_leL (show zY F k p (zL F S p) < 2147483648 by omega) (by decide)).mp z; omega)), nI_1, s_or (by omega) hb, ← ih]
        simp [zB, yF, hc, h0]
    · rw [if_neg (fun z => hc ((n_eq (by omega) (by omega)).mp z)), nI_1, ← ih]
      simp [zB, yF, hc]
theorem x_flying (hF : RF F fPk fWn fGw fGk fOw fPe fHo fGr) (hX : RX F L S) {p : Nat} (hp : p < oP F) : fl_flyingBits fPk fWn fGw fGk fOw fPe fHo fGr L (nI p) = some (nI (zB (yF F S p) (oN F))) := by
  have h7 := hF.1.2.2.1
  unfold fl_flyingBits
  rw [x_lift hF hX hp, b_s]
  exact x_flying_loop hF hX hp (fun _ y => some y) (oN F) 0 1000 (by omega) (by omega)
theorem x_cleanBits_loop (hF : RF F fPk fWn fGw fGk fOw fPe fHo fGr) (hX : RX F L S) (kx : Int32 → Int32 → Option Int32) :
    ∀ (d k n : Nat), k + d = oP F → d < n → fl_cleanBits_L5 fOw fPe fGr L kx n (nI k) (nI (zB (fun p => zCl (zB (yL S p) (oN F)) (zB (yR F S) (oN F)) == 1) k)) = kx (nI (oP F)) (nI (zB (fun p => zCl (zB (yL S p) (oN F)) (zB (yR F S) (oN F)) == 1) (oP F))) := by
  have h4 := hF.1.1
  intro d
  induction d with
  | zero =>
    intro k n hk hn
    obtain ⟨n, rfl⟩ : ∃ m, n = m + 1 := ⟨n - 1, by omega⟩
    obtain rfl : k = oP F := by omega
    rw [fl_cleanBits_L5.eq_2, hF.2.1, if_pos ((n_le (by omega) (by omega)).mpr (by omega))]
  | succ d ih =>
    intro k n hk hn
    obtain ⟨n, rfl⟩ : ∃ m, n = m + 1 := ⟨n - 1, by omega⟩
    have hb := zB_lt (fun p => zCl (zB (yL S p) (oN F)) (zB (yR F S) (oN F)) == 1) k
    rw [fl_cleanBits_L5.eq_2, hF.2.1, if_neg (fun z => by have := (n_le (by omega) (by omega)).mp z; omega), x_clean hF hX (by omega), b_s]
    have ih := ih (k + 1) n (by omega) (by omega)
    rw [hF.2.1] at ih
    by_cases hc : zCl (zB (yL S k) (oN F)) (zB (yR F S) (oN F)) = 1
    · rw [hc, if_neg (by decide), nI_1, s_or (by omega) hb, ← ih]
      simp [zB, hc]
    · have h0 : zCl (zB (yL S k) (oN F)) (zB (yR F S) (oN F)) = 0 := by
        unfold zCl at hc ⊢
        split
        · rename_i q
          rw [if_pos q] at hc
          exact absurd rfl hc
        · rfl
      rw [h0, if_pos rfl, nI_1, ← ih]
      simp [zB, h0]
theorem x_cleanBits (hF : RF F fPk fWn fGw fGk fOw fPe fHo fGr) (hX : RX F L S) : fl_cleanBits fOw fPe fGr L = some (nI (zB (fun p => zCl (zB (yL S p) (oN F)) (zB (yR F S) (oN F)) == 1) (oP F))) := by
  have h4 := hF.1.1
  exact x_cleanBits_loop hF hX (fun _ y => some y) (oP F) 0 1000 (by omega) (by omega)
end CN
