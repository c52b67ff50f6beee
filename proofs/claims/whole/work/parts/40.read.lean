/-! ===== reading: the class letter by letter, the model part by part ===== -/
def kC (p : Int32) : Int32 → (Nat → Int32) → (Nat → Int32) → (Nat → Int32) → (Nat → Int32) → (Nat → Int32) → (Nat → Int32) → Int32 → Int32 → Int32 → Int32 → Int32 → Option (Int32 × CT) := fun _ a b c d e f g h i pa ft => if pa = 87 then some (-9, a, b, c, d, e, f, g, h, i, pa, ft) else some (p, a, b, c, d, e, f, g, h, i, pa, ft)
def kM : (Nat → Int32) → (Nat → Int32) → (Nat → Int32) → Int32 → Int32 → Int32 → Int32 → Int32 → Option (Int32 × MT) := fun a b c d e f g h => some (h, a, b, c, d, e, f, g, h)
section O16
variable {tx : Nat → Int32} {n k ff : Nat}
variable {dPk dWn dGw dGk dOw dSt : Nat → Int32} {dPe dHo dGr dPa dFt v : Int32}
variable {rk rw rg : Nat → Int32} {rP rH rG at1 : Int32}
theorem cl_stop (hn : n ≤ 56) : fl_read_L27 tx (nI n) (kC (nI n)) (ff + 1) (nI n) dPk dWn dGw dGk dOw dSt dPe dHo dGr dPa dFt = kC (nI n) (nI n) dPk dWn dGw dGk dOw dSt dPe dHo dGr dPa dFt := by
  rw [fl_read_L27.eq_2, if_pos ((n_le (by omega) (by omega)).mpr (Nat.le_refl _))]
theorem cl_go (hn : n ≤ 56) (hk : k < n) {c : CT} (e : fl_takes dPk dWn dGw dGk dOw dSt dPe dHo dGr dPa dFt (tx k) = some (1, c)) : fl_read_L27 tx (nI n) (kC (nI n)) (ff + 1) (nI k) dPk dWn dGw dGk dOw dSt dPe dHo dGr dPa dFt = fl_read_L27 tx (nI n) (kC (nI n)) ff (nI (k + 1)) c.1 c.2.1 c.2.2.1 c.2.2.2.1 c.2.2.2.2.1 c.2.2.2.2.2.1 c.2.2.2.2.2.2.1 c.2.2.2.2.2.2.2.1 c.2.2.2.2.2.2.2.2.1 c.2.2.2.2.2.2.2.2.2.1 c.2.2.2.2.2.2.2.2.2.2 := by
  rw [fl_read_L27.eq_2, if_neg (fun z => by have := (n_le (by omega) (by omega)).mp z; omega), if_neg (fun z => by have : 56 ≤ k := (n_Lle (by omega) (by decide)).mp z; omega), gI_n (show k < 56 by omega) (by decide), n_cl (by omega), e, b_s, nI_1]
  exact i10
theorem cl_bad (hn : n ≤ 56) (hk : k < n) {c : CT} (e : fl_takes dPk dWn dGw dGk dOw dSt dPe dHo dGr dPa dFt (tx k) = some (0, c)) : fl_read_L27 tx (nI n) (kC (nI n)) (ff + 1) (nI k) dPk dWn dGw dGk dOw dSt dPe dHo dGr dPa dFt = some (nI k, c) := by
  rw [fl_read_L27.eq_2, if_neg (fun z => by have := (n_le (by omega) (by omega)).mp z; omega), if_neg (fun z => by have : 56 ≤ k := (n_Lle (by omega) (by decide)).mp z; omega), gI_n (show k < 56 by omega) (by decide), n_cl (by omega), e, b_s]
  exact i00
theorem cl_end (hn : n ≤ 56) (hpa : ¬ dPa = 87) {B : Prop} (h : k = n ∨ k < n ∧ B) (hb : B → ∃ c, fl_takes dPk dWn dGw dGk dOw dSt dPe dHo dGr dPa dFt (tx k) = some (0, c)) : ∃ c, fl_read_L27 tx (nI n) (kC (nI n)) (ff + 1) (nI k) dPk dWn dGw dGk dOw dSt dPe dHo dGr dPa dFt = some (nI k, c) := by
  rcases h with rfl | ⟨hk, hB⟩
  · refine ⟨(dPk, dWn, dGw, dGk, dOw, dSt, dPe, dHo, dGr, dPa, dFt), ?_⟩
    rw [cl_stop hn]
    unfold kC
    rw [if_neg hpa]
  · obtain ⟨c, e⟩ := hb hB
    exact ⟨c, cl_bad hn hk e⟩
theorem ml_stop (hn : n ≤ 56) : mm_readText_L51 tx (nI n) kM (ff + 1) rk rw rg rP rH rG (nI n) (-9) = kM rk rw rg rP rH rG (nI n) (-9) := by
  rw [mm_readText_L51.eq_2, if_pos rfl, if_pos ((n_le (by omega) (by omega)).mpr (Nat.le_refl _))]
theorem ml_go (hn : n ≤ 56) (hk : k < n) {m : MT} (e : mm_readPart rk rw rg rP rH rG tx (nI n) (nI k) (-9) (tx k) = some m) : mm_readText_L51 tx (nI n) kM (ff + 1) rk rw rg rP rH rG (nI k) (-9) = mm_readText_L51 tx (nI n) kM ff m.1 m.2.1 m.2.2.1 m.2.2.2.1 m.2.2.2.2.1 m.2.2.2.2.2.1 m.2.2.2.2.2.2.1 m.2.2.2.2.2.2.2 := by
  rw [mm_readText_L51.eq_2, if_pos rfl, if_neg (fun z => by have := (n_le (by omega) (by omega)).mp z; omega), gI_n (show k < 56 by omega) (by decide), n_cl (by omega), e, b_s]
theorem ml_bad (hn : n ≤ 56) (hk : k < n) {m : MT} {f : Nat} (hf : f < 100) (e : mm_readPart rk rw rg rP rH rG tx (nI n) (nI k) (-9) (tx k) = some m) (hm : m.2.2.2.2.2.2.2 = nI f) : mm_readText_L51 tx (nI n) kM (ff + 2) rk rw rg rP rH rG (nI k) (-9) = some (nI f, m) := by
  obtain ⟨a, b, c, d, x, y, z, w⟩ := m
  have hm' : w = nI f := hm
  subst hm'
  rw [ml_go hn hk e]
  show mm_readText_L51 tx (nI n) kM (ff + 1) a b c d x y z (nI f) = _
  rw [mm_readText_L51.eq_2, if_neg (n_m9 (by omega))]
  rfl
/-- letters that begin a part -/
theorem tb_P {P : Nat} (hP : dPe = nI P) (hp4 : P ≤ 4) (hv : v = 80) : fl_takes dPk dWn dGw dGk dOw dSt dPe dHo dGr 87 dFt v = some (if 4 ≤ P then 0 else 1, dPk, dWn, dGw, dGk, dOw, dSt, dPe, dHo, dGr, 80, 0) := by
  subst hv hP
  unfold fl_takes fl_begins
  rw [if_neg (show ¬ (87 : Int32) = 71 by decide), if_neg (show ¬ (87 : Int32) = 72 by decide), if_neg (show ¬ (87 : Int32) = 80 by decide), if_pos rfl, if_neg (show ¬ (80 : Int32) = 71 by decide), if_neg (show ¬ (80 : Int32) = 72 by decide), if_pos rfl]
  by_cases h : 4 ≤ P
  · rw [if_pos ((n_Lle (by omega) (by decide)).mpr h), if_pos h, b_s]
    exact gZ_0
  · rw [if_neg (fun z => h ((n_Lle (by omega) (by decide)).mp z)), if_neg h, b_s]
    exact gZ_1
theorem tb_H {H : Nat} (hH : dHo = nI H) (hh6 : H ≤ 6) (hv : v = 72) : fl_takes dPk dWn dGw dGk dOw dSt dPe dHo dGr 87 dFt v = some (if 6 ≤ H then 0 else 1, dPk, dWn, dGw, dGk, dOw, dSt, dPe, dHo, dGr, 72, 0) := by
  subst hv hH
  unfold fl_takes fl_begins
  rw [if_neg (show ¬ (87 : Int32) = 71 by decide), if_neg (show ¬ (87 : Int32) = 72 by decide), if_neg (show ¬ (87 : Int32) = 80 by decide), if_pos rfl, if_neg (show ¬ (72 : Int32) = 71 by decide), if_pos rfl]
  by_cases h : 6 ≤ H
  · rw [if_pos ((n_Lle (by omega) (by decide)).mpr h), if_pos h, b_s]
    exact gZ_0
  · rw [if_neg (fun z => h ((n_Lle (by omega) (by decide)).mp z)), if_neg h, b_s]
    exact gZ_1
theorem tb_G {N P : Nat} (hN : dGr = nI N) (hP : dPe = nI P) (hn7 : N ≤ 7) (hp4 : P ≤ 4) (hv : v = 71) : fl_takes dPk dWn dGw dGk dOw dSt dPe dHo dGr 87 dFt v = some (if 7 ≤ N ∨ P = 0 then 0 else 1, dPk, dWn, dGw, dGk, dOw, dSt, dPe, dHo, dGr, 71, 0) := by
  subst hv hN hP
  unfold fl_takes fl_begins
  rw [if_neg (show ¬ (87 : Int32) = 71 by decide), if_neg (show ¬ (87 : Int32) = 72 by decide), if_neg (show ¬ (87 : Int32) = 80 by decide), if_pos rfl, if_pos rfl]
  by_cases h : 7 ≤ N
  · rw [if_pos ((n_Lle (by omega) (by decide)).mpr h), if_pos (Or.inl h), b_s]
    exact gZ_0
  · rw [if_neg (fun z => h ((n_Lle (by omega) (by decide)).mp z))]
    by_cases h0 : P = 0
    · rw [if_pos ((n_leL (by omega) (by decide)).mpr (show P ≤ 0 by omega)), if_pos (Or.inr h0), b_s]
      exact gZ_0
    · rw [if_neg (fun z => h0 (by have : P ≤ 0 := (n_leL (by omega) (by decide)).mp z; omega)), if_neg (fun z => z.elim h h0), b_s]
      exact gZ_1
theorem tb_x (h1 : ¬ v = 80) (h2 : ¬ v = 72) (h3 : ¬ v = 71) : fl_takes dPk dWn dGw dGk dOw dSt dPe dHo dGr 87 dFt v = some (0, dPk, dWn, dGw, dGk, dOw, dSt, dPe, dHo, dGr, v, 0) := by
  unfold fl_takes fl_begins
  rw [if_neg (show ¬ (87 : Int32) = 71 by decide), if_neg (show ¬ (87 : Int32) = 72 by decide), if_neg (show ¬ (87 : Int32) = 80 by decide), if_pos rfl, if_neg h3, if_neg h2, if_neg h1, b_s]
  exact gZ_0
/-- figures in the class -/
theorem tp_ok {P j : Nat} (hP : dPe = nI P) (hp4 : P < 4) (e : v - 48 = nI j) (hj : j ≤ 3) : fl_takes dPk dWn dGw dGk dOw dSt dPe dHo dGr 80 dFt v = some (1, upd dPk P (nI j), dWn, dGw, dGk, dOw, dSt, nI (P + 1), dHo, dGr, 87, dFt) := by
  subst hP
  unfold fl_takes fl_tellsPerson
  rw [if_neg (show ¬ (80 : Int32) = 71 by decide), if_neg (show ¬ (80 : Int32) = 72 by decide), if_pos rfl, e, if_neg (n_neg (by omega)), if_neg (fun z => by have : 3 < j := (n_Llt (by omega) (by decide)).mp z; omega), if_neg (n_neg (show P < 2147483648 by omega)), if_pos ((n_ltL (by omega) (by decide)).mpr hp4), gI_n hp4 (by decide), n_cl (by omega), b_s, nI_1]
  exact gZ_1
theorem tp_bad (h : v - 48 < nI 0 ∨ nI 3 < v - 48) : ∃ c, fl_takes dPk dWn dGw dGk dOw dSt dPe dHo dGr 80 dFt v = some (0, c) := by
  unfold fl_takes fl_tellsPerson
  rw [if_neg (show ¬ (80 : Int32) = 71 by decide), if_neg (show ¬ (80 : Int32) = 72 by decide), if_pos rfl]
  by_cases h0 : v - 48 < 0
  · rw [if_pos h0, b_s]
    exact ⟨_, gZ_0⟩
  · rw [if_neg h0, if_pos (show (3 : Int32) < v - 48 from h.resolve_left h0), b_s]
    exact ⟨_, gZ_0⟩
theorem th_ok {H j : Nat} (hH : dHo = nI H) (hh6 : H < 6) (e : v - 48 = nI j) (hj : j ≤ 9) : fl_takes dPk dWn dGw dGk dOw dSt dPe dHo dGr 72 dFt v = some (1, dPk, upd dWn H (nI j), dGw, dGk, dOw, dSt, dPe, nI (H + 1), dGr, 87, dFt) := by
  subst hH
  unfold fl_takes fl_tellsHour
  rw [if_neg (show ¬ (72 : Int32) = 71 by decide), if_pos rfl, e, if_neg (n_neg (by omega)), if_neg (fun z => by have : 9 < j := (n_Llt (by omega) (by decide)).mp z; omega), if_neg (n_neg (show H < 2147483648 by omega)), if_pos ((n_ltL (by omega) (by decide)).mpr hh6), gI_n hh6 (by decide), n_cl (by omega), b_s, nI_1]
  exact gZ_1
theorem th_bad (h : v - 48 < nI 0 ∨ nI 9 < v - 48) : ∃ c, fl_takes dPk dWn dGw dGk dOw dSt dPe dHo dGr 72 dFt v = some (0, c) := by
  unfold fl_takes fl_tellsHour
  rw [if_neg (show ¬ (72 : Int32) = 71 by decide), if_pos rfl]
  by_cases h0 : v - 48 < 0
  · rw [if_pos h0, b_s]
    exact ⟨_, gZ_0⟩
  · rw [if_neg h0, if_pos (show (9 : Int32) < v - 48 from h.resolve_left h0), b_s]
    exact ⟨_, gZ_0⟩
theorem tg1_ok {N j : Nat} (hN : dGr = nI N) (hn7 : N < 7) (e : v - 48 = nI j) (h1 : 1 ≤ j) (h2 : j ≤ 9) : fl_takes dPk dWn dGw dGk dOw dSt dPe dHo dGr 71 0 v = some (1, dPk, dWn, upd dGw N (nI j), dGk, dOw, dSt, dPe, dHo, dGr, 71, 1) := by
  subst hN
  unfold fl_takes fl_tellsGrain fl_puts_3
  rw [if_pos rfl, if_pos (show (0 : Int32) + 1 = 1 by decide), e, if_neg (fun z => by have : j < 1 := (n_ltL (by omega) (by decide)).mp z; omega), if_neg (fun z => by have : 9 < j := (n_Llt (by omega) (by decide)).mp z; omega), if_neg (n_neg (by omega)), if_pos ((n_ltL (by omega) (by decide)).mpr hn7), gI_n hn7 (by decide), n_cl (by omega), b_s, i10, b_s]
  exact gZ_1
theorem tg1_bad (h : v - 48 < nI 1 ∨ nI 9 < v - 48) : ∃ c, fl_takes dPk dWn dGw dGk dOw dSt dPe dHo dGr 71 0 v = some (0, c) := by
  unfold fl_takes fl_tellsGrain
  rw [if_pos rfl, if_pos (show (0 : Int32) + 1 = 1 by decide)]
  by_cases h0 : v - 48 < 1
  · rw [if_pos h0, b_s]
    exact ⟨_, gZ_0⟩
  · rw [if_neg h0, if_pos (show (9 : Int32) < v - 48 from h.resolve_left h0), b_s]
    exact ⟨_, gZ_0⟩
theorem tg2_ok {N j : Nat} (hN : dGr = nI N) (hn7 : N < 7) (e : v - 48 = nI j) (h2 : j ≤ 3) : fl_takes dPk dWn dGw dGk dOw dSt dPe dHo dGr 71 1 v = some (1, dPk, dWn, dGw, upd dGk N (nI j), dOw, dSt, dPe, dHo, dGr, 71, 2) := by
  subst hN
  unfold fl_takes fl_tellsGrain fl_puts_4
  rw [if_pos rfl, if_neg (show ¬ (1 : Int32) + 1 = 1 by decide), if_pos (show (1 : Int32) + 1 = 2 by decide), e, if_neg (n_neg (by omega)), if_neg (fun z => by have : 3 < j := (n_Llt (by omega) (by decide)).mp z; omega), if_neg (n_neg (by omega)), if_pos ((n_ltL (by omega) (by decide)).mpr hn7), gI_n hn7 (by decide), n_cl (by omega), b_s, i10, b_s]
  exact gZ_1
theorem tg2_bad (h : v - 48 < nI 0 ∨ nI 3 < v - 48) : ∃ c, fl_takes dPk dWn dGw dGk dOw dSt dPe dHo dGr 71 1 v = some (0, c) := by
  unfold fl_takes fl_tellsGrain
  rw [if_pos rfl, if_neg (show ¬ (1 : Int32) + 1 = 1 by decide), if_pos (show (1 : Int32) + 1 = 2 by decide)]
  by_cases h0 : v - 48 < 0
  · rw [if_pos h0, b_s]
    exact ⟨_, gZ_0⟩
  · rw [if_neg h0, if_pos (show (3 : Int32) < v - 48 from h.resolve_left h0), b_s]
    exact ⟨_, gZ_0⟩
theorem per_bad {P : Nat} (h0 : 1 ≤ P) (hp4 : P ≤ 4) {x : Int32} (h : x < nI 0 ∨ nI (P - 1) < x) : fl_isPerson (nI P) x = some 0 := by
  refine x_isP0 ?_
  rcases h with h | h
  · exact Or.inl h
  · have := (fa_lt _ _).mp h
    rw [nI_toInt (by omega)] at this
    refine Or.inr ((fa_le _ _).mpr ?_)
    rw [nI_toInt (by omega)]
    omega
theorem tg3_ok {N P j : Nat} (hN : dGr = nI N) (hn7 : N < 7) (hP : dPe = nI P) (hp4 : P ≤ 4) (e : v - 48 = nI j) (h2 : j < P) : fl_takes dPk dWn dGw dGk dOw dSt dPe dHo dGr 71 2 v = some (1, dPk, dWn, dGw, dGk, upd dOw N (nI j), dSt, dPe, dHo, dGr, 71, 3) := by
  subst hN hP
  unfold fl_takes fl_tellsGrain fl_puts_5
  rw [if_pos rfl, if_neg (show ¬ (2 : Int32) + 1 = 1 by decide), if_neg (show ¬ (2 : Int32) + 1 = 2 by decide), if_pos (show (2 : Int32) + 1 = 3 by decide), e, x_isP (by omega) (by omega), if_pos h2, b_s, i10, if_neg (n_neg (by omega)), if_pos ((n_ltL (by omega) (by decide)).mpr hn7), gI_n hn7 (by decide), n_cl (by omega), b_s, i10, b_s]
  exact gZ_1
theorem tg3_bad {P : Nat} (hP : dPe = nI P) (h0 : 1 ≤ P) (hp4 : P ≤ 4) (h : v - 48 < nI 0 ∨ nI (P - 1) < v - 48) : ∃ c, fl_takes dPk dWn dGw dGk dOw dSt dPe dHo dGr 71 2 v = some (0, c) := by
  subst hP
  unfold fl_takes fl_tellsGrain
  rw [if_pos rfl, if_neg (show ¬ (2 : Int32) + 1 = 1 by decide), if_neg (show ¬ (2 : Int32) + 1 = 2 by decide), if_pos (show (2 : Int32) + 1 = 3 by decide), per_bad h0 hp4 h, b_s, i00, b_s]
  exact ⟨_, gZ_0⟩
theorem tg4_ok {N P j : Nat} (hN : dGr = nI N) (hn7 : N < 7) (hP : dPe = nI P) (hp4 : P ≤ 4) (e : v - 48 = nI j) (h2 : j < P) : fl_takes dPk dWn dGw dGk dOw dSt dPe dHo dGr 71 3 v = some (1, dPk, dWn, dGw, dGk, dOw, upd dSt N (nI j), dPe, dHo, nI (N + 1), 87, 4) := by
  subst hN hP
  unfold fl_takes fl_tellsGrain fl_puts_6
  rw [if_pos rfl, if_neg (show ¬ (3 : Int32) + 1 = 1 by decide), if_neg (show ¬ (3 : Int32) + 1 = 2 by decide), if_neg (show ¬ (3 : Int32) + 1 = 3 by decide), e, x_isP (by omega) (by omega), if_pos h2, b_s, i10, if_neg (n_neg (by omega)), if_pos ((n_ltL (by omega) (by decide)).mpr hn7), gI_n hn7 (by decide), n_cl (by omega), b_s, i10, b_s, nI_1]
  exact gZ_1
theorem tg4_bad {P : Nat} (hP : dPe = nI P) (h0 : 1 ≤ P) (hp4 : P ≤ 4) (h : v - 48 < nI 0 ∨ nI (P - 1) < v - 48) : ∃ c, fl_takes dPk dWn dGw dGk dOw dSt dPe dHo dGr 71 3 v = some (0, c) := by
  subst hP
  unfold fl_takes fl_tellsGrain
  rw [if_pos rfl, if_neg (show ¬ (3 : Int32) + 1 = 1 by decide), if_neg (show ¬ (3 : Int32) + 1 = 2 by decide), if_neg (show ¬ (3 : Int32) + 1 = 3 by decide), per_bad h0 hp4 h, b_s, i00, b_s]
  exact ⟨_, gZ_0⟩
/-- parts in the model -/
theorem mp_P {P : Nat} (hP : rP = nI P) (hp4 : P ≤ 4) (hv : v = 80) : mm_readPart rk rw rg rP rH rG tx (nI n) (nI k) (-9) v = if 4 ≤ P then some (rk, rw, rg, rP, rH, rG, nI k, nI k) else Option.bind (mm_figure tx (nI n) (nI (k + 1)) (-9) (nI 0) (nI 3)) fun q => some (upd rk P q.1, rw, rg, nI (P + 1), rH, rG, q.2.1, q.2.2) := by
  subst hv hP
  unfold mm_readPart
  rw [if_pos rfl, nI_1]
  by_cases h : 4 ≤ P
  · rw [if_pos ((n_Lle (by omega) (by decide)).mpr h), if_pos h]
  · rw [if_neg (fun z => h ((n_Lle (by omega) (by decide)).mp z)), if_neg h]
    simp only [gI_n (show P < 4 by omega) (show (4 : Nat) < 2147483648 by decide), n_cl (show P < 2147483648 by omega), nI_1]
    rfl
theorem mp_H {H : Nat} (hH : rH = nI H) (hh6 : H ≤ 6) (hv : v = 72) : mm_readPart rk rw rg rP rH rG tx (nI n) (nI k) (-9) v = if 6 ≤ H then some (rk, rw, rg, rP, rH, rG, nI k, nI k) else Option.bind (mm_figure tx (nI n) (nI (k + 1)) (-9) (nI 0) (nI 9)) fun q => some (rk, upd rw H q.1, rg, rP, nI (H + 1), rG, q.2.1, q.2.2) := by
  subst hv hH
  unfold mm_readPart
  rw [if_neg (show ¬ (72 : Int32) = 80 by decide), if_pos rfl, nI_1]
  by_cases h : 6 ≤ H
  · rw [if_pos ((n_Lle (by omega) (by decide)).mpr h), if_pos h]
  · rw [if_neg (fun z => h ((n_Lle (by omega) (by decide)).mp z)), if_neg h]
    simp only [gI_n (show H < 6 by omega) (show (6 : Nat) < 2147483648 by decide), n_cl (show H < 2147483648 by omega), nI_1]
    rfl
theorem mp_G {N P : Nat} (hN : rG = nI N) (hP : rP = nI P) (hn7 : N ≤ 7) (hp4 : P ≤ 4) (hv : v = 71) : mm_readPart rk rw rg rP rH rG tx (nI n) (nI k) (-9) v = if 7 ≤ N ∨ P = 0 then some (rk, rw, rg, rP, rH, rG, nI k, nI k) else Option.bind (mm_figure tx (nI n) (nI (k + 1)) (-9) (nI 1) (nI 9)) fun q6 => Option.bind (mm_figure tx (nI n) q6.2.1 q6.2.2 (nI 0) (nI 3)) fun q8 => Option.bind (mm_figure tx (nI n) q8.2.1 q8.2.2 (nI 0) (nI (P - 1))) fun q10 => Option.bind (mm_figure tx (nI n) q10.2.1 q10.2.2 (nI 0) (nI (P - 1))) fun q12 => some (rk, rw, upd (upd (upd (upd rg (4 * N) q6.1) (4 * N + 1) q8.1) (4 * N + 2) q10.1) (4 * N + 3) q12.1, rP, rH, nI (N + 1), q12.2.1, q12.2.2) := by
  subst hv hN hP
  unfold mm_readPart
  rw [if_neg (show ¬ (71 : Int32) = 80 by decide), if_neg (show ¬ (71 : Int32) = 72 by decide), if_pos rfl, nI_1]
  by_cases h : 7 ≤ N
  · rw [if_pos ((n_Lle (by omega) (by decide)).mpr h), if_pos (Or.inl h)]
  · rw [if_neg (fun z => h ((n_Lle (by omega) (by decide)).mp z))]
    by_cases h0 : P = 0
    · rw [if_pos ((n_leL (by omega) (by decide)).mpr (show P ≤ 0 by omega)), if_pos (Or.inr h0)]
    · have eP : nI P - 1 = nI (P - 1) := n_subL (c := 1) (show 1 ≤ P by omega)
      have e0 : (4 : Int32) * nI N = nI (4 * N) := pk_mul 4 N
      have e1 : nI (4 * N) + 1 = nI (4 * N + 1) := nI_add _ 1
      have e2 : nI (4 * N) + 2 = nI (4 * N + 2) := nI_add _ 2
      have e3 : nI (4 * N) + 3 = nI (4 * N + 3) := nI_add _ 3
      rw [if_neg (fun z => h0 (by have : P ≤ 0 := (n_leL (by omega) (by decide)).mp z; omega)), if_neg (fun z => z.elim h h0)]
      simp only [eP, e0, e1, e2, e3, gI_n (show 4 * N < 28 by omega) (show (28 : Nat) < 2147483648 by decide), gI_n (show 4 * N + 1 < 28 by omega) (show (28 : Nat) < 2147483648 by decide), gI_n (show 4 * N + 2 < 28 by omega) (show (28 : Nat) < 2147483648 by decide), gI_n (show 4 * N + 3 < 28 by omega) (show (28 : Nat) < 2147483648 by decide), n_cl (show 4 * N < 2147483648 by omega), n_cl (show 4 * N + 1 < 2147483648 by omega), n_cl (show 4 * N + 2 < 2147483648 by omega), n_cl (show 4 * N + 3 < 2147483648 by omega), nI_1]
      rfl
theorem mp_x (h1 : ¬ v = 80) (h2 : ¬ v = 72) (h3 : ¬ v = 71) : mm_readPart rk rw rg rP rH rG tx (nI n) (nI k) (-9) v = some (rk, rw, rg, rP, rH, rG, nI k, nI k) := by
  unfold mm_readPart
  rw [if_neg h1, if_neg h2, if_neg h3]
end O16
