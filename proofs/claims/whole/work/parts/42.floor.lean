/-! ===== fault, floor ===== -/
def oF0 : FD := ((0, 0, 0), fun _ => 0, fun _ => 0, fun _ => 0, fun _ => 0, fun _ => 0)
theorem RF_0 (k w g s o : Nat → Int32) : RF oF0 k w g s o 0 0 0 := by
  refine ⟨⟨by decide, by decide, by decide, fun j hj => absurd hj (Nat.not_lt_zero j), fun j hj => absurd hj (Nat.not_lt_zero j), fun j hj => absurd hj (Nat.not_lt_zero j)⟩, rfl, rfl, rfl, fun j hj => absurd hj (Nat.not_lt_zero j), fun j hj => absurd hj (Nat.not_lt_zero j), fun j hj => absurd hj (Nat.not_lt_zero j), fun j hj => absurd hj (Nat.not_lt_zero j), fun j hj => absurd hj (Nat.not_lt_zero j)⟩
theorem rd_all (tx : Nat → Int32) {n : Nat} (hn : n ≤ 56) (dPk dWn dGw dGk dOw dSt rk rw rg : Nat → Int32) : RR (fl_read tx dPk dWn dGw dGk dOw dSt (nI n)) (mm_readText rk rw rg tx (nI n)) := by
  have eC : fl_read tx dPk dWn dGw dGk dOw dSt (nI n) = fl_read_L27 tx (nI n) (kC (nI n)) (999 + 1) (nI 0) dPk dWn dGw dGk dOw dSt 0 0 0 0 0 := rfl
  rw [eC]
  unfold mm_readText
  rcases Nat.eq_zero_or_pos n with h0 | h0
  · subst h0
    rw [cl_stop (by omega), if_pos (show nI 0 = 0 from rfl)]
    exact RR_bad (f := 0) (by omega) rfl rfl
  · rw [if_neg (fun z => by have : n = 0 := (n_eqL (by omega) (by decide)).mp z; omega)]
    by_cases hv : tx 0 = 87
    · have e : fl_takes dPk dWn dGw dGk dOw dSt 0 0 0 0 0 (tx 0) = some (1, dPk, dWn, dGw, dGk, dOw, dSt, 0, 0, 0, 87, 0) := by
        unfold fl_takes
        rw [if_neg (show ¬ (0 : Int32) = 71 by decide), if_neg (show ¬ (0 : Int32) = 72 by decide), if_neg (show ¬ (0 : Int32) = 80 by decide), if_neg (show ¬ (0 : Int32) = 87 by decide), if_pos hv]
      rw [cl_go hn h0 e, if_pos hv]
      exact rd_main tx hn (n - 1) 1 999 1000 dPk dWn dGw dGk dOw dSt 0 0 0 0 rk rw rg 0 0 0 (by omega) (by omega) (by omega) ⟨oF0, fun _ => 0, RF_0 _ _ _ _ _, fun j hj => absurd hj (Nat.not_lt_zero j), RF_0 _ _ _ _ _, fun j hj => absurd hj (Nat.not_lt_zero j)⟩
    · have e : fl_takes dPk dWn dGw dGk dOw dSt 0 0 0 0 0 (tx 0) = some (0, dPk, dWn, dGw, dGk, dOw, dSt, 0, 0, 0, 87, 0) := by
        unfold fl_takes
        rw [if_neg (show ¬ (0 : Int32) = 71 by decide), if_neg (show ¬ (0 : Int32) = 72 by decide), if_neg (show ¬ (0 : Int32) = 80 by decide), if_neg (show ¬ (0 : Int32) = 87 by decide), if_neg hv]
      rw [cl_bad hn h0 e, if_neg hv]
      exact RR_bad (f := 0) (by omega) rfl rfl
theorem op_fault (tx : Nat → Int32) {n : Nat} (hn : n ≤ 56) (dPk dWn dGw dGk dOw dSt rk rw rg : Nat → Int32) : ∃ (r : Int32) (c : CT) (m : MT), xx_fault tx (nI n) dPk dWn dGw dGk dOw dSt = some (r, c) ∧ mm_fault rk rw rg tx (nI n) = some (r, m) := by
  obtain ⟨r, c, m, e1, e2, -⟩ := rd_all tx hn dPk dWn dGw dGk dOw dSt rk rw rg
  refine ⟨r, c, m, ?_, ?_⟩
  · unfold xx_fault
    rw [e1, b_s]
  · unfold mm_fault
    rw [e2, b_s]
section O18
variable {F : FD}
theorem x_first_loop {dSt : Nat → Int32} {dGr : Int32} {st : Nat → Nat} (h7 : oN F ≤ 7) (h4 : oP F ≤ 4) (hG : dGr = nI (oN F)) (hS : ∀ j, j < oN F → dSt j = nI (st j) ∧ st j < oP F) :
    ∀ (d k f x : Nat), k + d = oN F → d < f → x < 18446744073709551616 → (∀ g, g < k → x / 2 ^ (4 * g) % 16 = st g) → x / 268435456 % 16 = 15 → x / 4294967296 = 0 →
      ∃ L, fl_firstScene_L6 dSt dGr (fun _ y => some y) f (nI k) (lN x) = some L ∧ RX F L (st, 15, 0) := by
  intro d
  induction d with
  | zero =>
    intro k f x hkd hf hx h1 h2 h3
    obtain ⟨f, rfl⟩ : ∃ m, f = m + 1 := ⟨f - 1, by omega⟩
    obtain rfl : k = oN F := by omega
    have c : dGr ≤ nI (oN F) := by rw [hG]; exact (n_le (by omega) (by omega)).mpr (Nat.le_refl _)
    refine ⟨lN x, by rw [fl_firstScene_L6.eq_2, if_pos c], ⟨fun g hg => Or.inl (hS g hg).2, Or.inl rfl, by show 0 < 1048576; decide⟩, x, rfl, hx, h1, h2, h3⟩
  | succ d ih =>
    intro k f x hkd hf hx h1 h2 h3
    obtain ⟨f, rfl⟩ : ∃ m, f = m + 1 := ⟨f - 1, by omega⟩
    have c : ¬ dGr ≤ nI k := by rw [hG]; exact fun z => by have := (n_le (by omega) (by omega)).mp z; omega
    obtain ⟨es, hs⟩ := hS k (by omega)
    rw [fl_firstScene_L6.eq_2, if_neg c, if_neg (fun z => by have : 7 ≤ k := (n_Lle (by omega) (by decide)).mp z; omega), gI_n (show k < 7 by omega) (by decide), n_cl (by omega), es, sc_withPl (by omega) (by omega), b_s, nI_1]
    refine ih (k + 1) f (zs x k (st k)) (by omega) (by omega) (zs_lt hx (by omega) (by omega)) (fun g hg => ?_) ?_ ?_
    · rw [zs_dig hx (by omega) (by omega)]
      by_cases hq : g = k
      · rw [if_pos hq, hq]
      · rw [if_neg hq]
        exact h1 g (by omega)
    · have := zs_dig (k := 7) hx (show k < 8 by omega) (show st k < 16 by omega)
      rw [if_neg (by omega)] at this
      exact this.trans h2
    · rw [zs_hi hx (by omega) (by omega)]
      exact h3
theorem x_first {dSt : Nat → Int32} {dGr : Int32} {st : Nat → Nat} (h7 : oN F ≤ 7) (h4 : oP F ≤ 4) (hG : dGr = nI (oN F)) (hS : ∀ j, j < oN F → dSt j = nI (st j) ∧ st j < oP F) : ∃ L, fl_firstScene dSt dGr = some L ∧ RX F L (st, 15, 0) :=
  x_first_loop h7 h4 hG hS (oN F) 0 1000 4026531840 (by omega) (by omega) (by omega) (fun g hg => absurd hg (Nat.not_lt_zero g)) (by decide) (by decide)
theorem m_floor38 {rk : Nat → Int32} {rP : Int32} {P : Nat} (hP : rP = nI P) (h4 : P ≤ 4) :
    ∀ (d k f : Nat) (mk : Nat → Int32), k + d = P → d < f → (∀ j, j < k → mk j = rk j) → ∃ mk1, (∀ kx, mm_floor_L38 rP rk kx f (nI k) mk = kx (nI P) mk1) ∧ (∀ j, j < P → mk1 j = rk j) := by
  intro d
  induction d with
  | zero =>
    intro k f mk hkd hf h1
    obtain ⟨f, rfl⟩ : ∃ m, f = m + 1 := ⟨f - 1, by omega⟩
    obtain rfl : k = P := by omega
    exact ⟨mk, fun kx => by rw [mm_floor_L38.eq_2, if_pos (by rw [hP]; exact (n_le (by omega) (by omega)).mpr (Nat.le_refl _))], h1⟩
  | succ d ih =>
    intro k f mk hkd hf h1
    obtain ⟨f, rfl⟩ : ∃ m, f = m + 1 := ⟨f - 1, by omega⟩
    have this : ∀ j, j < k + 1 → upd mk k (rk k) j = rk j := fun j hj => by
      by_cases hq : j = k
      · rw [u_eq hq, hq]
      · rw [u_ne hq]
        exact h1 j (by omega)
    obtain ⟨mk1, e, h⟩ := ih (k + 1) f _ (by omega) (by omega) this
    refine ⟨mk1, fun kx => ?_, h⟩
    rw [mm_floor_L38.eq_2, if_neg (by rw [hP]; exact fun z => by have := (n_le (by omega) (by omega)).mp z; omega), gI_n (show k < 4 by omega) (by decide), gI_n (show k < 4 by omega) (by decide), n_cl (by omega), nI_1]
    exact e kx
theorem m_floor66 {rk : Nat → Int32} {rP : Int32} {P : Nat} (hP : rP = nI P) (h4 : P ≤ 6) :
    ∀ (d k f : Nat) (mk : Nat → Int32), k + d = P → d < f → (∀ j, j < k → mk j = rk j) → ∃ mk1, (∀ kx, mm_floor_L66 rP rk kx f (nI k) mk = kx (nI P) mk1) ∧ (∀ j, j < P → mk1 j = rk j) := by
  intro d
  induction d with
  | zero =>
    intro k f mk hkd hf h1
    obtain ⟨f, rfl⟩ : ∃ m, f = m + 1 := ⟨f - 1, by omega⟩
    obtain rfl : k = P := by omega
    exact ⟨mk, fun kx => by rw [mm_floor_L66.eq_2, if_pos (by rw [hP]; exact (n_le (by omega) (by omega)).mpr (Nat.le_refl _))], h1⟩
  | succ d ih =>
    intro k f mk hkd hf h1
    obtain ⟨f, rfl⟩ : ∃ m, f = m + 1 := ⟨f - 1, by omega⟩
    have this : ∀ j, j < k + 1 → upd mk k (rk k) j = rk j := fun j hj => by
      by_cases hq : j = k
      · rw [u_eq hq, hq]
      · rw [u_ne hq]
        exact h1 j (by omega)
    obtain ⟨mk1, e, h⟩ := ih (k + 1) f _ (by omega) (by omega) this
    refine ⟨mk1, fun kx => ?_, h⟩
    rw [mm_floor_L66.eq_2, if_neg (by rw [hP]; exact fun z => by have := (n_le (by omega) (by omega)).mp z; omega), gI_n (show k < 6 by omega) (by decide), gI_n (show k < 6 by omega) (by decide), n_cl (by omega), nI_1]
    exact e kx
theorem m_floor94 :
    ∀ (d k f : Nat) (mk : Nat → Int32), k + d = 9 → d < f → (∀ j, j < k → mk j = 0) → ∃ mk1, (∀ kx, mm_floor_L94 kx f (nI k) mk = kx (nI 9) mk1) ∧ (∀ j, j < 9 → mk1 j = 0) := by
  intro d
  induction d with
  | zero =>
    intro k f mk hkd hf h1
    obtain ⟨f, rfl⟩ : ∃ m, f = m + 1 := ⟨f - 1, by omega⟩
    obtain rfl : k = 9 := by omega
    exact ⟨mk, fun kx => by rw [mm_floor_L94.eq_2, if_pos (show (9 : Int32) ≤ nI 9 by decide)], h1⟩
  | succ d ih =>
    intro k f mk hkd hf h1
    obtain ⟨f, rfl⟩ : ∃ m, f = m + 1 := ⟨f - 1, by omega⟩
    have this : ∀ j, j < k + 1 → upd mk k 0 j = 0 := fun j hj => by
      by_cases hq : j = k
      · rw [u_eq hq]
      · rw [u_ne hq]
        exact h1 j (by omega)
    obtain ⟨mk1, e, h⟩ := ih (k + 1) f _ (by omega) (by omega) this
    refine ⟨mk1, fun kx => ?_, h⟩
    rw [mm_floor_L94.eq_2, if_neg (fun z => by have : 9 ≤ k := (n_Lle (by omega) (by decide)).mp z; omega), gI_n (show k < 18 by omega) (by decide), n_cl (by omega), nI_1]
    exact e kx
theorem m_floor115 {rg : Nat → Int32} {rG : Int32} {N : Nat} (hN : rG = nI N) (h7 : N ≤ 7) :
    ∀ (d k f : Nat) (mw ms mo now : Nat → Int32), k + d = N → d < f → (∀ j, j < k → mw j = rg (4 * j) ∧ ms j = rg (4 * j + 1) ∧ mo j = rg (4 * j + 2) ∧ now j = rg (4 * j + 3)) → now 8 = 0 →
      ∃ mw1 ms1 mo1 now1, (∀ kx, mm_floor_L115 rG rg kx f (nI k) mw ms mo now = kx (nI N) mw1 ms1 mo1 now1) ∧ (∀ j, j < N → mw1 j = rg (4 * j) ∧ ms1 j = rg (4 * j + 1) ∧ mo1 j = rg (4 * j + 2) ∧ now1 j = rg (4 * j + 3)) ∧ now1 8 = 0 := by
  intro d
  induction d with
  | zero =>
    intro k f mw ms mo now hkd hf h1 h8
    obtain ⟨f, rfl⟩ : ∃ m, f = m + 1 := ⟨f - 1, by omega⟩
    obtain rfl : k = N := by omega
    exact ⟨mw, ms, mo, now, fun kx => by rw [mm_floor_L115.eq_2, if_pos (by rw [hN]; exact (n_le (by omega) (by omega)).mpr (Nat.le_refl _))], h1, h8⟩
  | succ d ih =>
    intro k f mw ms mo now hkd hf h1 h8
    obtain ⟨f, rfl⟩ : ∃ m, f = m + 1 := ⟨f - 1, by omega⟩
    have e0 : (4 : Int32) * nI k = nI (4 * k) := pk_mul 4 k
    have e1 : nI (4 * k) + 1 = nI (4 * k + 1) := nI_add _ 1
    have e2 : nI (4 * k) + 2 = nI (4 * k + 2) := nI_add _ 2
    have e3 : nI (4 * k) + 3 = nI (4 * k + 3) := nI_add _ 3
    have this : ∀ j, j < k + 1 → upd mw k (rg (4 * k)) j = rg (4 * j) ∧ upd ms k (rg (4 * k + 1)) j = rg (4 * j + 1) ∧ upd mo k (rg (4 * k + 2)) j = rg (4 * j + 2) ∧ upd now k (rg (4 * k + 3)) j = rg (4 * j + 3) := fun j hj => by
      by_cases hq : j = k
      · rw [u_eq hq, u_eq hq, u_eq hq, u_eq hq, hq]
        exact ⟨rfl, rfl, rfl, rfl⟩
      · rw [u_ne hq, u_ne hq, u_ne hq, u_ne hq]
        exact h1 j (by omega)
    obtain ⟨mw1, ms1, mo1, now1, e, h⟩ := ih (k + 1) f _ _ _ _ (by omega) (by omega) this (by rw [u_ne (by omega)]; exact h8)
    refine ⟨mw1, ms1, mo1, now1, fun kx => ?_, h⟩
    rw [mm_floor_L115.eq_2, if_neg (by rw [hN]; exact fun z => by have := (n_le (by omega) (by omega)).mp z; omega)]
    simp only [e0, e1, e2, e3, gI_n (show k < 7 by omega) (show (7 : Nat) < 2147483648 by decide), gI_n (show k < 18 by omega) (show (18 : Nat) < 2147483648 by decide), gI_n (show 4 * k < 28 by omega) (show (28 : Nat) < 2147483648 by decide), gI_n (show 4 * k + 1 < 28 by omega) (show (28 : Nat) < 2147483648 by decide), gI_n (show 4 * k + 2 < 28 by omega) (show (28 : Nat) < 2147483648 by decide), gI_n (show 4 * k + 3 < 28 by omega) (show (28 : Nat) < 2147483648 by decide), n_cl (show k < 2147483648 by omega), n_cl (show 4 * k < 2147483648 by omega), n_cl (show 4 * k + 1 < 2147483648 by omega), n_cl (show 4 * k + 2 < 2147483648 by omega), n_cl (show 4 * k + 3 < 2147483648 by omega), nI_1]
    exact e kx
theorem x_floor61 (kx) (ik : Nat → Int32) : xx_floor_L61 kx 1000 0 ik = kx 2 (upd (upd ik 0 0) 1 0) := by
  show xx_floor_L61 kx (997 + 1 + 1 + 1) (nI 0) ik = _
  rw [xx_floor_L61.eq_2, if_neg (show ¬ (2 : Int32) ≤ nI 0 by decide), gI_n (show 0 < 2 by decide) (by decide), n_cl (by decide), nI_1, xx_floor_L61.eq_2, if_neg (show ¬ (2 : Int32) ≤ nI (0 + 1) by decide), gI_n (show 0 + 1 < 2 by decide) (by decide), n_cl (by decide), nI_1, xx_floor_L61.eq_2, if_pos (show (2 : Int32) ≤ nI (0 + 1 + 1) by decide)]
  rfl
theorem RF_cong {k w g s o k1 w1 g1 s1 o1 : Nat → Int32} {p h n : Int32} (hF : RF F k w g s o p h n) (hk : ∀ i, i < oP F → k1 i = k i) (hw : ∀ i, i < oH F → w1 i = w i) (hg : ∀ i, i < oN F → g1 i = g i ∧ s1 i = s i ∧ o1 i = o i) : RF F k1 w1 g1 s1 o1 p h n := by
  obtain ⟨a, b1, b2, b3, c1, c2, c3, c4, c5⟩ := hF
  exact ⟨a, b1, b2, b3, fun i hi => (hk i hi).trans (c1 i hi), fun i hi => (hw i hi).trans (c2 i hi), fun i hi => (hg i hi).1.trans (c3 i hi), fun i hi => (hg i hi).2.1.trans (c4 i hi), fun i hi => (hg i hi).2.2.trans (c5 i hi)⟩
theorem op_floor {fPk fWn fGw fGk fOw fSt : Nat → Int32} {fPe fHo fGr fPa fFt : Int32} {mPeople mHours mGrains : Int32} {mKind mWind mWeight mSort mOwner mNow row ik mi mkp : Nat → Int32} {sc kp : Nat → Int64} {L : Int64} {as ac nx : Int32} {S : Sc} {K n : Nat}
    (tx : Nat → Int32) (hn : n ≤ 56) (g d : Nat → Nat) (dPk dWn dGw dGk dOw dSt rk rw rg : Nat → Int32)
    (hF : RF F fPk fWn fGw fGk fOw fPe fHo fGr) (hG : RF F mKind mWind mWeight mSort mOwner mPeople mHours mGrains) (hX : RX F L S) (hM : RM F mNow 0 S) (hk : S.2.2 ≤ K) (hA : RA F K sc as ac nx row) (hK : RK F K kp ik mkp mi) :
    ∃ (r : Int32) (g1 d1 : Nat → Nat) (L1 : Int64) (ik1 : Nat → Int32) (as1 : Int32) (f1 c1 : CT) (mP1 mH1 mG1 : Int32) (mk1 mw1 me1 ms1 mo1 now1 : Nat → Int32) (m : MT) (ac1 : Int32) (mi1 : Nat → Int32) (F1 : FD) (S1 : Sc),
      xx_floor g d tx (nI n) L ik as fPk fWn fGw fGk fOw fSt fPe fHo fGr fPa fFt dPk dWn dGw dGk dOw dSt = some (r, g1, d1, L1, ik1, as1, f1.1, f1.2.1, f1.2.2.1, f1.2.2.2.1, f1.2.2.2.2.1, f1.2.2.2.2.2.1, f1.2.2.2.2.2.2.1, f1.2.2.2.2.2.2.2.1, f1.2.2.2.2.2.2.2.2.1, f1.2.2.2.2.2.2.2.2.2.1, f1.2.2.2.2.2.2.2.2.2.2, c1) ∧
      mm_floor mPeople mHours mGrains mKind mWind mWeight mSort mOwner mNow rk rw rg tx (nI n) ac mi = some (r, mP1, mH1, mG1, mk1, mw1, me1, ms1, mo1, now1, m.1, m.2.1, m.2.2.1, m.2.2.2.1, m.2.2.2.2.1, m.2.2.2.2.2.1, m.2.2.2.2.2.2.1, m.2.2.2.2.2.2.2, ac1, mi1) ∧
      RF F1 f1.1 f1.2.1 f1.2.2.1 f1.2.2.2.1 f1.2.2.2.2.1 f1.2.2.2.2.2.2.1 f1.2.2.2.2.2.2.2.1 f1.2.2.2.2.2.2.2.2.1 ∧ RF F1 mk1 mw1 me1 ms1 mo1 mP1 mH1 mG1 ∧ RX F1 L1 S1 ∧ RM F1 now1 0 S1 ∧ S1.2.2 ≤ K ∧ RA F1 K sc as1 ac1 nx row ∧ RK F1 K kp ik1 mkp mi1 ∧ ((g1 = g ∧ d1 = d) ∨ (g1 = d ∧ d1 = g)) := by
  obtain ⟨r, c, m, e1, e2, h⟩ := rd_all tx hn dPk dWn dGw dGk dOw dSt rk rw rg
  unfold xx_floor mm_floor
  rw [e1, e2, b_s, b_s]
  rcases h with ⟨rfl, F1, st, h1, h2, h3, h4⟩ | hr
  · have p4 := h1.1.1
    have p6 := h1.1.2.1
    have p7 := h1.1.2.2.1
    obtain ⟨L1, eL, hX1⟩ := x_first p7 p4 h1.2.2.2.1 h2
    obtain ⟨na, hna, hnx⟩ : ∃ na, na < 14 ∧ nx = nI na := by
      obtain ⟨s0, n0, T, -, q2, -, -, q5, -⟩ := hA
      exact ⟨n0, q2, q5⟩
    have ea : ac_forgetAll = some 0 := rfl
    obtain ⟨mk1, e38, q38⟩ := m_floor38 (rk := m.1) h3.2.1 p4 (oP F1) 0 1000 mKind (by omega) (by omega) (fun j hj => absurd hj (Nat.not_lt_zero j))
    obtain ⟨mw1, e66, q66⟩ := m_floor66 (rk := m.2.1) h3.2.2.1 p6 (oH F1) 0 1000 mWind (by omega) (by omega) (fun j hj => absurd hj (Nat.not_lt_zero j))
    obtain ⟨nw1, e94, q94⟩ := m_floor94 9 0 1000 mNow (by omega) (by omega) (fun j hj => absurd hj (Nat.not_lt_zero j))
    obtain ⟨me1, ms1, mo1, nw2, e115, q115, q8⟩ := m_floor115 (rg := m.2.2.1) h3.2.2.2.1 p7 (oN F1) 0 1000 mWeight mSort mOwner nw1 (by omega) (by omega) (fun j hj => absurd hj (Nat.not_lt_zero j)) (q94 8 (by omega))
    have hP : c.2.2.2.2.2.2.1 = m.2.2.2.1 := h1.2.1.trans h3.2.1.symm
    have hH : c.2.2.2.2.2.2.2.1 = m.2.2.2.2.1 := h1.2.2.1.trans h3.2.2.1.symm
    have hN : c.2.2.2.2.2.2.2.2.1 = m.2.2.2.2.2.1 := h1.2.2.2.1.trans h3.2.2.2.1.symm
    refine ⟨(((100 * m.2.2.2.1) + (10 * m.2.2.2.2.1)) + m.2.2.2.2.2.1), d, g, L1, upd (upd ik 0 0) 1 0, 0, c, (fPk, fWn, fGw, fGk, fOw, fSt, fPe, fHo, fGr, fPa, fFt), m.2.2.2.1, m.2.2.2.2.1, m.2.2.2.2.2.1, mk1, mw1, me1, ms1, mo1, upd nw2 7 (-9), m, 0, upd (upd mi 0 0) 1 0, F1, (st, 15, 0), ?_, ?_, h1, ?_, hX1, ?_, Nat.zero_le _, ?_, ?_, Or.inr ⟨rfl, rfl⟩⟩
    · rw [if_pos rfl, eL, b_s, ea, b_s, x_floor61]
      rw [hP, hH, hN]
    · rw [if_pos rfl]
      refine Eq.trans (e38 _) ?_
      refine Eq.trans (e66 _) ?_
      refine Eq.trans (e94 _) ?_
      refine Eq.trans (e115 _) ?_
      rfl
    · exact RF_cong h3 q38 q66 (fun i hi => ⟨(q115 i hi).1, (q115 i hi).2.1, (q115 i hi).2.2.1⟩)
    · refine ⟨hX1.1, fun i hi => ?_, ?_, ?_⟩
      · rw [Nat.zero_add, u_ne (by omega), (q115 i hi).2.2.2]
        exact h4 i hi
      · rw [u_eq rfl]
        rfl
      · rw [u_ne (by decide)]
        exact q8
    · exact ⟨0, na, fun _ => S, by omega, hna, rfl, rfl, hnx, fun i hi => absurd hi (Nat.not_lt_zero i)⟩
    · intro j hj
      have hz : ∀ f : Nat → Int32, upd (upd f 0 0) 1 0 j = 0 := fun f => by
        by_cases hq : j = 1
        · rw [u_eq hq]
        · rw [u_ne hq, u_eq (by omega)]
      rw [hz, hz]
      exact ⟨rfl, fun z => absurd rfl z⟩
  · rw [if_neg hr, if_neg hr]
    exact ⟨-3, g, d, L, ik, as, (fPk, fWn, fGw, fGk, fOw, fSt, fPe, fHo, fGr, fPa, fFt), c, mPeople, mHours, mGrains, mKind, mWind, mWeight, mSort, mOwner, mNow, m, ac, mi, F, S, rfl, rfl, hF, hG, hX, hM, hk, hA, hK, Or.inl ⟨rfl, rfl⟩⟩
end O18
