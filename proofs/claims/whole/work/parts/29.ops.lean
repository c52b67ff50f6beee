/-! ===== letters, what is seen, counts ===== -/
theorem oi {α : Type} {c : Prop} [Decidable c] {a b : Option α} (ha : ∃ r, a = some r) (hb : ∃ r, b = some r) : ∃ r, (if c then a else b) = some r := by
  by_cases h : c
  · rw [if_pos h]
    exact ha
  · rw [if_neg h]
    exact hb
theorem op_write {tx : Nat → Int32} {n : Nat} (hn : n ≤ 56) (p : Int32) :
    ∃ r tx1 n1, n1 ≤ 56 ∧ xx_write tx (nI n) p = some (r, tx1, nI n1) ∧ mm_write tx (nI n) p = some (r, tx1, nI n1) := by
  have e1 : (255 : Int64) = Int32.toInt64 (nI 255) := by decide
  have bad : (p < 0 ∨ nI 256 ≤ p) → mm_write tx (nI n) p = some (-2, tx, nI n) := fun h => by
    unfold mm_write
    rw [e1, m_in0F (by omega) h, b_s, i00]
  rcases pk_ix p (show 256 < 2 ^ 31 by omega) with h | h | ⟨j, hj, rfl⟩
  · refine ⟨-2, tx, n, hn, ?_, bad (Or.inl h)⟩
    unfold xx_write
    rw [if_pos h]
  · refine ⟨-2, tx, n, hn, ?_, bad (Or.inr h)⟩
    unfold xx_write
    by_cases hp : p < 0
    · rw [if_pos hp]
    · rw [if_neg hp, if_neg (fun z => by
        have t1 := (fa_le _ _).mp z
        have t2 := (fa_le _ _).mp h
        have t3 : (255 : Int32).toInt = 255 := by decide
        have t4 : (nI 256).toInt = 256 := by decide
        omega)]
  · by_cases h56 : n = 56
    · subst h56
      refine ⟨-4, tx, 56, by omega, ?_, ?_⟩
      · unfold xx_write
        rw [if_neg (n_neg (by omega)), if_pos ((n_leL (by omega) (by decide)).mpr (by omega)), if_neg (by decide), if_neg (by decide)]
      · unfold mm_write
        rw [e1, m_in0T (by omega) (by omega), b_s, i10, if_pos (by decide)]
    · refine ⟨nI (n + 1), upd tx n (nI j), n + 1, by omega, ?_, ?_⟩
      · unfold xx_write
        rw [if_neg (n_neg (by omega)), if_pos ((n_leL (by omega) (by decide)).mpr (by omega)), if_neg (n_neg (by omega)), if_pos ((n_ltL (by omega) (by decide)).mpr (by omega)), gI_n (by omega) (by omega), n_cl (by omega), nI_1]
      · unfold mm_write
        rw [e1, m_in0T (by omega) (by omega), b_s, i10, if_neg (fun z => h56 ((n_eqL (by omega) (by decide)).mp z)), gI_n (by omega) (by omega), n_cl (by omega), nI_1]
def RS (sk sl sf : Nat → Int32) (ss : Int32) (ms : Int32) (mk ml mf : Nat → Int32) : Prop :=
  ∃ (n : Nat) (k l f : Nat → Nat), n ≤ 6 ∧ ss = nI n ∧ ms = nI n ∧ ∀ j, j < n → k j ≤ 3 ∧ l j ≤ 12 ∧ f j ≤ 5 ∧ sk j = nI (k j) ∧ mk j = nI (k j) ∧ sl j = nI (l j) ∧ ml j = nI (l j) ∧ sf j = nI (f j) ∧ mf j = nI (f j)
theorem op_see {sk sl sf : Nat → Int32} {ss ms : Int32} {mk ml mf : Nat → Int32} (hR : RS sk sl sf ss ms mk ml mf) (p q w : Int32) :
    ∃ r sk1 sl1 sf1 ss1 ms1 mk1 ml1 mf1, xx_see sk sl sf ss p q w = some (r, sk1, sl1, sf1, ss1) ∧ mm_see ms mk ml mf p q w = some (r, ms1, mk1, ml1, mf1) ∧ RS sk1 sl1 sf1 ss1 ms1 mk1 ml1 mf1 := by
  have e3 : (3 : Int64) = Int32.toInt64 (nI 3) := by decide
  have e12 : (12 : Int64) = Int32.toInt64 (nI 12) := by decide
  have e5 : (5 : Int64) = Int32.toInt64 (nI 5) := by decide
  have gt : ∀ {c : Nat} {x : Int32}, c < 100 → nI (c + 1) ≤ x → nI c < x := fun {c x} hc h => by
    have t2 := (fa_le _ _).mp h
    have t3 := nI_toInt (show c < 2 ^ 31 by omega)
    have t4 := nI_toInt (show c + 1 < 2 ^ 31 by omega)
    rw [fa_lt]
    omega
  have out : xx_see sk sl sf ss p q w = some (-2, sk, sl, sf, ss) → mm_see ms mk ml mf p q w = some (-2, ms, mk, ml, mf) → ∃ r sk1 sl1 sf1 ss1 ms1 mk1 ml1 mf1, xx_see sk sl sf ss p q w = some (r, sk1, sl1, sf1, ss1) ∧ mm_see ms mk ml mf p q w = some (r, ms1, mk1, ml1, mf1) ∧ RS sk1 sl1 sf1 ss1 ms1 mk1 ml1 mf1 := fun a b => ⟨_, _, _, _, _, _, _, _, _, a, b, hR⟩
  have ge0 : ∀ {c : Nat} {x : Int32}, c < 100 → nI c < x → ¬ x < 0 := fun {c x} hc h z => by
    have t2 := (fa_lt _ _).mp h
    have t1 := (fa_lt _ _).mp z
    have t3 := nI_toInt (show c < 2 ^ 31 by omega)
    have t4 : (0 : Int32).toInt = 0 := by decide
    omega
  rcases pk_ix p (show 4 < 2 ^ 31 by omega) with h | h | ⟨a, ha, rfl⟩
  · refine out ?_ ?_
    · unfold xx_see
      rw [if_pos h]
    · unfold mm_see
      rw [e3, m_in0F (by omega) (Or.inl h), b_s, i00]
  · have h2 : (3 : Int32) < p := gt (c := 3) (by omega) h
    refine out ?_ ?_
    · unfold xx_see
      rw [if_neg (ge0 (c := 3) (by omega) h2), if_pos h2]
    · unfold mm_see
      rw [e3, m_in0F (by omega) (Or.inr h), b_s, i00]
  · have a1 : ¬ (3 : Int32) < nI a := fun z => by have := (n_Llt (show a < 2147483648 by omega) (by decide)).mp z; omega
    rcases pk_ix q (show 13 < 2 ^ 31 by omega) with h | h | ⟨b, hb, rfl⟩
    · refine out ?_ ?_
      · unfold xx_see
        rw [if_neg (n_neg (by omega)), if_neg a1, if_pos h]
      · unfold mm_see
        rw [e3, m_in0T (by omega) (by omega), b_s, i10, e12, m_in0F (by omega) (Or.inl h), b_s, i00]
    · have h2 : (12 : Int32) < q := gt (c := 12) (by omega) h
      refine out ?_ ?_
      · unfold xx_see
        rw [if_neg (n_neg (by omega)), if_neg a1, if_neg (ge0 (c := 12) (by omega) h2), if_pos h2]
      · unfold mm_see
        rw [e3, m_in0T (by omega) (by omega), b_s, i10, e12, m_in0F (by omega) (Or.inr h), b_s, i00]
    · have b1 : ¬ (12 : Int32) < nI b := fun z => by have := (n_Llt (show b < 2147483648 by omega) (by decide)).mp z; omega
      rcases pk_ix w (show 6 < 2 ^ 31 by omega) with h | h | ⟨c, hc, rfl⟩
      · refine out ?_ ?_
        · unfold xx_see
          rw [if_neg (n_neg (by omega)), if_neg a1, if_neg (n_neg (by omega)), if_neg b1, if_pos h]
        · unfold mm_see
          rw [e3, m_in0T (by omega) (by omega), b_s, i10, e12, m_in0T (by omega) (by omega), b_s, i10, e5, m_in0F (by omega) (Or.inl h), b_s, i00]
      · have h2 : (5 : Int32) < w := gt (c := 5) (by omega) h
        have h3 : ¬ w ≤ 5 := fun z => by
          have t1 := (fa_lt _ _).mp h2
          have t2 := (fa_le _ _).mp z
          omega
        refine out ?_ ?_
        · unfold xx_see
          rw [if_neg (n_neg (by omega)), if_neg a1, if_neg (n_neg (by omega)), if_neg b1, if_neg (ge0 (c := 5) (by omega) h2), if_neg h3]
        · unfold mm_see
          rw [e3, m_in0T (by omega) (by omega), b_s, i10, e12, m_in0T (by omega) (by omega), b_s, i10, e5, m_in0F (by omega) (Or.inr h), b_s, i00]
      · have c1 : nI c ≤ (5 : Int32) := (n_leL (by omega) (by decide)).mpr (by omega)
        obtain ⟨n, k, l, f, hn, rfl, rfl, hj⟩ := id hR
        by_cases h6 : n = 6
        · subst h6
          refine ⟨-4, sk, sl, sf, nI 6, nI 6, mk, ml, mf, ?_, ?_, hR⟩
          · unfold xx_see
            rw [if_neg (n_neg (by omega)), if_neg a1, if_neg (n_neg (by omega)), if_neg b1, if_neg (n_neg (by omega)), if_pos c1, if_neg (by decide)]
          · unfold mm_see
            rw [e3, m_in0T (by omega) (by omega), b_s, i10, e12, m_in0T (by omega) (by omega), b_s, i10, e5, m_in0T (by omega) (by omega), b_s, i10, if_pos (by decide)]
        · have s1 : ¬ (6 : Int32) ≤ nI n := fun z => by have := (n_Lle (show n < 2147483648 by omega) (by decide)).mp z; omega
          have add : se_add sk sl sf (nI n) (nI a) (nI b) (nI c) = some (upd sk n (nI a), upd sl n (nI b), upd sf n (nI c), nI (n + 1)) := by
            unfold se_add
            rw [if_neg (n_neg (by omega)), if_neg s1, if_neg s1, if_neg s1]
            simp only [gI_n (show n < 6 by omega) (show (6 : Nat) < 2147483648 by omega), n_cl (show n < 2147483648 by omega), nI_1]
          refine ⟨nI (n + 1), upd sk n (nI a), upd sl n (nI b), upd sf n (nI c), nI (n + 1), nI (n + 1), upd mk n (nI a), upd ml n (nI b), upd mf n (nI c), ?_, ?_, n + 1, fun i => if i = n then a else k i, fun i => if i = n then b else l i, fun i => if i = n then c else f i, by omega, rfl, rfl, fun j hjn => ?_⟩
          · unfold xx_see
            rw [if_neg (n_neg (by omega)), if_neg a1, if_neg (n_neg (by omega)), if_neg b1, if_neg (n_neg (by omega)), if_pos c1, if_pos ((n_ltL (by omega) (by decide)).mpr (by omega)), add, b_s]
          · unfold mm_see
            rw [e3, m_in0T (by omega) (by omega), b_s, i10, e12, m_in0T (by omega) (by omega), b_s, i10, e5, m_in0T (by omega) (by omega), b_s, i10, if_neg (fun z => h6 ((n_eqL (by omega) (by decide)).mp z))]
            simp only [gI_n (show n < 6 by omega) (show (6 : Nat) < 2147483648 by omega), n_cl (show n < 2147483648 by omega), nI_1]
          · dsimp only
            unfold upd
            by_cases hjn2 : j = n
            · simp only [if_pos hjn2, and_true]
              exact ⟨by omega, by omega, by omega⟩
            · simp only [if_neg hjn2]
              exact hj j (by omega)
/-- do all that is seen from the k-th on, d of it, fit -/
def zOk (k l f : Nat → Nat) (kd w i : Nat) : Bool := !(k i == kd) || zF kd w (zO kd (l i)) == f i
def zFs (c : Nat → Bool) : Nat → Nat → Bool
  | _, 0 => true
  | i, d + 1 => c i && zFs c (i + 1) d
def zWb (c : Nat → Bool) : Nat → Nat → Int32 → Int32
  | _, 0, a => a
  | w, d + 1, a => zWb c (w + 1) d (if c w then a ||| ((1 : Int32) <<< (nI w &&& 31)) else a)
theorem x_fits_loop {sk sl sf : Nat → Int32} {n : Nat} {k l f : Nat → Nat} (hn : n ≤ 6) (hj : ∀ j, j < n → k j ≤ 3 ∧ l j ≤ 12 ∧ f j ≤ 5 ∧ sk j = nI (k j) ∧ sl j = nI (l j) ∧ sf j = nI (f j)) {kd w : Nat} (hkd : kd ≤ 3) (hw : w < 100) :
    ∀ (d i m : Nat), i + d = n → d < m → se_fits_L2 sk sl sf (nI n) (nI kd) (nI w) (fun _ => some 1) m (nI i) = some (if zFs (zOk k l f kd w) i d then 1 else 0) := by
  intro d
  induction d with
  | zero =>
    intro i m hi hm
    obtain ⟨m, rfl⟩ : ∃ t, m = t + 1 := ⟨m - 1, by omega⟩
    rw [se_fits_L2.eq_2, if_pos ((n_le (by omega) (by omega)).mpr (by omega))]
    rfl
  | succ d ih =>
    intro i m hi hm
    obtain ⟨m, rfl⟩ : ∃ t, m = t + 1 := ⟨m - 1, by omega⟩
    obtain ⟨b1, b2, b3, g1, g2, g3⟩ := hj i (by omega)
    have ih := ih (i + 1) m (by omega) (by omega)
    have s1 : ¬ (6 : Int32) ≤ nI i := fun z => by have := (n_Lle (show i < 2147483648 by omega) (by decide)).mp z; omega
    have hz := zO_lt (k := kd) (show l i < 1000 by omega)
    have hzf := zF_lt (k := kd) (w := w) (show zO kd (l i) < 2000 by omega)
    rw [se_fits_L2.eq_2, if_neg (fun z => by have := (n_le (by omega) (by omega)).mp z; omega), if_neg s1, if_neg s1, if_neg s1, gI_n (show i < 6 by omega) (by omega), n_cl (show i < 2147483648 by omega), g1, nI_1]
    by_cases hk : k i = kd
    · rw [if_pos ((n_eq (by omega) (by omega)).mpr hk), gI_n (show i < 6 by omega) (by omega), g2, x_own hkd (by omega), b_s, x_flown hkd (by omega) (by omega), b_s, gI_n (show i < 6 by omega) (by omega), g3]
      by_cases hf : zF kd w (zO kd (l i)) = f i
      · rw [if_pos ((n_eq (by omega) (by omega)).mpr hf), ih]
        have : zFs (zOk k l f kd w) i (d + 1) = zFs (zOk k l f kd w) (i + 1) d := by
          conv => lhs; rw [zFs]
          simp [zOk, hf]
        rw [this]
      · rw [if_neg (fun z => hf ((n_eq (by omega) (by omega)).mp z))]
        have : zFs (zOk k l f kd w) i (d + 1) = false := by
          conv => lhs; rw [zFs]
          simp [zOk, hf, hk]
        rw [this]
        rfl
    · rw [if_neg (fun z => hk ((n_eq (by omega) (by omega)).mp z)), ih]
      have : zFs (zOk k l f kd w) i (d + 1) = zFs (zOk k l f kd w) (i + 1) d := by
        conv => lhs; rw [zFs]
        simp [zOk, hk]
      rw [this]
theorem x_wbits_loop {sk sl sf : Nat → Int32} {n : Nat} {k l f : Nat → Nat} (hn : n ≤ 6) (hj : ∀ j, j < n → k j ≤ 3 ∧ l j ≤ 12 ∧ f j ≤ 5 ∧ sk j = nI (k j) ∧ sl j = nI (l j) ∧ sf j = nI (f j)) {kd : Nat} (hkd : kd ≤ 3) :
    ∀ (d w m : Nat) (a : Int32), w + d = 10 → d < m → se_weightBits_L4 sk sl sf (nI n) (nI kd) (fun _ y => some y) m (nI w) a = some (zWb (fun w => zFs (zOk k l f kd w) 0 n) w d a) := by
  intro d
  induction d with
  | zero =>
    intro w m a hw hm
    obtain ⟨m, rfl⟩ : ∃ t, m = t + 1 := ⟨m - 1, by omega⟩
    obtain rfl : w = 10 := by omega
    rw [se_weightBits_L4.eq_2, if_pos (by decide)]
    rfl
  | succ d ih =>
    intro w m a hw hm
    obtain ⟨m, rfl⟩ : ∃ t, m = t + 1 := ⟨m - 1, by omega⟩
    have hf : se_fits sk sl sf (nI n) (nI kd) (nI w) = some (if zFs (zOk k l f kd w) 0 n then 1 else 0) := x_fits_loop hn hj hkd (by omega) n 0 1000 (by omega) (by omega)
    rw [se_weightBits_L4.eq_2, if_neg (fun z => by have := (n_Llt (show w < 2147483648 by omega) (by decide)).mp z; omega), hf, b_s, nI_1, zWb]
    by_cases hc : zFs (zOk k l f kd w) 0 n = true
    · rw [if_pos hc, if_neg (by decide), if_pos hc]
      exact ih (w + 1) m _ (by omega) (by omega)
    · rw [if_neg hc, if_pos rfl, if_neg hc]
      exact ih (w + 1) m _ (by omega) (by omega)
theorem m_fits_loop {mk ml mf : Nat → Int32} {n : Nat} {k l f : Nat → Nat} (hn : n ≤ 6) (hj : ∀ j, j < n → k j ≤ 3 ∧ l j ≤ 12 ∧ f j ≤ 5 ∧ mk j = nI (k j) ∧ ml j = nI (l j) ∧ mf j = nI (f j)) {kd w : Nat} (hkd : kd ≤ 3) (hw : w < 100) (kx : Int32 → Int32 → Option Int32) :
    ∀ (d i m : Nat) (b : Bool), i + d = n → d < m → mm_weights_L31 (nI n) mk ml mf (nI kd) (nI w) kx m (nI i) (if b then 1 else 0) = kx (nI n) (if b && zFs (zOk k l f kd w) i d then 1 else 0) := by
  intro d
  induction d with
  | zero =>
    intro i m b hi hm
    obtain ⟨m, rfl⟩ : ∃ t, m = t + 1 := ⟨m - 1, by omega⟩
    obtain rfl : i = n := by omega
    rw [mm_weights_L31.eq_2, if_pos ((n_le (by omega) (by omega)).mpr (by omega)), zFs, Bool.and_true]
  | succ d ih =>
    intro i m b hi hm
    obtain ⟨m, rfl⟩ : ∃ t, m = t + 1 := ⟨m - 1, by omega⟩
    obtain ⟨b1, b2, b3, g1, g2, g3⟩ := hj i (by omega)
    have ih1 := ih (i + 1) m true (by omega) (by omega)
    have ih0 := ih (i + 1) m false (by omega) (by omega)
    rw [if_pos rfl, Bool.true_and] at ih1
    rw [if_neg (by decide), Bool.false_and, if_neg (by decide)] at ih0
    have hz := zO_lt (k := kd) (show l i < 1000 by omega)
    have hzf := zF_lt (k := kd) (w := w) (show zO kd (l i) < 2000 by omega)
    rw [mm_weights_L31.eq_2, if_neg (fun z => by have := (n_le (by omega) (by omega)).mp z; omega), nI_1]
    cases b with
    | false =>
      have e0 : (if false = true then (1 : Int32) else 0) = 0 := rfl
      rw [e0, i00, Bool.false_and, if_neg (by decide)]
      exact ih0
    | true =>
      rw [if_pos rfl, i10, gI_n (show i < 6 by omega) (by omega), n_cl (show i < 2147483648 by omega), g1, Bool.true_and]
      by_cases hk : k i = kd
      · rw [if_pos ((n_eq (by omega) (by omega)).mpr hk), gI_n (show i < 6 by omega) (by omega), g2, m_flight hkd (by omega) (by omega), b_s, gI_n (show i < 6 by omega) (by omega), g3]
        by_cases hf : zF kd w (zO kd (l i)) = f i
        · have : zFs (zOk k l f kd w) i (d + 1) = zFs (zOk k l f kd w) (i + 1) d := by
            conv => lhs; rw [zFs]
            simp [zOk, hf]
          rw [if_pos ((n_eq (by omega) (by omega)).mpr hf), this]
          exact ih1
        · have : zFs (zOk k l f kd w) i (d + 1) = false := by
            conv => lhs; rw [zFs]
            simp [zOk, hf, hk]
          rw [if_neg (fun z => hf ((n_eq (by omega) (by omega)).mp z)), this, if_neg (by decide)]
          exact ih0
      · have : zFs (zOk k l f kd w) i (d + 1) = zFs (zOk k l f kd w) (i + 1) d := by
          conv => lhs; rw [zFs]
          simp [zOk, hk]
        rw [if_neg (fun z => hk ((n_eq (by omega) (by omega)).mp z)), this]
        exact ih1
theorem m_wbits_loop {mk ml mf : Nat → Int32} {n : Nat} {k l f : Nat → Nat} (hn : n ≤ 6) (hj : ∀ j, j < n → k j ≤ 3 ∧ l j ≤ 12 ∧ f j ≤ 5 ∧ mk j = nI (k j) ∧ ml j = nI (l j) ∧ mf j = nI (f j)) {kd : Nat} (hkd : kd ≤ 3) :
    ∀ (d w m : Nat) (a : Int32), w + d = 10 → d < m → mm_weights_L19 (nI n) mk ml mf (nI kd) (fun _ y => some y) m (nI w) a = some (zWb (fun w => zFs (zOk k l f kd w) 0 n) w d a) := by
  intro d
  induction d with
  | zero =>
    intro w m a hw hm
    obtain ⟨m, rfl⟩ : ∃ t, m = t + 1 := ⟨m - 1, by omega⟩
    obtain rfl : w = 10 := by omega
    rw [mm_weights_L19.eq_2, if_pos (by decide)]
    rfl
  | succ d ih =>
    intro w m a hw hm
    obtain ⟨m, rfl⟩ : ∃ t, m = t + 1 := ⟨m - 1, by omega⟩
    have hf := m_fits_loop hn hj hkd (w := w) (by omega) (fun y5_31 y4_31 => (if y4_31 = 0 then (mm_weights_L19 (nI n) mk ml mf (nI kd) (fun _ y => some y) m (nI w + 1) (a ||| 0)) else (mm_weights_L19 (nI n) mk ml mf (nI kd) (fun _ y => some y) m (nI w + 1) (a ||| ((1 : Int32) <<< (nI w &&& 31)))))) n 0 1000 true (by omega) (by omega)
    rw [mm_weights_L19.eq_2, if_neg (fun z => by have := (n_Lle (show w < 2147483648 by omega) (by decide)).mp z; omega), zWb]
    refine Eq.trans hf ?_
    rw [Bool.true_and]
    by_cases hc : zFs (zOk k l f kd w) 0 n = true
    · rw [if_pos hc, if_neg (by decide), if_pos hc, nI_1]
      exact ih (w + 1) m _ (by omega) (by omega)
    · rw [if_neg hc, if_pos rfl, if_neg hc, nI_1, or0]
      exact ih (w + 1) m _ (by omega) (by omega)
theorem op_weights {sk sl sf : Nat → Int32} {ss ms : Int32} {mk ml mf : Nat → Int32} (hR : RS sk sl sf ss ms mk ml mf) (p : Int32) :
    ∃ r, xx_weights sk sl sf ss p = some r ∧ mm_weights ms mk ml mf p = some r := by
  have e3 : (3 : Int64) = Int32.toInt64 (nI 3) := by decide
  obtain ⟨n, k, l, f, hn, rfl, rfl, hj⟩ := hR
  rcases pk_ix p (show 4 < 2 ^ 31 by omega) with h | h | ⟨a, ha, rfl⟩
  · refine ⟨-2, ?_, ?_⟩
    · unfold xx_weights
      rw [if_pos h]
    · unfold mm_weights
      rw [e3, m_in0F (by omega) (Or.inl h), b_s, i00]
  · refine ⟨-2, ?_, ?_⟩
    · unfold xx_weights
      have h3 : ¬ p ≤ 3 := fun z => by
        have t1 := (fa_le _ _).mp h
        have t2 := (fa_le _ _).mp z
        have t3 : (3 : Int32).toInt = 3 := by decide
        have t4 : (nI 4).toInt = 4 := by decide
        omega
      rw [if_neg h3]
      split <;> rfl
    · unfold mm_weights
      rw [e3, m_in0F (by omega) (Or.inr h), b_s, i00]
  · refine ⟨zWb (fun w => zFs (zOk k l f a w) 0 n) 1 9 0, ?_, ?_⟩
    · unfold xx_weights se_weightBits
      rw [if_neg (n_neg (by omega)), if_pos ((n_leL (by omega) (by decide)).mpr (by omega))]
      have := x_wbits_loop hn (fun j h => ⟨(hj j h).1, (hj j h).2.1, (hj j h).2.2.1, (hj j h).2.2.2.1, (hj j h).2.2.2.2.2.1, (hj j h).2.2.2.2.2.2.2.1⟩) (show a ≤ 3 by omega) 9 1 1000 0 (by omega) (by omega)
      have e : se_weightBits_L4 sk sl sf (nI n) (nI a) (fun _ y => some y) 1000 1 0 = _ := this
      rw [e, b_s]
    · unfold mm_weights
      rw [e3, m_in0T (by omega) (by omega), b_s, i10]
      exact m_wbits_loop hn (fun j h => ⟨(hj j h).1, (hj j h).2.1, (hj j h).2.2.1, (hj j h).2.2.2.2.1, (hj j h).2.2.2.2.2.2.1, (hj j h).2.2.2.2.2.2.2.2⟩) (show a ≤ 3 by omega) 9 1 1000 0 (by omega) (by omega)
section O4
variable {F : FD} {fPk fWn fGw fGk fOw : Nat → Int32} {fPe fHo fGr : Int32} {L : Int64} {S : Sc}
variable {mKind mWind mWeight mSort mOwner mNow : Nat → Int32} {mPeople mHours mGrains : Int32}
theorem op_count (hF : RF F fPk fWn fGw fGk fOw fPe fHo fGr) (hG : RF F mKind mWind mWeight mSort mOwner mPeople mHours mGrains) (hX : RX F L S) (hM : RM F mNow 0 S) (le ac se p : Int32) :
    ∃ r, xx_count le L ac se fWn fOw fPe fHo fGr p = some r ∧ mm_count mPeople mHours mGrains mWind mOwner mNow le ac se p = some r := by
  have q1 : fPe = mPeople := hF.2.1.trans hG.2.1.symm
  have q2 : fHo = mHours := hF.2.2.1.trans hG.2.2.1.symm
  have q3 : fGr = mGrains := hF.2.2.2.1.trans hG.2.2.2.1.symm
  subst q1 q2 q3
  have h8 : mNow 8 = nI S.2.2 := hM.2.2.2
  have h7 : mNow 7 = hI S.2.1 := hM.2.2.1
  have e8 : fl_lyingBits fGr L 8 = some (nI (zB (yL S 8) (oN F))) := x_lying hF hX (p := 8) (by omega)
  have e9 : fl_lyingBits fGr L 9 = some (nI (zB (yL S 9) (oN F))) := x_lying hF hX (p := 9) (by omega)
  have g8 : mm_lyingAt fGr mNow 0 8 = some (nI (zB (yL S 8) (oN F))) := m_lying0 hG hM (p := 8) (by omega)
  have g9 : mm_lyingAt fGr mNow 0 9 = some (nI (zB (yL S 9) (oN F))) := m_lying0 hG hM (p := 9) (by omega)
  have e1 : xx_count le L ac se fWn fOw fPe fHo fGr p = mm_count fPe fHo fGr mWind mOwner mNow le ac se p := by
    unfold xx_count mm_count
    simp only [x_clock hX, b_s, x_wind hF hX, x_holder hX, x_right hF hX, e8, e9, x_cleanBits hF hX, h8, h7, m_wind0 hG hM, m_right0 hG hM, g8, g9, m_cleanOnes hG hM]
  have e2 : ∃ r, xx_count le L ac se fWn fOw fPe fHo fGr p = some r := by
    unfold xx_count
    simp only [x_clock hX, b_s, x_wind hF hX, x_holder hX, x_right hF hX, e8, e9, x_cleanBits hF hX]
    repeat' (first | exact ⟨_, rfl⟩ | refine oi ?_ ?_)
  obtain ⟨r, hr⟩ := e2
  exact ⟨r, hr, e1 ▸ hr⟩
end O4
