/-! ===== rests ===== -/
def zGa (F : FD) (S : Sc) (p t o : Nat) : Int32 := if t = 1 then (if o = 1 then -2 else nI (zGu F (zB (yF F (zHd S p) p) (oN F)) (oN F))) else nI (zGu F (zB (yF F S p) (oN F)) (oN F))
def zCo (F : FD) (S : Sc) (p t o : Nat) : Bool := decide (¬ zGa F S p t o < zGa F S p (1 - t) o)
section O9
variable {F : FD} {fPk fWn fGw fGk fOw : Nat → Int32} {fPe fHo fGr : Int32} {L : Int64} {S U : Sc}
variable {mKind mWind mWeight mSort mOwner mNow now0 now : Nat → Int32} {mPeople mHours mGrains : Int32}
theorem x_gain (hF : RF F fPk fWn fGw fGk fOw fPe fHo fGr) (hX : RX F L S) {p t o : Nat} (hp : p < oP F) (ht : t ≤ 1) (ho : o ≤ 1) : gb_gain fPk fWn fGw fGk fOw fPe fHo fGr L (nI p) (nI t) (nI o) = some (zGa F S p t o) := by
  have h4 := hF.1.1
  have h7 := hF.1.2.2.1
  unfold gb_gain zGa
  by_cases h : t = 1
  · rw [if_pos ((n_eqL (by omega) (by decide)).mpr h), if_pos h]
    by_cases h2 : o = 1
    · rw [if_pos ((n_eqL (by omega) (by decide)).mpr h2), if_pos h2]
    · obtain ⟨L1, e, hX1⟩ := x_withH hX h7 h4 hp
      rw [if_neg (fun z => h2 ((n_eqL (by omega) (by decide)).mp z)), if_neg h2, e, b_s, x_flying hF hX1 hp, b_s, x_guiltB hF (zB_128 hF.1 _), b_s]
  · rw [if_neg (fun z => h ((n_eqL (by omega) (by decide)).mp z)), if_neg (fun z => h ((n_eqL (by omega) (by decide)).mp z)), if_neg h, x_flying hF hX hp, b_s, x_guiltB hF (zB_128 hF.1 _), b_s]
theorem x_content (hF : RF F fPk fWn fGw fGk fOw fPe fHo fGr) (hX : RX F L S) {p t o : Nat} (hp : p < oP F) (ht : t ≤ 1) (ho : o ≤ 1) : gb_isContent fPk fWn fGw fGk fOw fPe fHo fGr L (nI p) (nI t) (nI o) = some (if zCo F S p t o then 1 else 0) := by
  have e1 : (1 : Int32) - nI t = nI (1 - t) := pk_sub (a := 1) ht
  unfold gb_isContent zCo
  rw [e1, x_gain hF hX hp ht ho, b_s, x_gain hF hX hp (show 1 - t ≤ 1 by omega) ho, b_s]
  by_cases h : zGa F S p t o < zGa F S p (1 - t) o
  · rw [if_pos h]
    simp [h]
  · rw [if_neg h]
    simp [h]
theorem m_lightens_loop (hG : RF F mKind mWind mWeight mSort mOwner mPeople mHours mGrains) (hM0 : RM F now 0 S) (hM : RM F now 9 U) (hU : U.1 = S.1) {p : Nat} (hp : p < oP F) (kx : Int32 → Int32 → Option (Int32 × (Nat → Int32))) :
    ∀ (d k n : Nat), k + d = oN F → d < n → mm_lightens_L40 mGrains mKind mWeight mSort mOwner now (nI p) (nI (zL F U p)) kx n (nI k) (nI (zGu F (zB (yF F U p) (oN F)) k)) = kx (nI (oN F)) (nI (zGu F (zB (yF F U p) (oN F)) (oN F))) := by
  have h7 := hG.1.2.2.1
  have h4 := hG.1.1
  have hl := zL_le hG.1 U p
  intro d
  induction d with
  | zero =>
    intro k n hk hn
    obtain ⟨n, rfl⟩ : ∃ m, n = m + 1 := ⟨n - 1, by omega⟩
    obtain rfl : k = oN F := by omega
    rw [mm_lightens_L40.eq_2, hG.2.2.2.1, if_pos ((n_le (by omega) (by omega)).mpr (by omega))]
  | succ d ih =>
    intro k n hk hn
    obtain ⟨n, rfl⟩ : ∃ m, n = m + 1 := ⟨n - 1, by omega⟩
    have hkN : k < oN F := by omega
    have hSk := hM0.1.1 k hkN
    have hs := (hG.1.2.2.2.2.2 k hkN).2.2.1
    have hbit := zB_bit (yF F U p) (oN F) k
    have hy := zY_lt (F := F) (g := k) (p := U.1 k) (show zL F U p < 1000 by omega)
    simp only [hG.2.2.2.1] at ih
    have ih := ih (k + 1) n (by omega) (by omega)
    rw [mm_lightens_L40.eq_2, hG.2.2.2.1, if_neg (fun z => by have := (n_le (by omega) (by omega)).mp z; omega), gI_n (show k < 18 by omega) (by omega), n_cl (show k < 2147483648 by omega), m_at hM0 hkN]
    simp only [gI_n (show k < 7 by omega) (show (7 : Nat) < 2147483648 by omega), n_cl (show k < 2147483648 by omega), hG.2.2.2.2.2.2.2.1 k hkN, hG.2.2.2.2.2.2.1 k hkN, add0, nI_1, nI_add, m_flies1 hG hM hkN (show zL F U p < 1000 by omega), b_s]
    rw [← ih]
    by_cases hc : S.1 k = p
    · rw [if_pos ((n_eq (by omega) (by omega)).mpr hc)]
      have hcU : U.1 k = p := by rw [hU]; exact hc
      by_cases h1 : oS F k = 1
      · rw [if_pos ((n_eqL (by omega) (by decide)).mpr h1)]
        simp [zGu, h1]
      · rw [if_neg (fun z => h1 ((n_eqL (by omega) (by decide)).mp z)), hcU]
        rw [hcU] at hy
        by_cases h0 : zY F k p (zL F U p) = 0
        · rw [if_pos ((n_leL (by omega) (by decide)).mpr (by omega))]
          simp [zGu, hbit, yF, h0]
        · rw [if_neg (fun z => h0 (Nat.le_zero.mp (show zY F k p (zL F U p) ≤ 0 from (n_leL (by omega) (by decide)).mp z)))]
          simp [zGu, hbit, yF, h0, hcU, h1, hkN]
    · rw [if_neg (fun z => hc ((n_eq (by omega) (by omega)).mp z))]
      have hcU : ¬ U.1 k = p := by rw [hU]; exact hc
      simp [zGu, hbit, yF, hcU]
theorem m_gain (hG : RF F mKind mWind mWeight mSort mOwner mPeople mHours mGrains) (hM : RM F now 0 S) {p t o : Nat} (hp : p < oP F) (ht : t ≤ 1) (ho : o ≤ 1) : ∃ now1, mm_gain mHours mGrains mKind mWind mWeight mSort mOwner now (nI p) (nI t) (nI o) = some (zGa F S p t o, now1) ∧ RM F now1 0 S := by
  have h4 := hG.1.1
  have h7 := hG.1.2.2.1
  obtain ⟨now1, e1, hM1, hM0, hq⟩ := m_lay now F S hM h7
  unfold mm_gain zGa
  by_cases h : t = 1
  · rw [if_pos ((n_eqL (by omega) (by decide)).mpr h), if_pos h]
    by_cases h2 : o = 1
    · exact ⟨now, by rw [if_pos ((n_eqL (by omega) (by decide)).mpr h2), if_pos h2], hM⟩
    · have hA : RM F (upd now1 16 (nI p)) 9 (zHd S p) := by
        refine ⟨⟨hM1.1.1, Or.inr hp, hM1.1.2.2⟩, fun g hg => ?_, ?_, ?_⟩
        · unfold upd
          rw [if_neg (by omega)]
          exact hM1.2.1 g hg
        · show nI p = hI p
          unfold hI
          rw [if_neg (by omega)]
        · unfold upd
          rw [if_neg (by omega)]
          exact hM1.2.2.2
      have hB : RM F (upd now1 16 (nI p)) 0 S := RM_cong h7 hM0 (fun j hj => by unfold upd; rw [if_neg (by omega)])
      refine ⟨upd now1 16 (nI p), ?_, hB⟩
      rw [if_neg (fun z => h2 ((n_eqL (by omega) (by decide)).mp z)), if_neg h2]
      unfold mm_lightens
      rw [e1, b_s, i10, m_lift1 hG hA hp, b_s]
      have := m_lightens_loop hG hB hA rfl hp (fun y5_40 y4_40 => (some (y4_40, (upd now1 16 (nI p))))) (oN F) 0 1000 (by omega) (by omega)
      refine Eq.trans (congrArg (fun z => Option.bind z _) this) rfl
  · rw [if_neg (fun z => h ((n_eqL (by omega) (by decide)).mp z)), if_neg (fun z => h ((n_eqL (by omega) (by decide)).mp z)), if_neg h]
    have e7 : now1 7 = hI S.2.1 := hM0.2.2.1
    have hA : RM F (upd now1 16 (now1 7)) 9 S := by
      refine ⟨hM1.1, fun g hg => ?_, ?_, ?_⟩
      · unfold upd
        rw [if_neg (by omega)]
        exact hM1.2.1 g hg
      · show now1 7 = _
        exact e7
      · unfold upd
        rw [if_neg (by omega)]
        exact hM1.2.2.2
    have hB : RM F (upd now1 16 (now1 7)) 0 S := RM_cong h7 hM0 (fun j hj => by unfold upd; rw [if_neg (by omega)])
    refine ⟨upd now1 16 (now1 7), ?_, hB⟩
    unfold mm_lightens
    rw [e1, b_s, i00, m_lift1 hG hA hp, b_s]
    have := m_lightens_loop hG hB hA rfl hp (fun y5_40 y4_40 => (some (y4_40, (upd now1 16 (now1 7))))) (oN F) 0 1000 (by omega) (by omega)
    refine Eq.trans (congrArg (fun z => Option.bind z _) this) rfl
theorem m_isRest (hG : RF F mKind mWind mWeight mSort mOwner mPeople mHours mGrains) (hM : RM F now 0 S) {p q t o : Nat} (hp : p < oP F) (hq : q < oP F) (ht : t ≤ 1) (ho : o ≤ 1) : ∃ now1, mm_isRest mHours mGrains mKind mWind mWeight mSort mOwner now (nI p) (nI q) (nI t) (nI o) = some (if zCo F S p t o && zCo F S q o t then 1 else 0, now1) ∧ RM F now1 0 S := by
  have e1 : (1 : Int32) - nI t = nI (1 - t) := pk_sub (a := 1) ht
  have e2 : (1 : Int32) - nI o = nI (1 - o) := pk_sub (a := 1) ho
  obtain ⟨n1, a1, hM1⟩ := m_gain hG hM hp (show 1 - t ≤ 1 by omega) ho
  obtain ⟨n2, a2, hM2⟩ := m_gain hG hM1 hp ht ho
  obtain ⟨n3, a3, hM3⟩ := m_gain hG hM2 hq (show 1 - o ≤ 1 by omega) ht
  obtain ⟨n4, a4, hM4⟩ := m_gain hG hM3 hq ho ht
  unfold mm_isRest zCo
  rw [e1, e2, a1, b_s, a2, b_s]
  by_cases h : zGa F S p t o < zGa F S p (1 - t) o
  · refine ⟨n2, ?_, hM2⟩
    rw [if_pos h]
    simp [h]
  · rw [if_neg h, a3, b_s, a4, b_s]
    refine ⟨n4, ?_, hM4⟩
    by_cases h2 : zGa F S q o t < zGa F S q (1 - o) t
    · rw [if_pos h2]
      simp [h2]
    · rw [if_neg h2]
      simp [h, h2]
theorem op_rests_loop (hF : RF F fPk fWn fGw fGk fOw fPe fHo fGr) (hG : RF F mKind mWind mWeight mSort mOwner mPeople mHours mGrains) (hX : RX F L S) {p q : Nat} (hp : p < oP F) (hq : q < oP F) (kx : Int32 → Int32 → Int32 → Option Int32) (km : Int32 → Int32 → Int32 → (Nat → Int32) → Option (Int32 × (Nat → Int32))) :
    ∀ (d k n : Nat) (x y : Int32) (now : Nat → Int32), k + d = 4 → d < n → RM F now 0 S → ∃ x1 y1 now1, xx_rests_L51 L fPk fWn fGw fGk fOw fPe fHo fGr (nI p) (nI q) kx n (nI k) x y = kx 4 x1 y1 ∧ mm_rests_L46 mHours mGrains mKind mWind mWeight mSort mOwner (nI p) (nI q) km n (nI k) x y now = km 4 x1 y1 now1 ∧ RM F now1 0 S := by
  intro d
  induction d with
  | zero =>
    intro k n x y now hk hn hM
    obtain ⟨n, rfl⟩ : ∃ m, n = m + 1 := ⟨n - 1, by omega⟩
    obtain rfl : k = 4 := by omega
    have c : (4 : Int32) ≤ nI 4 := by decide
    exact ⟨x, y, now, by rw [xx_rests_L51.eq_2, if_pos c]; rfl, by rw [mm_rests_L46.eq_2, if_pos c]; rfl, hM⟩
  | succ d ih =>
    intro k n x y now hk hn hM
    obtain ⟨n, rfl⟩ : ∃ m, n = m + 1 := ⟨n - 1, by omega⟩
    have c : ¬ (4 : Int32) ≤ nI k := fun z => by have := (n_Lle (by omega) (by decide)).mp z; omega
    have e1 : nI k / 2 = nI (k / 2) := n_divL (by omega) (by decide) (by decide)
    have e2 : nI k - nI (k / 2) * 2 = nI (k % 2) := by
      rw [← e1]
      exact n_remL (by omega) (by decide) (by decide)
    obtain ⟨now1, em, hM1⟩ := m_isRest hG hM hp hq (show k / 2 ≤ 1 by omega) (show k % 2 ≤ 1 by omega)
    rw [xx_rests_L51.eq_2, mm_rests_L46.eq_2, if_neg c, if_neg c, e1, e2, x_content hF hX hp (show k / 2 ≤ 1 by omega) (show k % 2 ≤ 1 by omega), b_s, x_content hF hX hq (show k % 2 ≤ 1 by omega) (show k / 2 ≤ 1 by omega), em, b_s, b_s, nI_1]
    by_cases h1 : zCo F S p (k / 2) (k % 2) = true
    · by_cases h2 : zCo F S q (k % 2) (k / 2) = true
      · have hc : (zCo F S p (k / 2) (k % 2) && zCo F S q (k % 2) (k / 2)) = true := by simp [h1, h2]
        simp only [if_pos h1, if_pos h2, if_pos hc, i10]
        by_cases hy : y = 0
        · rw [if_pos hy, if_pos hy]
          exact ih (k + 1) n _ _ now1 (by omega) (by omega) hM1
        · rw [if_neg hy, if_neg hy]
          exact ih (k + 1) n _ _ now1 (by omega) (by omega) hM1
      · have hc : ¬ (zCo F S p (k / 2) (k % 2) && zCo F S q (k % 2) (k / 2)) = true := by simp [h2]
        simp only [if_pos h1, if_neg h2, if_neg hc, i10, i00]
        exact ih (k + 1) n _ _ now1 (by omega) (by omega) hM1
    · have hc : ¬ (zCo F S p (k / 2) (k % 2) && zCo F S q (k % 2) (k / 2)) = true := by simp [h1]
      simp only [if_neg h1, if_neg hc, i00]
      exact ih (k + 1) n _ _ now1 (by omega) (by omega) hM1
theorem op_rests (hF : RF F fPk fWn fGw fGk fOw fPe fHo fGr) (hG : RF F mKind mWind mWeight mSort mOwner mPeople mHours mGrains) (hX : RX F L S) (hM : RM F mNow 0 S) (p q s : Int32) :
    ∃ r now1, xx_rests L fPk fWn fGw fGk fOw fPe fHo fGr p q s = some r ∧ mm_rests mPeople mHours mGrains mKind mWind mWeight mSort mOwner mNow p q s = some (r, now1) ∧ RM F now1 0 S := by
  have h4 := hF.1.1
  unfold xx_rests mm_rests
  have bad : (p < 0 ∨ nI (oP F) ≤ p) → fl_isPerson fPe p = some 0 ∧ mm_isPerson mPeople p = some 0 := fun h => ⟨x_per0 hF h, m_per0 hG h⟩
  have badq : (q < 0 ∨ nI (oP F) ≤ q) → fl_isPerson fPe q = some 0 ∧ mm_isPerson mPeople q = some 0 := fun h => ⟨x_per0 hF h, m_per0 hG h⟩
  rcases pk_ix p (show oP F < 2 ^ 31 by omega) with h | h | ⟨j, hj, rfl⟩
  · exact ⟨-1, mNow, by rw [(bad (Or.inl h)).1, b_s, i00], by rw [(bad (Or.inl h)).2, b_s, i00], hM⟩
  · exact ⟨-1, mNow, by rw [(bad (Or.inr h)).1, b_s, i00], by rw [(bad (Or.inr h)).2, b_s, i00], hM⟩
  · rw [x_perT hF hj, m_perT hG hj, b_s, b_s, i10, i10]
    rcases pk_ix q (show oP F < 2 ^ 31 by omega) with h | h | ⟨i, hi, rfl⟩
    · exact ⟨-1, mNow, by rw [(badq (Or.inl h)).1, b_s, i00], by rw [(badq (Or.inl h)).2, b_s, i00], hM⟩
    · exact ⟨-1, mNow, by rw [(badq (Or.inr h)).1, b_s, i00], by rw [(badq (Or.inr h)).2, b_s, i00], hM⟩
    · rw [x_perT hF hi, m_perT hG hi, b_s, b_s, i10, i10]
      by_cases hji : nI j = nI i
      · exact ⟨-2, mNow, by rw [if_pos hji], by rw [if_pos hji], hM⟩
      · rw [if_neg hji, if_neg hji]
        have em : ∀ s : Int32, mm_in (Int32.toInt64 s) 0 1 = mm_in (Int32.toInt64 s) 0 (Int32.toInt64 (nI 1)) := fun s => rfl
        rcases pk_ix s (show 2 < 2 ^ 31 by omega) with h | h | ⟨c, hc, rfl⟩
        · exact ⟨-2, mNow, by rw [if_pos h], by rw [em, m_in0F (by decide) (Or.inl h), b_s, i00], hM⟩
        · have h1 : ¬ s < 0 := fun z => by
            have z1 := (fa_lt _ _).mp z
            have z2 := (fa_le _ _).mp h
            have z3 : (0 : Int32).toInt = 0 := by decide
            have z4 : (nI 2).toInt = 2 := by decide
            omega
          have h2 : ¬ s ≤ 1 := fun z => by
            have z1 := (fa_le _ _).mp z
            have z2 := (fa_le _ _).mp h
            have z3 : (1 : Int32).toInt = 1 := by decide
            have z4 : (nI 2).toInt = 2 := by decide
            omega
          exact ⟨-2, mNow, by rw [if_neg h1, if_neg h2], by rw [em, m_in0F (by decide) (Or.inr h), b_s, i00], hM⟩
        · obtain ⟨x1, y1, now1, a1, a2, hM1⟩ := op_rests_loop hF hG hX hj hi (fun y6_51 y5_51 y4_51 => (if nI c = 0 then (some y4_51) else (some y5_51))) (fun y6_46 y5_46 y4_46 mNow_46 => (if nI c = 0 then (some (y4_46, mNow_46)) else (some (y5_46, mNow_46)))) 4 0 1000 (-9) 0 mNow (by omega) (by omega) hM
          refine ⟨if nI c = 0 then y1 else x1, now1, ?_, ?_, hM1⟩
          · rw [if_neg (n_neg (by omega)), if_pos ((n_leL (by omega) (by decide)).mpr (by omega))]
            refine Eq.trans a1 ?_
            by_cases h : nI c = 0
            · simp only [h, if_pos]
            · simp only [h, if_neg, not_false_eq_true]
          · rw [em, m_in0T (by omega) (by decide), b_s, i10]
            refine Eq.trans a2 ?_
            by_cases h : nI c = 0
            · simp only [h, if_pos]
            · simp only [h, if_neg, not_false_eq_true]
end O9
