/-! ===== slots, what is seen, when ===== -/
theorem m_in0T {j c : Nat} (h : j ≤ c) (hc : c < 2147483648) : mm_in (Int32.toInt64 (nI j)) 0 (Int32.toInt64 (nI c)) = some 1 := by
  have e0 : (0 : Int64) = Int32.toInt64 (nI 0) := by decide
  rw [e0, m_in, if_pos ⟨(n_le (by omega) (by omega)).mpr (by omega), (n_le (by omega) (by omega)).mpr h⟩]
theorem m_in0F {p : Int32} {c : Nat} (hc : c < 2147483647) (h : p < 0 ∨ nI (c + 1) ≤ p) : mm_in (Int32.toInt64 p) 0 (Int32.toInt64 (nI c)) = some 0 := by
  have e0 : (0 : Int64) = Int32.toInt64 (nI 0) := by decide
  have t0 : (nI 0).toInt = 0 := by decide
  have t00 : (0 : Int32).toInt = 0 := by decide
  have t1 := nI_toInt (show c < 2 ^ 31 by omega)
  have t2 := nI_toInt (show c + 1 < 2 ^ 31 by omega)
  rw [e0, m_in, if_neg (fun z => by
    have h1 := (fa_le _ _).mp z.1
    have h2 := (fa_le _ _).mp z.2
    rcases h with h | h
    · have := (fa_lt _ _).mp h; omega
    · have := (fa_le _ _).mp h; omega)]
def RK (F : FD) (K : Nat) (kp : Nat → Int64) (ik : Nat → Int32) (mk mi : Nat → Int32) : Prop := ∀ j, j < 2 → ik j = mi j ∧ (¬ mi j = 0 → ∃ U : Sc, RX F (kp j) U ∧ RM F mk (9 * j) U ∧ U.2.2 ≤ K)
theorem RK_mono {F : FD} {K K1 : Nat} {kp : Nat → Int64} {ik mk mi : Nat → Int32} (h : K ≤ K1) (hA : RK F K kp ik mk mi) : RK F K1 kp ik mk mi := fun j hj => ⟨(hA j hj).1, fun z => by
  obtain ⟨U, a, b, c⟩ := (hA j hj).2 z
  exact ⟨U, a, b, Nat.le_trans c h⟩⟩
theorem m_keep_loop {s0 : Nat} (hs0 : s0 < 2) (now row0 : Nat → Int32) (kx : Int32 → (Nat → Int32) → Option (Int32 × (Nat → Int32) × (Nat → Int32))) :
    ∀ (d k n : Nat) (row : Nat → Int32), k + d = 9 → d < n → (∀ j, row j = if 9 * s0 ≤ j ∧ j < 9 * s0 + k then now (j - 9 * s0) else row0 j) →
      ∃ row1 : Nat → Int32, mm_keep_L21 now (nI s0) kx n (nI k) row = kx 9 row1 ∧ (∀ j, row1 j = if 9 * s0 ≤ j ∧ j < 9 * s0 + 9 then now (j - 9 * s0) else row0 j) := by
  intro d
  induction d with
  | zero =>
    intro k n row hk hn h
    obtain ⟨n, rfl⟩ : ∃ m, n = m + 1 := ⟨n - 1, by omega⟩
    obtain rfl : k = 9 := by omega
    refine ⟨row, ?_, h⟩
    rw [mm_keep_L21.eq_2, if_pos (by decide)]
    rfl
  | succ d ih =>
    intro k n row hk hn h
    obtain ⟨n, rfl⟩ : ∃ m, n = m + 1 := ⟨n - 1, by omega⟩
    rw [mm_keep_L21.eq_2, i9, l9, if_neg (fun z => by have := (n_le (by omega) (by omega)).mp z; omega), gI_n (show k < 18 by omega) (by omega), gI_n (show 9 * s0 + k < 18 by omega) (by omega), n_cl (show 9 * s0 + k < 2147483648 by omega), n_cl (show k < 2147483648 by omega), nI_1]
    refine ih (k + 1) n _ (by omega) (by omega) (fun j => ?_)
    unfold upd
    by_cases hj : j = 9 * s0 + k
    · rw [if_pos hj, if_pos (by omega), hj, Nat.add_sub_cancel_left]
    · rw [if_neg hj, h j]
      by_cases q : 9 * s0 ≤ j ∧ j < 9 * s0 + k
      · rw [if_pos q, if_pos (by omega)]
      · rw [if_neg q, if_neg (by omega)]
theorem m_again_loop {s0 : Nat} (hs0 : s0 < 2) (kept now0 : Nat → Int32) (kx : Int32 → (Nat → Int32) → Option (Int32 × (Nat → Int32) × Int32)) :
    ∀ (d k n : Nat) (now : Nat → Int32), k + d = 9 → d < n → (∀ j, now j = if j < k then kept (9 * s0 + j) else now0 j) →
      ∃ now1 : Nat → Int32, mm_again_L26 kept (nI s0) kx n (nI k) now = kx 9 now1 ∧ (∀ j, now1 j = if j < 9 then kept (9 * s0 + j) else now0 j) := by
  intro d
  induction d with
  | zero =>
    intro k n now hk hn h
    obtain ⟨n, rfl⟩ : ∃ m, n = m + 1 := ⟨n - 1, by omega⟩
    obtain rfl : k = 9 := by omega
    refine ⟨now, ?_, h⟩
    rw [mm_again_L26.eq_2, if_pos (by decide)]
    rfl
  | succ d ih =>
    intro k n now hk hn h
    obtain ⟨n, rfl⟩ : ∃ m, n = m + 1 := ⟨n - 1, by omega⟩
    rw [mm_again_L26.eq_2, i9, l9, if_neg (fun z => by have := (n_le (by omega) (by omega)).mp z; omega), gI_n (show 9 * s0 + k < 18 by omega) (by omega), gI_n (show k < 18 by omega) (by omega), n_cl (show 9 * s0 + k < 2147483648 by omega), n_cl (show k < 2147483648 by omega), nI_1]
    refine ih (k + 1) n _ (by omega) (by omega) (fun j => ?_)
    unfold upd
    by_cases hj : j = k
    · rw [if_pos hj, if_pos (by omega), hj]
    · rw [if_neg hj, h j]
      by_cases q : j < k
      · rw [if_pos q, if_pos (by omega)]
      · rw [if_neg q, if_neg (by omega)]
section O3
variable {F : FD} {fPk fWn fGw fGk fOw : Nat → Int32} {fPe fHo fGr : Int32} {L : Int64} {S : Sc}
variable {mKind mWind mWeight mSort mOwner mNow : Nat → Int32} {mPeople mHours mGrains : Int32}
variable {K : Nat} {sc : Nat → Int64} {as ac nx : Int32} {row : Nat → Int32} {kp : Nat → Int64} {ik mk mi : Nat → Int32}
theorem op_keep (h7 : oN F ≤ 7) (hX : RX F L S) (hM : RM F mNow 0 S) (hk : S.2.2 ≤ K) (hR : RK F K kp ik mk mi) (p : Int32) :
    ∃ r kp1 ik1 mk1 mi1, xx_keep L kp ik p = some (r, kp1, ik1) ∧ mm_keep mNow mi mk p = some (r, mi1, mk1) ∧ RK F K kp1 ik1 mk1 mi1 := by
  have e1 : (1 : Int64) = Int32.toInt64 (nI 1) := by decide
  have bad : (p < 0 ∨ nI 2 ≤ p) → mm_keep mNow mi mk p = some (-1, mi, mk) := fun h => by
    unfold mm_keep
    rw [e1, m_in0F (by omega) h, b_s, i00]
  rcases pk_ix p (show 2 < 2 ^ 31 by omega) with h | h | ⟨j, hj, rfl⟩
  · refine ⟨-1, kp, ik, mk, mi, ?_, bad (Or.inl h), hR⟩
    unfold xx_keep
    rw [if_pos h]
  · refine ⟨-1, kp, ik, mk, mi, ?_, bad (Or.inr h), hR⟩
    unfold xx_keep
    have h2 : (2 : Int32) ≤ p := h
    by_cases hp : p < 0
    · rw [if_pos hp]
    · rw [if_neg hp, if_pos h2]
  · obtain ⟨row1, e, q⟩ := m_keep_loop hj mNow mk (fun y2_21 mKept_21 => (some ((mNow 8), (upd mi j 1), mKept_21))) 9 0 1000 mk (by omega) (by omega) (fun i => by rw [if_neg (by omega)])
    refine ⟨nI S.2.2, vp_updL kp j L, upd ik j 1, row1, upd mi j 1, ?_, ?_, fun i hi => ?_⟩
    · unfold xx_keep
      rw [if_neg (n_neg (by omega)), if_neg (fun z => by have := (n_Lle (show j < 2147483648 by omega) (by decide)).mp z; omega), if_pos ((n_ltL (by omega) (by decide)).mpr hj), gI_n hj (by omega), gI_n hj (by omega), x_clock hX, b_s, n_cl (by omega)]
    · unfold mm_keep
      rw [e1, m_in0T (by omega) (by omega), b_s, i10, gI_n hj (by omega), n_cl (by omega)]
      refine Eq.trans e ?_
      have h8 : mNow 8 = nI S.2.2 := hM.2.2.2
      show some (mNow 8, upd mi j 1, row1) = _
      rw [h8]
    · by_cases hij : i = j
      · subst hij
        refine ⟨?_, fun _ => ⟨S, ?_, ?_, hk⟩⟩
        · unfold upd
          rw [if_pos rfl, if_pos rfl]
        · unfold vp_updL
          rw [if_pos rfl]
          exact hX
        · refine RM_cong h7 hM (fun t ht => ?_)
          rw [q, if_pos (by omega), Nat.add_sub_cancel_left, Nat.zero_add]
      · obtain ⟨g1, g2⟩ := hR i hi
        have u1 : upd mi j 1 i = mi i := by
          unfold upd
          rw [if_neg hij]
        refine ⟨?_, fun z => ?_⟩
        · rw [u1]
          unfold upd
          rw [if_neg hij]
          exact g1
        · rw [u1] at z
          obtain ⟨U, a, b, c⟩ := g2 z
          refine ⟨U, ?_, ?_, c⟩
          · unfold vp_updL
            rw [if_neg hij]
            exact a
          · refine RM_cong h7 b (fun t ht => ?_)
            rw [q, if_neg (by omega)]
theorem op_again (h7 : oN F ≤ 7) (hX : RX F L S) (hM : RM F mNow 0 S) (hk : S.2.2 ≤ K) (hR : RK F K kp ik mk mi) (hA : RA F K sc as ac nx row) (p : Int32) :
    ∃ r L1 as1 now1 ac1 S1, xx_again L kp ik as p = some (r, L1, as1) ∧ mm_again mNow ac mi mk p = some (r, now1, ac1) ∧ RX F L1 S1 ∧ RM F now1 0 S1 ∧ S1.2.2 ≤ K ∧ RA F K sc as1 ac1 nx row := by
  have e1 : (1 : Int64) = Int32.toInt64 (nI 1) := by decide
  have bad : (p < 0 ∨ nI 2 ≤ p) → mm_again mNow ac mi mk p = some (-1, mNow, ac) := fun h => by
    unfold mm_again
    rw [e1, m_in0F (by omega) h, b_s, i00]
  rcases pk_ix p (show 2 < 2 ^ 31 by omega) with h | h | ⟨j, hj, rfl⟩
  · refine ⟨-1, L, as, mNow, ac, S, ?_, bad (Or.inl h), hX, hM, hk, hA⟩
    unfold xx_again
    rw [if_pos h]
  · refine ⟨-1, L, as, mNow, ac, S, ?_, bad (Or.inr h), hX, hM, hk, hA⟩
    unfold xx_again
    have h2 : (2 : Int32) ≤ p := h
    by_cases hp : p < 0
    · rw [if_pos hp]
    · rw [if_neg hp, if_pos h2]
  · obtain ⟨g1, g2⟩ := hR j hj
    by_cases hz : mi j = 0
    · refine ⟨-3, L, as, mNow, ac, S, ?_, ?_, hX, hM, hk, hA⟩
      · unfold xx_again
        rw [if_neg (n_neg (by omega)), if_neg (fun z => by have := (n_Lle (show j < 2147483648 by omega) (by decide)).mp z; omega), if_pos ((n_ltL (by omega) (by decide)).mpr hj), gI_n hj (by omega), n_cl (by omega), g1, if_pos hz]
      · unfold mm_again
        rw [e1, m_in0T (by omega) (by omega), b_s, i10, gI_n hj (by omega), n_cl (by omega), if_pos hz]
    · obtain ⟨U, a, b, c⟩ := g2 hz
      obtain ⟨now1, e, q⟩ := m_again_loop hj mk mNow (fun y2_26 mNow_26 => (some ((mNow_26 8), mNow_26, 0))) 9 0 1000 mNow (by omega) (by omega) (fun i => by rw [if_neg (by omega)])
      have hM1 : RM F now1 0 U := RM_cong h7 b (fun t ht => by rw [Nat.zero_add, q, if_pos ht])
      obtain ⟨s, n, T, hs, hn, -, -, hnx, -⟩ := hA
      refine ⟨nI U.2.2, kp j, 0, now1, 0, U, ?_, ?_, a, hM1, c, 0, n, T, by omega, hn, rfl, rfl, hnx, fun i hi => absurd hi (by omega)⟩
      · unfold xx_again
        rw [if_neg (n_neg (by omega)), if_neg (fun z => by have := (n_Lle (show j < 2147483648 by omega) (by decide)).mp z; omega), if_pos ((n_ltL (by omega) (by decide)).mpr hj), gI_n hj (by omega), n_cl (by omega), g1, if_neg hz, gI_n hj (by omega), ac_forgetAll, b_s, x_clock a, b_s]
      · unfold mm_again
        rw [e1, m_in0T (by omega) (by omega), b_s, i10, gI_n hj (by omega), n_cl (by omega), if_neg hz]
        refine Eq.trans e ?_
        have h8 : now1 8 = nI U.2.2 := hM1.2.2.2
        show some (now1 8, now1, (0 : Int32)) = _
        rw [h8]
theorem op_when_loop (hF : RF F fPk fWn fGw fGk fOw fPe fHo fGr) (hG : RF F mKind mWind mWeight mSort mOwner mPeople mHours mGrains) {g p hd ck : Nat} {pl : Nat → Nat} (hg : g < oN F) (hp : p < oP F) (hpl : pl g = p) (hck : ck < 2000) :
    ∀ (d h n : Nat) (then_ : Int64) (now : Nat → Int32), h + d = 21 → d < n → RX F then_ (pl, hd, ck + h) → RM F now 9 (pl, hd, ck + h) → RM F now 0 (pl, hd, ck) →
      ∃ r now1, xx_when_L30 fPk fWn fGw fGk fOw fPe fHo (nI g) (nI p) (fun _ _ => some (-9)) n (nI h) then_ = some r ∧ mm_when_L16 mPeople mHours mKind mWind mWeight mSort mOwner (nI g) (fun _ now => some (-9, now)) n (nI h) now = some (r, now1) ∧ (∀ j, j < 9 → now1 j = now j) := by
  have h4 := hF.1.1
  have h7 := hF.1.2.2.1
  intro d
  induction d with
  | zero =>
    intro h n then_ now hh hn hX hM hM0
    obtain ⟨n, rfl⟩ : ∃ m, n = m + 1 := ⟨n - 1, by omega⟩
    obtain rfl : h = 21 := by omega
    refine ⟨-9, now, ?_, ?_, fun _ _ => rfl⟩
    · rw [xx_when_L30.eq_2, if_pos (by decide)]
    · rw [mm_when_L16.eq_2, if_pos (by decide)]
  | succ d ih =>
    intro h n then_ now hh hn hX hM hM0
    obtain ⟨n, rfl⟩ : ∃ m, n = m + 1 := ⟨n - 1, by omega⟩
    have hli := zL_le hF.1 (pl, hd, ck + h) p
    have hy := zY_lt (F := F) (g := g) (p := p) (show zL F (pl, hd, ck + h) p < 1000 by omega)
    have hfl := m_flies1 hG hM hg (show zL F (pl, hd, ck + h) p < 1000 by omega)
    have hfl : mm_flies mKind mWeight mSort mOwner now 1 (nI g) (nI (zL F (pl, hd, ck + h) p)) = some (nI (zY F g p (zL F (pl, hd, ck + h) p))) := by
      rw [hfl]
      show some (nI (zY F g (pl g) _)) = _
      rw [hpl]
    have hnow : now g = nI p := by
      have := m_at hM0 hg
      rw [this]
      show nI (pl g) = _
      rw [hpl]
    have hlies : mm_lies mPeople now 0 (nI g) = some 1 := by
      rw [m_lies0 hG hM0 hg, if_pos]
      show pl g < oP F
      omega
    rw [xx_when_L30.eq_2, mm_when_L16.eq_2, if_neg (fun z => by have := (n_Llt (show h < 2147483648 by omega) (by decide)).mp z; omega), if_neg (fun z => by have := (n_Llt (show h < 2147483648 by omega) (by decide)).mp z; omega), x_lift hF hX hp, b_s, x_flight hF hg hp (by omega), b_s, hlies, b_s, i10, gI_n (show g < 18 by omega) (by omega), n_cl (show g < 2147483648 by omega), hnow, m_lift1 hG hM hp, b_s, hfl, b_s]
    by_cases h0 : zY F g p (zL F (pl, hd, ck + h) p) = 0
    · have c0 : nI (zY F g p (zL F (pl, hd, ck + h) p)) ≤ 0 := (n_leL (by omega) (by decide)).mpr (by omega)
      rw [if_pos c0, if_pos c0, nI_1]
      obtain ⟨L1, e3, hX1⟩ := x_later hX h7 (by show ck + h + 1 < 1048576; omega)
      rw [e3, b_s]
      have hM1 : RM F (upd now 17 (now 17 + 1)) 9 (pl, hd, ck + (h + 1)) := by
        refine ⟨hX1.1, fun j hj => ?_, ?_, ?_⟩
        · unfold upd
          rw [if_neg (by omega)]
          exact hM.2.1 j hj
        · exact hM.2.2.1
        · have := hM.2.2.2
          show now 17 + 1 = nI (ck + h + 1)
          rw [← nI_1]
          exact congrArg (· + 1) this
      have hM01 : RM F (upd now 17 (now 17 + 1)) 0 (pl, hd, ck) := RM_cong h7 hM0 (fun j hj => by
        unfold upd
        rw [if_neg (by omega)])
      obtain ⟨r, now1, a, b, c⟩ := ih (h + 1) n L1 (upd now 17 (now 17 + 1)) (by omega) (by omega) hX1 hM1 hM01
      refine ⟨r, now1, a, b, fun j hj => ?_⟩
      rw [c j hj]
      unfold upd
      rw [if_neg (by omega)]
    · have c0 : ¬ nI (zY F g p (zL F (pl, hd, ck + h) p)) ≤ 0 := fun z => h0 (by have := (n_leL (show zY F g p (zL F (pl, hd, ck + h) p) < 2147483648 by omega) (by decide)).mp z; omega)
      rw [if_neg c0, if_neg c0]
      exact ⟨nI h, now, rfl, rfl, fun _ _ => rfl⟩
theorem x_when8 (hF : RF F fPk fWn fGw fGk fOw fPe fHo fGr) {g p : Nat} (hg : g < oN F) (hp : p = 8 ∨ p = 9) :
    ∀ (d h n : Nat) (then_ : Int64) (S : Sc), h + d = 21 → d < n → RX F then_ S → S.2.2 + d < 5000 → xx_when_L30 fPk fWn fGw fGk fOw fPe fHo (nI g) (nI p) (fun _ _ => some (-9)) n (nI h) then_ = some (-9) := by
  have h7 := hF.1.2.2.1
  intro d
  induction d with
  | zero =>
    intro h n then_ S hh hn hX hk
    obtain ⟨n, rfl⟩ : ∃ m, n = m + 1 := ⟨n - 1, by omega⟩
    obtain rfl : h = 21 := by omega
    rw [xx_when_L30.eq_2, if_pos (by decide)]
  | succ d ih =>
    intro h n then_ S hh hn hX hk
    obtain ⟨n, rfl⟩ : ∃ m, n = m + 1 := ⟨n - 1, by omega⟩
    obtain ⟨L1, e3, hX1⟩ := x_later hX h7 (by omega)
    rw [xx_when_L30.eq_2, if_neg (fun z => by have := (n_Llt (show h < 2147483648 by omega) (by decide)).mp z; omega), x_lift8 hF hX (by omega) (by omega), b_s, x_flight8 hF hg hp, b_s, if_pos (by decide), e3, b_s, nI_1]
    exact ih (h + 1) n L1 (zLa S) (by omega) (by omega) hX1 (by show S.2.2 + 1 + d < 5000; omega)
theorem op_when (hF : RF F fPk fWn fGw fGk fOw fPe fHo fGr) (hG : RF F mKind mWind mWeight mSort mOwner mPeople mHours mGrains) (hX : RX F L S) (hM : RM F mNow 0 S) (hk : S.2.2 < 1000) (p : Int32) :
    ∃ r now1, xx_when L fPk fWn fGw fGk fOw fPe fHo fGr p = some r ∧ mm_when mPeople mHours mGrains mKind mWind mWeight mSort mOwner mNow p = some (r, now1) ∧ RM F now1 0 S := by
  have h4 := hF.1.1
  have h7 := hF.1.2.2.1
  have bad : (p < 0 ∨ nI (oN F) ≤ p) → ∃ r now1, xx_when L fPk fWn fGw fGk fOw fPe fHo fGr p = some r ∧ mm_when mPeople mHours mGrains mKind mWind mWeight mSort mOwner mNow p = some (r, now1) ∧ RM F now1 0 S := fun h => by
    refine ⟨-1, mNow, ?_, ?_, hM⟩
    · unfold xx_when
      rw [x_gra0 hF h, b_s, i00]
    · unfold mm_when
      rw [m_gra0 hG h, b_s, i00]
  rcases pk_ix p (show oN F < 2 ^ 31 by omega) with h | h | ⟨g, hg, rfl⟩
  · exact bad (Or.inl h)
  · exact bad (Or.inr h)
  · obtain ⟨now1, e, hM1, hM0, -⟩ := m_lay mNow F S hM h7
    unfold xx_when mm_when
    rw [x_graT hF hg, m_graT hG hg, b_s, b_s, i10, i10, x_place h7 hX hg, b_s, e, b_s]
    have hS := hX.1.1 g hg
    by_cases hl : S.1 g < oP F
    · obtain ⟨r, now2, a, b, c⟩ := op_when_loop hF hG (pl := S.1) (hd := S.2.1) (ck := S.2.2) hg hl rfl (by omega) 21 0 1000 L now1 (by omega) (by omega) hX hM1 hM0
      exact ⟨r, now2, a, b, RM_cong h7 hM0 (fun j hj => by rw [Nat.zero_add, c j hj])⟩
    · refine ⟨-9, now1, x_when8 hF hg (by omega) 21 0 1000 L S (by omega) (by omega) hX (by omega), ?_, hM0⟩
      have hlies : mm_lies mPeople now1 0 (nI g) = some 0 := by rw [m_lies0 hG hM0 hg, if_neg hl]
      show mm_when_L16 mPeople mHours mKind mWind mWeight mSort mOwner (nI g) (fun _ now => some (-9, now)) (999 + 1) 0 now1 = _
      rw [mm_when_L16.eq_2, if_neg (by decide), hlies, b_s, i00]
end O3
