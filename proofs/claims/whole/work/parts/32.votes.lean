/-! ===== votes, chosen ===== -/
def zAl (F : FD) (S : Sc) : Nat → Sc
  | 0 => S
  | k + 1 => zTo F (zAl F S k) k 0
theorem zAl_ck (F : FD) (S : Sc) : ∀ k, (zAl F S k).2.2 = S.2.2 + k
  | 0 => rfl
  | k + 1 => by
    show (zAl F S k).2.2 + 1 = _
    rw [zAl_ck F S k]
    omega
def zGv (F : FD) (S : Sc) (v h : Nat) : Nat := zGu F (zB (yL (zAl F (zHd S h) (oP F)) v) (oN F)) (oN F)
def zV (f : Nat → Nat) : Nat → Nat
  | 0 => 0
  | k + 1 => if f (zV f k) ≤ f k then zV f k else k
def zX (f : Nat → Nat) : Nat → Nat
  | 0 => 0
  | k + 1 => if f k ≤ f (zX f k) then zX f k else k
theorem zV_lt (f : Nat → Nat) : ∀ k, zV f (k + 1) ≤ k
  | 0 => by
    show (if f 0 ≤ f 0 then 0 else 0) ≤ 0
    split <;> exact Nat.le_refl _
  | k + 1 => by
    have := zV_lt f k
    rw [zV]
    split <;> omega
theorem zX_lt (f : Nat → Nat) : ∀ k, zX f (k + 1) ≤ k
  | 0 => by
    show (if f 0 ≤ f 0 then 0 else 0) ≤ 0
    split <;> exact Nat.le_refl _
  | k + 1 => by
    have := zX_lt f k
    rw [zX]
    split <;> omega
theorem zGu_le {F : FD} (hF : okF F) (c : Nat → Bool) : zGu F (zB c (oN F)) (oN F) ≤ 63 := by
  have h7 := hF.2.2.1
  rw [← zGu_eq hF (zB_128 hF c) (oN F) (Nat.le_refl _)]
  have := zWt_le hF (zM F (zB c (oN F)) (oN F)) (oN F) (Nat.le_refl _)
  omega
theorem zGv_le {F : FD} (hF : okF F) (S : Sc) (v h : Nat) : zGv F S v h ≤ 63 := zGu_le hF _
section O7
variable {F : FD} {fPk fWn fGw fGk fOw : Nat → Int32} {fPe fHo fGr : Int32} {L : Int64} {S U : Sc}
variable {mKind mWind mWeight mSort mOwner mNow now0 now : Nat → Int32} {mPeople mHours mGrains : Int32}
theorem x_allT_loop (hF : RF F fPk fWn fGw fGk fOw fPe fHo fGr) (hk : U.2.2 + 10 < 1048576) :
    ∀ (d k n : Nat) (L : Int64), k + d = oP F → d < n → RX F L (zAl F U k) → ∃ L1, ba_allTossed_L5 fPk fWn fGw fGk fOw fPe fHo fGr (fun _ y => some y) n (nI k) L = some L1 ∧ RX F L1 (zAl F U (oP F)) := by
  have h4 := hF.1.1
  intro d
  induction d with
  | zero =>
    intro k n L hkd hn hX
    obtain ⟨n, rfl⟩ : ∃ m, n = m + 1 := ⟨n - 1, by omega⟩
    have c : fPe ≤ nI k := by rw [hF.2.1]; exact (n_le (by omega) (by omega)).mpr (by omega)
    obtain rfl : k = oP F := by omega
    exact ⟨L, by rw [ba_allTossed_L5.eq_2, if_pos c], hX⟩
  | succ d ih =>
    intro k n L hkd hn hX
    obtain ⟨n, rfl⟩ : ∃ m, n = m + 1 := ⟨n - 1, by omega⟩
    have c : ¬ fPe ≤ nI k := by rw [hF.2.1]; exact fun z => by have := (n_le (by omega) (by omega)).mp z; omega
    have ck := zAl_ck F U k
    obtain ⟨L1, e, hX1⟩ := x_tossed hF hX (show k < oP F by omega) (by omega)
    obtain ⟨L2, e2, hX2⟩ := ih (k + 1) n L1 (by omega) (by omega) hX1
    exact ⟨L2, by rw [ba_allTossed_L5.eq_2, if_neg c, e, b_s, nI_1]; exact e2, hX2⟩
theorem x_allT (hF : RF F fPk fWn fGw fGk fOw fPe fHo fGr) (hX : RX F L U) (hk : U.2.2 + 10 < 1048576) : ∃ L1, ba_allTossed fPk fWn fGw fGk fOw fPe fHo fGr L = some L1 ∧ RX F L1 (zAl F U (oP F)) := by
  have h4 := hF.1.1
  exact x_allT_loop hF hk (oP F) 0 1000 L (by omega) (by omega) hX
theorem x_hold3 (hF : RF F fPk fWn fGw fGk fOw fPe fHo fGr) (hX : RX F L S) (hk : S.2.2 + 10 < 1048576) (kx : Int32 → (Nat → Int32) → (Nat → Int64) → Option ((Nat → Int32) × (Nat → Int64))) :
    ∀ (d k n : Nat) (ty : Nat → Int32) (ot : Nat → Int64), k + d = oP F → d < n → (∀ j, j < k → ty j = 0 ∧ RX F (ot j) (zAl F (zHd S j) (oP F))) →
      ∃ ty1 ot1, ba_hold_L3 fPk fWn fGw fGk fOw fPe fHo fGr L kx n (nI k) ty ot = kx (nI (oP F)) ty1 ot1 ∧ (∀ j, j < oP F → ty1 j = 0 ∧ RX F (ot1 j) (zAl F (zHd S j) (oP F))) := by
  have h4 := hF.1.1
  have h7 := hF.1.2.2.1
  intro d
  induction d with
  | zero =>
    intro k n ty ot hkd hn hj
    obtain ⟨n, rfl⟩ : ∃ m, n = m + 1 := ⟨n - 1, by omega⟩
    have c : fPe ≤ nI k := by rw [hF.2.1]; exact (n_le (by omega) (by omega)).mpr (by omega)
    obtain rfl : k = oP F := by omega
    exact ⟨ty, ot, by rw [ba_hold_L3.eq_2, if_pos c], hj⟩
  | succ d ih =>
    intro k n ty ot hkd hn hj
    obtain ⟨n, rfl⟩ : ∃ m, n = m + 1 := ⟨n - 1, by omega⟩
    have c : ¬ fPe ≤ nI k := by rw [hF.2.1]; exact fun z => by have := (n_le (by omega) (by omega)).mp z; omega
    have c4 : ¬ 4 ≤ nI k := fun z => by have := (n_Lle (by omega) (by decide)).mp z; omega
    obtain ⟨L1, e1, hX1⟩ := x_withH hX h7 h4 (show k < oP F by omega)
    obtain ⟨L2, e2, hX2⟩ := x_allT hF hX1 hk
    obtain ⟨ty1, ot1, e3, q⟩ := ih (k + 1) n (upd ty k 0) (vp_updL ot k L2) (by omega) (by omega) (fun j hjk => by
      by_cases hjk2 : j = k
      · subst hjk2
        exact ⟨by unfold upd; rw [if_pos rfl], by unfold vp_updL; rw [if_pos rfl]; exact hX2⟩
      · have := hj j (by omega)
        exact ⟨by unfold upd; rw [if_neg hjk2]; exact this.1, by unfold vp_updL; rw [if_neg hjk2]; exact this.2⟩)
    refine ⟨ty1, ot1, ?_, q⟩
    rw [ba_hold_L3.eq_2, if_neg c, if_neg c4, if_neg c4, gI_n (show k < 4 by omega) (by decide), e1, b_s, e2, b_s, gI_n (show k < 4 by omega) (by decide), n_cl (by omega), nI_1]
    exact e3
theorem x_choice_loop (hF : RF F fPk fWn fGw fGk fOw fPe fHo fGr) {ot : Nat → Int64} (hO : ∀ j, j < oP F → RX F (ot j) (zAl F (zHd S j) (oP F))) {v : Nat} (hv : v < oP F) :
    ∀ (d k n : Nat), k + 1 + d = oP F → d < n → ba_choiceOf_L9 ot fGw fGk fPe fGr (nI v) (fun _ _ y => some y) n (nI (k + 1)) (nI (zGv F S v (zV (zGv F S v) (k + 1)))) (nI (zV (zGv F S v) (k + 1))) = some (nI (zV (zGv F S v) (oP F))) := by
  have h4 := hF.1.1
  intro d
  induction d with
  | zero =>
    intro k n hkd hn
    obtain ⟨n, rfl⟩ : ∃ m, n = m + 1 := ⟨n - 1, by omega⟩
    have c : fPe ≤ nI (k + 1) := by rw [hF.2.1]; exact (n_le (by omega) (by omega)).mpr (by omega)
    have ek : k + 1 = oP F := by omega
    rw [ba_choiceOf_L9.eq_2, if_pos c, ek]
  | succ d ih =>
    intro k n hkd hn
    obtain ⟨n, rfl⟩ : ∃ m, n = m + 1 := ⟨n - 1, by omega⟩
    have c : ¬ fPe ≤ nI (k + 1) := by rw [hF.2.1]; exact fun z => by have := (n_le (by omega) (by omega)).mp z; omega
    have c4 : ¬ 4 ≤ nI (k + 1) := fun z => by have := (n_Lle (by omega) (by decide)).mp z; omega
    have hz := zV_lt (zGv F S v) k
    have g1 := zGv_le hF.1 S v (k + 1)
    have g2 := zGv_le hF.1 S v (zV (zGv F S v) (k + 1))
    have eg : fl_guiltOf fGw fGk fGr (ot (k + 1)) (nI v) = some (nI (zGv F S v (k + 1))) := x_guilt hF (hO (k + 1) (by omega)) (show v < 16 by omega)
    have ih2 := ih (k + 1) n (by omega) (by omega)
    rw [ba_choiceOf_L9.eq_2, if_neg c, if_neg c4, gI_n (show k + 1 < 4 by omega) (by decide), n_cl (by omega), eg, b_s, if_neg (n_m9 (by omega)), nI_1]
    rw [zV] at ih2
    by_cases h : zGv F S v (zV (zGv F S v) (k + 1)) ≤ zGv F S v (k + 1)
    · rw [if_pos ((n_le (by omega) (by omega)).mpr h)]
      rw [if_pos h] at ih2
      exact ih2
    · rw [if_neg (fun z => h ((n_le (by omega) (by omega)).mp z))]
      rw [if_neg h] at ih2
      exact ih2
theorem x_choice (hF : RF F fPk fWn fGw fGk fOw fPe fHo fGr) {ot : Nat → Int64} (hO : ∀ j, j < oP F → RX F (ot j) (zAl F (zHd S j) (oP F))) {v : Nat} (hv : v < oP F) : ba_choiceOf ot fGw fGk fPe fGr (nI v) = some (nI (zV (zGv F S v) (oP F))) := by
  have h4 := hF.1.1
  have c : ¬ fPe ≤ nI 0 := by rw [hF.2.1]; exact fun z => by have := (n_le (by omega) (by omega)).mp z; omega
  have c4 : ¬ (4 : Int32) ≤ nI 0 := by decide
  have eg : fl_guiltOf fGw fGk fGr (ot 0) (nI v) = some (nI (zGv F S v 0)) := x_guilt hF (hO 0 (by omega)) (show v < 16 by omega)
  have h := x_choice_loop hF hO hv (oP F - 1) 0 999 (by omega) (by omega)
  have e0 : zV (zGv F S v) (0 + 1) = 0 := by have := zV_lt (zGv F S v) 0; omega
  rw [e0] at h
  unfold ba_choiceOf
  show ba_choiceOf_L9 ot fGw fGk fPe fGr (nI v) (fun _ _ y => some y) (999 + 1) (nI 0) 0 (-9) = _
  rw [ba_choiceOf_L9.eq_2, if_neg c, if_neg c4, gI_n (show 0 < 4 by omega) (by decide), n_cl (by omega), eg, b_s, if_pos rfl, nI_1]
  exact h
def zTy (F : FD) (S : Sc) (h k : Nat) : Nat := zN (fun v => zV (zGv F S v) (oP F) == h) k
theorem zV_ltP (F : FD) (S : Sc) {v : Nat} (hv : 0 < oP F) : zV (zGv F S v) (oP F) < oP F := by
  obtain ⟨m, hm⟩ : ∃ m, oP F = m + 1 := ⟨oP F - 1, by omega⟩
  have := zV_lt (zGv F S v) m
  rw [hm]
  omega
theorem x_hold66 (hF : RF F fPk fWn fGw fGk fOw fPe fHo fGr) {ot : Nat → Int64} (hO : ∀ j, j < oP F → RX F (ot j) (zAl F (zHd S j) (oP F))) (kx : Int32 → (Nat → Int32) → Option ((Nat → Int32) × (Nat → Int64))) :
    ∀ (d k n : Nat) (ty : Nat → Int32), k + d = oP F → d < n → (∀ j, j < oP F → ty j = nI (zTy F S j k)) → ∃ ty1, ba_hold_L66 ot fGw fGk fPe fGr kx n (nI k) ty = kx (nI (oP F)) ty1 ∧ (∀ j, j < oP F → ty1 j = nI (zTy F S j (oP F))) := by
  have h4 := hF.1.1
  intro d
  induction d with
  | zero =>
    intro k n ty hkd hn hj
    obtain ⟨n, rfl⟩ : ∃ m, n = m + 1 := ⟨n - 1, by omega⟩
    have c : fPe ≤ nI k := by rw [hF.2.1]; exact (n_le (by omega) (by omega)).mpr (by omega)
    obtain rfl : k = oP F := by omega
    exact ⟨ty, by rw [ba_hold_L66.eq_2, if_pos c], hj⟩
  | succ d ih =>
    intro k n ty hkd hn hj
    obtain ⟨n, rfl⟩ : ∃ m, n = m + 1 := ⟨n - 1, by omega⟩
    have c : ¬ fPe ≤ nI k := by rw [hF.2.1]; exact fun z => by have := (n_le (by omega) (by omega)).mp z; omega
    have hz := zV_ltP F S (v := k) (by omega)
    have c4 : ¬ 4 ≤ nI (zV (zGv F S k) (oP F)) := fun z => by have := (n_Lle (by omega) (by decide)).mp z; omega
    obtain ⟨ty1, e, q⟩ := ih (k + 1) n (upd ty (zV (zGv F S k) (oP F)) (ty (zV (zGv F S k) (oP F)) + 1)) (by omega) (by omega) (fun j hjP => by
      show (if j = zV (zGv F S k) (oP F) then _ else _) = nI (zN _ k + if (zV (zGv F S k) (oP F) == j) = true then 1 else 0)
      by_cases h : j = zV (zGv F S k) (oP F)
      · rw [if_pos h, if_pos (by simp [h]), ← h, hj j hjP, nI_1]
        rfl
      · rw [if_neg h, if_neg (by simp; omega), hj j hjP]
        rfl)
    refine ⟨ty1, ?_, q⟩
    rw [ba_hold_L66.eq_2, if_neg c, x_choice hF hO (show k < oP F by omega), b_s, if_neg (n_neg (by omega)), if_neg c4, gI_n (show _ < 4 by omega) (by decide), gI_n (show _ < 4 by omega) (by decide), n_cl (by omega), nI_1]
    exact e
theorem x_hold (hF : RF F fPk fWn fGw fGk fOw fPe fHo fGr) (hX : RX F L S) (hk : S.2.2 + 10 < 1048576) (ty : Nat → Int32) (ot : Nat → Int64) : ∃ ty1 ot1, ba_hold ty ot fPk fWn fGw fGk fOw fPe fHo fGr L = some (ty1, ot1) ∧ (∀ j, j < oP F → ba_votesFor ty1 (nI j) = some (nI (zTy F S j (oP F)))) := by
  have h4 := hF.1.1
  unfold ba_hold
  obtain ⟨ty1, ot1, e1, q1⟩ := x_hold3 hF hX hk (fun y4_3 xTally_3 xOut_3 => (ba_hold_L66 xOut_3 fGw fGk fPe fGr (fun y4_66 xTally_66 => (some (xTally_66, xOut_3))) 1000 0 xTally_3)) (oP F) 0 1000 ty ot (by omega) (by omega) (fun j hj => absurd hj (by omega))
  obtain ⟨ty2, e2, q2⟩ := x_hold66 hF (ot := ot1) (fun j hj => (q1 j hj).2) (fun y4_66 xTally_66 => (some (xTally_66, ot1))) (oP F) 0 1000 ty1 (by omega) (by omega) (fun j hj => (q1 j hj).1)
  refine ⟨ty2, ot1, ?_, fun j hj => ?_⟩
  · exact e1.trans e2
  · unfold ba_votesFor
    rw [if_neg (n_neg (by omega)), if_neg (fun z => by have := (n_Lle (by omega) (by decide)).mp z; omega), gI_n (show j < 4 by omega) (by decide), n_cl (by omega), q2 j hj]
theorem m_guiltBy_loop (hG : RF F mKind mWind mWeight mSort mOwner mPeople mHours mGrains) {v : Nat} (hv : v < oP F) (hk : U.2.2 + 10 < 1048576) :
    ∀ (d k n : Nat) (now mv : Nat → Int32), k + d = oP F → d < n → TR F now0 now (zAl F U k) → ∃ now1 mv1, mm_guiltBy_L14 mPeople mHours mGrains mKind mWind mWeight mSort mOwner (fun y3_14 mNow_14 mMoved_14 => (Option.bind (mm_guilt mGrains mWeight mSort mNow_14 1 (nI v)) fun q2 => (some (q2, mNow_14, mMoved_14)))) n (nI k) now mv = some (nI (zGu F (zB (yL (zAl F U (oP F)) v) (oN F)) (oN F)), now1, mv1) ∧ TR F now0 now1 (zAl F U (oP F)) := by
  have h4 := hG.1.1
  intro d
  induction d with
  | zero =>
    intro k n now mv hkd hn hT
    obtain ⟨n, rfl⟩ : ∃ m, n = m + 1 := ⟨n - 1, by omega⟩
    have c : mPeople ≤ nI k := by rw [hG.2.1]; exact (n_le (by omega) (by omega)).mpr (by omega)
    obtain rfl : k = oP F := by omega
    refine ⟨now, mv, ?_, hT⟩
    rw [mm_guiltBy_L14.eq_2, if_pos c, m_guilt1 hG hT.1 (by omega), b_s]
  | succ d ih =>
    intro k n now mv hkd hn hT
    obtain ⟨n, rfl⟩ : ∃ m, n = m + 1 := ⟨n - 1, by omega⟩
    have c : ¬ mPeople ≤ nI k := by rw [hG.2.1]; exact fun z => by have := (n_le (by omega) (by omega)).mp z; omega
    have ck := zAl_ck F U k
    obtain ⟨now1, mv1, e, hM1, hq⟩ := m_toss1 hG hT.1 (show k < oP F by omega) (by omega) mv
    obtain ⟨now2, mv2, e2, hT2⟩ := ih (k + 1) n now1 mv1 (by omega) (by omega) ⟨hM1, fun j hj => (hq j (Or.inl hj)).trans (hT.2 j hj)⟩
    refine ⟨now2, mv2, ?_, hT2⟩
    rw [mm_guiltBy_L14.eq_2, if_neg c, e, b_s, nI_1]
    exact e2
theorem TR_back (h7 : oN F ≤ 7) (hM : RM F now0 0 S) (hT : ∀ j, j < 9 → now j = now0 j) : RM F now 0 S := RM_cong h7 hM (fun j hj => by rw [Nat.zero_add]; exact hT j hj)
theorem m_guiltBy (hG : RF F mKind mWind mWeight mSort mOwner mPeople mHours mGrains) (hM : RM F now 0 S) {v h : Nat} (hv : v < oP F) (hh : h < oP F) (hk : S.2.2 + 10 < 1048576) (mv : Nat → Int32) :
    ∃ now1 mv1, mm_guiltBy mPeople mHours mGrains mKind mWind mWeight mSort mOwner now mv (nI v) (nI h) = some (nI (zGv F S v h), now1, mv1) ∧ RM F now1 0 S := by
  have h4 := hG.1.1
  have h7 := hG.1.2.2.1
  obtain ⟨now1, e1, hM1, hM0, hq⟩ := m_lay now F S hM h7
  have hT : TR F now1 (upd now1 16 (nI h)) (zHd S h) := by
    refine ⟨⟨⟨hM1.1.1, Or.inr hh, hM1.1.2.2⟩, fun g hg => ?_, ?_, ?_⟩, fun j hj => ?_⟩
    · unfold upd
      rw [if_neg (by omega)]
      exact hM1.2.1 g hg
    · show nI h = hI h
      unfold hI
      rw [if_neg (by omega)]
    · unfold upd
      rw [if_neg (by omega)]
      exact hM1.2.2.2
    · unfold upd
      rw [if_neg (by omega)]
  obtain ⟨now2, mv2, e2, hT2⟩ := m_guiltBy_loop hG hv (U := zHd S h) hk (oP F) 0 1000 (upd now1 16 (nI h)) mv (by omega) (by omega) hT
  refine ⟨now2, mv2, ?_, TR_back h7 hM0 hT2.2⟩
  unfold mm_guiltBy
  rw [e1, b_s]
  exact e2
theorem m_voteOf_loop (hG : RF F mKind mWind mWeight mSort mOwner mPeople mHours mGrains) {v : Nat} (hv : v < oP F) (hk : S.2.2 + 10 < 1048576) :
    ∀ (d k n : Nat) (now mv : Nat → Int32), k + 1 + d = oP F → d < n → RM F now 0 S → ∃ now1 mv1, mm_voteOf_L4 mPeople mHours mGrains mKind mWind mWeight mSort mOwner (nI v) (fun y3_4 y2_4 mNow_4 mMoved_4 => (some (y2_4, mNow_4, mMoved_4))) n (nI (k + 1)) (nI (zV (zGv F S v) (k + 1))) now mv = some (nI (zV (zGv F S v) (oP F)), now1, mv1) ∧ RM F now1 0 S := by
  have h4 := hG.1.1
  intro d
  induction d with
  | zero =>
    intro k n now mv hkd hn hM
    obtain ⟨n, rfl⟩ : ∃ m, n = m + 1 := ⟨n - 1, by omega⟩
    have c : mPeople ≤ nI (k + 1) := by rw [hG.2.1]; exact (n_le (by omega) (by omega)).mpr (by omega)
    have ek : k + 1 = oP F := by omega
    exact ⟨now, mv, by rw [mm_voteOf_L4.eq_2, if_pos c, ek], hM⟩
  | succ d ih =>
    intro k n now mv hkd hn hM
    obtain ⟨n, rfl⟩ : ∃ m, n = m + 1 := ⟨n - 1, by omega⟩
    have c : ¬ mPeople ≤ nI (k + 1) := by rw [hG.2.1]; exact fun z => by have := (n_le (by omega) (by omega)).mp z; omega
    have hz := zV_lt (zGv F S v) k
    have g1 := zGv_le hG.1 S v (k + 1)
    have g2 := zGv_le hG.1 S v (zV (zGv F S v) (k + 1))
    obtain ⟨now1, mv1, e1, hM1⟩ := m_guiltBy hG hM hv (show k + 1 < oP F by omega) hk mv
    obtain ⟨now2, mv2, e2, hM2⟩ := m_guiltBy hG hM1 hv (show zV (zGv F S v) (k + 1) < oP F by omega) hk mv1
    obtain ⟨now3, mv3, e3, hM3⟩ := ih (k + 1) n now2 mv2 (by omega) (by omega) hM2
    refine ⟨now3, mv3, ?_, hM3⟩
    rw [mm_voteOf_L4.eq_2, if_neg c, e1, b_s, e2, b_s, nI_1]
    rw [zV] at e3
    by_cases h : zGv F S v (zV (zGv F S v) (k + 1)) ≤ zGv F S v (k + 1)
    · rw [if_pos ((n_le (by omega) (by omega)).mpr h)]
      rw [if_pos h] at e3
      exact e3
    · rw [if_neg (fun z => h ((n_le (by omega) (by omega)).mp z))]
      rw [if_neg h] at e3
      exact e3
theorem m_voteOf (hG : RF F mKind mWind mWeight mSort mOwner mPeople mHours mGrains) (hM : RM F now 0 S) {v : Nat} (hv : v < oP F) (hk : S.2.2 + 10 < 1048576) (mv : Nat → Int32) :
    ∃ now1 mv1, mm_voteOf mPeople mHours mGrains mKind mWind mWeight mSort mOwner now mv (nI v) = some (nI (zV (zGv F S v) (oP F)), now1, mv1) ∧ RM F now1 0 S := by
  have h4 := hG.1.1
  have h := m_voteOf_loop hG hv hk (oP F - 1) 0 1000 now mv (by omega) (by omega) hM
  have e0 : zV (zGv F S v) (0 + 1) = 0 := by have := zV_lt (zGv F S v) 0; omega
  rw [e0] at h
  exact h
theorem m_votesFor_loop (hG : RF F mKind mWind mWeight mSort mOwner mPeople mHours mGrains) {h : Nat} (hh : h < oP F) (hk : S.2.2 + 10 < 1048576) :
    ∀ (d k n : Nat) (now mv : Nat → Int32), k + d = oP F → d < n → RM F now 0 S → ∃ now1 mv1, mm_votesFor_L4 mPeople mHours mGrains mKind mWind mWeight mSort mOwner (nI h) (fun y3_4 y2_4 mNow_4 mMoved_4 => (some (y2_4, mNow_4, mMoved_4))) n (nI k) (nI (zTy F S h k)) now mv = some (nI (zTy F S h (oP F)), now1, mv1) ∧ RM F now1 0 S := by
  have h4 := hG.1.1
  intro d
  induction d with
  | zero =>
    intro k n now mv hkd hn hM
    obtain ⟨n, rfl⟩ : ∃ m, n = m + 1 := ⟨n - 1, by omega⟩
    have c : mPeople ≤ nI k := by rw [hG.2.1]; exact (n_le (by omega) (by omega)).mpr (by omega)
    obtain rfl : k = oP F := by omega
    exact ⟨now, mv, by rw [mm_votesFor_L4.eq_2, if_pos c], hM⟩
  | succ d ih =>
    intro k n now mv hkd hn hM
    obtain ⟨n, rfl⟩ : ∃ m, n = m + 1 := ⟨n - 1, by omega⟩
    have c : ¬ mPeople ≤ nI k := by rw [hG.2.1]; exact fun z => by have := (n_le (by omega) (by omega)).mp z; omega
    have hz := zV_ltP F S (v := k) (by omega)
    obtain ⟨now1, mv1, e1, hM1⟩ := m_voteOf hG hM (show k < oP F by omega) hk mv
    obtain ⟨now3, mv3, e3, hM3⟩ := ih (k + 1) n now1 mv1 (by omega) (by omega) hM1
    refine ⟨now3, mv3, ?_, hM3⟩
    rw [mm_votesFor_L4.eq_2, if_neg c, e1, b_s, nI_1]
    have ez : zTy F S h (k + 1) = zTy F S h k + if (zV (zGv F S k) (oP F) == h) = true then 1 else 0 := rfl
    rw [ez] at e3
    by_cases hc : zV (zGv F S k) (oP F) = h
    · rw [if_pos ((n_eq (by omega) (by omega)).mpr hc), nI_1]
      rw [if_pos (by simp [hc])] at e3
      exact e3
    · rw [if_neg (fun z => hc ((n_eq (by omega) (by omega)).mp z)), add0]
      rw [if_neg (by simp [hc])] at e3
      exact e3
theorem m_votesFor (hG : RF F mKind mWind mWeight mSort mOwner mPeople mHours mGrains) (hM : RM F now 0 S) {h : Nat} (hh : h < oP F) (hk : S.2.2 + 10 < 1048576) (mv : Nat → Int32) :
    ∃ now1 mv1, mm_votesFor mPeople mHours mGrains mKind mWind mWeight mSort mOwner now mv (nI h) = some (nI (zTy F S h (oP F)), now1, mv1) ∧ RM F now1 0 S := by
  have h4 := hG.1.1
  exact m_votesFor_loop hG hh hk (oP F) 0 1000 now mv (by omega) (by omega) hM
theorem op_votes (hF : RF F fPk fWn fGw fGk fOw fPe fHo fGr) (hG : RF F mKind mWind mWeight mSort mOwner mPeople mHours mGrains) (hX : RX F L S) (hM : RM F mNow 0 S) (hk : S.2.2 < 1000) (ty : Nat → Int32) (ot : Nat → Int64) (mv : Nat → Int32) (p : Int32) :
    ∃ r ty1 ot1 now1 mv1, xx_votes L ty ot fPk fWn fGw fGk fOw fPe fHo fGr p = some (r, ty1, ot1) ∧ mm_votes mPeople mHours mGrains mKind mWind mWeight mSort mOwner mNow mv p = some (r, now1, mv1) ∧ RM F now1 0 S := by
  have h4 := hF.1.1
  have bad : (p < 0 ∨ nI (oP F) ≤ p) → ∃ r ty1 ot1 now1 mv1, xx_votes L ty ot fPk fWn fGw fGk fOw fPe fHo fGr p = some (r, ty1, ot1) ∧ mm_votes mPeople mHours mGrains mKind mWind mWeight mSort mOwner mNow mv p = some (r, now1, mv1) ∧ RM F now1 0 S := fun h => by
    refine ⟨-1, ty, ot, mNow, mv, ?_, ?_, hM⟩
    · unfold xx_votes
      rw [x_per0 hF h, b_s, if_pos rfl]
    · unfold mm_votes
      rw [m_per0 hG h, b_s, if_pos rfl]
  rcases pk_ix p (show oP F < 2 ^ 31 by omega) with h | h | ⟨j, hj, rfl⟩
  · exact bad (Or.inl h)
  · exact bad (Or.inr h)
  · obtain ⟨ty1, ot1, e1, q⟩ := x_hold hF hX (by omega) ty ot
    obtain ⟨now1, mv1, e2, hM1⟩ := m_votesFor hG hM hj (by omega) mv
    refine ⟨nI (zTy F S j (oP F)), ty1, ot1, now1, mv1, ?_, ?_, hM1⟩
    · unfold xx_votes
      rw [x_perT hF hj, b_s, i10, e1, b_s, q j hj, b_s]
    · unfold mm_votes
      rw [m_perT hG hj, b_s, i10, e2, b_s]
theorem x_chosen_loop (hF : RF F fPk fWn fGw fGk fOw fPe fHo fGr) {ty : Nat → Int32} {t : Nat → Nat} (ht : ∀ j, t j < 1000) (hq : ∀ j, j < oP F → ba_votesFor ty (nI j) = some (nI (t j))) (kx : Int32 → Int32 → Int32 → Option (Int32 × (Nat → Int32) × (Nat → Int64))) :
    ∀ (d k n : Nat), k + 1 + d = oP F → d < n → xx_chosen_L22 ty fPe kx n (nI (k + 1)) (nI (t (zX t (k + 1)))) (nI (zX t (k + 1))) = kx (nI (oP F)) (nI (t (zX t (oP F)))) (nI (zX t (oP F))) := by
  have h4 := hF.1.1
  intro d
  induction d with
  | zero =>
    intro k n hkd hn
    obtain ⟨n, rfl⟩ : ∃ m, n = m + 1 := ⟨n - 1, by omega⟩
    have c : fPe ≤ nI (k + 1) := by rw [hF.2.1]; exact (n_le (by omega) (by omega)).mpr (by omega)
    have ek : k + 1 = oP F := by omega
    rw [xx_chosen_L22.eq_2, if_pos c, ek]
  | succ d ih =>
    intro k n hkd hn
    obtain ⟨n, rfl⟩ : ∃ m, n = m + 1 := ⟨n - 1, by omega⟩
    have c : ¬ fPe ≤ nI (k + 1) := by rw [hF.2.1]; exact fun z => by have := (n_le (by omega) (by omega)).mp z; omega
    have g1 := ht (k + 1)
    have g2 := ht (zX t (k + 1))
    have ih2 := ih (k + 1) n (by omega) (by omega)
    rw [xx_chosen_L22.eq_2, if_neg c, hq (k + 1) (by omega), b_s, b_s, nI_1]
    rw [zX] at ih2
    by_cases h : t (k + 1) ≤ t (zX t (k + 1))
    · rw [if_pos ((n_le (by omega) (by omega)).mpr h)]
      rw [if_pos h] at ih2
      exact ih2
    · rw [if_neg (fun z => h ((n_le (by omega) (by omega)).mp z))]
      rw [if_neg h] at ih2
      exact ih2
theorem m_chosen_loop (hG : RF F mKind mWind mWeight mSort mOwner mPeople mHours mGrains) (hk : S.2.2 + 10 < 1048576) :
    ∀ (d k n : Nat) (now mv : Nat → Int32), k + 1 + d = oP F → d < n → RM F now 0 S → ∃ now1 mv1, mm_chosen_L5 mPeople mHours mGrains mKind mWind mWeight mSort mOwner (fun y2_5 y1_5 mNow_5 mMoved_5 => (some (y1_5, mNow_5, mMoved_5))) n (nI (k + 1)) (nI (zX (fun h => zTy F S h (oP F)) (k + 1))) now mv = some (nI (zX (fun h => zTy F S h (oP F)) (oP F)), now1, mv1) ∧ RM F now1 0 S := by
  have h4 := hG.1.1
  intro d
  induction d with
  | zero =>
    intro k n now mv hkd hn hM
    obtain ⟨n, rfl⟩ : ∃ m, n = m + 1 := ⟨n - 1, by omega⟩
    have c : mPeople ≤ nI (k + 1) := by rw [hG.2.1]; exact (n_le (by omega) (by omega)).mpr (by omega)
    have ek : k + 1 = oP F := by omega
    exact ⟨now, mv, by rw [mm_chosen_L5.eq_2, if_pos c, ek], hM⟩
  | succ d ih =>
    intro k n now mv hkd hn hM
    obtain ⟨n, rfl⟩ : ∃ m, n = m + 1 := ⟨n - 1, by omega⟩
    have c : ¬ mPeople ≤ nI (k + 1) := by rw [hG.2.1]; exact fun z => by have := (n_le (by omega) (by omega)).mp z; omega
    have hz := zX_lt (fun h => zTy F S h (oP F)) k
    have g1 : zTy F S (k + 1) (oP F) ≤ oP F := zN_le _ _
    have g2 : zTy F S (zX (fun h => zTy F S h (oP F)) (k + 1)) (oP F) ≤ oP F := zN_le _ _
    obtain ⟨now1, mv1, e1, hM1⟩ := m_votesFor hG hM (show k + 1 < oP F by omega) hk mv
    obtain ⟨now2, mv2, e2, hM2⟩ := m_votesFor hG hM1 (show zX (fun h => zTy F S h (oP F)) (k + 1) < oP F by omega) hk mv1
    obtain ⟨now3, mv3, e3, hM3⟩ := ih (k + 1) n now2 mv2 (by omega) (by omega) hM2
    refine ⟨now3, mv3, ?_, hM3⟩
    rw [mm_chosen_L5.eq_2, if_neg c, if_neg (n_m9 (by omega)), e1, b_s, e2, b_s, nI_1]
    rw [zX] at e3
    by_cases h : zTy F S (k + 1) (oP F) ≤ zTy F S (zX (fun h => zTy F S h (oP F)) (k + 1)) (oP F)
    · rw [if_pos ((n_le (by omega) (by omega)).mpr h)]
      rw [if_pos h] at e3
      exact e3
    · rw [if_neg (fun z => h ((n_le (by omega) (by omega)).mp z))]
      rw [if_neg h] at e3
      exact e3
theorem op_chosen (hF : RF F fPk fWn fGw fGk fOw fPe fHo fGr) (hG : RF F mKind mWind mWeight mSort mOwner mPeople mHours mGrains) (hX : RX F L S) (hM : RM F mNow 0 S) (hk : S.2.2 < 1000) (ty : Nat → Int32) (ot : Nat → Int64) (mv : Nat → Int32) :
    ∃ r ty1 ot1 now1 mv1, xx_chosen L ty ot fPk fWn fGw fGk fOw fPe fHo fGr = some (r, ty1, ot1) ∧ mm_chosen mPeople mHours mGrains mKind mWind mWeight mSort mOwner mNow mv = some (r, now1, mv1) ∧ RM F now1 0 S := by
  have h4 := hF.1.1
  obtain ⟨ty1, ot1, e1, q⟩ := x_hold hF hX (by omega) ty ot
  by_cases h0 : oP F = 0
  · have c : fPe ≤ nI 0 := by rw [hF.2.1, h0]; decide
    have c2 : mPeople ≤ nI 0 := by rw [hG.2.1, h0]; decide
    refine ⟨-9, ty1, ot1, mNow, mv, ?_, ?_, hM⟩
    · unfold xx_chosen
      rw [e1, b_s]
      show xx_chosen_L22 ty1 fPe _ (999 + 1) (nI 0) (-1) (-9) = _
      rw [xx_chosen_L22.eq_2, if_pos c]
    · unfold mm_chosen
      show mm_chosen_L5 mPeople mHours mGrains mKind mWind mWeight mSort mOwner _ (999 + 1) (nI 0) (-9) mNow mv = _
      rw [mm_chosen_L5.eq_2, if_pos c2]
  · have c : ¬ fPe ≤ nI 0 := by rw [hF.2.1]; exact fun z => by have := (n_le (by omega) (by omega)).mp z; omega
    have c2 : ¬ mPeople ≤ nI 0 := by rw [hG.2.1]; exact fun z => by have := (n_le (by omega) (by omega)).mp z; omega
    have tb : ∀ j, zTy F S j (oP F) < 1000 := fun j => by
      have : zTy F S j (oP F) ≤ oP F := zN_le _ _
      omega
    have e0 : zX (fun h => zTy F S h (oP F)) (0 + 1) = 0 := by have := zX_lt (fun h => zTy F S h (oP F)) 0; omega
    have hx := x_chosen_loop hF tb q (fun y3_22 y2_22 y1_22 => (some (y1_22, ty1, ot1))) (oP F - 1) 0 999 (by omega) (by omega)
    obtain ⟨now1, mv1, hm, hM1⟩ := m_chosen_loop hG (S := S) (by omega) (oP F - 1) 0 999 mNow mv (by omega) (by omega) hM
    rw [e0] at hx hm
    have hb := tb 0
    refine ⟨nI (zX (fun h => zTy F S h (oP F)) (oP F)), ty1, ot1, now1, mv1, ?_, ?_, hM1⟩
    · unfold xx_chosen
      rw [e1, b_s]
      show xx_chosen_L22 ty1 fPe _ (999 + 1) (nI 0) (-1) (-9) = _
      rw [xx_chosen_L22.eq_2, if_neg c, q 0 (by omega), b_s, b_s, if_neg (fun z => by
        have z1 := (fa_le _ _).mp z
        rw [nI_toInt (by omega)] at z1
        have z2 : (-1 : Int32).toInt = -1 := by decide
        omega), nI_1]
      exact hx
    · unfold mm_chosen
      show mm_chosen_L5 mPeople mHours mGrains mKind mWind mWeight mSort mOwner _ (999 + 1) (nI 0) (-9) mNow mv = _
      rw [mm_chosen_L5.eq_2, if_neg c2, if_pos rfl, nI_1]
      exact hm
end O7
