/-! ===== turns, told doings ===== -/
/-- a trial in the model: its scene on the second level; the first one is as it was -/
def TR (F : FD) (now0 now : Nat → Int32) (U : Sc) : Prop := RM F now 9 U ∧ ∀ j, j < 9 → now j = now0 j
def zTu (F : FD) (S : Sc) (t : Nat) : Sc := if t = 4 then zLa S else zTo F S t 0
def zIs (F : FD) (t : Nat) : Bool := t == 4 || decide (t < oP F)
theorem zTu_ck (F : FD) (S : Sc) (t : Nat) : (zTu F S t).2.2 = S.2.2 + 1 := by
  unfold zTu
  split <;> rfl
section O5
variable {F : FD} {fPk fWn fGw fGk fOw : Nat → Int32} {fPe fHo fGr : Int32} {L : Int64} {S U : Sc}
variable {mKind mWind mWeight mSort mOwner mNow now0 now : Nat → Int32} {mPeople mHours mGrains : Int32}
theorem TR.upd_hi {j : Nat} {x : Int32} (hj : 9 ≤ j) (hT : ∀ j, j < 9 → now j = now0 j) : ∀ i, i < 9 → upd now j x i = now0 i := fun i hi => by
  unfold upd
  rw [if_neg (by omega)]
  exact hT i hi
theorem x_isTurn (hF : RF F fPk fWn fGw fGk fOw fPe fHo fGr) {t : Nat} (ht : t < 100) : fl_isTurn fPe (nI t) = some (if zIs F t then 1 else 0) := by
  have h4 := hF.1.1
  unfold fl_isTurn zIs
  by_cases h : t = 4
  · rw [if_pos ((n_eqL (by omega) (by decide)).mpr h)]
    simp [h]
  · rw [if_neg (fun z => h ((n_eqL (by omega) (by decide)).mp z))]
    by_cases hp : t < oP F
    · rw [x_perT hF hp, b_s, i10]
      simp [hp]
    · rw [x_perF hF (by omega) (by omega), b_s, i00]
      simp [h, hp]
theorem x_turned (hF : RF F fPk fWn fGw fGk fOw fPe fHo fGr) (hX : RX F L U) {t : Nat} (ht : zIs F t = true) (hk : U.2.2 + 1 < 1048576) : ∃ L1, fl_turned fPk fWn fGw fGk fOw fPe fHo fGr L (nI t) = some L1 ∧ RX F L1 (zTu F U t) := by
  have h4 := hF.1.1
  have h7 := hF.1.2.2.1
  unfold fl_turned zTu
  by_cases h : t = 4
  · obtain ⟨L1, e, hX1⟩ := x_later hX h7 hk
    refine ⟨L1, ?_, ?_⟩
    · rw [if_pos ((n_eqL (by omega) (by decide)).mpr h), e, b_s]
    · rw [if_pos h]
      exact hX1
  · have hp : t < oP F := by
      unfold zIs at ht
      simpa [h] using ht
    obtain ⟨L1, e, hX1⟩ := x_tossed hF hX hp hk
    refine ⟨L1, ?_, ?_⟩
    · rw [if_neg (fun z => h ((n_eqL (by omega) (by decide)).mp z)), e, b_s]
    · rw [if_neg h]
      exact hX1
theorem m_turn (hG : RF F mKind mWind mWeight mSort mOwner mPeople mHours mGrains) (hT : TR F now0 now U) {t : Nat} (ht : zIs F t = true) (hk : U.2.2 + 1 < 1048576) (mv : Nat → Int32) : ∃ now1 mv1, mm_turn mPeople mHours mGrains mKind mWind mWeight mSort mOwner now mv (nI t) = some (1, now1, mv1) ∧ TR F now0 now1 (zTu F U t) := by
  have h4 := hG.1.1
  have h7 := hG.1.2.2.1
  unfold mm_turn zTu
  by_cases h : t = 4
  · refine ⟨upd now 17 (now 17 + 1), mv, ?_, ?_⟩
    · rw [if_pos ((n_eqL (by omega) (by decide)).mpr h)]
    · rw [if_pos h]
      refine ⟨⟨⟨hT.1.1.1, hT.1.1.2.1, hk⟩, fun g hg => ?_, ?_, ?_⟩, TR.upd_hi (by omega) hT.2⟩
      · unfold upd
        rw [if_neg (by omega)]
        exact hT.1.2.1 g hg
      · exact hT.1.2.2.1
      · have := hT.1.2.2.2
        show now 17 + 1 = nI (U.2.2 + 1)
        rw [← nI_1]
        exact congrArg (· + 1) this
  · have hp : t < oP F := by
      unfold zIs at ht
      simpa [h] using ht
    obtain ⟨now1, mv1, e, hM1, hq⟩ := m_toss1 hG hT.1 hp hk mv
    refine ⟨now1, mv1, ?_, ?_⟩
    · rw [if_neg (fun z => h ((n_eqL (by omega) (by decide)).mp z)), m_perT hG hp, b_s, i10, e, b_s]
    · rw [if_neg h]
      exact ⟨hM1, fun j hj => (hq j (Or.inl hj)).trans (hT.2 j hj)⟩
theorem m_turnF (hG : RF F mKind mWind mWeight mSort mOwner mPeople mHours mGrains) {t : Nat} (ht : zIs F t = false) (ht2 : t < 100) (mv : Nat → Int32) : mm_turn mPeople mHours mGrains mKind mWind mWeight mSort mOwner now mv (nI t) = some (0, now, mv) := by
  unfold zIs at ht
  have h : ¬ t = 4 := fun z => by simp [z] at ht
  have hp : ¬ t < oP F := fun z => by simp [z] at ht
  unfold mm_turn
  rw [if_neg (fun z => h ((n_eqL (by omega) (by decide)).mp z)), m_perF hG (by omega) (by omega), b_s, i00]
def zCan (F : FD) (U : Sc) (h w : Nat) : Bool :=
  if h = 0 then zIs F w else if h = 1 then decide (w < oN F ∧ oS F w = 3 ∧ ¬ U.1 w = oO F w) else if h = 2 then decide (w < oP F ∧ ¬ U.2.1 = w) else if h = 3 then decide (w < oP F ∧ zCl (zB (yL U w) (oN F)) (zB (yR F U) (oN F)) = 1) else false
def zBeh (F : FD) (U : Sc) (h w : Nat) : Sc := if h = 0 then zTu F U w else if h = 1 then zPi F U w else if h = 2 then zHd U w else U
theorem zCl_01 (a b : Nat) : zCl a b = 1 ∨ zCl a b = 0 := by
  unfold zCl
  split
  · exact Or.inl rfl
  · exact Or.inr rfl
theorem x_canPick (hF : RF F fPk fWn fGw fGk fOw fPe fHo fGr) (hX : RX F L U) {g : Nat} (hg2 : g < 100) : fl_canPick fGk fOw fGr L (nI g) = some (if decide (g < oN F ∧ oS F g = 3 ∧ ¬ U.1 g = oO F g) then 1 else 0) := by
  have h7 := hF.1.2.2.1
  unfold fl_canPick
  by_cases hg : g < oN F
  · obtain ⟨hw1, hw2, hs, ho⟩ := hF.1.2.2.2.2.2 g hg
    rw [x_graT hF hg, b_s, i10, x_sort hF hg, b_s, x_isRight hF hX hg, b_s]
    by_cases h3 : oS F g = 3
    · rw [if_pos ((n_eqL (by omega) (by decide)).mpr h3)]
      by_cases h1 : U.1 g = oO F g
      · rw [if_pos h1, i10]
        simp [h1]
      · rw [if_neg h1, i00]
        simp [h1, h3, hg]
    · rw [if_neg (fun z => h3 ((n_eqL (by omega) (by decide)).mp z))]
      simp [h3]
  · rw [x_graF hF (by omega) (by omega), b_s, i00]
    simp [hg]
theorem m_canPick1 (hG : RF F mKind mWind mWeight mSort mOwner mPeople mHours mGrains) (hM : RM F now 9 U) {g : Nat} (hg2 : g < 100) : mm_canPick mGrains mSort mOwner now 1 (nI g) = some (if decide (g < oN F ∧ oS F g = 3 ∧ ¬ U.1 g = oO F g) then 1 else 0) := by
  have h7 := hG.1.2.2.1
  have h4 := hG.1.1
  unfold mm_canPick
  have e0 : (9 : Int32) * 1 + nI g = nI (9 + g) := i9 1 g
  rw [e0]
  by_cases hg : g < oN F
  · obtain ⟨hw1, hw2, hs, ho⟩ := hG.1.2.2.2.2.2 g hg
    have hS := hM.1.1 g hg
    rw [m_graT hG hg, b_s, i10]
    simp only [gI_n (show g < 7 by omega) (show (7 : Nat) < 2147483648 by omega), gI_n (show 9 + g < 18 by omega) (show (18 : Nat) < 2147483648 by omega), n_cl (show g < 2147483648 by omega), n_cl (show 9 + g < 2147483648 by omega), hM.2.1 g hg, hG.2.2.2.2.2.2.2.1 g hg, hG.2.2.2.2.2.2.2.2 g hg]
    by_cases h3 : oS F g = 3
    · rw [if_pos ((n_eqL (by omega) (by decide)).mpr h3)]
      by_cases h1 : U.1 g = oO F g
      · rw [if_pos ((n_eq (by omega) (by omega)).mpr h1)]
        simp [h1]
      · rw [if_neg (fun z => h1 ((n_eq (by omega) (by omega)).mp z))]
        simp [h1, h3, hg]
    · rw [if_neg (fun z => h3 ((n_eqL (by omega) (by decide)).mp z))]
      simp [h3]
  · rw [m_graF hG (by omega) (by omega), b_s, i00]
    simp [hg]
theorem x_canBe (hF : RF F fPk fWn fGw fGk fOw fPe fHo fGr) (hX : RX F L U) {h w : Nat} (hh : h < 10) (hw : w < 10) : dg_canBe fGk fOw fPe fGr L (nI h) (nI w) = some (if zCan F U h w then 1 else 0) := by
  have h4 := hF.1.1
  unfold dg_canBe zCan
  rw [x_isTurn hF (by omega), b_s, gZ_b, x_canPick hF hX (by omega), b_s, gZ_b]
  by_cases h0 : h = 0
  · rw [if_pos ((n_eqL (by omega) (by decide)).mpr h0), if_pos h0]
  · rw [if_neg (fun z => h0 ((n_eqL (by omega) (by decide)).mp z)), if_neg h0]
    by_cases h1 : h = 1
    · rw [if_pos ((n_eqL (by omega) (by decide)).mpr h1), if_pos h1]
    · rw [if_neg (fun z => h1 ((n_eqL (by omega) (by decide)).mp z)), if_neg h1]
      by_cases h2 : h = 2
      · rw [if_pos ((n_eqL (by omega) (by decide)).mpr h2), if_pos h2]
        by_cases hp : w < oP F
        · rw [x_perT hF hp, b_s, i10, x_holder hX, b_s]
          by_cases hc : U.2.1 = w
          · rw [if_pos ((hI_eq hX.1 h4 (by omega)).mpr hc)]
            simp [hc]
          · rw [if_neg (fun z => hc ((hI_eq hX.1 h4 (by omega)).mp z))]
            simp [hc, hp]
        · rw [x_perF hF (by omega) (by omega), b_s, i00]
          simp [hp]
      · rw [if_neg (fun z => h2 ((n_eqL (by omega) (by decide)).mp z)), if_neg h2]
        by_cases h3 : h = 3
        · rw [if_pos ((n_eqL (by omega) (by decide)).mpr h3), if_pos h3]
          by_cases hp : w < oP F
          · rw [x_perT hF hp, b_s, i10, x_clean hF hX (by omega), b_s]
            rcases zCl_01 (zB (yL U w) (oN F)) (zB (yR F U) (oN F)) with q | q
            · rw [q, i10]
              simp [hp]
            · rw [q, i00]
              simp
          · rw [x_perF hF (by omega) (by omega), b_s, i00]
            simp [hp]
        · rw [if_neg (fun z => h3 ((n_eqL (by omega) (by decide)).mp z)), if_neg h3]
          rfl
theorem x_behind (hF : RF F fPk fWn fGw fGk fOw fPe fHo fGr) (hX : RX F L U) {h w : Nat} (hh : h < 10) (hc : zCan F U h w = true) (hk : U.2.2 + 1 < 1048576) : ∃ L1, dg_behind fPk fWn fGw fGk fOw fPe fHo fGr L (nI h) (nI w) = some L1 ∧ RX F L1 (zBeh F U h w) := by
  have h4 := hF.1.1
  have h7 := hF.1.2.2.1
  unfold zCan at hc
  unfold dg_behind zBeh
  by_cases h0 : h = 0
  · rw [if_pos h0] at hc
    obtain ⟨L1, e, q⟩ := x_turned hF hX hc hk
    refine ⟨L1, ?_, ?_⟩
    · rw [if_pos ((n_eqL (by omega) (by decide)).mpr h0), e, b_s]
    · rw [if_pos h0]
      exact q
  · rw [if_neg h0] at hc
    rw [if_neg (fun z => h0 ((n_eqL (show h < 2147483648 by omega) (by decide)).mp z)), if_neg h0]
    by_cases h1 : h = 1
    · rw [if_pos h1] at hc
      obtain ⟨L1, e, q⟩ := x_picked hF hX (of_decide_eq_true hc).1
      refine ⟨L1, ?_, ?_⟩
      · rw [if_pos ((n_eqL (by omega) (by decide)).mpr h1), e, b_s]
      · rw [if_pos h1]
        exact q
    · rw [if_neg h1] at hc
      rw [if_neg (fun z => h1 ((n_eqL (show h < 2147483648 by omega) (by decide)).mp z)), if_neg h1]
      by_cases h2 : h = 2
      · rw [if_pos h2] at hc
        obtain ⟨L1, e, q⟩ := x_withH hX h7 h4 (of_decide_eq_true hc).1
        refine ⟨L1, ?_, ?_⟩
        · rw [if_pos ((n_eqL (by omega) (by decide)).mpr h2), e, b_s]
        · rw [if_pos h2]
          exact q
      · refine ⟨L, ?_, ?_⟩
        · rw [if_neg (fun z => h2 ((n_eqL (show h < 2147483648 by omega) (by decide)).mp z))]
        · rw [if_neg h2]
          exact hX
theorem m_try (hG : RF F mKind mWind mWeight mSort mOwner mPeople mHours mGrains) (hT : TR F now0 now U) {h w : Nat} (hh : h < 10) (hw : w < 10) (hk : U.2.2 + 1 < 1048576) (mv : Nat → Int32) :
    ∃ now1 mv1, mm_tryThing mPeople mHours mGrains mKind mWind mWeight mSort mOwner now mv (nI h) (nI w) = some (if zCan F U h w then 1 else 0, now1, mv1) ∧ TR F now0 now1 (if zCan F U h w then zBeh F U h w else U) := by
  have h4 := hG.1.1
  have h7 := hG.1.2.2.1
  unfold mm_tryThing
  by_cases h0 : h = 0
  · rw [if_pos ((n_eqL (show h < 2147483648 by omega) (by decide)).mpr h0)]
    have ec : zCan F U h w = zIs F w := by
      unfold zCan
      rw [if_pos h0]
    have eb : zBeh F U h w = zTu F U w := by
      unfold zBeh
      rw [if_pos h0]
    rw [ec, eb]
    by_cases ht : zIs F w = true
    · obtain ⟨now1, mv1, e, q⟩ := m_turn hG hT ht hk mv
      refine ⟨now1, mv1, ?_, ?_⟩
      · rw [e, b_s, if_pos ht]
        exact gZ_1
      · rw [if_pos ht]
        exact q
    · refine ⟨now, mv, ?_, ?_⟩
      · rw [m_turnF hG (by simpa using ht) (by omega), b_s, if_neg ht]
        exact gZ_0
      · rw [if_neg ht]
        exact hT
  · rw [if_neg (fun z => h0 ((n_eqL (show h < 2147483648 by omega) (by decide)).mp z))]
    by_cases h1 : h = 1
    · rw [if_pos ((n_eqL (show h < 2147483648 by omega) (by decide)).mpr h1), m_canPick1 hG hT.1 (by omega), b_s]
      have ec : zCan F U h w = decide (w < oN F ∧ oS F w = 3 ∧ ¬ U.1 w = oO F w) := by
        unfold zCan
        rw [if_neg h0, if_pos h1]
      have eb : zBeh F U h w = zPi F U w := by
        unfold zBeh
        rw [if_neg h0, if_pos h1]
      rw [ec, eb]
      by_cases hc : decide (w < oN F ∧ oS F w = 3 ∧ ¬ U.1 w = oO F w) = true
      · obtain ⟨hwN, -, -⟩ := of_decide_eq_true hc
        obtain ⟨hw1, hw2, hs, ho⟩ := hG.1.2.2.2.2.2 w hwN
        refine ⟨upd now (9 + w) (nI (oO F w)), mv, ?_, ?_⟩
        · rw [if_pos hc, i10, gI_n (show w < 7 by omega) (by omega), l9, nI_add, gI_n (show 9 + w < 18 by omega) (by omega), gZ_1, n_cl (by omega), n_cl (by omega), hG.2.2.2.2.2.2.2.2 w hwN]
        · rw [if_pos hc]
          refine ⟨⟨⟨fun j hj => ?_, hT.1.1.2.1, hT.1.1.2.2⟩, fun j hj => ?_, ?_, ?_⟩, TR.upd_hi (by omega) hT.2⟩
          · show (if j = w then oO F w else U.1 j) < oP F ∨ (if j = w then oO F w else U.1 j) = 8 ∨ (if j = w then oO F w else U.1 j) = 9
            split
            · exact Or.inl ho
            · exact hT.1.1.1 j hj
          · show upd now (9 + w) (nI (oO F w)) (9 + j) = nI (if j = w then oO F w else U.1 j)
            unfold upd
            by_cases hjw : j = w
            · rw [if_pos (by omega), if_pos hjw]
            · rw [if_neg (by omega), if_neg hjw]
              exact hT.1.2.1 j hj
          · unfold upd
            rw [if_neg (by omega)]
            exact hT.1.2.2.1
          · unfold upd
            rw [if_neg (by omega)]
            exact hT.1.2.2.2
      · refine ⟨now, mv, ?_, ?_⟩
        · rw [if_neg hc, i00, gZ_0]
        · rw [if_neg hc]
          exact hT
    · rw [if_neg (fun z => h1 ((n_eqL (show h < 2147483648 by omega) (by decide)).mp z))]
      by_cases h2 : h = 2
      · rw [if_pos ((n_eqL (show h < 2147483648 by omega) (by decide)).mpr h2)]
        have ec : zCan F U h w = decide (w < oP F ∧ ¬ U.2.1 = w) := by
          unfold zCan
          rw [if_neg h0, if_neg h1, if_pos h2]
        have eb : zBeh F U h w = zHd U w := by
          unfold zBeh
          rw [if_neg h0, if_neg h1, if_pos h2]
        have h16 : now 16 = hI U.2.1 := hT.1.2.2.1
        rw [ec, eb]
        by_cases hp : w < oP F
        · rw [m_perT hG hp, b_s, i10, h16]
          by_cases hc : U.2.1 = w
          · rw [if_pos ((hI_eq hT.1.1 h4 (by omega)).mpr hc)]
            exact ⟨now, mv, by simp [hc], by simpa [hc] using hT⟩
          · rw [if_neg (fun z => hc ((hI_eq hT.1.1 h4 (by omega)).mp z))]
            refine ⟨upd now 16 (nI w), mv, by simp [hc, hp], ?_⟩
            rw [if_pos (by simp [hc, hp])]
            refine ⟨⟨⟨hT.1.1.1, Or.inr hp, hT.1.1.2.2⟩, fun j hj => ?_, ?_, ?_⟩, TR.upd_hi (by omega) hT.2⟩
            · unfold upd
              rw [if_neg (by omega)]
              exact hT.1.2.1 j hj
            · show nI w = hI w
              unfold hI
              rw [if_neg (by omega)]
            · exact hT.1.2.2.2
        · rw [m_perF hG (by omega) (by omega), b_s, i00]
          exact ⟨now, mv, by simp [hp], by simpa [hp] using hT⟩
      · rw [if_neg (fun z => h2 ((n_eqL (show h < 2147483648 by omega) (by decide)).mp z))]
        by_cases h3 : h = 3
        · rw [if_pos ((n_eqL (show h < 2147483648 by omega) (by decide)).mpr h3)]
          have ec : zCan F U h w = decide (w < oP F ∧ zCl (zB (yL U w) (oN F)) (zB (yR F U) (oN F)) = 1) := by
            unfold zCan
            rw [if_neg h0, if_neg h1, if_neg h2, if_pos h3]
          have eb : zBeh F U h w = U := by
            unfold zBeh
            rw [if_neg h0, if_neg h1, if_neg h2]
          rw [ec, eb]
          refine ⟨now, mv, ?_, by simpa using hT⟩
          by_cases hp : w < oP F
          · rw [m_perT hG hp, b_s, i10, m_clean1 hG hT.1 (by omega), b_s]
            rcases zCl_01 (zB (yL U w) (oN F)) (zB (yR F U) (oN F)) with q | q
            · rw [q, i10]
              simp [hp]
            · rw [q, i00]
              simp
          · rw [m_perF hG (by omega) (by omega), b_s, i00]
            simp [hp]
        · rw [if_neg (fun z => h3 ((n_eqL (show h < 2147483648 by omega) (by decide)).mp z))]
          have ec : zCan F U h w = false := by
            unfold zCan
            rw [if_neg h0, if_neg h1, if_neg h2, if_neg h3]
          rw [ec]
          exact ⟨now, mv, rfl, hT⟩
end O5
