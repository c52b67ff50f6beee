/-! ===== best, fewest ===== -/
def zRg (F : FD) (U : Sc) : Nat := zU (zB (yR F U) (oN F))
def zDo (F : FD) : Nat → Sc → Nat → Option Sc
  | 0, U, _ => some U
  | d + 1, U, x => if zIs F (x / 5 ^ d) then zDo F d (zTu F U (x / 5 ^ d)) (x % 5 ^ d) else none
def zVl (F : FD) (d : Nat) (U : Sc) (x : Nat) : Option Nat := (zDo F d U x).map (zRg F)
def zCb : Option (Nat × Nat) → Option (Nat × Nat) → Option (Nat × Nat)
  | none, y => y
  | some a, none => some a
  | some a, some b => if b.1 ≤ a.1 then some a else some b
def zMx (f : Nat → Option Nat) : Nat → Option (Nat × Nat)
  | 0 => none
  | k + 1 => zCb (zMx f k) ((f k).map fun v => (v, k))
def zSh (a : Nat) (x : Option (Nat × Nat)) : Option (Nat × Nat) := x.map fun p => (p.1, a + p.2)
def zDc : Nat → Nat → Nat → Nat
  | 0, p, _ => p
  | d + 1, p, r => zDc d (10 * p + r / 5 ^ d) (r % 5 ^ d)
theorem zCb_none (x : Option (Nat × Nat)) : zCb x none = x := by cases x <;> rfl
theorem zCb_some (a b : Nat × Nat) : zCb (some a) (some b) = if b.1 ≤ a.1 then some a else some b := rfl
theorem zCb_assoc (x y z : Option (Nat × Nat)) : zCb (zCb x y) z = zCb x (zCb y z) := by
  cases x with
  | none => rfl
  | some a =>
    cases y with
    | none => rfl
    | some b =>
      cases z with
      | none => rw [zCb_none, zCb_none]
      | some c =>
        rw [zCb_some, zCb_some]
        by_cases h1 : b.1 ≤ a.1
        · rw [if_pos h1, zCb_some]
          by_cases h2 : c.1 ≤ b.1
          · rw [if_pos h2, zCb_some, if_pos h1, if_pos (by omega)]
          · rw [if_neg h2, zCb_some]
        · rw [if_neg h1, zCb_some]
          by_cases h2 : c.1 ≤ b.1
          · rw [if_pos h2, zCb_some, if_neg h1]
          · rw [if_neg h2, zCb_some, if_neg (by omega)]
theorem zSh_cb (a : Nat) (x y : Option (Nat × Nat)) : zSh a (zCb x y) = zCb (zSh a x) (zSh a y) := by
  cases x with
  | none => rfl
  | some b =>
    cases y with
    | none => rfl
    | some c =>
      show zSh a (if c.1 ≤ b.1 then some b else some c) = if c.1 ≤ b.1 then some (b.1, a + b.2) else some (c.1, a + c.2)
      split <;> rfl
theorem zMx_cong {f g : Nat → Option Nat} : ∀ k, (∀ i, i < k → f i = g i) → zMx f k = zMx g k
  | 0, _ => rfl
  | k + 1, h => by
    rw [zMx, zMx, zMx_cong k (fun i hi => h i (by omega)), h k (by omega)]
theorem zMx_none {f : Nat → Option Nat} : ∀ k, (∀ i, i < k → f i = none) → zMx f k = none
  | 0, _ => rfl
  | k + 1, h => by
    rw [zMx, zMx_none k (fun i hi => h i (by omega)), h k (by omega)]
    rfl
theorem zMx_add (f : Nat → Option Nat) (a : Nat) : ∀ b, zMx f (a + b) = zCb (zMx f a) (zSh a (zMx (fun i => f (a + i)) b))
  | 0 => (zCb_none _).symm
  | b + 1 => by
    rw [← Nat.add_assoc, zMx, zMx_add f a b, zCb_assoc, zMx, zSh_cb]
    congr 2
    cases f (a + b) <;> rfl
theorem zMx_ok (f : Nat → Option Nat) : ∀ k a, zMx f k = some a → a.2 < k ∧ f a.2 = some a.1
  | 0, a, h => by cases h
  | k + 1, a, h => by
    rw [zMx] at h
    cases hf : f k with
    | none =>
      rw [hf] at h
      have h' : zMx f k = some a := by rw [← h]; exact (zCb_none _).symm
      have := zMx_ok f k a h'
      exact ⟨by omega, this.2⟩
    | some v =>
      rw [hf] at h
      cases hm : zMx f k with
      | none =>
        rw [hm] at h
        have h' : some (v, k) = some a := h
        cases h'
        exact ⟨Nat.lt_succ_self k, hf⟩
      | some b =>
        rw [hm] at h
        have h' : (if v ≤ b.1 then some b else some (v, k)) = some a := h
        by_cases hc : v ≤ b.1
        · rw [if_pos hc] at h'
          cases h'
          have := zMx_ok f k _ hm
          exact ⟨by omega, this.2⟩
        · rw [if_neg hc] at h'
          cases h'
          exact ⟨Nat.lt_succ_self k, hf⟩
theorem zDc_lt {B : Nat} : ∀ d p r, r < 5 ^ d → (p + 1) * 10 ^ d ≤ B → zDc d p r < B
  | 0, p, r, _, h => by
    rw [Nat.pow_zero, Nat.mul_one] at h
    exact h
  | d + 1, p, r, hr, h => by
    have h5 : 0 < 5 ^ d := Nat.pow_pos (by decide)
    have ht : r / 5 ^ d < 5 := by
      rw [Nat.div_lt_iff_lt_mul h5, Nat.mul_comm]
      rw [Nat.pow_succ] at hr
      exact hr
    rw [zDc]
    refine zDc_lt d _ _ (Nat.mod_lt _ h5) (Nat.le_trans ?_ h)
    rw [Nat.pow_succ, Nat.mul_comm (10 ^ d) 10, ← Nat.mul_assoc]
    exact Nat.mul_le_mul_right _ (by omega)
theorem zVl_blk (F : FD) (d : Nat) (U : Sc) (t i : Nat) (hi : i < 5 ^ d) : zVl F (d + 1) U (t * 5 ^ d + i) = if zIs F t then zVl F d (zTu F U t) i else none := by
  have h5 : 0 < 5 ^ d := Nat.pow_pos (by decide)
  have e1 : (t * 5 ^ d + i) / 5 ^ d = t := by
    rw [Nat.mul_comm, Nat.mul_add_div h5, Nat.div_eq_of_lt hi, Nat.add_zero]
  have e2 : (t * 5 ^ d + i) % 5 ^ d = i := by
    rw [Nat.mul_comm, Nat.mul_add_mod, Nat.mod_eq_of_lt hi]
  unfold zVl
  rw [zDo, e1, e2]
  split <;> rfl
theorem zMx_blkT (F : FD) (d : Nat) (U : Sc) {t : Nat} (ht : zIs F t = true) : zMx (zVl F (d + 1) U) ((t + 1) * 5 ^ d) = zCb (zMx (zVl F (d + 1) U) (t * 5 ^ d)) (zSh (t * 5 ^ d) (zMx (zVl F d (zTu F U t)) (5 ^ d))) := by
  rw [Nat.succ_mul, zMx_add]
  congr 2
  exact zMx_cong _ (fun i hi => by rw [zVl_blk F d U t i hi, if_pos ht])
theorem zMx_blkF (F : FD) (d : Nat) (U : Sc) {t : Nat} (ht : ¬ zIs F t = true) : zMx (zVl F (d + 1) U) ((t + 1) * 5 ^ d) = zMx (zVl F (d + 1) U) (t * 5 ^ d) := by
  rw [Nat.succ_mul, zMx_add, zMx_none (5 ^ d) (fun i hi => by rw [zVl_blk F d U t i hi, if_neg ht])]
  exact zCb_none _
/-- how the class holds the best row so far -/
def RP (d pre : Nat) (acc : Option (Nat × Nat)) (x : Int32) : Prop := (acc = none ∧ x = -1) ∨ ∃ a, acc = some a ∧ x = nI (a.1 * 100000 + zDc d pre a.2)
section O12
variable {F : FD} {fPk fWn fGw fGk fOw : Nat → Int32} {fPe fHo fGr : Int32} {L : Int64} {S U : Sc}
variable {mKind mWind mWeight mSort mOwner mNow now0 now : Nat → Int32} {mPeople mHours mGrains : Int32}
theorem zVl_le {d x v : Nat} (h : zVl F d U x = some v) : v ≤ 7 := by
  unfold zVl at h
  cases hz : zDo F d U x with
  | none => rw [hz] at h; cases h
  | some U1 =>
    rw [hz] at h
    have h' : some (zRg F U1) = some v := h
    cases h'
    exact zU_le _
theorem x_most (hF : RF F fPk fWn fGw fGk fOw fPe fHo fGr) :
    ∀ (d dd : Nat) (L : Int64) (U : Sc) (pre : Nat), d < dd → d ≤ 4 → RX F L U → U.2.2 + d < 1048576 → (pre + 1) * 10 ^ d ≤ 100000 →
      ∃ a, zMx (zVl F d U) (5 ^ d) = some a ∧ tu_mostRight fPk fWn fGw fGk fOw fPe fHo fGr dd L (nI d) (nI pre) = some (nI (a.1 * 100000 + zDc d pre a.2)) := by
  have h4 := hF.1.1
  have h7 := hF.1.2.2.1
  intro d
  induction d with
  | zero =>
    intro dd L U pre hdd hd hX hk hp
    obtain ⟨dd, rfl⟩ : ∃ m, dd = m + 1 := ⟨dd - 1, by omega⟩
    refine ⟨(zRg F U, 0), rfl, ?_⟩
    have e : nI (zU (zB (yR F U) (oN F))) * 100000 = nI (zU (zB (yR F U) (oN F)) * 100000) := pk_mul _ 100000
    rw [tu_mostRight.eq_2, if_neg (show ¬ (0 : Int32) < nI 0 by decide), x_right hF hX, b_s, x_bits _ (zB_128 hF.1 _), b_s, e, nI_add]
    rfl
  | succ d ih =>
    intro dd L U pre hdd hd hX hk hp
    obtain ⟨dd, rfl⟩ : ∃ m, dd = m + 1 := ⟨dd - 1, by omega⟩
    have c : (0 : Int32) < nI (d + 1) := (n_Llt (c := 0) (by omega) (by decide)).mpr (show 0 < d + 1 by omega)
    have e1 : nI (d + 1) - 1 = nI d := n_subL (a := d + 1) (c := 1) (show 1 ≤ d + 1 by omega)
    have h5 : 0 < 5 ^ d := Nat.pow_pos (by decide)
    -- one turn
    have turn : ∀ t, t < 5 → zIs F t = true → ∃ L1 a, fl_turned fPk fWn fGw fGk fOw fPe fHo fGr L (nI t) = some L1 ∧ zMx (zVl F d (zTu F U t)) (5 ^ d) = some a ∧ tu_mostRight fPk fWn fGw fGk fOw fPe fHo fGr dd L1 (nI d) (nI (10 * pre + t)) = some (nI (a.1 * 100000 + zDc (d + 1) pre (t * 5 ^ d + a.2))) := fun t ht5 ht => by
      obtain ⟨L1, e, hX1⟩ := x_turned hF hX ht (by omega)
      have hp1 : (10 * pre + t + 1) * 10 ^ d ≤ 100000 := by
        refine Nat.le_trans ?_ hp
        rw [Nat.pow_succ, Nat.mul_comm (10 ^ d) 10, ← Nat.mul_assoc]
        exact Nat.mul_le_mul_right _ (by omega)
      obtain ⟨a, ea, em⟩ := ih dd L1 (zTu F U t) (10 * pre + t) (by omega) (by omega) hX1 (by rw [zTu_ck]; omega) hp1
      have hi := (zMx_ok _ _ _ ea).1
      refine ⟨L1, a, e, ea, ?_⟩
      have q1 : (t * 5 ^ d + a.2) / 5 ^ d = t := by
        rw [Nat.mul_comm, Nat.mul_add_div h5, Nat.div_eq_of_lt hi, Nat.add_zero]
      have q2 : (t * 5 ^ d + a.2) % 5 ^ d = a.2 := by
        rw [Nat.mul_comm, Nat.mul_add_mod, Nat.mod_eq_of_lt hi]
      rw [em, zDc, q1, q2]
    have loop : ∀ (e t n : Nat) (x : Int32), t + e = 5 → e < n → RP (d + 1) pre (zMx (zVl F (d + 1) U) (t * 5 ^ d)) x →
        ∃ x1, tu_mostRight_L25 (tu_mostRight fPk fWn fGw fGk fOw fPe fHo fGr dd) fPk fWn fGw fGk fOw fPe fHo fGr L (nI (d + 1)) (nI pre) (fun y6_25 y5_25 => (some y5_25)) n (nI t) x = some x1 ∧ RP (d + 1) pre (zMx (zVl F (d + 1) U) (5 * 5 ^ d)) x1 := by
      intro e
      induction e with
      | zero =>
        intro t n x hte hn hR
        obtain ⟨n, rfl⟩ : ∃ m, n = m + 1 := ⟨n - 1, by omega⟩
        obtain rfl : t = 5 := by omega
        exact ⟨x, by rw [tu_mostRight_L25.eq_2, if_pos (show (4 : Int32) < nI 5 by decide)], hR⟩
      | succ e ihe =>
        intro t n x hte hn hR
        obtain ⟨n, rfl⟩ : ∃ m, n = m + 1 := ⟨n - 1, by omega⟩
        rw [tu_mostRight_L25.eq_2, if_neg (fun z => by have : 4 < t := (n_Llt (by omega) (by decide)).mp z; omega), x_isTurn hF (by omega), b_s, nI_1]
        by_cases ht : zIs F t = true
        · obtain ⟨L1, a, e2, ea, em⟩ := turn t (by omega) ht
          have ep : (10 : Int32) * nI pre + nI t = nI (10 * pre + t) := by rw [l10, pk_mul, nI_add]
          rw [if_pos ht, i10, e2, b_s, e1, ep, em, b_s]
          have hblk := zMx_blkT F d U ht
          rw [ea] at hblk
          have hs : zSh (t * 5 ^ d) (some a) = some (a.1, t * 5 ^ d + a.2) := rfl
          rw [hs] at hblk
          have hav : a.1 ≤ 7 := zVl_le (zMx_ok _ _ _ ea).2
          have hai := (zMx_ok _ _ _ ea).1
          have hdc : zDc (d + 1) pre (t * 5 ^ d + a.2) < 100000 := by
            refine zDc_lt (d + 1) pre _ ?_ hp
            have : (t + 1) * 5 ^ d ≤ 5 * 5 ^ d := Nat.mul_le_mul_right _ (by omega)
            rw [Nat.pow_succ, Nat.mul_comm (5 ^ d) 5]
            rw [Nat.succ_mul] at this
            omega
          rcases hR with ⟨hn0, rfl⟩ | ⟨b, hb, rfl⟩
          · rw [hn0] at hblk
            rw [if_pos (show (-1 : Int32) < 0 by decide)]
            exact ihe (t + 1) n _ (by omega) (by omega) (Or.inr ⟨_, hblk, rfl⟩)
          · have hbv : b.1 ≤ 7 := zVl_le (zMx_ok _ _ _ hb).2
            have hbi := (zMx_ok _ _ _ hb).1
            have hdb : zDc (d + 1) pre b.2 < 100000 := by
              refine zDc_lt (d + 1) pre _ ?_ hp
              have : t * 5 ^ d ≤ 5 * 5 ^ d := Nat.mul_le_mul_right _ (by omega)
              rw [Nat.pow_succ, Nat.mul_comm (5 ^ d) 5]
              omega
            have ed1 : nI (a.1 * 100000 + zDc (d + 1) pre (t * 5 ^ d + a.2)) / 100000 = nI a.1 := by
              have := n_divL (a := a.1 * 100000 + zDc (d + 1) pre (t * 5 ^ d + a.2)) (c := 100000) (by omega) (by decide) (by decide)
              refine Eq.trans this (congrArg nI ?_)
              show (a.1 * 100000 + zDc (d + 1) pre (t * 5 ^ d + a.2)) / 100000 = a.1
              omega
            have ed2 : nI (b.1 * 100000 + zDc (d + 1) pre b.2) / 100000 = nI b.1 := by
              have := n_divL (a := b.1 * 100000 + zDc (d + 1) pre b.2) (c := 100000) (by omega) (by decide) (by decide)
              refine Eq.trans this (congrArg nI ?_)
              show (b.1 * 100000 + zDc (d + 1) pre b.2) / 100000 = b.1
              omega
            rw [hb, zCb_some] at hblk
            rw [if_neg (n_neg (by omega)), ed1, ed2]
            by_cases hc : a.1 ≤ b.1
            · rw [if_pos ((n_le (by omega) (by omega)).mpr hc)]
              rw [if_pos hc] at hblk
              exact ihe (t + 1) n _ (by omega) (by omega) (Or.inr ⟨_, hblk, rfl⟩)
            · rw [if_neg (fun z => hc ((n_le (by omega) (by omega)).mp z))]
              rw [if_neg hc] at hblk
              exact ihe (t + 1) n _ (by omega) (by omega) (Or.inr ⟨_, hblk, rfl⟩)
        · rw [if_neg ht, i00]
          exact ihe (t + 1) n x (by omega) (by omega) (by rw [zMx_blkF F d U ht]; exact hR)
    obtain ⟨x1, ex, hR⟩ := loop 5 0 1000 (-1) (by omega) (by omega) (Or.inl ⟨by rw [Nat.zero_mul]; rfl, rfl⟩)
    obtain ⟨L1, a4, -, ea4, -⟩ := turn 4 (by omega) rfl
    have hl := zMx_blkT F d U (t := 4) rfl
    rw [ea4] at hl
    have ep : 5 ^ (d + 1) = (4 + 1) * 5 ^ d := by rw [Nat.pow_succ, Nat.mul_comm]
    rcases hR with ⟨hn0, -⟩ | ⟨b, hb, rfl⟩
    · exfalso
      have hn0' : zMx (zVl F (d + 1) U) ((4 + 1) * 5 ^ d) = none := hn0
      rw [hl] at hn0'
      cases hz : zMx (zVl F (d + 1) U) (4 * 5 ^ d) with
      | none => rw [hz] at hn0'; cases hn0'
      | some w =>
        rw [hz] at hn0'
        have hn1 : (if a4.1 ≤ w.1 then some w else some (a4.1, 4 * 5 ^ d + a4.2)) = none := hn0'
        split at hn1 <;> cases hn1
    · refine ⟨b, by rw [ep]; exact hb, ?_⟩
      rw [tu_mostRight.eq_2, if_pos c]
      exact ex
end O12
