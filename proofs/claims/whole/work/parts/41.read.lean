/-! ===== reading: both ===== -/
theorem u_ne {f : Nat → Int32} {i j : Nat} {x : Int32} (h : ¬ j = i) : upd f i x j = f j := if_neg h
theorem u_eq {f : Nat → Int32} {i j : Nat} {x : Int32} (h : j = i) : upd f i x j = x := if_pos h
theorem RR_bad {A : Option (Int32 × CT)} {B : Option (Int32 × MT)} {f : Nat} {c : CT} {m : MT} (hf : f < 100) (eA : A = some (nI f, c)) (eB : B = some (nI f, m)) : RR A B := ⟨nI f, c, m, eA, eB, Or.inr (n_m9 (by omega))⟩
section O17
variable {tx : Nat → Int32} {n : Nat}
theorem rd_main (tx : Nat → Int32) {n : Nat} (hn : n ≤ 56) : ∀ (d k ff fm : Nat) (dPk dWn dGw dGk dOw dSt : Nat → Int32) (dPe dHo dGr dFt : Int32) (rk rw rg : Nat → Int32) (rP rH rG : Int32), k + d = n → d < ff → d + 1 < fm →
    FN (dPk, dWn, dGw, dGk, dOw, dSt, dPe, dHo, dGr, 87, dFt) (rk, rw, rg, rP, rH, rG, nI k, -9) →
    RR (fl_read_L27 tx (nI n) (kC (nI n)) ff (nI k) dPk dWn dGw dGk dOw dSt dPe dHo dGr 87 dFt) (mm_readText_L51 tx (nI n) kM fm rk rw rg rP rH rG (nI k) (-9)) := by
  intro d
  induction d using Nat.strongRecOn with
  | ind d ih =>
    intro k ff fm dPk dWn dGw dGk dOw dSt dPe dHo dGr dFt rk rw rg rP rH rG hkd hff hfm hFN
    obtain ⟨ff, rfl⟩ : ∃ m, ff = m + 1 := ⟨ff - 1, by omega⟩
    obtain ⟨fm, rfl⟩ : ∃ m, fm = m + 2 := ⟨fm - 2, by omega⟩
    rcases Nat.eq_zero_or_pos d with h0 | h0
    · obtain rfl : k = n := by omega
      refine ⟨-9, _, _, ?_, ?_, Or.inl ⟨rfl, hFN⟩⟩
      · rw [cl_stop hn]
        rfl
      · rw [ml_stop (ff := fm + 1) hn]
        rfl
    · have hk : k < n := by omega
      obtain ⟨F, st, hF, hS, hG, hT⟩ := hFN
      have hF : RF F dPk dWn dGw dGk dOw dPe dHo dGr := hF
      have hS : ∀ j, j < oN F → dSt j = nI (st j) ∧ st j < oP F := hS
      have hG : RF F rk rw (fun j => rg (4 * j)) (fun j => rg (4 * j + 1)) (fun j => rg (4 * j + 2)) rP rH rG := hG
      have hT : ∀ j, j < oN F → rg (4 * j + 3) = nI (st j) := hT
      have h4 := hF.1.1
      have h6 := hF.1.2.1
      have h7 := hF.1.2.2.1
      by_cases vP : tx k = 80
      · by_cases hf : 4 ≤ oP F
        · refine RR_bad (f := k) (by omega) (cl_bad hn hk (by rw [tb_P hF.2.1 h4 vP, if_pos hf])) (ml_bad hn hk (f := k) (by omega) (by rw [mp_P hG.2.1 h4 vP, if_pos hf]) rfl)
        · have eC := cl_go (ff := ff) (dFt := dFt) hn hk (c := (dPk, dWn, dGw, dGk, dOw, dSt, dPe, dHo, dGr, 80, 0)) (by rw [tb_P hF.2.1 h4 vP, if_neg hf])
          rw [eC]
          obtain ⟨ff, rfl⟩ : ∃ m, ff = m + 1 := ⟨ff - 1, by omega⟩
          rcases dgt tx (show k + 1 ≤ n by omega) 0 3 (by omega) (by omega) with ⟨j, hk1, ej, h1, h2⟩ | hb
          · have eC2 := cl_go (ff := ff) hn hk1 (tp_ok (dPk := dPk) (dWn := dWn) (dGw := dGw) (dGk := dGk) (dOw := dOw) (dSt := dSt) (dHo := dHo) (dGr := dGr) (dFt := 0) hF.2.1 (show oP F < 4 by omega) ej h2)
            have eM := ml_go (ff := fm + 1) (rk := rk) (rw := rw) (rg := rg) (rP := rP) (rH := rH) (rG := rG) hn hk (m := (upd rk (oP F) (nI j), rw, rg, nI (oP F + 1), rH, rG, nI (k + 1 + 1), -9)) (by rw [mp_P hG.2.1 h4 vP, if_neg hf, fig_ok hn hk1 ej h1 h2 (by omega), b_s])
            rw [eM]
            refine (show RR _ _ from ?_)
            have := ih (d - 2) (by omega) (k + 1 + 1) ff (fm + 1) (upd dPk (oP F) (nI j)) dWn dGw dGk dOw dSt (nI (oP F + 1)) dHo dGr 0 (upd rk (oP F) (nI j)) rw rg (nI (oP F + 1)) rH rG (by omega) (by omega) (by omega) ⟨aP F j, st, RF_addP hF (by omega) h2 (fun i hi => u_ne (by omega)) (u_eq rfl), fun i hi => ⟨(hS i hi).1, Nat.lt_succ_of_lt (hS i hi).2⟩, RF_addP hG (by omega) h2 (fun i hi => u_ne (by omega)) (u_eq rfl), hT⟩
            exact eC2 ▸ this
          · obtain ⟨c, eC2⟩ := cl_end (tx := tx) (ff := ff) (dPk := dPk) (dWn := dWn) (dGw := dGw) (dGk := dGk) (dOw := dOw) (dSt := dSt) (dPe := dPe) (dHo := dHo) (dGr := dGr) (dPa := 80) (dFt := 0) hn (by decide) hb tp_bad
            exact RR_bad (f := k + 1) (by omega) eC2 (ml_bad hn hk (f := k + 1) (by omega) (by rw [mp_P hG.2.1 h4 vP, if_neg hf, fig_bad hn (by omega) hb, b_s]) rfl)
      · by_cases vH : tx k = 72
        · by_cases hf : 6 ≤ oH F
          · refine RR_bad (f := k) (by omega) (cl_bad hn hk (by rw [tb_H hF.2.2.1 h6 vH, if_pos hf])) (ml_bad hn hk (f := k) (by omega) (by rw [mp_H hG.2.2.1 h6 vH, if_pos hf]) rfl)
          · have eC := cl_go (ff := ff) (dFt := dFt) hn hk (c := (dPk, dWn, dGw, dGk, dOw, dSt, dPe, dHo, dGr, 72, 0)) (by rw [tb_H hF.2.2.1 h6 vH, if_neg hf])
            rw [eC]
            obtain ⟨ff, rfl⟩ : ∃ m, ff = m + 1 := ⟨ff - 1, by omega⟩
            rcases dgt tx (show k + 1 ≤ n by omega) 0 9 (by omega) (by omega) with ⟨j, hk1, ej, h1, h2⟩ | hb
            · have eC2 := cl_go (ff := ff) hn hk1 (th_ok (dPk := dPk) (dWn := dWn) (dGw := dGw) (dGk := dGk) (dOw := dOw) (dSt := dSt) (dPe := dPe) (dGr := dGr) (dFt := 0) hF.2.2.1 (show oH F < 6 by omega) ej h2)
              have eM := ml_go (ff := fm + 1) (rk := rk) (rw := rw) (rg := rg) (rP := rP) (rH := rH) (rG := rG) hn hk (m := (rk, upd rw (oH F) (nI j), rg, rP, nI (oH F + 1), rG, nI (k + 1 + 1), -9)) (by rw [mp_H hG.2.2.1 h6 vH, if_neg hf, fig_ok hn hk1 ej h1 h2 (by omega), b_s])
              rw [eM]
              have := ih (d - 2) (by omega) (k + 1 + 1) ff (fm + 1) dPk (upd dWn (oH F) (nI j)) dGw dGk dOw dSt dPe (nI (oH F + 1)) dGr 0 rk (upd rw (oH F) (nI j)) rg rP (nI (oH F + 1)) rG (by omega) (by omega) (by omega) ⟨aH F j, st, RF_addH hF (by omega) h2 (fun i hi => u_ne (by omega)) (u_eq rfl), hS, RF_addH hG (by omega) h2 (fun i hi => u_ne (by omega)) (u_eq rfl), hT⟩
              exact eC2 ▸ this
            · obtain ⟨c, eC2⟩ := cl_end (tx := tx) (ff := ff) (dPk := dPk) (dWn := dWn) (dGw := dGw) (dGk := dGk) (dOw := dOw) (dSt := dSt) (dPe := dPe) (dHo := dHo) (dGr := dGr) (dPa := 72) (dFt := 0) hn (by decide) hb th_bad
              exact RR_bad (f := k + 1) (by omega) eC2 (ml_bad hn hk (f := k + 1) (by omega) (by rw [mp_H hG.2.2.1 h6 vH, if_neg hf, fig_bad hn (by omega) hb, b_s]) rfl)
        · by_cases vG : tx k = 71
          · by_cases hf : 7 ≤ oN F ∨ oP F = 0
            · refine RR_bad (f := k) (by omega) (cl_bad hn hk (by rw [tb_G hF.2.2.2.1 hF.2.1 h7 h4 vG, if_pos hf])) (ml_bad hn hk (f := k) (by omega) (by rw [mp_G hG.2.2.2.1 hG.2.1 h7 h4 vG, if_pos hf]) rfl)
            · have hN7 : oN F < 7 := by omega
              have hP1 : 1 ≤ oP F := by omega
              have eC := cl_go (ff := ff) (dFt := dFt) hn hk (c := (dPk, dWn, dGw, dGk, dOw, dSt, dPe, dHo, dGr, 71, 0)) (by rw [tb_G hF.2.2.2.1 hF.2.1 h7 h4 vG, if_neg hf])
              rw [eC]
              obtain ⟨ff, rfl⟩ : ∃ m, ff = m + 1 := ⟨ff - 1, by omega⟩
              rcases dgt tx (show k + 1 ≤ n by omega) 1 9 (by omega) (by omega) with ⟨a, hk1, ea, a1, a2⟩ | hb
              · have f1 := fig_ok hn hk1 ea a1 a2 (by omega)
                have eC1 := cl_go (ff := ff) hn hk1 (tg1_ok (dPk := dPk) (dWn := dWn) (dGw := dGw) (dGk := dGk) (dOw := dOw) (dSt := dSt) (dPe := dPe) (dHo := dHo) hF.2.2.2.1 hN7 ea a1 a2)
                obtain ⟨ff, rfl⟩ : ∃ m, ff = m + 1 := ⟨ff - 1, by omega⟩
                rcases dgt tx (show k + 1 + 1 ≤ n by omega) 0 3 (by omega) (by omega) with ⟨b, hk2, eb, b1, b2⟩ | hb
                · have f2 := fig_ok hn hk2 eb b1 b2 (by omega)
                  have eC2 := cl_go (ff := ff) hn hk2 (tg2_ok (dPk := dPk) (dWn := dWn) (dGw := upd dGw (oN F) (nI a)) (dGk := dGk) (dOw := dOw) (dSt := dSt) (dPe := dPe) (dHo := dHo) hF.2.2.2.1 hN7 eb b2)
                  obtain ⟨ff, rfl⟩ : ∃ m, ff = m + 1 := ⟨ff - 1, by omega⟩
                  rcases dgt tx (show k + 1 + 1 + 1 ≤ n by omega) 0 (oP F - 1) (by omega) (by omega) with ⟨o, hk3, eo, o1, o2⟩ | hb
                  · have f3 := fig_ok hn hk3 eo o1 o2 (by omega)
                    have eC3 := cl_go (ff := ff) hn hk3 (tg3_ok (dPk := dPk) (dWn := dWn) (dGw := upd dGw (oN F) (nI a)) (dGk := upd dGk (oN F) (nI b)) (dOw := dOw) (dSt := dSt) (dHo := dHo) hF.2.2.2.1 hN7 hF.2.1 h4 eo (by omega))
                    obtain ⟨ff, rfl⟩ : ∃ m, ff = m + 1 := ⟨ff - 1, by omega⟩
                    rcases dgt tx (show k + 1 + 1 + 1 + 1 ≤ n by omega) 0 (oP F - 1) (by omega) (by omega) with ⟨e, hk4, ee, e1, e2⟩ | hb
                    · have f4 := fig_ok hn hk4 ee e1 e2 (by omega)
                      have eC4 := cl_go (ff := ff) hn hk4 (tg4_ok (dPk := dPk) (dWn := dWn) (dGw := upd dGw (oN F) (nI a)) (dGk := upd dGk (oN F) (nI b)) (dOw := upd dOw (oN F) (nI o)) (dSt := dSt) (dHo := dHo) hF.2.2.2.1 hN7 hF.2.1 h4 ee (by omega))
                      have eM := ml_go (ff := fm + 1) (rk := rk) (rw := rw) (rg := rg) (rP := rP) (rH := rH) (rG := rG) hn hk (m := (rk, rw, upd (upd (upd (upd rg (4 * oN F) (nI a)) (4 * oN F + 1) (nI b)) (4 * oN F + 2) (nI o)) (4 * oN F + 3) (nI e), rP, rH, nI (oN F + 1), nI (k + 1 + 1 + 1 + 1 + 1), -9)) (by
                        rw [mp_G hG.2.2.2.1 hG.2.1 h7 h4 vG, if_neg hf]
                        simp only [f1, f2, f3, f4, b_s])
                      rw [eM]
                      have := ih (d - 5) (by omega) (k + 1 + 1 + 1 + 1 + 1) ff (fm + 1) dPk dWn (upd dGw (oN F) (nI a)) (upd dGk (oN F) (nI b)) (upd dOw (oN F) (nI o)) (upd dSt (oN F) (nI e)) dPe dHo (nI (oN F + 1)) 4 rk rw (upd (upd (upd (upd rg (4 * oN F) (nI a)) (4 * oN F + 1) (nI b)) (4 * oN F + 2) (nI o)) (4 * oN F + 3) (nI e)) rP rH (nI (oN F + 1)) (by omega) (by omega) (by omega)
                        ⟨aG F a b o, fun i => if i = oN F then e else st i, RF_addG hF hN7 ⟨a1, a2⟩ b2 (by omega) (fun i hi => ⟨u_ne (by omega), u_ne (by omega), u_ne (by omega)⟩) ⟨u_eq rfl, u_eq rfl, u_eq rfl⟩, fun i hi => by
                          have hi' : i < oN F + 1 := hi
                          show upd dSt (oN F) (nI e) i = nI (if i = oN F then e else st i) ∧ (if i = oN F then e else st i) < oP F
                          by_cases hq : i = oN F
                          · rw [if_pos hq, u_eq hq]
                            exact ⟨rfl, by omega⟩
                          · rw [if_neg hq, u_ne hq]
                            exact hS i (by omega), RF_addG hG hN7 ⟨a1, a2⟩ b2 (by omega) (fun i hi => ⟨by
                              show upd _ _ _ _ = _
                              rw [u_ne (by omega), u_ne (by omega), u_ne (by omega), u_ne (by omega)], by
                              show upd _ _ _ _ = _
                              rw [u_ne (by omega), u_ne (by omega), u_ne (by omega), u_ne (by omega)], by
                              show upd _ _ _ _ = _
                              rw [u_ne (by omega), u_ne (by omega), u_ne (by omega), u_ne (by omega)]⟩) ⟨by
                              show upd _ _ _ _ = _
                              rw [u_ne (by omega), u_ne (by omega), u_ne (by omega), u_eq rfl], by
                              show upd _ _ _ _ = _
                              rw [u_ne (by omega), u_ne (by omega), u_eq rfl], by
                              show upd _ _ _ _ = _
                              rw [u_ne (by omega), u_eq rfl]⟩, fun i hi => by
                          have hi' : i < oN F + 1 := hi
                          show upd _ _ _ (4 * i + 3) = nI (if i = oN F then e else st i)
                          by_cases hq : i = oN F
                          · rw [if_pos hq, u_eq (by omega)]
                          · rw [if_neg hq, u_ne (by omega), u_ne (by omega), u_ne (by omega), u_ne (by omega)]
                            exact hT i (by omega)⟩
                      exact (eC1.trans (eC2.trans (eC3.trans eC4))) ▸ this
                    · obtain ⟨c, eC4⟩ := cl_end (tx := tx) (ff := ff) (dPk := dPk) (dWn := dWn) (dGw := upd dGw (oN F) (nI a)) (dGk := upd dGk (oN F) (nI b)) (dOw := upd dOw (oN F) (nI o)) (dSt := dSt) (dPe := dPe) (dHo := dHo) (dGr := dGr) (dPa := 71) (dFt := 3) hn (by decide) hb (tg4_bad hF.2.1 hP1 h4)
                      have f4 := fig_bad hn (by omega) hb
                      exact RR_bad (f := k + 1 + 1 + 1 + 1) (by omega) (eC1.trans (eC2.trans (eC3.trans eC4))) (ml_bad hn hk (f := k + 1 + 1 + 1 + 1) (by omega) (by
                        rw [mp_G hG.2.2.2.1 hG.2.1 h7 h4 vG, if_neg hf]
                        simp only [f1, f2, f3, f4, b_s]
                        rfl) rfl)
                  · obtain ⟨c, eC3⟩ := cl_end (tx := tx) (ff := ff) (dPk := dPk) (dWn := dWn) (dGw := upd dGw (oN F) (nI a)) (dGk := upd dGk (oN F) (nI b)) (dOw := dOw) (dSt := dSt) (dPe := dPe) (dHo := dHo) (dGr := dGr) (dPa := 71) (dFt := 2) hn (by decide) hb (tg3_bad hF.2.1 hP1 h4)
                    have f3 := fig_bad hn (by omega) hb
                    have g4 := fig_f (tx := tx) (n := n) (lo := 0) (hi := oP F - 1) (by omega) (show k + 1 + 1 + 1 < 100 by omega) (nI (k + 1 + 1 + 1))
                    exact RR_bad (f := k + 1 + 1 + 1) (by omega) (eC1.trans (eC2.trans eC3)) (ml_bad hn hk (f := k + 1 + 1 + 1) (by omega) (by
                      rw [mp_G hG.2.2.2.1 hG.2.1 h7 h4 vG, if_neg hf]
                      simp only [f1, f2, f3, g4, b_s]
                      rfl) rfl)
                · obtain ⟨c, eC2⟩ := cl_end (tx := tx) (ff := ff) (dPk := dPk) (dWn := dWn) (dGw := upd dGw (oN F) (nI a)) (dGk := dGk) (dOw := dOw) (dSt := dSt) (dPe := dPe) (dHo := dHo) (dGr := dGr) (dPa := 71) (dFt := 1) hn (by decide) hb tg2_bad
                  have f2 := fig_bad hn (by omega) hb
                  have g4 := fig_f (tx := tx) (n := n) (lo := 0) (hi := oP F - 1) (by omega) (show k + 1 + 1 < 100 by omega) (nI (k + 1 + 1))
                  exact RR_bad (f := k + 1 + 1) (by omega) (eC1.trans eC2) (ml_bad hn hk (f := k + 1 + 1) (by omega) (by
                    rw [mp_G hG.2.2.2.1 hG.2.1 h7 h4 vG, if_neg hf]
                    simp only [f1, f2, g4, b_s]
                    rfl) rfl)
              · obtain ⟨c, eC1⟩ := cl_end (tx := tx) (ff := ff) (dPk := dPk) (dWn := dWn) (dGw := dGw) (dGk := dGk) (dOw := dOw) (dSt := dSt) (dPe := dPe) (dHo := dHo) (dGr := dGr) (dPa := 71) (dFt := 0) hn (by decide) hb tg1_bad
                have f1 := fig_bad hn (by omega) hb
                have g3 := fig_f (tx := tx) (n := n) (lo := 0) (hi := 3) (by omega) (show k + 1 < 100 by omega) (nI (k + 1))
                have g4 := fig_f (tx := tx) (n := n) (lo := 0) (hi := oP F - 1) (by omega) (show k + 1 < 100 by omega) (nI (k + 1))
                exact RR_bad (f := k + 1) (by omega) eC1 (ml_bad hn hk (f := k + 1) (by omega) (by
                  rw [mp_G hG.2.2.2.1 hG.2.1 h7 h4 vG, if_neg hf]
                  simp only [f1, g3, g4, b_s]
                  rfl) rfl)
          · exact RR_bad (f := k) (by omega) (cl_bad hn hk (tb_x vP vH vG)) (ml_bad hn hk (f := k) (by omega) (mp_x vP vH vG) rfl)
end O17
