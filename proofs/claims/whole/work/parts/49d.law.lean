section LOOP
variable {p : Program} {l : Launch} {e : Env} {s : State} {m : MethodId} {below : List Frame} {meth : Method} {c : Code} {D : va_G} {cI cJ cZ : ClassId} {b L : Nat} {xs : Nat → Int32} {x y k : Nat} {w1 w2 : va_W} {H : Heap} {locs : List Loc} {ls : Array Slot}
set_option maxHeartbeats 4000000 in
set_option maxRecDepth 100000 in
theorem law_loop (hL : L ≤ 320) (C0 : lw_At p s m meth c b L xs) (hK : kK D cI cJ cZ s) : ∀ (n k : Nat), 65 ≤ k + n → 5 * k ≤ L → ∀ (w1 w2 : va_W) (H : Heap) (locs : List Loc) (ls : Array Slot), Two k x y cI cJ cZ w1 w2 → tw D (LA s) w1 w2 H → va_S (LA s) s.heap H locs → lv_has ls 4 [(0, .ref b), (1, .ref x), (2, .ref y), (3, .int (nI (5 * k)))] → W p l e room_1 s m #[Value.ref b] below meth c H locs 45 561 (lw_Z below #[Value.ref b] s) (F0 m 18 ls []) := by
  intro n
  induction n with
  | zero => intro k h1 h2; exact absurd h1 (by omega)
  | succ n ih =>
    intro k h1 h2 w1 w2 H locs ls hT hW hS hl
    obtain ⟨hx, hb, hr, hml, hown, hts0, hX, hbl, hlocks, hgv⟩ := id C0
    have hown : s.vm.findClass RL = some m.cls := hown
    have hts : ∀ w ∈ wsL_law, w.before #[Value.ref b] s = true := fun w h => hts0 w (wsL_law_in w h)
    have hA : ∀ q : Nat, s.heap.size ≤ q → LA s q := fun _ h => h
    have hbA : ¬ LA s b := Nat.not_le.mpr hbl
    refine lv_iload_n hx hb dL_law_18 rfl (lv_at hl 3 rfl) ?_
    refine lv_aload_n hx hb dL_law_19 rfl (lv_at hl 0 rfl) ?_
    refine va_slen hx hb hX hbl hbA hS dL_law_20 ?_
    refine lv_iconst (v := 5) hx hb dL_law_21 (by decide) ?_
    refine lv_isub hx hb dL_law_22 ?_
    refine lv_icmp_gt (tgt := 939) hx hb dL_law_23 (by decide) (fun _ => ?_) (fun cq => ?_)
    · refine lv_iconst (v := 1) hx hb dL_law_939 (by decide) ?_
      refine va_forget (fun q hq => hS.2.2 q hq) ?_
      refine W.widen (k := 600000) (n := 7302250) (Nat.le_of_ble_eq_true rfl) (Nat.le_of_ble_eq_true rfl) ?_
      exact lw_ret hx hb hr hlocks dL_law_940
    · have hk : 5 * k + 5 ≤ L := by
        rw [Int32.lt_iff_toInt_lt, law_len L (by omega), nI_toInt (by omega)] at cq
        omega
      have hnext : ∀ (w1 w2 : va_W) (H : Heap) (locs : List Loc), Two (k + 1) x y cI cJ cZ w1 w2 → tw D (LA s) w1 w2 H → va_S (LA s) s.heap H locs → W p l e room_1 s m #[Value.ref b] below meth c H locs 45 561 (lw_Z below #[Value.ref b] s) (F0 m 933 ls []) := by
        intro w1 w2 H locs hT hW hS
        refine lv_iinc (v := nI (5 * (k + 1))) (lv' := [(3, .int (nI (5 * (k + 1)))), (0, .ref b), (1, .ref x), (2, .ref y)]) hx hb dL_law_933 hl (k := 3) rfl (by rw [Nat.mul_succ]; exact nI_add (5 * k) 5) (by decide) rfl (fun ls hl => ?_)
        refine lv_goto (tgt := 18) hx hb dL_law_936 (by decide) ?_
        exact ih (k + 1) (by omega) (by omega) w1 w2 H locs ls hT hW hS (lv_sub hl [1, 2, 3, 0] rfl)
      refine lv_aload_n hx hb dL_law_26 rfl (lv_at hl 0 rfl) ?_
      refine lv_iload_n hx hb dL_law_27 rfl (lv_at hl 3 rfl) ?_
      refine va_sld hx hb hX hbl hbA hS (vp_in_nI (by omega) (by omega)) dL_law_28 ?_
      refine lv_bipush (v := 31) hx hb dL_law_29 (by decide) ?_
      refine lv_iand hx hb dL_law_31 ?_
      refine lv_topi (fun z _ => ?_)
      by_cases c0 : z = 0
      · refine lv_tableIn (tgt := 160) hx hb dL_law_32 (by rw [c0]; decide) (by rw [c0]; decide) (by rw [c0]; rfl) (by decide) ?_
        exact lc_write hL C0 hK hk hT hW hS hl hnext
      by_cases c1 : z = 1
      · refine lv_tableIn (tgt := 183) hx hb dL_law_32 (by rw [c1]; decide) (by rw [c1]; decide) (by rw [c1]; rfl) (by decide) ?_
        exact lc_wipe hL C0 hK hk hT hW hS hl hnext
      by_cases c2 : z = 2
      · refine lv_tableIn (tgt := 196) hx hb dL_law_32 (by rw [c2]; decide) (by rw [c2]; decide) (by rw [c2]; rfl) (by decide) ?_
        exact lc_fault hL C0 hK hk hT hW hS hl hnext
      by_cases c3 : z = 3
      · refine lv_tableIn (tgt := 209) hx hb dL_law_32 (by rw [c3]; decide) (by rw [c3]; decide) (by rw [c3]; rfl) (by decide) ?_
        exact lc_floor hL C0 hK hk hT hW hS hl hnext
      by_cases c4 : z = 4
      · refine lv_tableIn (tgt := 222) hx hb dL_law_32 (by rw [c4]; decide) (by rw [c4]; decide) (by rw [c4]; rfl) (by decide) ?_
        exact lc_person hL C0 hK hk hT hW hS hl hnext
      by_cases c5 : z = 5
      · refine lv_tableIn (tgt := 255) hx hb dL_law_32 (by rw [c5]; decide) (by rw [c5]; decide) (by rw [c5]; rfl) (by decide) ?_
        exact lc_grain hL C0 hK hk hT hW hS hl hnext
      by_cases c6 : z = 6
      · refine lv_tableIn (tgt := 288) hx hb dL_law_32 (by rw [c6]; decide) (by rw [c6]; decide) (by rw [c6]; rfl) (by decide) ?_
        exact lc_toss hL C0 hK hk hT hW hS hl hnext
      by_cases c7 : z = 7
      · refine lv_tableIn (tgt := 311) hx hb dL_law_32 (by rw [c7]; decide) (by rw [c7]; decide) (by rw [c7]; rfl) (by decide) ?_
        exact lc_calm hL C0 hK hk hT hW hS hl hnext
      by_cases c8 : z = 8
      · refine lv_tableIn (tgt := 324) hx hb dL_law_32 (by rw [c8]; decide) (by rw [c8]; decide) (by rw [c8]; rfl) (by decide) ?_
        exact lc_pick hL C0 hK hk hT hW hS hl hnext
      by_cases c9 : z = 9
      · refine lv_tableIn (tgt := 347) hx hb dL_law_32 (by rw [c9]; decide) (by rw [c9]; decide) (by rw [c9]; rfl) (by decide) ?_
        exact lc_fan hL C0 hK hk hT hW hS hl hnext
      by_cases c10 : z = 10
      · refine lv_tableIn (tgt := 370) hx hb dL_law_32 (by rw [c10]; decide) (by rw [c10]; decide) (by rw [c10]; rfl) (by decide) ?_
        exact lc_undo hL C0 hK hk hT hW hS hl hnext
      by_cases c11 : z = 11
      · refine lv_tableIn (tgt := 383) hx hb dL_law_32 (by rw [c11]; decide) (by rw [c11]; decide) (by rw [c11]; rfl) (by decide) ?_
        exact lc_best hL C0 hK hk hT hW hS hl hnext
      by_cases c12 : z = 12
      · refine lv_tableIn (tgt := 432) hx hb dL_law_32 (by rw [c12]; decide) (by rw [c12]; decide) (by rw [c12]; rfl) (by decide) ?_
        exact lc_fewest hL C0 hK hk hT hW hS hl hnext
      by_cases c13 : z = 13
      · refine lv_tableIn (tgt := 455) hx hb dL_law_32 (by rw [c13]; decide) (by rw [c13]; decide) (by rw [c13]; rfl) (by decide) ?_
        exact lc_when hL C0 hK hk hT hW hS hl hnext
      by_cases c14 : z = 14
      · refine lv_tableIn (tgt := 478) hx hb dL_law_32 (by rw [c14]; decide) (by rw [c14]; decide) (by rw [c14]; rfl) (by decide) ?_
        exact lc_votes hL C0 hK hk hT hW hS hl hnext
      by_cases c15 : z = 15
      · refine lv_tableIn (tgt := 501) hx hb dL_law_32 (by rw [c15]; decide) (by rw [c15]; decide) (by rw [c15]; rfl) (by decide) ?_
        exact lc_chosen hL C0 hK hk hT hW hS hl hnext
      by_cases c16 : z = 16
      · refine lv_tableIn (tgt := 514) hx hb dL_law_32 (by rw [c16]; decide) (by rw [c16]; decide) (by rw [c16]; rfl) (by decide) ?_
        exact lc_judge hL C0 hK hk hT hW hS hl hnext
      by_cases c17 : z = 17
      · refine lv_tableIn (tgt := 547) hx hb dL_law_32 (by rw [c17]; decide) (by rw [c17]; decide) (by rw [c17]; rfl) (by decide) ?_
        exact lc_see hL C0 hK hk hT hW hS hl hnext
      by_cases c18 : z = 18
      · refine lv_tableIn (tgt := 590) hx hb dL_law_32 (by rw [c18]; decide) (by rw [c18]; decide) (by rw [c18]; rfl) (by decide) ?_
        exact lc_unsee hL C0 hK hk hT hW hS hl hnext
      by_cases c19 : z = 19
      · refine lv_tableIn (tgt := 603) hx hb dL_law_32 (by rw [c19]; decide) (by rw [c19]; decide) (by rw [c19]; rfl) (by decide) ?_
        exact lc_weights hL C0 hK hk hT hW hS hl hnext
      by_cases c20 : z = 20
      · refine lv_tableIn (tgt := 626) hx hb dL_law_32 (by rw [c20]; decide) (by rw [c20]; decide) (by rw [c20]; rfl) (by decide) ?_
        exact lc_share hL C0 hK hk hT hW hS hl hnext
      by_cases c21 : z = 21
      · refine lv_tableIn (tgt := 675) hx hb dL_law_32 (by rw [c21]; decide) (by rw [c21]; decide) (by rw [c21]; rfl) (by decide) ?_
        exact lc_rests hL C0 hK hk hT hW hS hl hnext
      by_cases c22 : z = 22
      · refine lv_tableIn (tgt := 718) hx hb dL_law_32 (by rw [c22]; decide) (by rw [c22]; decide) (by rw [c22]; rfl) (by decide) ?_
        exact lc_gust hL C0 hK hk hT hW hS hl hnext
      by_cases c23 : z = 23
      · refine lv_tableIn (tgt := 787) hx hb dL_law_32 (by rw [c23]; decide) (by rw [c23]; decide) (by rw [c23]; rfl) (by decide) ?_
        exact lc_seed hL C0 hK hk hT hW hS hl hnext
      by_cases c24 : z = 24
      · refine lv_tableIn (tgt := 841) hx hb dL_law_32 (by rw [c24]; decide) (by rw [c24]; decide) (by rw [c24]; rfl) (by decide) ?_
        exact lc_years hL C0 hK hk hT hW hS hl hnext
      by_cases c25 : z = 25
      · refine lv_tableIn (tgt := 864) hx hb dL_law_32 (by rw [c25]; decide) (by rw [c25]; decide) (by rw [c25]; rfl) (by decide) ?_
        exact lc_keep hL C0 hK hk hT hW hS hl hnext
      by_cases c26 : z = 26
      · refine lv_tableIn (tgt := 887) hx hb dL_law_32 (by rw [c26]; decide) (by rw [c26]; decide) (by rw [c26]; rfl) (by decide) ?_
        exact lc_again hL C0 hK hk hT hW hS hl hnext
      by_cases c27 : z = 27
      · refine lv_tableIn (tgt := 910) hx hb dL_law_32 (by rw [c27]; decide) (by rw [c27]; decide) (by rw [c27]; rfl) (by decide) ?_
        exact lc_count hL C0 hK hk hT hW hS hl hnext
      refine lv_tableOut (tgt := 933) hx hb dL_law_32 (by have := lv_neT (a := 0) c0 (by decide); have := lv_neT (a := 1) c1 (by decide); have := lv_neT (a := 2) c2 (by decide); have := lv_neT (a := 3) c3 (by decide); have := lv_neT (a := 4) c4 (by decide); have := lv_neT (a := 5) c5 (by decide); have := lv_neT (a := 6) c6 (by decide); have := lv_neT (a := 7) c7 (by decide); have := lv_neT (a := 8) c8 (by decide); have := lv_neT (a := 9) c9 (by decide); have := lv_neT (a := 10) c10 (by decide); have := lv_neT (a := 11) c11 (by decide); have := lv_neT (a := 12) c12 (by decide); have := lv_neT (a := 13) c13 (by decide); have := lv_neT (a := 14) c14 (by decide); have := lv_neT (a := 15) c15 (by decide); have := lv_neT (a := 16) c16 (by decide); have := lv_neT (a := 17) c17 (by decide); have := lv_neT (a := 18) c18 (by decide); have := lv_neT (a := 19) c19 (by decide); have := lv_neT (a := 20) c20 (by decide); have := lv_neT (a := 21) c21 (by decide); have := lv_neT (a := 22) c22 (by decide); have := lv_neT (a := 23) c23 (by decide); have := lv_neT (a := 24) c24 (by decide); have := lv_neT (a := 25) c25 (by decide); have := lv_neT (a := 26) c26 (by decide); have := lv_neT (a := 27) c27 (by decide); omega) (by decide) ?_
      exact hnext w1 w2 H locs (two_up hT) hW hS
end LOOP
