section LAW
variable {p : Program} {l : Launch} {e : Env} {s : State} {m : MethodId} {below : List Frame} {meth : Method} {c : Code} {D : va_G} {cI cJ cZ : ClassId} {b L : Nat} {xs : Nat → Int32} {x y k : Nat} {w1 w2 : va_W} {H : Heap} {locs : List Loc} {ls : Array Slot}
set_option maxHeartbeats 4000000 in
set_option maxRecDepth 100000 in
theorem lc_votes (hL : L ≤ 320) (C0 : lw_At p s m meth c b L xs) (hK : kK D cI cJ cZ s) (hk : 5 * k + 5 ≤ L) (hT : Two k x y cI cJ cZ w1 w2) (hW : tw D (LA s) w1 w2 H) (hS : va_S (LA s) s.heap H locs) (hl : lv_has ls 4 [(0, .ref b), (1, .ref x), (2, .ref y), (3, .int (nI (5 * k)))]) (kk : ∀ (w1 w2 : va_W) (H : Heap) (locs : List Loc), Two (k + 1) x y cI cJ cZ w1 w2 → tw D (LA s) w1 w2 H → va_S (LA s) s.heap H locs → W p l e room_1 s m #[Value.ref b] below meth c H locs 45 561 (lw_Z below #[Value.ref b] s) (F0 m 933 ls [])) : W p l e room_1 s m #[Value.ref b] below meth c H locs 45 561 (lw_Z below #[Value.ref b] s) (F0 m 478 ls []) := by
  obtain ⟨hx, hb, hr, hml, hown, hts0, hX, hbl, hlocks, hgv⟩ := C0
  have hown : s.vm.findClass RL = some m.cls := hown
  have hts : ∀ w ∈ wsL_law, w.before #[Value.ref b] s = true := fun w h => hts0 w (wsL_law_in w h)
  have hA : ∀ q : Nat, s.heap.size ≤ q → LA s q := fun _ h => h
  have hbA : ¬ LA s b := Nat.not_le.mpr hbl
  obtain ⟨f1, fx⟩ := two_x hT
  obtain ⟨f2, fy⟩ := two_y hT
  refine lv_aload_n hx hb dL_law_478 rfl (lv_at hl 1 rfl) ?_
  refine lv_aload_n hx hb dL_law_479 rfl (lv_at hl 0 rfl) ?_
  refine lv_iload_n hx hb dL_law_480 rfl (lv_at hl 3 rfl) ?_
  refine lv_iconst (v := 1) hx hb dL_law_481 (by decide) ?_
  refine lv_iadd hx hb dL_law_482 ?_
  refine va_sld hx hb hX hbl hbA hS (law_in (j := 1) hk hL (by decide)) dL_law_483 ?_
  obtain ⟨v, w1n, w2n, m1, m2, hT1⟩ := lw_votes l (D := D) hT (by omega) (xs (Int32.toNatClampNeg (nI (5 * k) + 1)))
  refine wcI2 (va_runV (As := [.int (xs (Int32.toNatClampNeg (nI (5 * k) + 1)))]) (rest := []) ⟨hx, hb, hml, hown, hts⟩ (m1 H.size) (cwV 1 hts gL_law_X11_votes rfl rfl rfl (by decide +kernel) ⟨Nat.le_of_ble_eq_true rfl, Nat.le_of_ble_eq_true rfl⟩) (wPreV hK hW.1 hW.2.2.1 (ci := 4) (q0 := 0) rfl fx) rfl rfl hl.1 rfl (lv_room (Nat.le_of_ble_eq_true rfl)) dL_law_484 ⟨Nat.le_of_ble_eq_true rfl, Nat.le_of_ble_eq_true rfl⟩) hW hS hA (fun H locs hW hS => ?_)
  have hW := tw_symm hW
  refine lv_aload_n hx hb dL_law_487 rfl (lv_at hl 2 rfl) ?_
  refine lv_aload_n hx hb dL_law_488 rfl (lv_at hl 0 rfl) ?_
  refine lv_iload_n hx hb dL_law_489 rfl (lv_at hl 3 rfl) ?_
  refine lv_iconst (v := 1) hx hb dL_law_490 (by decide) ?_
  refine lv_iadd hx hb dL_law_491 ?_
  refine va_sld hx hb hX hbl hbA hS (law_in (j := 1) hk hL (by decide)) dL_law_492 ?_
  refine wcI2 (va_runV (As := [.int (xs (Int32.toNatClampNeg (nI (5 * k) + 1)))]) (rest := [.int v]) ⟨hx, hb, hml, hown, hts⟩ (m2 H.size) (cwV 1 hts gL_law_X12_votes rfl rfl rfl (by decide +kernel) ⟨Nat.le_of_ble_eq_true rfl, Nat.le_of_ble_eq_true rfl⟩) (wPreV hK hW.1 hW.2.2.1 (ci := 5) (q0 := 0) rfl fy) rfl rfl hl.1 rfl (lv_room (Nat.le_of_ble_eq_true rfl)) dL_law_493 ⟨Nat.le_of_ble_eq_true rfl, Nat.le_of_ble_eq_true rfl⟩) hW hS hA (fun H locs hW hS => ?_)
  have hW := tw_symm hW
  refine lv_icmp_eq (tgt := 933) hx hb dL_law_496 (by decide) (fun _ => ?_) (fun q => absurd rfl q)
  exact kk _ _ _ _ hT1 hW hS
set_option maxHeartbeats 4000000 in
set_option maxRecDepth 100000 in
theorem lc_chosen (hL : L ≤ 320) (C0 : lw_At p s m meth c b L xs) (hK : kK D cI cJ cZ s) (hk : 5 * k + 5 ≤ L) (hT : Two k x y cI cJ cZ w1 w2) (hW : tw D (LA s) w1 w2 H) (hS : va_S (LA s) s.heap H locs) (hl : lv_has ls 4 [(0, .ref b), (1, .ref x), (2, .ref y), (3, .int (nI (5 * k)))]) (kk : ∀ (w1 w2 : va_W) (H : Heap) (locs : List Loc), Two (k + 1) x y cI cJ cZ w1 w2 → tw D (LA s) w1 w2 H → va_S (LA s) s.heap H locs → W p l e room_1 s m #[Value.ref b] below meth c H locs 45 561 (lw_Z below #[Value.ref b] s) (F0 m 933 ls [])) : W p l e room_1 s m #[Value.ref b] below meth c H locs 45 561 (lw_Z below #[Value.ref b] s) (F0 m 501 ls []) := by
  obtain ⟨hx, hb, hr, hml, hown, hts0, hX, hbl, hlocks, hgv⟩ := C0
  have hown : s.vm.findClass RL = some m.cls := hown
  have hts : ∀ w ∈ wsL_law, w.before #[Value.ref b] s = true := fun w h => hts0 w (wsL_law_in w h)
  have hA : ∀ q : Nat, s.heap.size ≤ q → LA s q := fun _ h => h
  have hbA : ¬ LA s b := Nat.not_le.mpr hbl
  obtain ⟨f1, fx⟩ := two_x hT
  obtain ⟨f2, fy⟩ := two_y hT
  refine lv_aload_n hx hb dL_law_501 rfl (lv_at hl 1 rfl) ?_
  obtain ⟨v, w1n, w2n, m1, m2, hT1⟩ := lw_chosen l (D := D) hT (by omega)
  refine wcI2 (va_runV (As := []) (rest := []) ⟨hx, hb, hml, hown, hts⟩ (m1 H.size) (cwV 0 hts gL_law_X11_chosen rfl rfl rfl (by decide +kernel) ⟨Nat.le_of_ble_eq_true rfl, Nat.le_of_ble_eq_true rfl⟩) (wPreV hK hW.1 hW.2.2.1 (ci := 4) (q0 := 0) rfl fx) rfl rfl hl.1 rfl (lv_room (Nat.le_of_ble_eq_true rfl)) dL_law_502 ⟨Nat.le_of_ble_eq_true rfl, Nat.le_of_ble_eq_true rfl⟩) hW hS hA (fun H locs hW hS => ?_)
  have hW := tw_symm hW
  refine lv_aload_n hx hb dL_law_505 rfl (lv_at hl 2 rfl) ?_
  refine wcI2 (va_runV (As := []) (rest := [.int v]) ⟨hx, hb, hml, hown, hts⟩ (m2 H.size) (cwV 0 hts gL_law_X12_chosen rfl rfl rfl (by decide +kernel) ⟨Nat.le_of_ble_eq_true rfl, Nat.le_of_ble_eq_true rfl⟩) (wPreV hK hW.1 hW.2.2.1 (ci := 5) (q0 := 0) rfl fy) rfl rfl hl.1 rfl (lv_room (Nat.le_of_ble_eq_true rfl)) dL_law_506 ⟨Nat.le_of_ble_eq_true rfl, Nat.le_of_ble_eq_true rfl⟩) hW hS hA (fun H locs hW hS => ?_)
  have hW := tw_symm hW
  refine lv_icmp_eq (tgt := 933) hx hb dL_law_509 (by decide) (fun _ => ?_) (fun q => absurd rfl q)
  exact kk _ _ _ _ hT1 hW hS
set_option maxHeartbeats 4000000 in
set_option maxRecDepth 100000 in
theorem lc_judge (hL : L ≤ 320) (C0 : lw_At p s m meth c b L xs) (hK : kK D cI cJ cZ s) (hk : 5 * k + 5 ≤ L) (hT : Two k x y cI cJ cZ w1 w2) (hW : tw D (LA s) w1 w2 H) (hS : va_S (LA s) s.heap H locs) (hl : lv_has ls 4 [(0, .ref b), (1, .ref x), (2, .ref y), (3, .int (nI (5 * k)))]) (kk : ∀ (w1 w2 : va_W) (H : Heap) (locs : List Loc), Two (k + 1) x y cI cJ cZ w1 w2 → tw D (LA s) w1 w2 H → va_S (LA s) s.heap H locs → W p l e room_1 s m #[Value.ref b] below meth c H locs 45 561 (lw_Z below #[Value.ref b] s) (F0 m 933 ls [])) : W p l e room_1 s m #[Value.ref b] below meth c H locs 45 561 (lw_Z below #[Value.ref b] s) (F0 m 514 ls []) := by
  obtain ⟨hx, hb, hr, hml, hown, hts0, hX, hbl, hlocks, hgv⟩ := C0
  have hown : s.vm.findClass RL = some m.cls := hown
  have hts : ∀ w ∈ wsL_law, w.before #[Value.ref b] s = true := fun w h => hts0 w (wsL_law_in w h)
  have hA : ∀ q : Nat, s.heap.size ≤ q → LA s q := fun _ h => h
  have hbA : ¬ LA s b := Nat.not_le.mpr hbl
  obtain ⟨f1, fx⟩ := two_x hT
  obtain ⟨f2, fy⟩ := two_y hT
  refine lv_aload_n hx hb dL_law_514 rfl (lv_at hl 1 rfl) ?_
  refine lv_aload_n hx hb dL_law_515 rfl (lv_at hl 0 rfl) ?_
  refine lv_iload_n hx hb dL_law_516 rfl (lv_at hl 3 rfl) ?_
  refine lv_iconst (v := 1) hx hb dL_law_517 (by decide) ?_
  refine lv_iadd hx hb dL_law_518 ?_
  refine va_sld hx hb hX hbl hbA hS (law_in (j := 1) hk hL (by decide)) dL_law_519 ?_
  refine lv_aload_n hx hb dL_law_520 rfl (lv_at hl 0 rfl) ?_
  refine lv_iload_n hx hb dL_law_521 rfl (lv_at hl 3 rfl) ?_
  refine lv_iconst (v := 2) hx hb dL_law_522 (by decide) ?_
  refine lv_iadd hx hb dL_law_523 ?_
  refine va_sld hx hb hX hbl hbA hS (law_in (j := 2) hk hL (by decide)) dL_law_524 ?_
  obtain ⟨v, w2n, m1, m2, hT1⟩ := lw_judge l (D := D) hT (by omega) (xs (Int32.toNatClampNeg (nI (5 * k) + 1))) (xs (Int32.toNatClampNeg (nI (5 * k) + 2)))
  refine rcI (va_runV (As := [.int (xs (Int32.toNatClampNeg (nI (5 * k) + 1))), .int (xs (Int32.toNatClampNeg (nI (5 * k) + 2)))]) (rest := []) ⟨hx, hb, hml, hown, hts⟩ (m1 H hW.1) (cwV 2 hts gL_law_X11_judge rfl rfl rfl (by decide +kernel) ⟨Nat.le_of_ble_eq_true rfl, Nat.le_of_ble_eq_true rfl⟩) (rPreV hK hW.1 (ci := 4) (q0 := 0) rfl fx) rfl rfl hl.1 rfl (lv_room (Nat.le_of_ble_eq_true rfl)) dL_law_525 ⟨Nat.le_of_ble_eq_true rfl, Nat.le_of_ble_eq_true rfl⟩) ?_
  have hW := tw_symm hW
  refine lv_aload_n hx hb dL_law_528 rfl (lv_at hl 2 rfl) ?_
  refine lv_aload_n hx hb dL_law_529 rfl (lv_at hl 0 rfl) ?_
  refine lv_iload_n hx hb dL_law_530 rfl (lv_at hl 3 rfl) ?_
  refine lv_iconst (v := 1) hx hb dL_law_531 (by decide) ?_
  refine lv_iadd hx hb dL_law_532 ?_
  refine va_sld hx hb hX hbl hbA hS (law_in (j := 1) hk hL (by decide)) dL_law_533 ?_
  refine lv_aload_n hx hb dL_law_534 rfl (lv_at hl 0 rfl) ?_
  refine lv_iload_n hx hb dL_law_535 rfl (lv_at hl 3 rfl) ?_
  refine lv_iconst (v := 2) hx hb dL_law_536 (by decide) ?_
  refine lv_iadd hx hb dL_law_537 ?_
  refine va_sld hx hb hX hbl hbA hS (law_in (j := 2) hk hL (by decide)) dL_law_538 ?_
  refine wcI2 (va_runV (As := [.int (xs (Int32.toNatClampNeg (nI (5 * k) + 1))), .int (xs (Int32.toNatClampNeg (nI (5 * k) + 2)))]) (rest := [.int v]) ⟨hx, hb, hml, hown, hts⟩ (m2 H.size) (cwV 2 hts gL_law_X12_judge rfl rfl rfl (by decide +kernel) ⟨Nat.le_of_ble_eq_true rfl, Nat.le_of_ble_eq_true rfl⟩) (wPreV hK hW.1 hW.2.2.1 (ci := 5) (q0 := 0) rfl fy) rfl rfl hl.1 rfl (lv_room (Nat.le_of_ble_eq_true rfl)) dL_law_539 ⟨Nat.le_of_ble_eq_true rfl, Nat.le_of_ble_eq_true rfl⟩) hW hS hA (fun H locs hW hS => ?_)
  have hW := tw_symm hW
  refine lv_icmp_eq (tgt := 933) hx hb dL_law_542 (by decide) (fun _ => ?_) (fun q => absurd rfl q)
  exact kk _ _ _ _ hT1 hW hS
set_option maxHeartbeats 4000000 in
set_option maxRecDepth 100000 in
theorem lc_see (hL : L ≤ 320) (C0 : lw_At p s m meth c b L xs) (hK : kK D cI cJ cZ s) (hk : 5 * k + 5 ≤ L) (hT : Two k x y cI cJ cZ w1 w2) (hW : tw D (LA s) w1 w2 H) (hS : va_S (LA s) s.heap H locs) (hl : lv_has ls 4 [(0, .ref b), (1, .ref x), (2, .ref y), (3, .int (nI (5 * k)))]) (kk : ∀ (w1 w2 : va_W) (H : Heap) (locs : List Loc), Two (k + 1) x y cI cJ cZ w1 w2 → tw D (LA s) w1 w2 H → va_S (LA s) s.heap H locs → W p l e room_1 s m #[Value.ref b] below meth c H locs 45 561 (lw_Z below #[Value.ref b] s) (F0 m 933 ls [])) : W p l e room_1 s m #[Value.ref b] below meth c H locs 45 561 (lw_Z below #[Value.ref b] s) (F0 m 547 ls []) := by
  obtain ⟨hx, hb, hr, hml, hown, hts0, hX, hbl, hlocks, hgv⟩ := C0
  have hown : s.vm.findClass RL = some m.cls := hown
  have hts : ∀ w ∈ wsL_law, w.before #[Value.ref b] s = true := fun w h => hts0 w (wsL_law_in w h)
  have hA : ∀ q : Nat, s.heap.size ≤ q → LA s q := fun _ h => h
  have hbA : ¬ LA s b := Nat.not_le.mpr hbl
  obtain ⟨f1, fx⟩ := two_x hT
  obtain ⟨f2, fy⟩ := two_y hT
  refine lv_aload_n hx hb dL_law_547 rfl (lv_at hl 1 rfl) ?_
  refine lv_aload_n hx hb dL_law_548 rfl (lv_at hl 0 rfl) ?_
  refine lv_iload_n hx hb dL_law_549 rfl (lv_at hl 3 rfl) ?_
  refine lv_iconst (v := 1) hx hb dL_law_550 (by decide) ?_
  refine lv_iadd hx hb dL_law_551 ?_
  refine va_sld hx hb hX hbl hbA hS (law_in (j := 1) hk hL (by decide)) dL_law_552 ?_
  refine lv_aload_n hx hb dL_law_553 rfl (lv_at hl 0 rfl) ?_
  refine lv_iload_n hx hb dL_law_554 rfl (lv_at hl 3 rfl) ?_
  refine lv_iconst (v := 2) hx hb dL_law_555 (by decide) ?_
  refine lv_iadd hx hb dL_law_556 ?_
  refine va_sld hx hb hX hbl hbA hS (law_in (j := 2) hk hL (by decide)) dL_law_557 ?_
  refine lv_aload_n hx hb dL_law_558 rfl (lv_at hl 0 rfl) ?_
  refine lv_iload_n hx hb dL_law_559 rfl (lv_at hl 3 rfl) ?_
  refine lv_iconst (v := 3) hx hb dL_law_560 (by decide) ?_
  refine lv_iadd hx hb dL_law_561 ?_
  refine va_sld hx hb hX hbl hbA hS (law_in (j := 3) hk hL (by decide)) dL_law_562 ?_
  obtain ⟨v, w1n, w2n, m1, m2, hT1⟩ := lw_see l (D := D) hT (by omega) (xs (Int32.toNatClampNeg (nI (5 * k) + 1))) (xs (Int32.toNatClampNeg (nI (5 * k) + 2))) (xs (Int32.toNatClampNeg (nI (5 * k) + 3)))
  refine wcI2 (va_runV (As := [.int (xs (Int32.toNatClampNeg (nI (5 * k) + 1))), .int (xs (Int32.toNatClampNeg (nI (5 * k) + 2))), .int (xs (Int32.toNatClampNeg (nI (5 * k) + 3)))]) (rest := []) ⟨hx, hb, hml, hown, hts⟩ (m1 H.size) (cwV 3 hts gL_law_X11_see rfl rfl rfl (by decide +kernel) ⟨Nat.le_of_ble_eq_true rfl, Nat.le_of_ble_eq_true rfl⟩) (wPreV hK hW.1 hW.2.2.1 (ci := 4) (q0 := 0) rfl fx) rfl rfl hl.1 rfl (lv_room (Nat.le_of_ble_eq_true rfl)) dL_law_563 ⟨Nat.le_of_ble_eq_true rfl, Nat.le_of_ble_eq_true rfl⟩) hW hS hA (fun H locs hW hS => ?_)
  have hW := tw_symm hW
  refine lv_aload_n hx hb dL_law_566 rfl (lv_at hl 2 rfl) ?_
  refine lv_aload_n hx hb dL_law_567 rfl (lv_at hl 0 rfl) ?_
  refine lv_iload_n hx hb dL_law_568 rfl (lv_at hl 3 rfl) ?_
  refine lv_iconst (v := 1) hx hb dL_law_569 (by decide) ?_
  refine lv_iadd hx hb dL_law_570 ?_
  refine va_sld hx hb hX hbl hbA hS (law_in (j := 1) hk hL (by decide)) dL_law_571 ?_
  refine lv_aload_n hx hb dL_law_572 rfl (lv_at hl 0 rfl) ?_
  refine lv_iload_n hx hb dL_law_573 rfl (lv_at hl 3 rfl) ?_
  refine lv_iconst (v := 2) hx hb dL_law_574 (by decide) ?_
  refine lv_iadd hx hb dL_law_575 ?_
  refine va_sld hx hb hX hbl hbA hS (law_in (j := 2) hk hL (by decide)) dL_law_576 ?_
  refine lv_aload_n hx hb dL_law_577 rfl (lv_at hl 0 rfl) ?_
  refine lv_iload_n hx hb dL_law_578 rfl (lv_at hl 3 rfl) ?_
  refine lv_iconst (v := 3) hx hb dL_law_579 (by decide) ?_
  refine lv_iadd hx hb dL_law_580 ?_
  refine va_sld hx hb hX hbl hbA hS (law_in (j := 3) hk hL (by decide)) dL_law_581 ?_
  refine wcI2 (va_runV (As := [.int (xs (Int32.toNatClampNeg (nI (5 * k) + 1))), .int (xs (Int32.toNatClampNeg (nI (5 * k) + 2))), .int (xs (Int32.toNatClampNeg (nI (5 * k) + 3)))]) (rest := [.int v]) ⟨hx, hb, hml, hown, hts⟩ (m2 H.size) (cwV 3 hts gL_law_X12_see rfl rfl rfl (by decide +kernel) ⟨Nat.le_of_ble_eq_true rfl, Nat.le_of_ble_eq_true rfl⟩) (wPreV hK hW.1 hW.2.2.1 (ci := 5) (q0 := 0) rfl fy) rfl rfl hl.1 rfl (lv_room (Nat.le_of_ble_eq_true rfl)) dL_law_582 ⟨Nat.le_of_ble_eq_true rfl, Nat.le_of_ble_eq_true rfl⟩) hW hS hA (fun H locs hW hS => ?_)
  have hW := tw_symm hW
  refine lv_icmp_eq (tgt := 933) hx hb dL_law_585 (by decide) (fun _ => ?_) (fun q => absurd rfl q)
  exact kk _ _ _ _ hT1 hW hS
set_option maxHeartbeats 4000000 in
set_option maxRecDepth 100000 in
theorem lc_unsee (hL : L ≤ 320) (C0 : lw_At p s m meth c b L xs) (hK : kK D cI cJ cZ s) (hk : 5 * k + 5 ≤ L) (hT : Two k x y cI cJ cZ w1 w2) (hW : tw D (LA s) w1 w2 H) (hS : va_S (LA s) s.heap H locs) (hl : lv_has ls 4 [(0, .ref b), (1, .ref x), (2, .ref y), (3, .int (nI (5 * k)))]) (kk : ∀ (w1 w2 : va_W) (H : Heap) (locs : List Loc), Two (k + 1) x y cI cJ cZ w1 w2 → tw D (LA s) w1 w2 H → va_S (LA s) s.heap H locs → W p l e room_1 s m #[Value.ref b] below meth c H locs 45 561 (lw_Z below #[Value.ref b] s) (F0 m 933 ls [])) : W p l e room_1 s m #[Value.ref b] below meth c H locs 45 561 (lw_Z below #[Value.ref b] s) (F0 m 590 ls []) := by
  obtain ⟨hx, hb, hr, hml, hown, hts0, hX, hbl, hlocks, hgv⟩ := C0
  have hown : s.vm.findClass RL = some m.cls := hown
  have hts : ∀ w ∈ wsL_law, w.before #[Value.ref b] s = true := fun w h => hts0 w (wsL_law_in w h)
  have hA : ∀ q : Nat, s.heap.size ≤ q → LA s q := fun _ h => h
  have hbA : ¬ LA s b := Nat.not_le.mpr hbl
  obtain ⟨f1, fx⟩ := two_x hT
  obtain ⟨f2, fy⟩ := two_y hT
  refine lv_aload_n hx hb dL_law_590 rfl (lv_at hl 1 rfl) ?_
  obtain ⟨v, w1n, w2n, m1, m2, hT1⟩ := lw_unsee l (D := D) hT (by omega)
  refine wcI2 (va_runV (As := []) (rest := []) ⟨hx, hb, hml, hown, hts⟩ (m1 H.size) (cwV 0 hts gL_law_X11_unsee rfl rfl rfl (by decide +kernel) ⟨Nat.le_of_ble_eq_true rfl, Nat.le_of_ble_eq_true rfl⟩) (wPreV hK hW.1 hW.2.2.1 (ci := 4) (q0 := 0) rfl fx) rfl rfl hl.1 rfl (lv_room (Nat.le_of_ble_eq_true rfl)) dL_law_591 ⟨Nat.le_of_ble_eq_true rfl, Nat.le_of_ble_eq_true rfl⟩) hW hS hA (fun H locs hW hS => ?_)
  have hW := tw_symm hW
  refine lv_aload_n hx hb dL_law_594 rfl (lv_at hl 2 rfl) ?_
  refine wcI2 (va_runV (As := []) (rest := [.int v]) ⟨hx, hb, hml, hown, hts⟩ (m2 H.size) (cwV 0 hts gL_law_X12_unsee rfl rfl rfl (by decide +kernel) ⟨Nat.le_of_ble_eq_true rfl, Nat.le_of_ble_eq_true rfl⟩) (wPreV hK hW.1 hW.2.2.1 (ci := 5) (q0 := 0) rfl fy) rfl rfl hl.1 rfl (lv_room (Nat.le_of_ble_eq_true rfl)) dL_law_595 ⟨Nat.le_of_ble_eq_true rfl, Nat.le_of_ble_eq_true rfl⟩) hW hS hA (fun H locs hW hS => ?_)
  have hW := tw_symm hW
  refine lv_icmp_eq (tgt := 933) hx hb dL_law_598 (by decide) (fun _ => ?_) (fun q => absurd rfl q)
  exact kk _ _ _ _ hT1 hW hS
set_option maxHeartbeats 4000000 in
set_option maxRecDepth 100000 in
theorem lc_weights (hL : L ≤ 320) (C0 : lw_At p s m meth c b L xs) (hK : kK D cI cJ cZ s) (hk : 5 * k + 5 ≤ L) (hT : Two k x y cI cJ cZ w1 w2) (hW : tw D (LA s) w1 w2 H) (hS : va_S (LA s) s.heap H locs) (hl : lv_has ls 4 [(0, .ref b), (1, .ref x), (2, .ref y), (3, .int (nI (5 * k)))]) (kk : ∀ (w1 w2 : va_W) (H : Heap) (locs : List Loc), Two (k + 1) x y cI cJ cZ w1 w2 → tw D (LA s) w1 w2 H → va_S (LA s) s.heap H locs → W p l e room_1 s m #[Value.ref b] below meth c H locs 45 561 (lw_Z below #[Value.ref b] s) (F0 m 933 ls [])) : W p l e room_1 s m #[Value.ref b] below meth c H locs 45 561 (lw_Z below #[Value.ref b] s) (F0 m 603 ls []) := by
  obtain ⟨hx, hb, hr, hml, hown, hts0, hX, hbl, hlocks, hgv⟩ := C0
  have hown : s.vm.findClass RL = some m.cls := hown
  have hts : ∀ w ∈ wsL_law, w.before #[Value.ref b] s = true := fun w h => hts0 w (wsL_law_in w h)
  have hA : ∀ q : Nat, s.heap.size ≤ q → LA s q := fun _ h => h
  have hbA : ¬ LA s b := Nat.not_le.mpr hbl
  obtain ⟨f1, fx⟩ := two_x hT
  obtain ⟨f2, fy⟩ := two_y hT
  refine lv_aload_n hx hb dL_law_603 rfl (lv_at hl 1 rfl) ?_
  refine lv_aload_n hx hb dL_law_604 rfl (lv_at hl 0 rfl) ?_
  refine lv_iload_n hx hb dL_law_605 rfl (lv_at hl 3 rfl) ?_
  refine lv_iconst (v := 1) hx hb dL_law_606 (by decide) ?_
  refine lv_iadd hx hb dL_law_607 ?_
  refine va_sld hx hb hX hbl hbA hS (law_in (j := 1) hk hL (by decide)) dL_law_608 ?_
  obtain ⟨v, m1, m2, hT1⟩ := lw_weights l (D := D) hT (by omega) (xs (Int32.toNatClampNeg (nI (5 * k) + 1)))
  refine rcI (va_runV (As := [.int (xs (Int32.toNatClampNeg (nI (5 * k) + 1)))]) (rest := []) ⟨hx, hb, hml, hown, hts⟩ (m1 H hW.1) (cwV 1 hts gL_law_X11_weights rfl rfl rfl (by decide +kernel) ⟨Nat.le_of_ble_eq_true rfl, Nat.le_of_ble_eq_true rfl⟩) (rPreV hK hW.1 (ci := 4) (q0 := 0) rfl fx) rfl rfl hl.1 rfl (lv_room (Nat.le_of_ble_eq_true rfl)) dL_law_609 ⟨Nat.le_of_ble_eq_true rfl, Nat.le_of_ble_eq_true rfl⟩) ?_
  have hW := tw_symm hW
  refine lv_aload_n hx hb dL_law_612 rfl (lv_at hl 2 rfl) ?_
  refine lv_aload_n hx hb dL_law_613 rfl (lv_at hl 0 rfl) ?_
  refine lv_iload_n hx hb dL_law_614 rfl (lv_at hl 3 rfl) ?_
  refine lv_iconst (v := 1) hx hb dL_law_615 (by decide) ?_
  refine lv_iadd hx hb dL_law_616 ?_
  refine va_sld hx hb hX hbl hbA hS (law_in (j := 1) hk hL (by decide)) dL_law_617 ?_
  refine rcI (va_runV (As := [.int (xs (Int32.toNatClampNeg (nI (5 * k) + 1)))]) (rest := [.int v]) ⟨hx, hb, hml, hown, hts⟩ (m2 H hW.1) (cwV 1 hts gL_law_X12_weights rfl rfl rfl (by decide +kernel) ⟨Nat.le_of_ble_eq_true rfl, Nat.le_of_ble_eq_true rfl⟩) (rPreV hK hW.1 (ci := 5) (q0 := 0) rfl fy) rfl rfl hl.1 rfl (lv_room (Nat.le_of_ble_eq_true rfl)) dL_law_618 ⟨Nat.le_of_ble_eq_true rfl, Nat.le_of_ble_eq_true rfl⟩) ?_
  have hW := tw_symm hW
  refine lv_icmp_eq (tgt := 933) hx hb dL_law_621 (by decide) (fun _ => ?_) (fun q => absurd rfl q)
  exact kk _ _ _ _ hT1 hW hS
set_option maxHeartbeats 4000000 in
set_option maxRecDepth 100000 in
theorem lc_share (hL : L ≤ 320) (C0 : lw_At p s m meth c b L xs) (hK : kK D cI cJ cZ s) (hk : 5 * k + 5 ≤ L) (hT : Two k x y cI cJ cZ w1 w2) (hW : tw D (LA s) w1 w2 H) (hS : va_S (LA s) s.heap H locs) (hl : lv_has ls 4 [(0, .ref b), (1, .ref x), (2, .ref y), (3, .int (nI (5 * k)))]) (kk : ∀ (w1 w2 : va_W) (H : Heap) (locs : List Loc), Two (k + 1) x y cI cJ cZ w1 w2 → tw D (LA s) w1 w2 H → va_S (LA s) s.heap H locs → W p l e room_1 s m #[Value.ref b] below meth c H locs 45 561 (lw_Z below #[Value.ref b] s) (F0 m 933 ls [])) : W p l e room_1 s m #[Value.ref b] below meth c H locs 45 561 (lw_Z below #[Value.ref b] s) (F0 m 626 ls []) := by
  obtain ⟨hx, hb, hr, hml, hown, hts0, hX, hbl, hlocks, hgv⟩ := C0
  have hown : s.vm.findClass RL = some m.cls := hown
  have hts : ∀ w ∈ wsL_law, w.before #[Value.ref b] s = true := fun w h => hts0 w (wsL_law_in w h)
  have hA : ∀ q : Nat, s.heap.size ≤ q → LA s q := fun _ h => h
  have hbA : ¬ LA s b := Nat.not_le.mpr hbl
  obtain ⟨f1, fx⟩ := two_x hT
  obtain ⟨f2, fy⟩ := two_y hT
  by_cases cz : (xs (Int32.toNatClampNeg (nI (5 * k) + 2))) = 0
  · refine lv_aload_n hx hb dL_law_626 rfl (lv_at hl 1 rfl) ?_
    refine lv_aload_n hx hb dL_law_627 rfl (lv_at hl 0 rfl) ?_
    refine lv_iload_n hx hb dL_law_628 rfl (lv_at hl 3 rfl) ?_
    refine lv_iconst (v := 1) hx hb dL_law_629 (by decide) ?_
    refine lv_iadd hx hb dL_law_630 ?_
    refine va_sld hx hb hX hbl hbA hS (law_in (j := 1) hk hL (by decide)) dL_law_631 ?_
    refine lv_aload_n hx hb dL_law_632 rfl (lv_at hl 0 rfl) ?_
    refine lv_iload_n hx hb dL_law_633 rfl (lv_at hl 3 rfl) ?_
    refine lv_iconst (v := 2) hx hb dL_law_634 (by decide) ?_
    refine lv_iadd hx hb dL_law_635 ?_
    refine va_sld hx hb hX hbl hbA hS (law_in (j := 2) hk hL (by decide)) dL_law_636 ?_
    refine lv_if_eq (tgt := 644) hx hb dL_law_637 (by decide) (fun _ => ?_) (fun q => absurd cz q)
    refine lv_iconst (v := 0) hx hb dL_law_644 (by decide) ?_
    obtain ⟨v, w2n, m1, m2, hT1⟩ := lw_share l (D := D) hT (by omega) (xs (Int32.toNatClampNeg (nI (5 * k) + 1))) 0
    refine rcI (va_runV (As := [.int (xs (Int32.toNatClampNeg (nI (5 * k) + 1))), .int 0]) (rest := []) ⟨hx, hb, hml, hown, hts⟩ (m1 H hW.1) (cwV 2 hts gL_law_X11_share rfl rfl rfl (by decide +kernel) ⟨Nat.le_of_ble_eq_true rfl, Nat.le_of_ble_eq_true rfl⟩) (rPreV hK hW.1 (ci := 4) (q0 := 0) rfl fx) rfl rfl hl.1 rfl (lv_room (Nat.le_of_ble_eq_true rfl)) dL_law_645 ⟨Nat.le_of_ble_eq_true rfl, Nat.le_of_ble_eq_true rfl⟩) ?_
    have hW := tw_symm hW
    refine lv_aload_n hx hb dL_law_648 rfl (lv_at hl 2 rfl) ?_
    refine lv_aload_n hx hb dL_law_649 rfl (lv_at hl 0 rfl) ?_
    refine lv_iload_n hx hb dL_law_650 rfl (lv_at hl 3 rfl) ?_
    refine lv_iconst (v := 1) hx hb dL_law_651 (by decide) ?_
    refine lv_iadd hx hb dL_law_652 ?_
    refine va_sld hx hb hX hbl hbA hS (law_in (j := 1) hk hL (by decide)) dL_law_653 ?_
    refine lv_aload_n hx hb dL_law_654 rfl (lv_at hl 0 rfl) ?_
    refine lv_iload_n hx hb dL_law_655 rfl (lv_at hl 3 rfl) ?_
    refine lv_iconst (v := 2) hx hb dL_law_656 (by decide) ?_
    refine lv_iadd hx hb dL_law_657 ?_
    refine va_sld hx hb hX hbl hbA hS (law_in (j := 2) hk hL (by decide)) dL_law_658 ?_
    refine lv_if_eq (tgt := 666) hx hb dL_law_659 (by decide) (fun _ => ?_) (fun q => absurd cz q)
    refine lv_iconst (v := 0) hx hb dL_law_666 (by decide) ?_
    refine wcI2 (va_runV (As := [.int (xs (Int32.toNatClampNeg (nI (5 * k) + 1))), .int 0]) (rest := [.int v]) ⟨hx, hb, hml, hown, hts⟩ (m2 H.size) (cwV 2 hts gL_law_X12_share rfl rfl rfl (by decide +kernel) ⟨Nat.le_of_ble_eq_true rfl, Nat.le_of_ble_eq_true rfl⟩) (wPreV hK hW.1 hW.2.2.1 (ci := 5) (q0 := 0) rfl fy) rfl rfl hl.1 rfl (lv_room (Nat.le_of_ble_eq_true rfl)) dL_law_667 ⟨Nat.le_of_ble_eq_true rfl, Nat.le_of_ble_eq_true rfl⟩) hW hS hA (fun H locs hW hS => ?_)
    have hW := tw_symm hW
    refine lv_icmp_eq (tgt := 933) hx hb dL_law_670 (by decide) (fun _ => ?_) (fun q => absurd rfl q)
    exact kk _ _ _ _ hT1 hW hS
  · refine lv_aload_n hx hb dL_law_626 rfl (lv_at hl 1 rfl) ?_
    refine lv_aload_n hx hb dL_law_627 rfl (lv_at hl 0 rfl) ?_
    refine lv_iload_n hx hb dL_law_628 rfl (lv_at hl 3 rfl) ?_
    refine lv_iconst (v := 1) hx hb dL_law_629 (by decide) ?_
    refine lv_iadd hx hb dL_law_630 ?_
    refine va_sld hx hb hX hbl hbA hS (law_in (j := 1) hk hL (by decide)) dL_law_631 ?_
    refine lv_aload_n hx hb dL_law_632 rfl (lv_at hl 0 rfl) ?_
    refine lv_iload_n hx hb dL_law_633 rfl (lv_at hl 3 rfl) ?_
    refine lv_iconst (v := 2) hx hb dL_law_634 (by decide) ?_
    refine lv_iadd hx hb dL_law_635 ?_
    refine va_sld hx hb hX hbl hbA hS (law_in (j := 2) hk hL (by decide)) dL_law_636 ?_
    refine lv_if_eq (tgt := 644) hx hb dL_law_637 (by decide) (fun q => absurd q cz) (fun _ => ?_)
    refine lv_iconst (v := 1) hx hb dL_law_640 (by decide) ?_
    refine lv_goto (tgt := 645) hx hb dL_law_641 (by decide) ?_
    obtain ⟨v, w2n, m1, m2, hT1⟩ := lw_share l (D := D) hT (by omega) (xs (Int32.toNatClampNeg (nI (5 * k) + 1))) 1
    refine rcI (va_runV (As := [.int (xs (Int32.toNatClampNeg (nI (5 * k) + 1))), .int 1]) (rest := []) ⟨hx, hb, hml, hown, hts⟩ (m1 H hW.1) (cwV 2 hts gL_law_X11_share rfl rfl rfl (by decide +kernel) ⟨Nat.le_of_ble_eq_true rfl, Nat.le_of_ble_eq_true rfl⟩) (rPreV hK hW.1 (ci := 4) (q0 := 0) rfl fx) rfl rfl hl.1 rfl (lv_room (Nat.le_of_ble_eq_true rfl)) dL_law_645 ⟨Nat.le_of_ble_eq_true rfl, Nat.le_of_ble_eq_true rfl⟩) ?_
    have hW := tw_symm hW
    refine lv_aload_n hx hb dL_law_648 rfl (lv_at hl 2 rfl) ?_
    refine lv_aload_n hx hb dL_law_649 rfl (lv_at hl 0 rfl) ?_
    refine lv_iload_n hx hb dL_law_650 rfl (lv_at hl 3 rfl) ?_
    refine lv_iconst (v := 1) hx hb dL_law_651 (by decide) ?_
    refine lv_iadd hx hb dL_law_652 ?_
    refine va_sld hx hb hX hbl hbA hS (law_in (j := 1) hk hL (by decide)) dL_law_653 ?_
    refine lv_aload_n hx hb dL_law_654 rfl (lv_at hl 0 rfl) ?_
    refine lv_iload_n hx hb dL_law_655 rfl (lv_at hl 3 rfl) ?_
    refine lv_iconst (v := 2) hx hb dL_law_656 (by decide) ?_
    refine lv_iadd hx hb dL_law_657 ?_
    refine va_sld hx hb hX hbl hbA hS (law_in (j := 2) hk hL (by decide)) dL_law_658 ?_
    refine lv_if_eq (tgt := 666) hx hb dL_law_659 (by decide) (fun q => absurd q cz) (fun _ => ?_)
    refine lv_iconst (v := 1) hx hb dL_law_662 (by decide) ?_
    refine lv_goto (tgt := 667) hx hb dL_law_663 (by decide) ?_
    refine wcI2 (va_runV (As := [.int (xs (Int32.toNatClampNeg (nI (5 * k) + 1))), .int 1]) (rest := [.int v]) ⟨hx, hb, hml, hown, hts⟩ (m2 H.size) (cwV 2 hts gL_law_X12_share rfl rfl rfl (by decide +kernel) ⟨Nat.le_of_ble_eq_true rfl, Nat.le_of_ble_eq_true rfl⟩) (wPreV hK hW.1 hW.2.2.1 (ci := 5) (q0 := 0) rfl fy) rfl rfl hl.1 rfl (lv_room (Nat.le_of_ble_eq_true rfl)) dL_law_667 ⟨Nat.le_of_ble_eq_true rfl, Nat.le_of_ble_eq_true rfl⟩) hW hS hA (fun H locs hW hS => ?_)
    have hW := tw_symm hW
    refine lv_icmp_eq (tgt := 933) hx hb dL_law_670 (by decide) (fun _ => ?_) (fun q => absurd rfl q)
    exact kk _ _ _ _ hT1 hW hS
set_option maxHeartbeats 4000000 in
set_option maxRecDepth 100000 in
theorem lc_rests (hL : L ≤ 320) (C0 : lw_At p s m meth c b L xs) (hK : kK D cI cJ cZ s) (hk : 5 * k + 5 ≤ L) (hT : Two k x y cI cJ cZ w1 w2) (hW : tw D (LA s) w1 w2 H) (hS : va_S (LA s) s.heap H locs) (hl : lv_has ls 4 [(0, .ref b), (1, .ref x), (2, .ref y), (3, .int (nI (5 * k)))]) (kk : ∀ (w1 w2 : va_W) (H : Heap) (locs : List Loc), Two (k + 1) x y cI cJ cZ w1 w2 → tw D (LA s) w1 w2 H → va_S (LA s) s.heap H locs → W p l e room_1 s m #[Value.ref b] below meth c H locs 45 561 (lw_Z below #[Value.ref b] s) (F0 m 933 ls [])) : W p l e room_1 s m #[Value.ref b] below meth c H locs 45 561 (lw_Z below #[Value.ref b] s) (F0 m 675 ls []) := by
  obtain ⟨hx, hb, hr, hml, hown, hts0, hX, hbl, hlocks, hgv⟩ := C0
  have hown : s.vm.findClass RL = some m.cls := hown
  have hts : ∀ w ∈ wsL_law, w.before #[Value.ref b] s = true := fun w h => hts0 w (wsL_law_in w h)
  have hA : ∀ q : Nat, s.heap.size ≤ q → LA s q := fun _ h => h
  have hbA : ¬ LA s b := Nat.not_le.mpr hbl
  obtain ⟨f1, fx⟩ := two_x hT
  obtain ⟨f2, fy⟩ := two_y hT
  refine lv_aload_n hx hb dL_law_675 rfl (lv_at hl 1 rfl) ?_
  refine lv_aload_n hx hb dL_law_676 rfl (lv_at hl 0 rfl) ?_
  refine lv_iload_n hx hb dL_law_677 rfl (lv_at hl 3 rfl) ?_
  refine lv_iconst (v := 1) hx hb dL_law_678 (by decide) ?_
  refine lv_iadd hx hb dL_law_679 ?_
  refine va_sld hx hb hX hbl hbA hS (law_in (j := 1) hk hL (by decide)) dL_law_680 ?_
  refine lv_aload_n hx hb dL_law_681 rfl (lv_at hl 0 rfl) ?_
  refine lv_iload_n hx hb dL_law_682 rfl (lv_at hl 3 rfl) ?_
  refine lv_iconst (v := 2) hx hb dL_law_683 (by decide) ?_
  refine lv_iadd hx hb dL_law_684 ?_
  refine va_sld hx hb hX hbl hbA hS (law_in (j := 2) hk hL (by decide)) dL_law_685 ?_
  refine lv_aload_n hx hb dL_law_686 rfl (lv_at hl 0 rfl) ?_
  refine lv_iload_n hx hb dL_law_687 rfl (lv_at hl 3 rfl) ?_
  refine lv_iconst (v := 3) hx hb dL_law_688 (by decide) ?_
  refine lv_iadd hx hb dL_law_689 ?_
  refine va_sld hx hb hX hbl hbA hS (law_in (j := 3) hk hL (by decide)) dL_law_690 ?_
  obtain ⟨v, w2n, m1, m2, hT1⟩ := lw_rests l (D := D) hT (by omega) (xs (Int32.toNatClampNeg (nI (5 * k) + 1))) (xs (Int32.toNatClampNeg (nI (5 * k) + 2))) (xs (Int32.toNatClampNeg (nI (5 * k) + 3)))
  refine rcI (va_runV (As := [.int (xs (Int32.toNatClampNeg (nI (5 * k) + 1))), .int (xs (Int32.toNatClampNeg (nI (5 * k) + 2))), .int (xs (Int32.toNatClampNeg (nI (5 * k) + 3)))]) (rest := []) ⟨hx, hb, hml, hown, hts⟩ (m1 H hW.1) (cwV 3 hts gL_law_X11_rests rfl rfl rfl (by decide +kernel) ⟨Nat.le_of_ble_eq_true rfl, Nat.le_of_ble_eq_true rfl⟩) (rPreV hK hW.1 (ci := 4) (q0 := 0) rfl fx) rfl rfl hl.1 rfl (lv_room (Nat.le_of_ble_eq_true rfl)) dL_law_691 ⟨Nat.le_of_ble_eq_true rfl, Nat.le_of_ble_eq_true rfl⟩) ?_
  have hW := tw_symm hW
  refine lv_aload_n hx hb dL_law_694 rfl (lv_at hl 2 rfl) ?_
  refine lv_aload_n hx hb dL_law_695 rfl (lv_at hl 0 rfl) ?_
  refine lv_iload_n hx hb dL_law_696 rfl (lv_at hl 3 rfl) ?_
  refine lv_iconst (v := 1) hx hb dL_law_697 (by decide) ?_
  refine lv_iadd hx hb dL_law_698 ?_
  refine va_sld hx hb hX hbl hbA hS (law_in (j := 1) hk hL (by decide)) dL_law_699 ?_
  refine lv_aload_n hx hb dL_law_700 rfl (lv_at hl 0 rfl) ?_
  refine lv_iload_n hx hb dL_law_701 rfl (lv_at hl 3 rfl) ?_
  refine lv_iconst (v := 2) hx hb dL_law_702 (by decide) ?_
  refine lv_iadd hx hb dL_law_703 ?_
  refine va_sld hx hb hX hbl hbA hS (law_in (j := 2) hk hL (by decide)) dL_law_704 ?_
  refine lv_aload_n hx hb dL_law_705 rfl (lv_at hl 0 rfl) ?_
  refine lv_iload_n hx hb dL_law_706 rfl (lv_at hl 3 rfl) ?_
  refine lv_iconst (v := 3) hx hb dL_law_707 (by decide) ?_
  refine lv_iadd hx hb dL_law_708 ?_
  refine va_sld hx hb hX hbl hbA hS (law_in (j := 3) hk hL (by decide)) dL_law_709 ?_
  refine wcI2 (va_runV (As := [.int (xs (Int32.toNatClampNeg (nI (5 * k) + 1))), .int (xs (Int32.toNatClampNeg (nI (5 * k) + 2))), .int (xs (Int32.toNatClampNeg (nI (5 * k) + 3)))]) (rest := [.int v]) ⟨hx, hb, hml, hown, hts⟩ (m2 H.size) (cwV 3 hts gL_law_X12_rests rfl rfl rfl (by decide +kernel) ⟨Nat.le_of_ble_eq_true rfl, Nat.le_of_ble_eq_true rfl⟩) (wPreV hK hW.1 hW.2.2.1 (ci := 5) (q0 := 0) rfl fy) rfl rfl hl.1 rfl (lv_room (Nat.le_of_ble_eq_true rfl)) dL_law_710 ⟨Nat.le_of_ble_eq_true rfl, Nat.le_of_ble_eq_true rfl⟩) hW hS hA (fun H locs hW hS => ?_)
  have hW := tw_symm hW
  refine lv_icmp_eq (tgt := 933) hx hb dL_law_713 (by decide) (fun _ => ?_) (fun q => absurd rfl q)
  exact kk _ _ _ _ hT1 hW hS
set_option maxHeartbeats 4000000 in
set_option maxRecDepth 100000 in
theorem lc_gust (hL : L ≤ 320) (C0 : lw_At p s m meth c b L xs) (hK : kK D cI cJ cZ s) (hk : 5 * k + 5 ≤ L) (hT : Two k x y cI cJ cZ w1 w2) (hW : tw D (LA s) w1 w2 H) (hS : va_S (LA s) s.heap H locs) (hl : lv_has ls 4 [(0, .ref b), (1, .ref x), (2, .ref y), (3, .int (nI (5 * k)))]) (kk : ∀ (w1 w2 : va_W) (H : Heap) (locs : List Loc), Two (k + 1) x y cI cJ cZ w1 w2 → tw D (LA s) w1 w2 H → va_S (LA s) s.heap H locs → W p l e room_1 s m #[Value.ref b] below meth c H locs 45 561 (lw_Z below #[Value.ref b] s) (F0 m 933 ls [])) : W p l e room_1 s m #[Value.ref b] below meth c H locs 45 561 (lw_Z below #[Value.ref b] s) (F0 m 718 ls []) := by
  obtain ⟨hx, hb, hr, hml, hown, hts0, hX, hbl, hlocks, hgv⟩ := C0
  have hown : s.vm.findClass RL = some m.cls := hown
  have hts : ∀ w ∈ wsL_law, w.before #[Value.ref b] s = true := fun w h => hts0 w (wsL_law_in w h)
  have hA : ∀ q : Nat, s.heap.size ≤ q → LA s q := fun _ h => h
  have hbA : ¬ LA s b := Nat.not_le.mpr hbl
  obtain ⟨f1, fx⟩ := two_x hT
  obtain ⟨f2, fy⟩ := two_y hT
  by_cases cz : (xs (Int32.toNatClampNeg (nI (5 * k) + 4))) = 0
  · refine lv_aload_n hx hb dL_law_718 rfl (lv_at hl 1 rfl) ?_
    refine lv_aload_n hx hb dL_law_719 rfl (lv_at hl 0 rfl) ?_
    refine lv_iload_n hx hb dL_law_720 rfl (lv_at hl 3 rfl) ?_
    refine lv_iconst (v := 1) hx hb dL_law_721 (by decide) ?_
    refine lv_iadd hx hb dL_law_722 ?_
    refine va_sld hx hb hX hbl hbA hS (law_in (j := 1) hk hL (by decide)) dL_law_723 ?_
    refine lv_aload_n hx hb dL_law_724 rfl (lv_at hl 0 rfl) ?_
    refine lv_iload_n hx hb dL_law_725 rfl (lv_at hl 3 rfl) ?_
    refine lv_iconst (v := 2) hx hb dL_law_726 (by decide) ?_
    refine lv_iadd hx hb dL_law_727 ?_
    refine va_sld hx hb hX hbl hbA hS (law_in (j := 2) hk hL (by decide)) dL_law_728 ?_
    refine lv_aload_n hx hb dL_law_729 rfl (lv_at hl 0 rfl) ?_
    refine lv_iload_n hx hb dL_law_730 rfl (lv_at hl 3 rfl) ?_
    refine lv_iconst (v := 3) hx hb dL_law_731 (by decide) ?_
    refine lv_iadd hx hb dL_law_732 ?_
    refine va_sld hx hb hX hbl hbA hS (law_in (j := 3) hk hL (by decide)) dL_law_733 ?_
    refine lv_aload_n hx hb dL_law_734 rfl (lv_at hl 0 rfl) ?_
    refine lv_iload_n hx hb dL_law_735 rfl (lv_at hl 3 rfl) ?_
    refine lv_iconst (v := 4) hx hb dL_law_736 (by decide) ?_
    refine lv_iadd hx hb dL_law_737 ?_
    refine va_sld hx hb hX hbl hbA hS (law_in (j := 4) hk hL (by decide)) dL_law_738 ?_
    refine lv_if_eq (tgt := 746) hx hb dL_law_739 (by decide) (fun _ => ?_) (fun q => absurd cz q)
    refine lv_iconst (v := 0) hx hb dL_law_746 (by decide) ?_
    obtain ⟨v, w2n, m1, m2, hT1⟩ := lw_gust l (D := D) hT (by omega) (xs (Int32.toNatClampNeg (nI (5 * k) + 1))) (xs (Int32.toNatClampNeg (nI (5 * k) + 2))) (xs (Int32.toNatClampNeg (nI (5 * k) + 3))) 0
    refine rcI (va_runV (As := [.int (xs (Int32.toNatClampNeg (nI (5 * k) + 1))), .int (xs (Int32.toNatClampNeg (nI (5 * k) + 2))), .int (xs (Int32.toNatClampNeg (nI (5 * k) + 3))), .int 0]) (rest := []) ⟨hx, hb, hml, hown, hts⟩ (m1 H hW.1) (cwV 4 hts gL_law_X11_gust rfl rfl rfl (by decide +kernel) ⟨Nat.le_of_ble_eq_true rfl, Nat.le_of_ble_eq_true rfl⟩) (rPreV hK hW.1 (ci := 4) (q0 := 0) rfl fx) rfl rfl hl.1 rfl (lv_room (Nat.le_of_ble_eq_true rfl)) dL_law_747 ⟨Nat.le_of_ble_eq_true rfl, Nat.le_of_ble_eq_true rfl⟩) ?_
    have hW := tw_symm hW
    refine lv_aload_n hx hb dL_law_750 rfl (lv_at hl 2 rfl) ?_
    refine lv_aload_n hx hb dL_law_751 rfl (lv_at hl 0 rfl) ?_
    refine lv_iload_n hx hb dL_law_752 rfl (lv_at hl 3 rfl) ?_
    refine lv_iconst (v := 1) hx hb dL_law_753 (by decide) ?_
    refine lv_iadd hx hb dL_law_754 ?_
    refine va_sld hx hb hX hbl hbA hS (law_in (j := 1) hk hL (by decide)) dL_law_755 ?_
    refine lv_aload_n hx hb dL_law_756 rfl (lv_at hl 0 rfl) ?_
    refine lv_iload_n hx hb dL_law_757 rfl (lv_at hl 3 rfl) ?_
    refine lv_iconst (v := 2) hx hb dL_law_758 (by decide) ?_
    refine lv_iadd hx hb dL_law_759 ?_
    refine va_sld hx hb hX hbl hbA hS (law_in (j := 2) hk hL (by decide)) dL_law_760 ?_
    refine lv_aload_n hx hb dL_law_761 rfl (lv_at hl 0 rfl) ?_
    refine lv_iload_n hx hb dL_law_762 rfl (lv_at hl 3 rfl) ?_
    refine lv_iconst (v := 3) hx hb dL_law_763 (by decide) ?_
    refine lv_iadd hx hb dL_law_764 ?_
    refine va_sld hx hb hX hbl hbA hS (law_in (j := 3) hk hL (by decide)) dL_law_765 ?_
    refine lv_aload_n hx hb dL_law_766 rfl (lv_at hl 0 rfl) ?_
    refine lv_iload_n hx hb dL_law_767 rfl (lv_at hl 3 rfl) ?_
    refine lv_iconst (v := 4) hx hb dL_law_768 (by decide) ?_
    refine lv_iadd hx hb dL_law_769 ?_
    refine va_sld hx hb hX hbl hbA hS (law_in (j := 4) hk hL (by decide)) dL_law_770 ?_
    refine lv_if_eq (tgt := 778) hx hb dL_law_771 (by decide) (fun _ => ?_) (fun q => absurd cz q)
    refine lv_iconst (v := 0) hx hb dL_law_778 (by decide) ?_
    refine wcI2 (va_runV (As := [.int (xs (Int32.toNatClampNeg (nI (5 * k) + 1))), .int (xs (Int32.toNatClampNeg (nI (5 * k) + 2))), .int (xs (Int32.toNatClampNeg (nI (5 * k) + 3))), .int 0]) (rest := [.int v]) ⟨hx, hb, hml, hown, hts⟩ (m2 H.size) (cwV 4 hts gL_law_X12_gust rfl rfl rfl (by decide +kernel) ⟨Nat.le_of_ble_eq_true rfl, Nat.le_of_ble_eq_true rfl⟩) (wPreV hK hW.1 hW.2.2.1 (ci := 5) (q0 := 0) rfl fy) rfl rfl hl.1 rfl (lv_room (Nat.le_of_ble_eq_true rfl)) dL_law_779 ⟨Nat.le_of_ble_eq_true rfl, Nat.le_of_ble_eq_true rfl⟩) hW hS hA (fun H locs hW hS => ?_)
    have hW := tw_symm hW
    refine lv_icmp_eq (tgt := 933) hx hb dL_law_782 (by decide) (fun _ => ?_) (fun q => absurd rfl q)
    exact kk _ _ _ _ hT1 hW hS
  · refine lv_aload_n hx hb dL_law_718 rfl (lv_at hl 1 rfl) ?_
    refine lv_aload_n hx hb dL_law_719 rfl (lv_at hl 0 rfl) ?_
    refine lv_iload_n hx hb dL_law_720 rfl (lv_at hl 3 rfl) ?_
    refine lv_iconst (v := 1) hx hb dL_law_721 (by decide) ?_
    refine lv_iadd hx hb dL_law_722 ?_
    refine va_sld hx hb hX hbl hbA hS (law_in (j := 1) hk hL (by decide)) dL_law_723 ?_
    refine lv_aload_n hx hb dL_law_724 rfl (lv_at hl 0 rfl) ?_
    refine lv_iload_n hx hb dL_law_725 rfl (lv_at hl 3 rfl) ?_
    refine lv_iconst (v := 2) hx hb dL_law_726 (by decide) ?_
    refine lv_iadd hx hb dL_law_727 ?_
    refine va_sld hx hb hX hbl hbA hS (law_in (j := 2) hk hL (by decide)) dL_law_728 ?_
    refine lv_aload_n hx hb dL_law_729 rfl (lv_at hl 0 rfl) ?_
    refine lv_iload_n hx hb dL_law_730 rfl (lv_at hl 3 rfl) ?_
    refine lv_iconst (v := 3) hx hb dL_law_731 (by decide) ?_
    refine lv_iadd hx hb dL_law_732 ?_
    refine va_sld hx hb hX hbl hbA hS (law_in (j := 3) hk hL (by decide)) dL_law_733 ?_
    refine lv_aload_n hx hb dL_law_734 rfl (lv_at hl 0 rfl) ?_
    refine lv_iload_n hx hb dL_law_735 rfl (lv_at hl 3 rfl) ?_
    refine lv_iconst (v := 4) hx hb dL_law_736 (by decide) ?_
    refine lv_iadd hx hb dL_law_737 ?_
    refine va_sld hx hb hX hbl hbA hS (law_in (j := 4) hk hL (by decide)) dL_law_738 ?_
    refine lv_if_eq (tgt := 746) hx hb dL_law_739 (by decide) (fun q => absurd q cz) (fun _ => ?_)
    refine lv_iconst (v := 1) hx hb dL_law_742 (by decide) ?_
    refine lv_goto (tgt := 747) hx hb dL_law_743 (by decide) ?_
    obtain ⟨v, w2n, m1, m2, hT1⟩ := lw_gust l (D := D) hT (by omega) (xs (Int32.toNatClampNeg (nI (5 * k) + 1))) (xs (Int32.toNatClampNeg (nI (5 * k) + 2))) (xs (Int32.toNatClampNeg (nI (5 * k) + 3))) 1
    refine rcI (va_runV (As := [.int (xs (Int32.toNatClampNeg (nI (5 * k) + 1))), .int (xs (Int32.toNatClampNeg (nI (5 * k) + 2))), .int (xs (Int32.toNatClampNeg (nI (5 * k) + 3))), .int 1]) (rest := []) ⟨hx, hb, hml, hown, hts⟩ (m1 H hW.1) (cwV 4 hts gL_law_X11_gust rfl rfl rfl (by decide +kernel) ⟨Nat.le_of_ble_eq_true rfl, Nat.le_of_ble_eq_true rfl⟩) (rPreV hK hW.1 (ci := 4) (q0 := 0) rfl fx) rfl rfl hl.1 rfl (lv_room (Nat.le_of_ble_eq_true rfl)) dL_law_747 ⟨Nat.le_of_ble_eq_true rfl, Nat.le_of_ble_eq_true rfl⟩) ?_
    have hW := tw_symm hW
    refine lv_aload_n hx hb dL_law_750 rfl (lv_at hl 2 rfl) ?_
    refine lv_aload_n hx hb dL_law_751 rfl (lv_at hl 0 rfl) ?_
    refine lv_iload_n hx hb dL_law_752 rfl (lv_at hl 3 rfl) ?_
    refine lv_iconst (v := 1) hx hb dL_law_753 (by decide) ?_
    refine lv_iadd hx hb dL_law_754 ?_
    refine va_sld hx hb hX hbl hbA hS (law_in (j := 1) hk hL (by decide)) dL_law_755 ?_
    refine lv_aload_n hx hb dL_law_756 rfl (lv_at hl 0 rfl) ?_
    refine lv_iload_n hx hb dL_law_757 rfl (lv_at hl 3 rfl) ?_
    refine lv_iconst (v := 2) hx hb dL_law_758 (by decide) ?_
    refine lv_iadd hx hb dL_law_759 ?_
    refine va_sld hx hb hX hbl hbA hS (law_in (j := 2) hk hL (by decide)) dL_law_760 ?_
    refine lv_aload_n hx hb dL_law_761 rfl (lv_at hl 0 rfl) ?_
    refine lv_iload_n hx hb dL_law_762 rfl (lv_at hl 3 rfl) ?_
    refine lv_iconst (v := 3) hx hb dL_law_763 (by decide) ?_
    refine lv_iadd hx hb dL_law_764 ?_
    refine va_sld hx hb hX hbl hbA hS (law_in (j := 3) hk hL (by decide)) dL_law_765 ?_
    refine lv_aload_n hx hb dL_law_766 rfl (lv_at hl 0 rfl) ?_
    refine lv_iload_n hx hb dL_law_767 rfl (lv_at hl 3 rfl) ?_
    refine lv_iconst (v := 4) hx hb dL_law_768 (by decide) ?_
    refine lv_iadd hx hb dL_law_769 ?_
    refine va_sld hx hb hX hbl hbA hS (law_in (j := 4) hk hL (by decide)) dL_law_770 ?_
    refine lv_if_eq (tgt := 778) hx hb dL_law_771 (by decide) (fun q => absurd q cz) (fun _ => ?_)
    refine lv_iconst (v := 1) hx hb dL_law_774 (by decide) ?_
    refine lv_goto (tgt := 779) hx hb dL_law_775 (by decide) ?_
    refine wcI2 (va_runV (As := [.int (xs (Int32.toNatClampNeg (nI (5 * k) + 1))), .int (xs (Int32.toNatClampNeg (nI (5 * k) + 2))), .int (xs (Int32.toNatClampNeg (nI (5 * k) + 3))), .int 1]) (rest := [.int v]) ⟨hx, hb, hml, hown, hts⟩ (m2 H.size) (cwV 4 hts gL_law_X12_gust rfl rfl rfl (by decide +kernel) ⟨Nat.le_of_ble_eq_true rfl, Nat.le_of_ble_eq_true rfl⟩) (wPreV hK hW.1 hW.2.2.1 (ci := 5) (q0 := 0) rfl fy) rfl rfl hl.1 rfl (lv_room (Nat.le_of_ble_eq_true rfl)) dL_law_779 ⟨Nat.le_of_ble_eq_true rfl, Nat.le_of_ble_eq_true rfl⟩) hW hS hA (fun H locs hW hS => ?_)
    have hW := tw_symm hW
    refine lv_icmp_eq (tgt := 933) hx hb dL_law_782 (by decide) (fun _ => ?_) (fun q => absurd rfl q)
    exact kk _ _ _ _ hT1 hW hS
set_option maxHeartbeats 4000000 in
set_option maxRecDepth 100000 in
theorem lc_seed (hL : L ≤ 320) (C0 : lw_At p s m meth c b L xs) (hK : kK D cI cJ cZ s) (hk : 5 * k + 5 ≤ L) (hT : Two k x y cI cJ cZ w1 w2) (hW : tw D (LA s) w1 w2 H) (hS : va_S (LA s) s.heap H locs) (hl : lv_has ls 4 [(0, .ref b), (1, .ref x), (2, .ref y), (3, .int (nI (5 * k)))]) (kk : ∀ (w1 w2 : va_W) (H : Heap) (locs : List Loc), Two (k + 1) x y cI cJ cZ w1 w2 → tw D (LA s) w1 w2 H → va_S (LA s) s.heap H locs → W p l e room_1 s m #[Value.ref b] below meth c H locs 45 561 (lw_Z below #[Value.ref b] s) (F0 m 933 ls [])) : W p l e room_1 s m #[Value.ref b] below meth c H locs 45 561 (lw_Z below #[Value.ref b] s) (F0 m 787 ls []) := by
  obtain ⟨hx, hb, hr, hml, hown, hts0, hX, hbl, hlocks, hgv⟩ := C0
  have hown : s.vm.findClass RL = some m.cls := hown
  have hts : ∀ w ∈ wsL_law, w.before #[Value.ref b] s = true := fun w h => hts0 w (wsL_law_in w h)
  have hA : ∀ q : Nat, s.heap.size ≤ q → LA s q := fun _ h => h
  have hbA : ¬ LA s b := Nat.not_le.mpr hbl
  obtain ⟨f1, fx⟩ := two_x hT
  obtain ⟨f2, fy⟩ := two_y hT
  refine lv_aload_n hx hb dL_law_787 rfl (lv_at hl 1 rfl) ?_
  refine lv_aload_n hx hb dL_law_788 rfl (lv_at hl 0 rfl) ?_
  refine lv_iload_n hx hb dL_law_789 rfl (lv_at hl 3 rfl) ?_
  refine lv_iconst (v := 1) hx hb dL_law_790 (by decide) ?_
  refine lv_iadd hx hb dL_law_791 ?_
  refine va_sld hx hb hX hbl hbA hS (law_in (j := 1) hk hL (by decide)) dL_law_792 ?_
  refine lv_i2l hx hb dL_law_793 rfl ?_
  refine lv_bipush (v := 32) hx hb dL_law_794 (by decide) ?_
  refine lv_lshl hx hb dL_law_796 rfl ?_
  refine lv_aload_n hx hb dL_law_797 rfl (lv_at hl 0 rfl) ?_
  refine lv_iload_n hx hb dL_law_798 rfl (lv_at hl 3 rfl) ?_
  refine lv_iconst (v := 2) hx hb dL_law_799 (by decide) ?_
  refine lv_iadd hx hb dL_law_800 ?_
  refine va_sld hx hb hX hbl hbA hS (law_in (j := 2) hk hL (by decide)) dL_law_801 ?_
  refine lv_i2l hx hb dL_law_802 rfl ?_
  refine lv_ldc2 (own := RL) (v := 4294967295) hx hb hown (hts (.constantLong RL 111 (4294967295)) (by decide +kernel)) dL_law_803 ?_
  refine lv_land hx hb dL_law_806 ?_
  refine lv_lor hx hb dL_law_807 ?_
  refine lv_topl (fun z0 ez0 => ?_)
  obtain ⟨v, w1n, w2n, m1, m2, hT1⟩ := lw_seed l (D := D) hT (by omega) z0
  refine wcL2 (va_runV (As := [.long z0]) (rest := []) ⟨hx, hb, hml, hown, hts⟩ (m1 H.size) (cwV 1 hts gL_law_X11_seed rfl rfl rfl (by decide +kernel) ⟨Nat.le_of_ble_eq_true rfl, Nat.le_of_ble_eq_true rfl⟩) (wPreV hK hW.1 hW.2.2.1 (ci := 4) (q0 := 0) rfl fx) rfl rfl hl.1 rfl (lv_room (Nat.le_of_ble_eq_true rfl)) dL_law_808 ⟨Nat.le_of_ble_eq_true rfl, Nat.le_of_ble_eq_true rfl⟩) hW hS hA (fun H locs hW hS => ?_)
  have hW := tw_symm hW
  refine lv_aload_n hx hb dL_law_811 rfl (lv_at hl 2 rfl) ?_
  refine lv_aload_n hx hb dL_law_812 rfl (lv_at hl 0 rfl) ?_
  refine lv_iload_n hx hb dL_law_813 rfl (lv_at hl 3 rfl) ?_
  refine lv_iconst (v := 1) hx hb dL_law_814 (by decide) ?_
  refine lv_iadd hx hb dL_law_815 ?_
  refine va_sld hx hb hX hbl hbA hS (law_in (j := 1) hk hL (by decide)) dL_law_816 ?_
  refine lv_i2l hx hb dL_law_817 rfl ?_
  refine lv_bipush (v := 32) hx hb dL_law_818 (by decide) ?_
  refine lv_lshl hx hb dL_law_820 rfl ?_
  refine lv_aload_n hx hb dL_law_821 rfl (lv_at hl 0 rfl) ?_
  refine lv_iload_n hx hb dL_law_822 rfl (lv_at hl 3 rfl) ?_
  refine lv_iconst (v := 2) hx hb dL_law_823 (by decide) ?_
  refine lv_iadd hx hb dL_law_824 ?_
  refine va_sld hx hb hX hbl hbA hS (law_in (j := 2) hk hL (by decide)) dL_law_825 ?_
  refine lv_i2l hx hb dL_law_826 rfl ?_
  refine lv_ldc2 (own := RL) (v := 4294967295) hx hb hown (hts (.constantLong RL 111 (4294967295)) (by decide +kernel)) dL_law_827 ?_
  refine lv_land hx hb dL_law_830 ?_
  refine lv_lor hx hb dL_law_831 ?_
  refine lv_topl (fun z1 ez1 => ?_)
  have ez : z1 = z0 := ez1.trans ez0.symm
  subst ez
  refine wcL2 (va_runV (As := [.long z1]) (rest := [.long v]) ⟨hx, hb, hml, hown, hts⟩ (m2 H.size) (cwV 1 hts gL_law_X12_seed rfl rfl rfl (by decide +kernel) ⟨Nat.le_of_ble_eq_true rfl, Nat.le_of_ble_eq_true rfl⟩) (wPreV hK hW.1 hW.2.2.1 (ci := 5) (q0 := 0) rfl fy) rfl rfl hl.1 rfl (lv_room (Nat.le_of_ble_eq_true rfl)) dL_law_832 ⟨Nat.le_of_ble_eq_true rfl, Nat.le_of_ble_eq_true rfl⟩) hW hS hA (fun H locs hW hS => ?_)
  have hW := tw_symm hW
  refine W.lcmp hx hb dL_law_835 ?_
  refine lv_if_eq (tgt := 933) hx hb dL_law_836 (by decide) (fun _ => ?_) (fun q => absurd (lg_same _) q)
  exact kk _ _ _ _ hT1 hW hS
set_option maxHeartbeats 4000000 in
set_option maxRecDepth 100000 in
theorem lc_years (hL : L ≤ 320) (C0 : lw_At p s m meth c b L xs) (hK : kK D cI cJ cZ s) (hk : 5 * k + 5 ≤ L) (hT : Two k x y cI cJ cZ w1 w2) (hW : tw D (LA s) w1 w2 H) (hS : va_S (LA s) s.heap H locs) (hl : lv_has ls 4 [(0, .ref b), (1, .ref x), (2, .ref y), (3, .int (nI (5 * k)))]) (kk : ∀ (w1 w2 : va_W) (H : Heap) (locs : List Loc), Two (k + 1) x y cI cJ cZ w1 w2 → tw D (LA s) w1 w2 H → va_S (LA s) s.heap H locs → W p l e room_1 s m #[Value.ref b] below meth c H locs 45 561 (lw_Z below #[Value.ref b] s) (F0 m 933 ls [])) : W p l e room_1 s m #[Value.ref b] below meth c H locs 45 561 (lw_Z below #[Value.ref b] s) (F0 m 841 ls []) := by
  obtain ⟨hx, hb, hr, hml, hown, hts0, hX, hbl, hlocks, hgv⟩ := C0
  have hown : s.vm.findClass RL = some m.cls := hown
  have hts : ∀ w ∈ wsL_law, w.before #[Value.ref b] s = true := fun w h => hts0 w (wsL_law_in w h)
  have hA : ∀ q : Nat, s.heap.size ≤ q → LA s q := fun _ h => h
  have hbA : ¬ LA s b := Nat.not_le.mpr hbl
  obtain ⟨f1, fx⟩ := two_x hT
  obtain ⟨f2, fy⟩ := two_y hT
  refine lv_aload_n hx hb dL_law_841 rfl (lv_at hl 1 rfl) ?_
  refine lv_aload_n hx hb dL_law_842 rfl (lv_at hl 0 rfl) ?_
  refine lv_iload_n hx hb dL_law_843 rfl (lv_at hl 3 rfl) ?_
  refine lv_iconst (v := 1) hx hb dL_law_844 (by decide) ?_
  refine lv_iadd hx hb dL_law_845 ?_
  refine va_sld hx hb hX hbl hbA hS (law_in (j := 1) hk hL (by decide)) dL_law_846 ?_
  obtain ⟨v, w1n, w2n, m1, m2, hT1⟩ := lw_years l (D := D) hT (by omega) (xs (Int32.toNatClampNeg (nI (5 * k) + 1)))
  refine wcI2 (va_runV (As := [.int (xs (Int32.toNatClampNeg (nI (5 * k) + 1)))]) (rest := []) ⟨hx, hb, hml, hown, hts⟩ (m1 H.size) (cwV 1 hts gL_law_X11_years rfl rfl rfl (by decide +kernel) ⟨Nat.le_of_ble_eq_true rfl, Nat.le_of_ble_eq_true rfl⟩) (wPreV hK hW.1 hW.2.2.1 (ci := 4) (q0 := 0) rfl fx) rfl rfl hl.1 rfl (lv_room (Nat.le_of_ble_eq_true rfl)) dL_law_847 ⟨Nat.le_of_ble_eq_true rfl, Nat.le_of_ble_eq_true rfl⟩) hW hS hA (fun H locs hW hS => ?_)
  have hW := tw_symm hW
  refine lv_aload_n hx hb dL_law_850 rfl (lv_at hl 2 rfl) ?_
  refine lv_aload_n hx hb dL_law_851 rfl (lv_at hl 0 rfl) ?_
  refine lv_iload_n hx hb dL_law_852 rfl (lv_at hl 3 rfl) ?_
  refine lv_iconst (v := 1) hx hb dL_law_853 (by decide) ?_
  refine lv_iadd hx hb dL_law_854 ?_
  refine va_sld hx hb hX hbl hbA hS (law_in (j := 1) hk hL (by decide)) dL_law_855 ?_
  refine wcI2 (va_runV (As := [.int (xs (Int32.toNatClampNeg (nI (5 * k) + 1)))]) (rest := [.int v]) ⟨hx, hb, hml, hown, hts⟩ (m2 H.size) (cwV 1 hts gL_law_X12_years rfl rfl rfl (by decide +kernel) ⟨Nat.le_of_ble_eq_true rfl, Nat.le_of_ble_eq_true rfl⟩) (wPreV hK hW.1 hW.2.2.1 (ci := 5) (q0 := 0) rfl fy) rfl rfl hl.1 rfl (lv_room (Nat.le_of_ble_eq_true rfl)) dL_law_856 ⟨Nat.le_of_ble_eq_true rfl, Nat.le_of_ble_eq_true rfl⟩) hW hS hA (fun H locs hW hS => ?_)
  have hW := tw_symm hW
  refine lv_icmp_eq (tgt := 933) hx hb dL_law_859 (by decide) (fun _ => ?_) (fun q => absurd rfl q)
  exact kk _ _ _ _ hT1 hW hS
set_option maxHeartbeats 4000000 in
set_option maxRecDepth 100000 in
theorem lc_keep (hL : L ≤ 320) (C0 : lw_At p s m meth c b L xs) (hK : kK D cI cJ cZ s) (hk : 5 * k + 5 ≤ L) (hT : Two k x y cI cJ cZ w1 w2) (hW : tw D (LA s) w1 w2 H) (hS : va_S (LA s) s.heap H locs) (hl : lv_has ls 4 [(0, .ref b), (1, .ref x), (2, .ref y), (3, .int (nI (5 * k)))]) (kk : ∀ (w1 w2 : va_W) (H : Heap) (locs : List Loc), Two (k + 1) x y cI cJ cZ w1 w2 → tw D (LA s) w1 w2 H → va_S (LA s) s.heap H locs → W p l e room_1 s m #[Value.ref b] below meth c H locs 45 561 (lw_Z below #[Value.ref b] s) (F0 m 933 ls [])) : W p l e room_1 s m #[Value.ref b] below meth c H locs 45 561 (lw_Z below #[Value.ref b] s) (F0 m 864 ls []) := by
  obtain ⟨hx, hb, hr, hml, hown, hts0, hX, hbl, hlocks, hgv⟩ := C0
  have hown : s.vm.findClass RL = some m.cls := hown
  have hts : ∀ w ∈ wsL_law, w.before #[Value.ref b] s = true := fun w h => hts0 w (wsL_law_in w h)
  have hA : ∀ q : Nat, s.heap.size ≤ q → LA s q := fun _ h => h
  have hbA : ¬ LA s b := Nat.not_le.mpr hbl
  obtain ⟨f1, fx⟩ := two_x hT
  obtain ⟨f2, fy⟩ := two_y hT
  refine lv_aload_n hx hb dL_law_864 rfl (lv_at hl 1 rfl) ?_
  refine lv_aload_n hx hb dL_law_865 rfl (lv_at hl 0 rfl) ?_
  refine lv_iload_n hx hb dL_law_866 rfl (lv_at hl 3 rfl) ?_
  refine lv_iconst (v := 1) hx hb dL_law_867 (by decide) ?_
  refine lv_iadd hx hb dL_law_868 ?_
  refine va_sld hx hb hX hbl hbA hS (law_in (j := 1) hk hL (by decide)) dL_law_869 ?_
  obtain ⟨v, w1n, w2n, m1, m2, hT1⟩ := lw_keep l (D := D) hT (by omega) (xs (Int32.toNatClampNeg (nI (5 * k) + 1)))
  refine wcI2 (va_runV (As := [.int (xs (Int32.toNatClampNeg (nI (5 * k) + 1)))]) (rest := []) ⟨hx, hb, hml, hown, hts⟩ (m1 H.size) (cwV 1 hts gL_law_X11_keep rfl rfl rfl (by decide +kernel) ⟨Nat.le_of_ble_eq_true rfl, Nat.le_of_ble_eq_true rfl⟩) (wPreV hK hW.1 hW.2.2.1 (ci := 4) (q0 := 0) rfl fx) rfl rfl hl.1 rfl (lv_room (Nat.le_of_ble_eq_true rfl)) dL_law_870 ⟨Nat.le_of_ble_eq_true rfl, Nat.le_of_ble_eq_true rfl⟩) hW hS hA (fun H locs hW hS => ?_)
  have hW := tw_symm hW
  refine lv_aload_n hx hb dL_law_873 rfl (lv_at hl 2 rfl) ?_
  refine lv_aload_n hx hb dL_law_874 rfl (lv_at hl 0 rfl) ?_
  refine lv_iload_n hx hb dL_law_875 rfl (lv_at hl 3 rfl) ?_
  refine lv_iconst (v := 1) hx hb dL_law_876 (by decide) ?_
  refine lv_iadd hx hb dL_law_877 ?_
  refine va_sld hx hb hX hbl hbA hS (law_in (j := 1) hk hL (by decide)) dL_law_878 ?_
  refine wcI2 (va_runV (As := [.int (xs (Int32.toNatClampNeg (nI (5 * k) + 1)))]) (rest := [.int v]) ⟨hx, hb, hml, hown, hts⟩ (m2 H.size) (cwV 1 hts gL_law_X12_keep rfl rfl rfl (by decide +kernel) ⟨Nat.le_of_ble_eq_true rfl, Nat.le_of_ble_eq_true rfl⟩) (wPreV hK hW.1 hW.2.2.1 (ci := 5) (q0 := 0) rfl fy) rfl rfl hl.1 rfl (lv_room (Nat.le_of_ble_eq_true rfl)) dL_law_879 ⟨Nat.le_of_ble_eq_true rfl, Nat.le_of_ble_eq_true rfl⟩) hW hS hA (fun H locs hW hS => ?_)
  have hW := tw_symm hW
  refine lv_icmp_eq (tgt := 933) hx hb dL_law_882 (by decide) (fun _ => ?_) (fun q => absurd rfl q)
  exact kk _ _ _ _ hT1 hW hS
set_option maxHeartbeats 4000000 in
set_option maxRecDepth 100000 in
theorem lc_again (hL : L ≤ 320) (C0 : lw_At p s m meth c b L xs) (hK : kK D cI cJ cZ s) (hk : 5 * k + 5 ≤ L) (hT : Two k x y cI cJ cZ w1 w2) (hW : tw D (LA s) w1 w2 H) (hS : va_S (LA s) s.heap H locs) (hl : lv_has ls 4 [(0, .ref b), (1, .ref x), (2, .ref y), (3, .int (nI (5 * k)))]) (kk : ∀ (w1 w2 : va_W) (H : Heap) (locs : List Loc), Two (k + 1) x y cI cJ cZ w1 w2 → tw D (LA s) w1 w2 H → va_S (LA s) s.heap H locs → W p l e room_1 s m #[Value.ref b] below meth c H locs 45 561 (lw_Z below #[Value.ref b] s) (F0 m 933 ls [])) : W p l e room_1 s m #[Value.ref b] below meth c H locs 45 561 (lw_Z below #[Value.ref b] s) (F0 m 887 ls []) := by
  obtain ⟨hx, hb, hr, hml, hown, hts0, hX, hbl, hlocks, hgv⟩ := C0
  have hown : s.vm.findClass RL = some m.cls := hown
  have hts : ∀ w ∈ wsL_law, w.before #[Value.ref b] s = true := fun w h => hts0 w (wsL_law_in w h)
  have hA : ∀ q : Nat, s.heap.size ≤ q → LA s q := fun _ h => h
  have hbA : ¬ LA s b := Nat.not_le.mpr hbl
  obtain ⟨f1, fx⟩ := two_x hT
  obtain ⟨f2, fy⟩ := two_y hT
  refine lv_aload_n hx hb dL_law_887 rfl (lv_at hl 1 rfl) ?_
  refine lv_aload_n hx hb dL_law_888 rfl (lv_at hl 0 rfl) ?_
  refine lv_iload_n hx hb dL_law_889 rfl (lv_at hl 3 rfl) ?_
  refine lv_iconst (v := 1) hx hb dL_law_890 (by decide) ?_
  refine lv_iadd hx hb dL_law_891 ?_
  refine va_sld hx hb hX hbl hbA hS (law_in (j := 1) hk hL (by decide)) dL_law_892 ?_
  obtain ⟨v, w1n, w2n, m1, m2, hT1⟩ := lw_again l (D := D) hT (by omega) (xs (Int32.toNatClampNeg (nI (5 * k) + 1)))
  refine wcI2 (va_runV (As := [.int (xs (Int32.toNatClampNeg (nI (5 * k) + 1)))]) (rest := []) ⟨hx, hb, hml, hown, hts⟩ (m1 H.size) (cwV 1 hts gL_law_X11_again rfl rfl rfl (by decide +kernel) ⟨Nat.le_of_ble_eq_true rfl, Nat.le_of_ble_eq_true rfl⟩) (wPreV hK hW.1 hW.2.2.1 (ci := 4) (q0 := 0) rfl fx) rfl rfl hl.1 rfl (lv_room (Nat.le_of_ble_eq_true rfl)) dL_law_893 ⟨Nat.le_of_ble_eq_true rfl, Nat.le_of_ble_eq_true rfl⟩) hW hS hA (fun H locs hW hS => ?_)
  have hW := tw_symm hW
  refine lv_aload_n hx hb dL_law_896 rfl (lv_at hl 2 rfl) ?_
  refine lv_aload_n hx hb dL_law_897 rfl (lv_at hl 0 rfl) ?_
  refine lv_iload_n hx hb dL_law_898 rfl (lv_at hl 3 rfl) ?_
  refine lv_iconst (v := 1) hx hb dL_law_899 (by decide) ?_
  refine lv_iadd hx hb dL_law_900 ?_
  refine va_sld hx hb hX hbl hbA hS (law_in (j := 1) hk hL (by decide)) dL_law_901 ?_
  refine wcI2 (va_runV (As := [.int (xs (Int32.toNatClampNeg (nI (5 * k) + 1)))]) (rest := [.int v]) ⟨hx, hb, hml, hown, hts⟩ (m2 H.size) (cwV 1 hts gL_law_X12_again rfl rfl rfl (by decide +kernel) ⟨Nat.le_of_ble_eq_true rfl, Nat.le_of_ble_eq_true rfl⟩) (wPreV hK hW.1 hW.2.2.1 (ci := 5) (q0 := 0) rfl fy) rfl rfl hl.1 rfl (lv_room (Nat.le_of_ble_eq_true rfl)) dL_law_902 ⟨Nat.le_of_ble_eq_true rfl, Nat.le_of_ble_eq_true rfl⟩) hW hS hA (fun H locs hW hS => ?_)
  have hW := tw_symm hW
  refine lv_icmp_eq (tgt := 933) hx hb dL_law_905 (by decide) (fun _ => ?_) (fun q => absurd rfl q)
  exact kk _ _ _ _ hT1 hW hS
set_option maxHeartbeats 4000000 in
set_option maxRecDepth 100000 in
theorem lc_count (hL : L ≤ 320) (C0 : lw_At p s m meth c b L xs) (hK : kK D cI cJ cZ s) (hk : 5 * k + 5 ≤ L) (hT : Two k x y cI cJ cZ w1 w2) (hW : tw D (LA s) w1 w2 H) (hS : va_S (LA s) s.heap H locs) (hl : lv_has ls 4 [(0, .ref b), (1, .ref x), (2, .ref y), (3, .int (nI (5 * k)))]) (kk : ∀ (w1 w2 : va_W) (H : Heap) (locs : List Loc), Two (k + 1) x y cI cJ cZ w1 w2 → tw D (LA s) w1 w2 H → va_S (LA s) s.heap H locs → W p l e room_1 s m #[Value.ref b] below meth c H locs 45 561 (lw_Z below #[Value.ref b] s) (F0 m 933 ls [])) : W p l e room_1 s m #[Value.ref b] below meth c H locs 45 561 (lw_Z below #[Value.ref b] s) (F0 m 910 ls []) := by
  obtain ⟨hx, hb, hr, hml, hown, hts0, hX, hbl, hlocks, hgv⟩ := C0
  have hown : s.vm.findClass RL = some m.cls := hown
  have hts : ∀ w ∈ wsL_law, w.before #[Value.ref b] s = true := fun w h => hts0 w (wsL_law_in w h)
  have hA : ∀ q : Nat, s.heap.size ≤ q → LA s q := fun _ h => h
  have hbA : ¬ LA s b := Nat.not_le.mpr hbl
  obtain ⟨f1, fx⟩ := two_x hT
  obtain ⟨f2, fy⟩ := two_y hT
  refine lv_aload_n hx hb dL_law_910 rfl (lv_at hl 1 rfl) ?_
  refine lv_aload_n hx hb dL_law_911 rfl (lv_at hl 0 rfl) ?_
  refine lv_iload_n hx hb dL_law_912 rfl (lv_at hl 3 rfl) ?_
  refine lv_iconst (v := 1) hx hb dL_law_913 (by decide) ?_
  refine lv_iadd hx hb dL_law_914 ?_
  refine va_sld hx hb hX hbl hbA hS (law_in (j := 1) hk hL (by decide)) dL_law_915 ?_
  obtain ⟨v, m1, m2, hT1⟩ := lw_count l (D := D) hT (by omega) (xs (Int32.toNatClampNeg (nI (5 * k) + 1)))
  refine rcI (va_runV (As := [.int (xs (Int32.toNatClampNeg (nI (5 * k) + 1)))]) (rest := []) ⟨hx, hb, hml, hown, hts⟩ (m1 H hW.1) (cwV 1 hts gL_law_X11_count rfl rfl rfl (by decide +kernel) ⟨Nat.le_of_ble_eq_true rfl, Nat.le_of_ble_eq_true rfl⟩) (rPreV hK hW.1 (ci := 4) (q0 := 0) rfl fx) rfl rfl hl.1 rfl (lv_room (Nat.le_of_ble_eq_true rfl)) dL_law_916 ⟨Nat.le_of_ble_eq_true rfl, Nat.le_of_ble_eq_true rfl⟩) ?_
  have hW := tw_symm hW
  refine lv_aload_n hx hb dL_law_919 rfl (lv_at hl 2 rfl) ?_
  refine lv_aload_n hx hb dL_law_920 rfl (lv_at hl 0 rfl) ?_
  refine lv_iload_n hx hb dL_law_921 rfl (lv_at hl 3 rfl) ?_
  refine lv_iconst (v := 1) hx hb dL_law_922 (by decide) ?_
  refine lv_iadd hx hb dL_law_923 ?_
  refine va_sld hx hb hX hbl hbA hS (law_in (j := 1) hk hL (by decide)) dL_law_924 ?_
  refine rcI (va_runV (As := [.int (xs (Int32.toNatClampNeg (nI (5 * k) + 1)))]) (rest := [.int v]) ⟨hx, hb, hml, hown, hts⟩ (m2 H hW.1) (cwV 1 hts gL_law_X12_count rfl rfl rfl (by decide +kernel) ⟨Nat.le_of_ble_eq_true rfl, Nat.le_of_ble_eq_true rfl⟩) (rPreV hK hW.1 (ci := 5) (q0 := 0) rfl fy) rfl rfl hl.1 rfl (lv_room (Nat.le_of_ble_eq_true rfl)) dL_law_925 ⟨Nat.le_of_ble_eq_true rfl, Nat.le_of_ble_eq_true rfl⟩) ?_
  have hW := tw_symm hW
  refine lv_icmp_eq (tgt := 933) hx hb dL_law_928 (by decide) (fun _ => ?_) (fun q => absurd rfl q)
  exact kk _ _ _ _ hT1 hW hS
end LAW
