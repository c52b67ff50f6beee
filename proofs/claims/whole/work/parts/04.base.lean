/-! the links of nest mates, the words of a world, contracts and calls (own rows) -/
abbrev zT (cI cJ cZ : ClassId) : List (ClassId × FieldType) := [(cI, .int), (cJ, .long), (cZ, .boolean)]
def kN (U : State) : Prop := va_Nw (.fieldLinkNest "WinnowedGuilt$Ballot" 19 "WinnowedGuilt$Floor" "people" "I" "WinnowedGuilt") U ∧ va_Nw (.fieldLinkNest "WinnowedGuilt$Shares" 7 "WinnowedGuilt$Floor" "people" "I" "WinnowedGuilt") U ∧ va_Nw (.fieldLinkNest "WinnowedGuilt" 75 "WinnowedGuilt$Floor" "people" "I" "WinnowedGuilt") U ∧ va_Nw (.fieldLinkNest "WinnowedGuilt" 78 "WinnowedGuilt$Floor" "hours" "I" "WinnowedGuilt") U ∧ va_Nw (.fieldLinkNest "WinnowedGuilt" 81 "WinnowedGuilt$Floor" "grains" "I" "WinnowedGuilt") U ∧ va_Nw (.fieldLinkNest "WinnowedGuilt" 171 "WinnowedGuilt$Acts" "size" "I" "WinnowedGuilt") U ∧ va_Nw (.fieldLinkNest "WinnowedGuilt" 209 "WinnowedGuilt$Seen" "size" "I" "WinnowedGuilt") U ∧ va_Nw (.methodLinkNest "WinnowedGuilt" 15 ⟨"WinnowedGuilt$Floor", "<init>", "()V"⟩ "WinnowedGuilt") U ∧ va_Nw (.methodLinkNest "WinnowedGuilt" 33 ⟨"WinnowedGuilt$Acts", "<init>", "()V"⟩ "WinnowedGuilt") U ∧ va_Nw (.methodLinkNest "WinnowedGuilt" 48 ⟨"WinnowedGuilt$Seen", "<init>", "()V"⟩ "WinnowedGuilt") U ∧ va_Nw (.methodLinkNest "WinnowedGuilt" 55 ⟨"WinnowedGuilt$Ballot", "<init>", "()V"⟩ "WinnowedGuilt") U ∧ va_Nw (.methodLinkNest "WinnowedGuilt" 180 ⟨"WinnowedGuilt$Turns", "mostRight", "(LWinnowedGuilt$Floor;JII)I"⟩ "WinnowedGuilt") U ∧ va_Nw (.methodLinkNest "WinnowedGuilt" 187 ⟨"WinnowedGuilt$Turns", "canBeClean", "(LWinnowedGuilt$Floor;JII)Z"⟩ "WinnowedGuilt") U ∧ va_Nw (.methodLinkNest "WinnowedGuilt" 237 ⟨"WinnowedGuilt$Gusts", "waysToBeGone", "(LWinnowedGuilt$Floor;JIII)I"⟩ "WinnowedGuilt") U
theorem kN_0 {U : State} (h : kN U) : va_Nw (.fieldLinkNest "WinnowedGuilt$Ballot" 19 "WinnowedGuilt$Floor" "people" "I" "WinnowedGuilt") U := h.1
theorem kN_1 {U : State} (h : kN U) : va_Nw (.fieldLinkNest "WinnowedGuilt$Shares" 7 "WinnowedGuilt$Floor" "people" "I" "WinnowedGuilt") U := h.2.1
theorem kN_2 {U : State} (h : kN U) : va_Nw (.fieldLinkNest "WinnowedGuilt" 75 "WinnowedGuilt$Floor" "people" "I" "WinnowedGuilt") U := h.2.2.1
theorem kN_3 {U : State} (h : kN U) : va_Nw (.fieldLinkNest "WinnowedGuilt" 78 "WinnowedGuilt$Floor" "hours" "I" "WinnowedGuilt") U := h.2.2.2.1
theorem kN_4 {U : State} (h : kN U) : va_Nw (.fieldLinkNest "WinnowedGuilt" 81 "WinnowedGuilt$Floor" "grains" "I" "WinnowedGuilt") U := h.2.2.2.2.1
theorem kN_5 {U : State} (h : kN U) : va_Nw (.fieldLinkNest "WinnowedGuilt" 171 "WinnowedGuilt$Acts" "size" "I" "WinnowedGuilt") U := h.2.2.2.2.2.1
theorem kN_6 {U : State} (h : kN U) : va_Nw (.fieldLinkNest "WinnowedGuilt" 209 "WinnowedGuilt$Seen" "size" "I" "WinnowedGuilt") U := h.2.2.2.2.2.2.1
theorem kN_7 {U : State} (h : kN U) : va_Nw (.methodLinkNest "WinnowedGuilt" 15 ⟨"WinnowedGuilt$Floor", "<init>", "()V"⟩ "WinnowedGuilt") U := h.2.2.2.2.2.2.2.1
theorem kN_8 {U : State} (h : kN U) : va_Nw (.methodLinkNest "WinnowedGuilt" 33 ⟨"WinnowedGuilt$Acts", "<init>", "()V"⟩ "WinnowedGuilt") U := h.2.2.2.2.2.2.2.2.1
theorem kN_9 {U : State} (h : kN U) : va_Nw (.methodLinkNest "WinnowedGuilt" 48 ⟨"WinnowedGuilt$Seen", "<init>", "()V"⟩ "WinnowedGuilt") U := h.2.2.2.2.2.2.2.2.2.1
theorem kN_10 {U : State} (h : kN U) : va_Nw (.methodLinkNest "WinnowedGuilt" 55 ⟨"WinnowedGuilt$Ballot", "<init>", "()V"⟩ "WinnowedGuilt") U := h.2.2.2.2.2.2.2.2.2.2.1
theorem kN_11 {U : State} (h : kN U) : va_Nw (.methodLinkNest "WinnowedGuilt" 180 ⟨"WinnowedGuilt$Turns", "mostRight", "(LWinnowedGuilt$Floor;JII)I"⟩ "WinnowedGuilt") U := h.2.2.2.2.2.2.2.2.2.2.2.1
theorem kN_12 {U : State} (h : kN U) : va_Nw (.methodLinkNest "WinnowedGuilt" 187 ⟨"WinnowedGuilt$Turns", "canBeClean", "(LWinnowedGuilt$Floor;JII)Z"⟩ "WinnowedGuilt") U := h.2.2.2.2.2.2.2.2.2.2.2.2.1
theorem kN_13 {U : State} (h : kN U) : va_Nw (.methodLinkNest "WinnowedGuilt" 237 ⟨"WinnowedGuilt$Gusts", "waysToBeGone", "(LWinnowedGuilt$Floor;JIII)I"⟩ "WinnowedGuilt") U := h.2.2.2.2.2.2.2.2.2.2.2.2.2
theorem kN_warm {s U : State} (hW : s.WarmedH U.vm) (h : kN s) : kN U := ⟨va_Nw.warmF hW (kN_0 h), va_Nw.warmF hW (kN_1 h), va_Nw.warmF hW (kN_2 h), va_Nw.warmF hW (kN_3 h), va_Nw.warmF hW (kN_4 h), va_Nw.warmF hW (kN_5 h), va_Nw.warmF hW (kN_6 h), va_Nw.warmM hW (kN_7 h), va_Nw.warmM hW (kN_8 h), va_Nw.warmM hW (kN_9 h), va_Nw.warmM hW (kN_10 h), va_Nw.warmM hW (kN_11 h), va_Nw.warmM hW (kN_12 h), va_Nw.warmM hW (kN_13 h)⟩
theorem kN_same {s U : State} (e : s.vm = U.vm) (h : kN s) : kN U := ⟨va_Nw.same rfl e (kN_0 h), va_Nw.same rfl e (kN_1 h), va_Nw.same rfl e (kN_2 h), va_Nw.same rfl e (kN_3 h), va_Nw.same rfl e (kN_4 h), va_Nw.same rfl e (kN_5 h), va_Nw.same rfl e (kN_6 h), va_Nw.same rfl e (kN_7 h), va_Nw.same rfl e (kN_8 h), va_Nw.same rfl e (kN_9 h), va_Nw.same rfl e (kN_10 h), va_Nw.same rfl e (kN_11 h), va_Nw.same rfl e (kN_12 h), va_Nw.same rfl e (kN_13 h)⟩
def kK (D : va_G) (cI cJ cZ : ClassId) (U : State) : Prop := va_K D vwCl (zT cI cJ cZ) U ∧ kN U
theorem kK_warm {D : va_G} {cI cJ cZ : ClassId} {s U : State} (hW : s.WarmedH U.vm) (h : kK D cI cJ cZ s) : kK D cI cJ cZ U := ⟨va_K.moved hW.alike h.1, kN_warm hW h.2⟩
theorem kK_call {D : va_G} {cI cJ cZ : ClassId} {U : State} {g : JFrame} {mk : MethodId} {a : Array Value} (h : kK D cI cJ cZ U) : kK D cI cJ cZ (U.calling g mk a) := ⟨va_K.moved (u := U) (U := U.calling g mk a) (Vm.Alike.refl U.vm) h.1, kN_same (s := U) (U := U.calling g mk a) rfl h.2⟩
/-- a method that reads: the heap is as it was -/
abbrev rPc (D : va_G) (cI cJ cZ : ClassId) (H0 : Heap) (av : List Value) : Array Value → State → Prop := va_Pc av (fun U => U.heap = H0 ∧ kK D cI cJ cZ U)
theorem rPc_blind {D : va_G} {cI cJ cZ : ClassId} {H0 : Heap} {av : List Value} : FrameBlind (rPc D cI cJ cZ H0 av) := fun a U g mk q => by
  obtain ⟨q0, q1, q2⟩ := q
  exact ⟨q0, q1, kK_call q2⟩
theorem rPreS {D : va_G} {cI cJ cZ : ClassId} {s : State} {H : Heap} {As : List Value} (hK : kK D cI cJ cZ s) : PreS s H (rPc D cI cJ cZ H As) As := ⟨rPc_blind, fun _ hU hW => ⟨rfl, hU, kK_warm hW hK⟩⟩
theorem rPreV {D : va_G} {cI cJ cZ : ClassId} {s : State} {H : Heap} {As : List Value} {w : va_W} {b ci q0 : Nat} {q : vw_C} {fs : List Value} (hK : kK D cI cJ cZ s) (hP : va_P D vwCl w H) (hc : vwCl[ci]? = some q) (he : w[q0]? = some (b, .inr (ci, fs))) : PreV s H q.1 b (rPc D cI cJ cZ H (.ref b :: As)) As := ⟨rPc_blind, va_recv hK.1 hP hc he, fun _ hU hW => ⟨rfl, hU, kK_warm hW hK⟩⟩
/-- a method that writes in a world -/
abbrev wPc (D : va_G) (cI cJ cZ : ClassId) (w : va_W) (sz : Nat) (av : List Value) : Array Value → State → Prop := va_Pc av (fun U => U.heap.size = sz ∧ va_P D vwCl w U.heap ∧ kK D cI cJ cZ U ∧ va_D (fun _ => True) w)
theorem wPc_blind {D : va_G} {cI cJ cZ : ClassId} {w : va_W} {sz : Nat} {av : List Value} : FrameBlind (wPc D cI cJ cZ w sz av) := fun a U g mk q => by
  obtain ⟨q0, q1, qP, qK, qD⟩ := q
  exact ⟨q0, q1, qP, kK_call qK, qD⟩
theorem wPreS {D : va_G} {cI cJ cZ : ClassId} {s : State} {H : Heap} {As : List Value} {w : va_W} {A : Nat → Prop} (hK : kK D cI cJ cZ s) (hP : va_P D vwCl w H) (hD : va_D A w) : PreS s H (wPc D cI cJ cZ w H.size As) As := ⟨wPc_blind, fun U hU hW => ⟨rfl, by rw [hU], by rw [hU]; exact hP, kK_warm hW hK, hD.weaken (fun _ _ _ _ => trivial)⟩⟩
theorem wPreV {D : va_G} {cI cJ cZ : ClassId} {s : State} {H : Heap} {As : List Value} {w : va_W} {A : Nat → Prop} {b ci q0 : Nat} {q : vw_C} {fs : List Value} (hK : kK D cI cJ cZ s) (hP : va_P D vwCl w H) (hD : va_D A w) (hc : vwCl[ci]? = some q) (he : w[q0]? = some (b, .inr (ci, fs))) : PreV s H q.1 b (wPc D cI cJ cZ w H.size (.ref b :: As)) As := ⟨wPc_blind, va_recv hK.1 hP hc he, fun U hU hW => ⟨rfl, by rw [hU], by rw [hU]; exact hP, kK_warm hW hK, hD.weaken (fun _ _ _ _ => trivial)⟩⟩
abbrev wB (D : va_G) (w w' : va_W) (sz : Nat) : Unit → State → Prop := fun _ t => va_P D vwCl w' t.heap ∧ va_D (va_A w sz) w'
abbrev wQi (D : va_G) (w w' : va_W) (sz : Nat) (v : Int32) : Array Value → State → Outcome → State → Prop := va_Qi (fun r (_ : Unit) => r = v) (wB D w w' sz) (va_A w sz)
abbrev wQl (D : va_G) (w w' : va_W) (sz : Nat) (v : Int64) : Array Value → State → Outcome → State → Prop := va_Ql (fun r (_ : Unit) => r = v) (wB D w w' sz) (va_A w sz)
abbrev wQv (D : va_G) (w w' : va_W) (sz : Nat) : Array Value → State → Outcome → State → Prop := va_Qv (fun (_ : Unit) => True) (wB D w w' sz) (va_A w sz)
theorem wFree {A : Nat → Prop} {w : va_W} {H0 H : Heap} {locs : List Loc} (hD : va_D A w) (hS : va_S A H0 H locs) (hA : ∀ q : Nat, H0.size ≤ q → A q) : ∀ q, va_A w H.size q → A q := by
  intro q h
  rcases h with ⟨k, e, h⟩ | h
  · exact hD.2 k (q, e) h
  · exact hA q (Nat.le_trans hS.1 h)
section CALLS
variable {p : Program} {l : Launch} {e : Env} {R : Room} {s : State} {m : MethodId} {args : Array Value} {below : List Frame} {meth : Method} {c : Code} {H : Heap} {locs : List Loc} {cells slots : Nat} {Q : State → Prop}
variable {pc : Nat} {ls : Array Slot} {rest st0 : List Value} {a : Array Value} {A : Nat → Prop} {H0 : Heap} {D : va_G} {w w' : va_W}
theorem rcI {v : Int32} (hr : va_Run p l e R s m args below meth c H locs cells slots 0 0 (F0 m pc ls st0) rest (vp_Si (fun r => r = v) a) (fun _ => False)) (k : W p l e R s m args below meth c H locs cells slots Q (F0 m (pc + 3) ls (.int v :: rest))) : W p l e R s m args below meth c H locs cells slots Q (F0 m pc ls st0) :=
  vp_callSi hr.run (fun r h => by rw [h]; exact k)
theorem rcL {v : Int64} (hr : va_Run p l e R s m args below meth c H locs cells slots 0 0 (F0 m pc ls st0) rest (vp_Sl (fun r => r = v) a) (fun _ => False)) (k : W p l e R s m args below meth c H locs cells slots Q (F0 m (pc + 3) ls (.long v :: rest))) : W p l e R s m args below meth c H locs cells slots Q (F0 m pc ls st0) :=
  vp_callSl hr.run (fun r h => by rw [h]; exact k)
theorem wcI {v : Int32} (hr : va_Run p l e R s m args below meth c H locs cells slots 0 0 (F0 m pc ls st0) rest (wQi D w w' H.size v a) (va_A w H.size)) (hD : va_D A w) (hS : va_S A H0 H locs) (hA : ∀ q : Nat, H0.size ≤ q → A q)
    (k : ∀ (H1 : Heap) (locs1 : List Loc), va_P D vwCl w' H1 → va_D A w' → va_S A H0 H1 locs1 → W p l e R s m args below meth c H1 locs1 cells slots Q (F0 m (pc + 3) ls (.int v :: rest))) : W p l e R s m args below meth c H locs cells slots Q (F0 m pc ls st0) := by
  have hF := wFree hD hS hA
  refine va_calli hr hS (fun q _ h => hF q h) hF (fun r u t H1 locs1 ht hvm hp hB hz hk hS1 => ?_)
  obtain ⟨hP1, hD1⟩ := hB
  rw [ht] at hP1
  rw [hp]
  exact k H1 locs1 hP1 (hD1.weaken (fun k q _ h => hF q.1 h)) hS1
theorem wcL {v : Int64} (hr : va_Run p l e R s m args below meth c H locs cells slots 0 0 (F0 m pc ls st0) rest (wQl D w w' H.size v a) (va_A w H.size)) (hD : va_D A w) (hS : va_S A H0 H locs) (hA : ∀ q : Nat, H0.size ≤ q → A q)
    (k : ∀ (H1 : Heap) (locs1 : List Loc), va_P D vwCl w' H1 → va_D A w' → va_S A H0 H1 locs1 → W p l e R s m args below meth c H1 locs1 cells slots Q (F0 m (pc + 3) ls (.long v :: rest))) : W p l e R s m args below meth c H locs cells slots Q (F0 m pc ls st0) := by
  have hF := wFree hD hS hA
  refine va_calll hr hS (fun q _ h => hF q h) hF (fun r u t H1 locs1 ht hvm hp hB hz hk hS1 => ?_)
  obtain ⟨hP1, hD1⟩ := hB
  rw [ht] at hP1
  rw [hp]
  exact k H1 locs1 hP1 (hD1.weaken (fun k q _ h => hF q.1 h)) hS1
theorem wcV (hr : va_Run p l e R s m args below meth c H locs cells slots 0 0 (F0 m pc ls st0) rest (wQv D w w' H.size a) (va_A w H.size)) (hD : va_D A w) (hS : va_S A H0 H locs) (hA : ∀ q : Nat, H0.size ≤ q → A q)
    (k : ∀ (H1 : Heap) (locs1 : List Loc), va_P D vwCl w' H1 → va_D A w' → va_S A H0 H1 locs1 → W p l e R s m args below meth c H1 locs1 cells slots Q (F0 m (pc + 3) ls rest)) : W p l e R s m args below meth c H locs cells slots Q (F0 m pc ls st0) := by
  have hF := wFree hD hS hA
  refine va_callv hr hS (fun q _ h => hF q h) hF (fun u t H1 locs1 ht hvm hp hB hz hk hS1 => ?_)
  obtain ⟨hP1, hD1⟩ := hB
  rw [ht] at hP1
  exact k H1 locs1 hP1 (hD1.weaken (fun k q _ h => hF q.1 h)) hS1
end CALLS
/-! the pure pictures: an index, a divisor, an answer that is true or false, what comes behind -/
def ixOk (i : Int32) (n : Nat) : Bool := decide (¬ (i < 0 ∨ n ≤ i.toNatClampNeg))
theorem ixOk_in {i : Int32} {n : Nat} (h : ixOk i n = true) : vp_in i n := by
  have q : ¬ (i < 0 ∨ n ≤ i.toNatClampNeg) := of_decide_eq_true h
  exact q
def gI {α : Type} (i : Int32) (n : Nat) (k : Option α) : Option α := if ixOk i n = true then k else none
theorem gI_some {α : Type} {i : Int32} {n : Nat} {k : Option α} {r : α} (h : gI i n k = some r) : vp_in i n ∧ k = some r := by
  unfold gI at h
  by_cases q : ixOk i n = true
  · rw [if_pos q] at h
    exact ⟨ixOk_in q, h⟩
  · rw [if_neg q] at h
    cases h
def gD {α : Type} (y : Int32) (k : Option α) : Option α := if y = 0 then none else k
theorem gD_some {α : Type} {y : Int32} {k : Option α} {r : α} (h : gD y k = some r) : ¬ y = 0 ∧ k = some r := by
  unfold gD at h
  by_cases q : y = 0
  · rw [if_pos q] at h
    cases h
  · rw [if_neg q] at h
    exact ⟨q, h⟩
def gZ {α : Type} (v : Int32) (k : Option α) : Option α := if v = 0 ∨ v = 1 then k else none
theorem gZ_some {α : Type} {v : Int32} {k : Option α} {r : α} (h : gZ v k = some r) : narrow .boolean (.int v) = .int v ∧ k = some r := by
  unfold gZ at h
  by_cases q : v = 0 ∨ v = 1
  · rw [if_pos q] at h
    refine ⟨?_, h⟩
    rcases q with q | q <;> (rw [q]; decide)
  · rw [if_neg q] at h
    cases h
theorem bS {α β : Type} {x : Option α} {f : α → Option β} {r : β} (h : x.bind f = some r) : ∃ y, x = some y ∧ f y = some r := by
  cases x with
  | none => cases h
  | some y => exact ⟨y, rfl, h⟩
theorem iT {α : Type} {c : Prop} [Decidable c] {a b : α} {r : α} (q : c) (h : (if c then a else b) = r) : a = r := (if_pos q).symm.trans h
theorem iF {α : Type} {c : Prop} [Decidable c] {a b : α} {r : α} (q : ¬ c) (h : (if c then a else b) = r) : b = r := (if_neg q).symm.trans h
section LDS
variable {p : Program} {l : Launch} {e : Env} {R : Room} {s : State} {m : MethodId} {args : Array Value} {below : List Frame} {meth : Method} {c : Code} {H : Heap} {locs : List Loc} {cells slots : Nat} {Q : State → Prop}
variable {cc : ByteArray} {pc : Nat} {ls : Array Slot} {rest : List Value} {D : va_G} {cl : List vw_C} {a : Nat} {tys : List (ClassId × FieldType)} {ws : va_W}
theorem ldI (hx : p.tables.exec = Jvm.exec) (hb : c.code = cc) (hK : va_K D cl tys s) (hP : va_P D cl ws H) (q0 : Nat) {cA : ClassId} {n : Nat} {f : Nat → Int32} {v : Int32} (ha : ws[q0]? = some (a, .inl (cA, n, .inl f))) (ht : tys[0]? = some (cA, .int)) {i : Int32} (hin : vp_in i n) (hv : f i.toNatClampNeg = v) (hdg : decode cc pc = .ok (.iaload, 1))
    (kk : W p l e R s m args below meth c H locs cells slots Q (F0 m (pc + 1) ls (.int v :: rest))) : W p l e R s m args below meth c H locs cells slots Q (F0 m pc ls (.int i :: .ref a :: rest)) := va_iald hx hb hK hP q0 0 ha ht hin hdg (by rw [hv]; exact kk)
theorem ldZ (hx : p.tables.exec = Jvm.exec) (hb : c.code = cc) (hK : va_K D cl tys s) (hP : va_P D cl ws H) (q0 : Nat) {cA : ClassId} {n : Nat} {f : Nat → Int32} {v : Int32} (ha : ws[q0]? = some (a, .inl (cA, n, .inl f))) (ht : tys[2]? = some (cA, .boolean)) {i : Int32} (hin : vp_in i n) (hv : f i.toNatClampNeg = v) (hdg : decode cc pc = .ok (.baload, 1))
    (kk : W p l e R s m args below meth c H locs cells slots Q (F0 m (pc + 1) ls (.int v :: rest))) : W p l e R s m args below meth c H locs cells slots Q (F0 m pc ls (.int i :: .ref a :: rest)) := va_zald hx hb hK hP q0 2 ha ht hin hdg (by rw [hv]; exact kk)
theorem ldL (hx : p.tables.exec = Jvm.exec) (hb : c.code = cc) (hK : va_K D cl tys s) (hP : va_P D cl ws H) (q0 : Nat) {cA : ClassId} {n : Nat} {f : Nat → Int64} {v : Int64} (ha : ws[q0]? = some (a, .inl (cA, n, .inr (.inl f)))) (ht : tys[1]? = some (cA, .long)) {i : Int32} (hin : vp_in i n) (hv : f i.toNatClampNeg = v) (hdg : decode cc pc = .ok (.laload, 1))
    (kk : W p l e R s m args below meth c H locs cells slots Q (F0 m (pc + 1) ls (.long v :: rest))) : W p l e R s m args below meth c H locs cells slots Q (F0 m pc ls (.int i :: .ref a :: rest)) := va_lald hx hb hK hP q0 1 ha ht hin hdg (by rw [hv]; exact kk)
end LDS
def mW (a : Nat → Nat) (cI cZ : ClassId) (mPeople : Int32) (mHours : Int32) (mGrains : Int32) (mKind : Nat → Int32) (mWind : Nat → Int32) (mWeight : Nat → Int32) (mSort : Nat → Int32) (mOwner : Nat → Int32) (mNow : Nat → Int32) (mReadKind : Nat → Int32) (mReadWind : Nat → Int32) (mReadGrain : Nat → Int32) (mReadPeople : Int32) (mReadHours : Int32) (mReadGrains : Int32) (mText : Nat → Int32) (mLength : Int32) (mAt : Int32) (mFaultAt : Int32) (mMoved : Nat → Int32) (mActs : Int32) (mNext : Int32) (mRow : Nat → Int32) (mSeen : Int32) (mSeenKind : Nat → Int32) (mSeenLift : Nat → Int32) (mSeenFlew : Nat → Int32) (mSeed : Int64) (mIsKept : Nat → Int32) (mKept : Nat → Int32) : va_W := [((a 0), .inr (5, [.int mPeople, .int mHours, .int mGrains, .ref (a 1), .ref (a 2), .ref (a 3), .ref (a 4), .ref (a 5), .ref (a 6), .ref (a 7), .ref (a 8), .ref (a 9), .int mReadPeople, .int mReadHours, .int mReadGrains, .ref (a 10), .int mLength, .int mAt, .int mFaultAt, .ref (a 11), .int mActs, .int mNext, .ref (a 12), .int mSeen, .ref (a 13), .ref (a 14), .ref (a 15), .long mSeed, .ref (a 16), .ref (a 17)])), ((a 1), .inl (cI, 4, .inl mKind)), ((a 2), .inl (cI, 6, .inl mWind)), ((a 3), .inl (cI, 7, .inl mWeight)), ((a 4), .inl (cI, 7, .inl mSort)), ((a 5), .inl (cI, 7, .inl mOwner)), ((a 6), .inl (cI, 18, .inl mNow)), ((a 7), .inl (cI, 4, .inl mReadKind)), ((a 8), .inl (cI, 6, .inl mReadWind)), ((a 9), .inl (cI, 28, .inl mReadGrain)), ((a 10), .inl (cI, 56, .inl mText)), ((a 11), .inl (cI, 7, .inl mMoved)), ((a 12), .inl (cI, 126, .inl mRow)), ((a 13), .inl (cI, 6, .inl mSeenKind)), ((a 14), .inl (cI, 6, .inl mSeenLift)), ((a 15), .inl (cI, 6, .inl mSeenFlew)), ((a 16), .inl (cZ, 2, .inl mIsKept)), ((a 17), .inl (cI, 18, .inl mKept))]
def fW (g : Nat → Nat) (cI : ClassId) (fPk : Nat → Int32) (fWn : Nat → Int32) (fGw : Nat → Int32) (fGk : Nat → Int32) (fOw : Nat → Int32) (fSt : Nat → Int32) (fPe : Int32) (fHo : Int32) (fGr : Int32) (fPa : Int32) (fFt : Int32) : va_W := [((g 0), .inr (2, [.ref (g 1), .ref (g 2), .ref (g 3), .ref (g 4), .ref (g 5), .ref (g 6), .int fPe, .int fHo, .int fGr, .int fPa, .int fFt])), ((g 1), .inl (cI, 4, .inl fPk)), ((g 2), .inl (cI, 6, .inl fWn)), ((g 3), .inl (cI, 7, .inl fGw)), ((g 4), .inl (cI, 7, .inl fGk)), ((g 5), .inl (cI, 7, .inl fOw)), ((g 6), .inl (cI, 7, .inl fSt))]
def xW (a : Nat → Nat) (g : Nat → Nat) (d : Nat → Nat) (cI cJ cZ : ClassId) (fg : Nat) (fd : Nat) (xText : Nat → Int32) (xLetters : Int32) (xNow : Int64) (xKept : Nat → Int64) (xIsKept : Nat → Int32) (xChance : Int64) (xScenes : Nat → Int64) (xASize : Int32) (xSKinds : Nat → Int32) (xSLifts : Nat → Int32) (xSFlights : Nat → Int32) (xSSize : Int32) (xTally : Nat → Int32) (xOut : Nat → Int64) (fPk : Nat → Int32) (fWn : Nat → Int32) (fGw : Nat → Int32) (fGk : Nat → Int32) (fOw : Nat → Int32) (fSt : Nat → Int32) (fPe : Int32) (fHo : Int32) (fGr : Int32) (fPa : Int32) (fFt : Int32) (dPk : Nat → Int32) (dWn : Nat → Int32) (dGw : Nat → Int32) (dGk : Nat → Int32) (dOw : Nat → Int32) (dSt : Nat → Int32) (dPe : Int32) (dHo : Int32) (dGr : Int32) (dPa : Int32) (dFt : Int32) : va_W := [((a 0), .inr (4, [.ref (a 1), .int xLetters, .ref fg, .ref fd, .long xNow, .ref (a 2), .ref (a 3), .ref (a 4), .ref (a 5), .ref (a 6), .long xChance])), ((a 1), .inl (cI, 56, .inl xText)), ((a 3), .inl (cJ, 2, .inr (.inl xKept))), ((a 4), .inl (cZ, 2, .inl xIsKept)), ((a 2), .inr (0, [.ref (a 7), .int xASize])), ((a 7), .inl (cJ, 14, .inr (.inl xScenes))), ((a 5), .inr (3, [.ref (a 8), .ref (a 9), .ref (a 10), .int xSSize])), ((a 8), .inl (cI, 6, .inl xSKinds)), ((a 9), .inl (cI, 6, .inl xSLifts)), ((a 10), .inl (cI, 6, .inl xSFlights)), ((a 6), .inr (1, [.ref (a 11), .ref (a 12)])), ((a 11), .inl (cI, 4, .inl xTally)), ((a 12), .inl (cJ, 4, .inr (.inl xOut))), ((g 0), .inr (2, [.ref (g 1), .ref (g 2), .ref (g 3), .ref (g 4), .ref (g 5), .ref (g 6), .int fPe, .int fHo, .int fGr, .int fPa, .int fFt])), ((g 1), .inl (cI, 4, .inl fPk)), ((g 2), .inl (cI, 6, .inl fWn)), ((g 3), .inl (cI, 7, .inl fGw)), ((g 4), .inl (cI, 7, .inl fGk)), ((g 5), .inl (cI, 7, .inl fOw)), ((g 6), .inl (cI, 7, .inl fSt)), ((d 0), .inr (2, [.ref (d 1), .ref (d 2), .ref (d 3), .ref (d 4), .ref (d 5), .ref (d 6), .int dPe, .int dHo, .int dGr, .int dPa, .int dFt])), ((d 1), .inl (cI, 4, .inl dPk)), ((d 2), .inl (cI, 6, .inl dWn)), ((d 3), .inl (cI, 7, .inl dGw)), ((d 4), .inl (cI, 7, .inl dGk)), ((d 5), .inl (cI, 7, .inl dOw)), ((d 6), .inl (cI, 7, .inl dSt))]
