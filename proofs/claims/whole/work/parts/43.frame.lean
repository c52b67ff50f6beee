/-! ===== two worlds side by side ===== -/
def apt (w1 w2 : va_W) : Prop := ∀ (i j : Nat) (p q : Nat × va_E), w1[i]? = some p → w2[j]? = some q → p.1 ≠ q.1
def tw (D : va_G) (A : Nat → Prop) (w1 w2 : va_W) (H : Heap) : Prop := va_P D vwCl w1 H ∧ va_P D vwCl w2 H ∧ va_D A w1 ∧ va_D A w2 ∧ apt w1 w2
theorem tw_symm {D : va_G} {A : Nat → Prop} {w1 w2 : va_W} {H : Heap} (h : tw D A w1 w2 H) : tw D A w2 w1 H := ⟨h.2.1, h.1, h.2.2.2.1, h.2.2.1, fun i j p q hp hq e => h.2.2.2.2 j i q p hq hp e.symm⟩
theorem tw_next {D : va_G} {A : Nat → Prop} {w w' w2 : va_W} {H H1 : Heap} (h : tw D A w w2 H) (hF : ∀ q, va_A w H.size q → A q) (hP1 : va_P D vwCl w' H1) (hD1 : va_D (va_A w H.size) w') (hk : ∀ q : Nat, q < H.size → ¬ va_A w H.size q → H1[q]? = H[q]?) : tw D A w' w2 H1 := by
  obtain ⟨p1, p2, d1, d2, ap⟩ := h
  have out : ∀ (k : Nat) (q : Nat × va_E), w2[k]? = some q → q.1 < H.size ∧ ¬ va_A w H.size q.1 := fun k q hq => by
    have hlt : q.1 < H.size := (p2 k q hq).lt
    refine ⟨hlt, fun z => ?_⟩
    rcases z with ⟨i, e, z⟩ | z
    · exact ap i k (q.1, e) q z hq rfl
    · omega
  refine ⟨hP1, p2.kept (fun k q hq => hk q.1 (out k q hq).1 (out k q hq).2), hD1.weaken (fun k q _ z => hF q.1 z), d2, fun i j p q hp hq e => ?_⟩
  have hp' := hD1.2 i p hp
  rw [e] at hp'
  exact (out j q hq).2 hp'
section CALLS2
variable {p : Program} {l : Launch} {e : Env} {R : Room} {s : State} {m : MethodId} {args : Array Value} {below : List Frame} {meth : Method} {c : Code} {H : Heap} {locs : List Loc} {cells slots : Nat} {Q : State → Prop}
variable {pc : Nat} {ls : Array Slot} {rest st0 : List Value} {a : Array Value} {A : Nat → Prop} {H0 : Heap} {D : va_G} {w w' w2 : va_W}
theorem wcI2 {v : Int32} (hr : va_Run p l e R s m args below meth c H locs cells slots 0 0 (F0 m pc ls st0) rest (wQi D w w' H.size v a) (va_A w H.size)) (hT : tw D A w w2 H) (hS : va_S A H0 H locs) (hA : ∀ q : Nat, H0.size ≤ q → A q)
    (k : ∀ (H1 : Heap) (locs1 : List Loc), tw D A w' w2 H1 → va_S A H0 H1 locs1 → W p l e R s m args below meth c H1 locs1 cells slots Q (F0 m (pc + 3) ls (.int v :: rest))) : W p l e R s m args below meth c H locs cells slots Q (F0 m pc ls st0) := by
  have hF := wFree hT.2.2.1 hS hA
  refine va_calli hr hS (fun q _ h => hF q h) hF (fun r u t H1 locs1 ht hvm hp hB hz hk hS1 => ?_)
  obtain ⟨hP1, hD1⟩ := hB
  rw [ht] at hP1
  rw [hp]
  exact k H1 locs1 (tw_next hT hF hP1 hD1 hk) hS1
theorem wcL2 {v : Int64} (hr : va_Run p l e R s m args below meth c H locs cells slots 0 0 (F0 m pc ls st0) rest (wQl D w w' H.size v a) (va_A w H.size)) (hT : tw D A w w2 H) (hS : va_S A H0 H locs) (hA : ∀ q : Nat, H0.size ≤ q → A q)
    (k : ∀ (H1 : Heap) (locs1 : List Loc), tw D A w' w2 H1 → va_S A H0 H1 locs1 → W p l e R s m args below meth c H1 locs1 cells slots Q (F0 m (pc + 3) ls (.long v :: rest))) : W p l e R s m args below meth c H locs cells slots Q (F0 m pc ls st0) := by
  have hF := wFree hT.2.2.1 hS hA
  refine va_calll hr hS (fun q _ h => hF q h) hF (fun r u t H1 locs1 ht hvm hp hB hz hk hS1 => ?_)
  obtain ⟨hP1, hD1⟩ := hB
  rw [ht] at hP1
  rw [hp]
  exact k H1 locs1 (tw_next hT hF hP1 hD1 hk) hS1
end CALLS2
