/-! new int[5][5]: the kit at hand has no row for multianewarray; this is one, for five rows of five ints -/
def gdV (h0 i : Nat) : Nat → Value := fun j => if j < i then .ref (h0 + 1 + j) else .null
def gdC (cA : ClassId) (h0 i : Nat) : Cell := arrV cA 5 (gdV h0 i)
def gdR (cI : ClassId) : Cell := arrV cI 5 (fun _ => .int 0)
/-- the state with i rows made -/
def gdS (S : State) (cA cI : ClassId) : Nat → State
  | 0 => S.pushCell (gdC cA S.heap.size 0)
  | i + 1 => ((gdS S cA cI i).pushCell (gdR cI)).setCell S.heap.size (gdC cA S.heap.size (i + 1))
theorem gd_next (cA : ClassId) (h0 i : Nat) : (gdC cA h0 i).setSlot i (.ref (h0 + 1 + i)) = gdC cA h0 (i + 1) := by
  rw [gdC, arrV_store, gdC]
  congr 1
  funext j
  simp only [updV, gdV]
  by_cases e : j = i
  · subst e; simp
  · by_cases q : j < i
    · simp [e, q, Nat.lt_succ_of_lt q]
    · simp [e, q, show ¬ j < i + 1 by omega]
theorem gd_sz (S : State) (cA cI : ClassId) : ∀ i, (gdS S cA cI i).heap.size = S.heap.size + 1 + i ∧ (gdS S cA cI i).heap[S.heap.size]? = some (gdC cA S.heap.size i) ∧ (gdS S cA cI i).vm = S.vm ∧ (gdS S cA cI i).slotsUsed = S.slotsUsed + 5 + 5 * i ∧ (∀ x, x < S.heap.size → (gdS S cA cI i).heap[x]? = S.heap[x]?) ∧ ∀ j, j < i → (gdS S cA cI i).heap[S.heap.size + 1 + j]? = some (gdR cI) := by
  intro i
  induction i with
  | zero =>
    refine ⟨by simp [gdS], by simp [gdS], rfl, by simp [gdS, gdC, arrV_size], fun x hx => State.heap_pushCell_of_lt _ _ hx, fun j hj => by omega⟩
  | succ i ih =>
    obtain ⟨a, b, d, u, o, r⟩ := ih
    have hlt : S.heap.size < (gdS S cA cI i).heap.size := by omega
    have hb : ((gdS S cA cI i).pushCell (gdR cI)).heap[S.heap.size]? = some (gdC cA S.heap.size i) := by rw [State.heap_pushCell_of_lt (h := hlt)]; exact b
    refine ⟨by simp [gdS, State.setCell, a]; omega, State.heap_setCell_self hb, by simp [gdS, d], by simp [gdS, u, gdR, arrV_size]; omega, fun x hx => ?_, fun j hj => ?_⟩
    · show (((gdS S cA cI i).pushCell (gdR cI)).setCell S.heap.size _).heap[x]? = _
      have hx' : x < (gdS S cA cI i).heap.size := by omega
      rw [State.heap_setCell_other (Nat.ne_of_gt hx), State.heap_pushCell_of_lt (h := hx')]
      exact o x hx
    · show (((gdS S cA cI i).pushCell (gdR cI)).setCell S.heap.size _).heap[S.heap.size + 1 + j]? = _
      rw [State.heap_setCell_other (show S.heap.size ≠ S.heap.size + 1 + j by omega)]
      by_cases e : j = i
      · subst e
        rw [← a]
        exact State.heap_pushCell_size _ _
      · have hj' : S.heap.size + 1 + j < (gdS S cA cI i).heap.size := by omega
        rw [State.heap_pushCell_of_lt (h := hj')]
        exact r j (by omega)
theorem gd_top (S : State) (f : JFrame) (cA cI : ClassId) : ∀ i, gdS (S.setTop f) cA cI i = (gdS S cA cI i).setTop f := by
  intro i
  induction i with
  | zero => rfl
  | succ i ih => simp only [gdS, ih, State.heap_setTop, State.pushCell_setTop, State.setCell_setTop]
section GD
variable {E : CtlPost} {e : Env} {d : Bool} {acts : List Action} {S : State}
theorem gd_alloc {c comp : ClassId} {k : Class} {type : FieldType} {init : Value} (hk : S.vm.classes[c]? = some k) (hkind : k.kind = .array comp type) (hl : ¬ 5 > e.platform.arrayLengthLimit) (hh : ¬ 5 * componentBytes type > e.platform.maxHeapBytes) (hfit : fits type init = true) (hdef : init.isDefault = true) (h1 : S.heap.size < e.platform.maxCells) (h2 : S.slotsUsed + 5 ≤ e.platform.maxSlots) {Q : Addr → Pre} (hq : Q S.heap.size d acts (S.pushCell (arrV c 5 (fun _ => init)))) : wp (Jvm.newArray c 5 init) Q E e d acts S := by
  rw [← arrV_new] at hq
  have hf : ∀ i v, (Array.replicate 5 init)[i]? = some v → S.fitsSlot c .none i v = true := by
    intro i v hv
    rw [Array.getElem?_replicate] at hv
    split at hv
    · cases hv; simp [State.fitsSlot, State.slotType?, hk, hkind, hfit]
    · cases hv
  have ha : allocActs (Array.replicate 5 init) S.heap.size acts = acts := by
    unfold allocActs
    rw [if_pos (by rw [Array.all_replicate]; simp [hdef])]
  simp only [Jvm.newArray, Jvm.arrayFits, wp_bind', W.ask, W.ite, hl, if_false, wp_pure', W.theClass, hk, hkind, hh, W.alloc, W.stop, Option.some.injEq, exists_eq_left', Array.size_replicate, ha]
  rw [if_neg (by omega)]
  exact ⟨h1, h2, hf, hq⟩
theorem gd_row {cI ci : ClassId} {kI : Class} (hI : S.vm.classes[cI]? = some kI) (hIk : kI.kind = .array ci .int) (hl : ¬ 5 > e.platform.arrayLengthLimit) (hh : ¬ 5 * 4 > e.platform.maxHeapBytes) (h1 : S.heap.size < e.platform.maxCells) (h2 : S.slotsUsed + 5 ≤ e.platform.maxSlots) {Q : Addr → Pre} (hq : Q S.heap.size d acts (S.pushCell (gdR cI))) : wp (multianewarray.make cI [5]) Q E e d acts S := by
  rw [multianewarray.make]
  simp only [wp_bind', W.ite, show ¬ (5 : Int32) < 0 by decide, if_false, wp_pure', W.theClass, hI, hIk, Option.some.injEq, exists_eq_left']
  refine gd_alloc hI hIk hl hh rfl rfl h1 h2 ?_
  exact hq
theorem gd_make {cA cI ci : ClassId} {kA kI : Class} (hA : S.vm.classes[cA]? = some kA) (hAk : kA.kind = .array cI (.array .int)) (hI : S.vm.classes[cI]? = some kI) (hIk : kI.kind = .array ci .int) (hl : ¬ 5 > e.platform.arrayLengthLimit) (hh : ¬ 5 * 4 > e.platform.maxHeapBytes) (h1 : S.heap.size + 6 ≤ e.platform.maxCells) (h2 : S.slotsUsed + 30 ≤ e.platform.maxSlots) {Q : Addr → Pre} (hq : ∀ d' acts', Q S.heap.size d' acts' (gdS S cA cI 5)) : wp (multianewarray.make cA [5, 5]) Q E e d acts S := by
  rw [multianewarray.make]
  simp only [wp_bind', W.ite, show ¬ (5 : Int32) < 0 by decide, if_false, wp_pure', W.theClass, hA, hAk, Option.some.injEq, exists_eq_left']
  refine gd_alloc hA hAk hl hh rfl rfl (by omega) (by omega) ?_
  rw [show ([(5 : Int32)].find? (· < 0)) = none by decide]
  simp only []
  rw [ite_self, wp_bind', Std.Legacy.Range.forIn_eq_forIn_range']
  show wp (forIn (List.range' 0 5 1) PUnit.unit _) _ E e d acts (gdS S cA cI 0)
  have go : ∀ (c i : Nat) (d : Bool) (acts : List Action), i + c = 5 → wp (forIn (List.range' i c 1) PUnit.unit (fun i r => do
      Jvm.writeLoc S.heap.size i (.ref (← multianewarray.make cI [5]))
      Pure.pure (ForInStep.yield PUnit.unit))) (fun a => wp (Pure.pure S.heap.size) Q E e) E e d acts (gdS S cA cI i) := by
    intro c
    induction c with
    | zero =>
      intro i d acts hi
      have : i = 5 := by omega
      subst this
      simp only [List.range'_zero, List.forIn_nil, wp_pure']
      exact hq _ _
    | succ c ih =>
      intro i d acts hi
      obtain ⟨f1, f2, f3, f4, f5, f6⟩ := gd_sz S cA cI i
      rw [List.range'_succ, List.forIn_cons]
      simp only [wp_bind']
      refine gd_row (by rw [f3]; exact hI) hIk hl hh (by omega) (by omega) ?_
      simp only [wp_bind', W.writeLoc, wp_pure']
      have hl' : S.heap.size < (gdS S cA cI i).heap.size := by omega
      refine ⟨gdC cA S.heap.size i, by rw [State.heap_pushCell_of_lt (h := hl')]; exact f2, by simp [gdC, arrV], by rw [gdC, arrV_size]; omega, ?_, ?_⟩
      · simp [State.fitsSlot, State.slotType?, f3, hA, hAk, gdC, arrV, fits]
      · rw [f1, gd_next]
        exact ih (i + 1) _ _ (by omega)
  exact go 5 0 _ _ rfl
end GD
section GE
variable {p : Program} {l : Launch} {e : Env} {R : Room} {s : State} {m : MethodId} {args : Array Value} {below : List Frame} {meth : Method} {c : Code} {T : State} {locs : List Loc} {cells slots : Nat}
theorem gd_stand (X : Stand p l e R s m args below meth c T locs cells slots) (cA cI : ClassId) : ∀ i, Stand p l e R s m args below meth c (gdS T cA cI i) locs (cells + 1 + i) (slots + 5 + 5 * i) := by
  intro i
  induction i with
  | zero =>
    have h := X.pushed (gdC cA T.heap.size 0)
    rw [gdC, arrV_size] at h
    simpa [gdS, gdC] using h
  | succ i ih =>
    obtain ⟨f1, f2, -⟩ := gd_sz T cA cI i
    have hc : ((gdS T cA cI i).pushCell (gdR cI)).heap[T.heap.size]? = some (gdC cA T.heap.size i) := by
      have hl' : T.heap.size < (gdS T cA cI i).heap.size := by omega
      rw [State.heap_pushCell_of_lt (h := hl')]; exact f2
    have h := (ih.pushed (gdR cI)).stored hc i (.ref (T.heap.size + 1 + i))
    rw [gd_next, gdR, arrV_size] at h
    have h2 := Stand.forget (locs := locs) h (fun q hq => by rw [List.mem_singleton.mp hq]; exact X.heapGrown)
    have e1 : slots + 5 + 5 * i + 5 = slots + 5 + 5 * (i + 1) := by omega
    rw [← e1]
    exact h2
end GE
/-- what the tables say of int[][] -/
def gdT (g : Nat → ClassId) (U : State) : Prop := ∃ kA : Class, U.vm.classes[g 3]? = some kA ∧ kA.kind = .array (g 0) (.array .int)
theorem gdT.moved {g : Nat → ClassId} {u U : State} (hvm : u.vm.Alike U.vm) (h : gdT g u) : gdT g U := by
  obtain ⟨kA, h1, h2⟩ := h
  obtain ⟨k', hk', he⟩ := hvm.2.2 _ _ h1
  exact ⟨k', hk', by rw [he]; exact h2⟩
abbrev gdF (q : Nat) : Nat → Option Nat := fun i => if i < 5 then some (q + 1 + i) else none
abbrev gdI (g : Nat → ClassId) (q : Nat) : Nat × va_E := (q, .inl (g 0, 5, .inl (fun _ => 0)))
abbrev gdL (g : Nat → ClassId) (q : Nat) : va_W := [(q, .inl (g 3, 5, .inr (.inr (.inr (.inr (gdF q)))))), gdI g (q + 1), gdI g (q + 2), gdI g (q + 3), gdI g (q + 4), gdI g (q + 5)]
theorem gd_at (g : Nat → ClassId) (q : Nat) : ∀ (k : Nat) (x : Nat × va_E), (gdL g q)[k]? = some x → x.1 = q + k := by
  intro k x h
  have hk : k < 6 := (List.getElem?_eq_some_iff.mp h).1
  rcases (show k = 0 ∨ k = 1 ∨ k = 2 ∨ k = 3 ∨ k = 4 ∨ k = 5 by omega) with rfl | rfl | rfl | rfl | rfl | rfl <;> (cases h; rfl)
theorem gd_fn (q : Nat) : (fun j => va_rf (gdF q j)) = gdV q 5 := by
  funext j
  by_cases e : j < 5
  · simp [gdF, gdV, e, va_rf]
  · simp [gdF, gdV, e, va_rf]
section GW
variable {p : Program} {l : Launch} {e : Env} {R : Room} {s : State} {m : MethodId} {args : Array Value} {below : List Frame} {meth : Method} {c : Code} {H : Heap} {locs : List Loc} {cells slots : Nat} {Q : State → Prop}
variable {cc : ByteArray} {pc : Nat} {ls : Array Slot} {rest : List Value} {D : va_G} {g : Nat → ClassId} {A : Nat → Prop} {H0 : Heap} {W0 W1 : va_W} {own : String} {cw : Cond}
theorem gd_W (X : Cx p s m c args cc own cw D g) (Y : Hp D A H0 H locs W0) (hG : gdT g s) {index : Nat} (hcl : Cond.classLink own index "[[I" ∈ TB) (hcells : cells + 6 ≤ R.cells) (hslots : slots + 30 ≤ R.slots) (hdg : decode cc pc = .ok (.multianewarray index 2, 4))
    (kk : ∀ (q : Nat) (H1 : Heap), Hp D A H0 H1 locs (W0 ++ gdL g q) → W p l e R s m args below meth c H1 locs (cells + 6) (slots + 30) Q (F0 m (pc + 4) ls (.ref q :: rest))) : W p l e R s m args below meth c H locs cells slots Q (F0 m pc ls (.int 5 :: .int 5 :: rest)) := by
  intro T hT X0
  have hpl : e.platform.magicAccessors = ({} : Platform).magicAccessors := by rw [X0.admits.platform]
  obtain ⟨kA, hkA, hkindA⟩ := hG
  obtain ⟨-, kC, hkC, cc0, hkindC⟩ := (X.2.2.2.2.2 0 _ rfl).1 0 (fun _ => .null)
  obtain ⟨c0, hfc0, hcl0⟩ := Cond.classLink_spec X.2.2.1 (X.tb hcl) e.platform hpl
  have hn3 : s.vm.findClass "[[I" = some (g 3) := (X.2.2.2.2.2 3 _ rfl).2
  cases hn3.symm.trans hfc0
  obtain ⟨hg1, hwarm, hready⟩ := State.classEntry (e := e) X0.warmed hcl0
  generalize T.vm.noted m.cls index (.cls (g 3)) = vm1 at hg1 hwarm hready
  have hal : s.vm.Alike vm1 := hwarm.alike
  obtain ⟨kA1, hkA1, heA⟩ := hal.2.2 _ _ hkA
  obtain ⟨kC1, hkC1, heC⟩ := hal.2.2 _ _ hkC
  have hkindA1 : kA1.kind = .array (g 0) (.array .int) := by rw [heA]; exact hkindA
  have hkindC1 : kC1.kind = .array cc0 .int := by rw [heC]; exact hkindC
  have X1 := X0.noted hwarm
  obtain ⟨hr1, hr2⟩ := X0.roomAbove hcells hslots
  have hl1 : ¬ 5 > e.platform.arrayLengthLimit := by rw [Launch.admits_arrayLengthLimit X0.admits]; decide
  have hh1 : ¬ 5 * 4 > e.platform.maxHeapBytes := by rw [Launch.admits_maxHeapBytes X0.admits]; decide
  have XF := gd_stand X1 (g 3) (g 0) 5
  obtain ⟨f1, f2, f3, f4, f5, f6⟩ := gd_sz (T.setVm vm1) (g 3) (g 0) 5
  have hTs : (T.setVm vm1).heap.size = H.size := by rw [← hT]; rfl
  have hHp : Hp D A H0 (gdS (T.setVm vm1) (g 3) (g 0) 5).heap locs (W0 ++ gdL g H.size) := by
    rw [hTs] at f1 f2 f5 f6
    refine ⟨(Y.1.kept fun k x hx => ?_).app (fun k x hx => ?_), va_D.app Y.2.1 ⟨fun i j x y hi hj hxy => ?_, fun k x hx => ?_⟩ (fun i j x y hx hy => ?_), ⟨?_, fun q h1 h2 => ?_, Y.2.2.1.2.2⟩, Y.2.2.2⟩
    · rw [f5 _ (Y.1 k x hx).lt]
      show T.heap[_]? = _
      rw [hT]
    · have hk : k < 6 := (List.getElem?_eq_some_iff.mp hx).1
      rcases (show k = 0 ∨ k = 1 ∨ k = 2 ∨ k = 3 ∨ k = 4 ∨ k = 5 by omega) with rfl | rfl | rfl | rfl | rfl | rfl
      · cases hx
        show (gdS (T.setVm vm1) (g 3) (g 0) 5).heap[H.size]? = some (vp_cell _ _)
        rw [vp_cell_q, gd_fn]
        exact f2
      · cases hx; exact f6 0 (by decide)
      · cases hx; exact f6 1 (by decide)
      · cases hx; exact f6 2 (by decide)
      · cases hx; exact f6 3 (by decide)
      · cases hx; exact f6 4 (by decide)
    · have e1 := gd_at g _ _ _ hi
      have e2 := gd_at g _ _ _ hj
      omega
    · rw [gd_at g _ _ _ hx]
      exact Y.2.2.2 _ (Nat.le_trans Y.2.2.1.1 (Nat.le_add_right _ _))
    · have e1 := (Y.1 i x hx).lt
      have e2 := gd_at g _ _ _ hy
      omega
    · rw [f1]; have := Y.2.2.1.1; omega
    · rw [f5 q (Nat.lt_of_lt_of_le h1 Y.2.2.1.1)]
      show T.heap[q]? = _
      rw [hT]
      exact Y.2.2.1.2.1 q h1 h2
  obtain ⟨t, a1, b1⟩ := kk H.size _ hHp _ rfl XF
  refine ⟨t, ?_, b1⟩
  jvm_step X0.here [X.1, X.2.1, hdg]
  simp only [multianewarray.sem, wp_bind', W.resolveClassAt_links (State.method?_setTop (F0 m pc ls (.int 5 :: .int 5 :: rest)) X0.here.top) hg1]
  rw [W.popN, if_neg (by decide)]
  refine ⟨_, State.topJava?_setTop' (s := T.setVm vm1) _ X0.here.top, [.int 5, .int 5], rest, rfl, rfl, ?_⟩
  simp only [List.mapM_cons, List.mapM_nil, wp_bind', wp_pure']
  refine gd_make hkA1 hkindA1 hkC1 hkindC1 hl1 hh1 (by show T.heap.size + 6 ≤ _; omega) (by show T.slotsUsed + 30 ≤ _; omega) (fun d' acts' => ?_)
  have eS : ((T.setTop (F0 m pc ls (.int 5 :: .int 5 :: rest))).setVm vm1).setTop { F0 m pc ls (.int 5 :: .int 5 :: rest) with stack := rest } = (T.setVm vm1).setTop { F0 m pc ls (.int 5 :: .int 5 :: rest) with stack := rest } := by
    show ((T.setVm vm1).setTop (F0 m pc ls (.int 5 :: .int 5 :: rest))).setTop _ = _
    rw [State.setTop_setTop]
  rw [eS, gd_top]
  simp only [wp_bind', W.mark, W.pushRef, State.topJava?_setTop' _ XF.here.top, Option.some.injEq, exists_eq_left', State.setTop_setTop, State.heap_setTop]
  intro acts
  simp [jvm, XF.here.top]
  rw [hT]
  exact a1
end GW
