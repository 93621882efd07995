/-! rows for the law: two worlds side by side, a call of one of them, an argument out of the script -/
section LW
variable {D : va_G} {A : Nat → Prop} {H0 H H1 : Heap} {locs locs1 : List Loc} {W0 W1 Wr : va_W}
theorem Hp.left (Y : Hp D A H0 H locs (W0 ++ Wr)) : Hp D A H0 H locs W0 := by
  have key : ∀ (k : Nat) (q : Nat × va_E), W0[k]? = some q → (W0 ++ Wr)[k]? = some q := fun k q h => by
    rw [List.getElem?_append_left (List.getElem?_eq_some_iff.mp h).1]; exact h
  exact ⟨fun k q h => Y.1 k q (key k q h), ⟨fun i j p q hi hj hpq => Y.2.1.1 i j p q (key i p hi) (key j q hj) hpq, fun k q h => Y.2.1.2 k q (key k q h)⟩, Y.2.2.1, Y.2.2.2⟩
theorem Hp.rkey {k : Nat} {q : Nat × va_E} (h : Wr[k]? = some q) : (W0 ++ Wr)[W0.length + k]? = some q := by
  rw [List.getElem?_append_right (by omega), Nat.add_sub_cancel_left]; exact h
theorem Hp.right (Y : Hp D A H0 H locs (W0 ++ Wr)) : Hp D A H0 H locs Wr :=
  ⟨fun k q h => Y.1 _ q (Hp.rkey h), ⟨fun i j p q hi hj hpq => by have := Y.2.1.1 _ _ p q (Hp.rkey hi) (Hp.rkey hj) hpq; omega, fun k q h => Y.2.1.2 _ q (Hp.rkey h)⟩, Y.2.2.1, Y.2.2.2⟩
theorem Hp.apart (Y : Hp D A H0 H locs (W0 ++ Wr)) {i j : Nat} {p q : Nat × va_E} (hi : W0[i]? = some p) (hj : Wr[j]? = some q) : p.1 ≠ q.1 := by
  intro e
  have hl := (List.getElem?_eq_some_iff.mp hi).1
  have h1 : (W0 ++ Wr)[i]? = some p := by rw [List.getElem?_append_left hl]; exact hi
  have := Y.2.1.1 _ _ p q h1 (Hp.rkey hj) e
  omega
theorem Hp.comm (Y : Hp D A H0 H locs (W0 ++ Wr)) : Hp D A H0 H locs (Wr ++ W0) :=
  ⟨Y.right.1.app Y.left.1, Y.right.2.1.app Y.left.2.1 (fun i j p q hi hj e => Y.apart hj hi e.symm), Y.2.2.1, Y.2.2.2⟩
theorem Hp.joined (Y : Hp D A H0 H locs (W0 ++ Wr)) (hP1 : va_P D vwCl W1 H1) (hD1 : va_D (va_A W0 H.size) W1) (hk : ∀ q : Nat, q < H.size → ¬ va_A W0 H.size q → H1[q]? = H[q]?) (hS : va_S A H0 H1 locs1) : Hp D A H0 H1 locs1 (W1 ++ Wr) := by
  have ap : ∀ (k : Nat) (q : Nat × va_E), Wr[k]? = some q → q.1 < H.size ∧ ¬ va_A W0 H.size q.1 := by
    intro k q hq
    have hl := (Y.right.1 k q hq).lt
    refine ⟨hl, fun h => ?_⟩
    rcases h with ⟨k2, e, h⟩ | h
    · exact Y.apart h hq rfl
    · omega
  refine ⟨hP1.app (fun k q hq => ?_), (hD1.weaken (fun _ q _ h => Y.left.free q.1 h)).app Y.right.2.1 (fun i j x y hx hy hxy => ?_), hS, Y.2.2.2⟩
  · obtain ⟨g1, g2⟩ := ap k q hq
    exact (Y.right.1 k q hq).kept (hk q.1 g1 g2)
  · exact (ap j y hy).2 (by rw [← hxy]; exact hD1.2 i x hx)
end LW
section LC
variable {p : Program} {l : Launch} {e : Env} {R : Room} {s : State} {m : MethodId} {args : Array Value} {below : List Frame} {meth : Method} {c : Code} {H : Heap} {locs : List Loc} {cells slots : Nat} {Q : State → Prop}
variable {cc : ByteArray} {pc : Nat} {ls : Array Slot} {rest : List Value} {D : va_G} {g : Nat → ClassId} {A : Nat → Prop} {H0 : Heap} {W0 W1 Wr : va_W} {own : String} {cw : Cond}
theorem lA (X : Cx p s m c args cc own cw D g) {b L : Nat} {xs : Nat → Int32} (hX : va_X b L xs s H0 ∧ b < H0.size ∧ ¬ A b) (Y : Hp D A H0 H locs W0) {x j : Int32} {n : Int} {v1 v2 : Value} (hl : lv_has ls 4 [(0, .ref b), (1, v1), (2, v2), (3, .int x)]) (hj : Int32.ofInt n = j) (hin : vp_in (x + j) L) (d0 : decode cc pc = .ok (.aload_n 0, 1)) (d1 : decode cc (pc + 1) = .ok (.iload_n 3, 1)) (d2 : decode cc (pc + 2) = .ok (.iconst n, 1)) (d3 : decode cc (pc + 3) = .ok (.iadd, 1)) (d4 : decode cc (pc + 4) = .ok (.iaload, 1))
    (kk : W p l e R s m args below meth c H locs cells slots Q (F0 m (pc + 5) ls (.int (xs (x + j).toNatClampNeg) :: rest))) : W p l e R s m args below meth c H locs cells slots Q (F0 m pc ls rest) := by
  refine lv_aload_n X.1 X.2.1 d0 rfl (lv_at hl 0 rfl) ?_
  refine lv_iload_n X.1 X.2.1 d1 rfl (lv_at hl 3 rfl) ?_
  refine lv_iconst (v := j) X.1 X.2.1 d2 hj ?_
  refine lv_iadd X.1 X.2.1 d3 ?_
  exact va_sld X.1 X.2.1 hX.1 hX.2.1 hX.2.2 Y.2.2.1 hin d4 kk
variable {y : MethodName} {cw2 : Cond} {fr lo index maxL : Nat} {As st0 : List Value} {bytes : ByteArray} {ret : Option FieldType} {b q0 ci N : Nat} {fs : List Value} {C : String} {T : u_T}
theorem lVi (X : Cx p s m c args cc own cw D g) (hml : c.maxLocals = ls.size) (Y : Hp D A H0 H locs (W0 ++ Wr)) {r0 : Int32} (hM : MI l y cw2 fr lo D g W0 W1 (.ref b :: As) r0) (he : W0[q0]? = some (b, .inr (ci, fs))) (hc : vwCl[ci]? = some (C, T, N)) (hG : GoodIn (WS cw) (wsV own index C y (WS cw2))) (hcw : cw2 = Cond.code y bytes maxL ret) (hd : y.cls = C ∧ y.cls ≠ "java/lang/invoke/MethodHandle" ∧ y.cls ≠ "java/lang/invoke/VarHandle" ∧ (parseMethodDescriptor y.desc).map (fun d => d.parameters.length) = some As.length) (hR : fr + 1 ≤ R.frames ∧ 8 + (maxL + 11) + lo ≤ R.locals) (hcs : cells + 0 ≤ R.cells ∧ slots + 0 ≤ R.slots) (hst : st0 = As.reverse ++ .ref b :: rest) (hw : (rest.map fun v => v.category).sum ≤ 8) (hdg : decode cc pc = .ok (.invokevirtual index, 3))
    (kk : ∀ (H1 : Heap) (locs1 : List Loc), Hp D A H0 H1 locs1 (W1 ++ Wr) → W p l e R s m args below meth c H1 locs1 cells slots Q (F0 m (pc + 3) ls (.int r0 :: rest))) : W p l e R s m args below meth c H locs cells slots Q (F0 m pc ls st0) := by
  subst hst
  have Z := Y.left
  refine va_calli (va_runV (As := As) (rest := rest) ⟨X.1, X.2.1, hml, X.2.2.1, X.2.2.2.1⟩ (hM H.size) (cwV As.length X.2.2.2.1 hG (by rw [hcw]; rfl) rfl rfl hd hR) ⟨preW_blind, va_recv X.2.2.2.2 Z.1 hc he, fun U hU hW => ⟨rfl, by rw [hU], by rw [hU]; exact Z.1, va_K.moved hW.alike X.2.2.2.2, Z.2.1.weaken (fun _ _ _ _ => trivial)⟩⟩ rfl rfl rfl rfl (lv_room hw) hdg hcs) Z.2.2.1 (fun q _ h => Z.free q h) Z.free (fun r u t H1 locs1 ht hvm hpost hB hz1 hk1 hS => ?_)
  subst hpost
  obtain ⟨hP1, hK1, hD1⟩ := hB
  rw [ht] at hP1
  exact kk H1 locs1 (Y.joined hP1 hD1 hk1 hS)
theorem lVl (X : Cx p s m c args cc own cw D g) (hml : c.maxLocals = ls.size) (Y : Hp D A H0 H locs (W0 ++ Wr)) {r0 : Int64} (hM : ML l y cw2 fr lo D g W0 W1 (.ref b :: As) r0) (he : W0[q0]? = some (b, .inr (ci, fs))) (hc : vwCl[ci]? = some (C, T, N)) (hG : GoodIn (WS cw) (wsV own index C y (WS cw2))) (hcw : cw2 = Cond.code y bytes maxL ret) (hd : y.cls = C ∧ y.cls ≠ "java/lang/invoke/MethodHandle" ∧ y.cls ≠ "java/lang/invoke/VarHandle" ∧ (parseMethodDescriptor y.desc).map (fun d => d.parameters.length) = some As.length) (hR : fr + 1 ≤ R.frames ∧ 8 + (maxL + 11) + lo ≤ R.locals) (hcs : cells + 0 ≤ R.cells ∧ slots + 0 ≤ R.slots) (hst : st0 = As.reverse ++ .ref b :: rest) (hw : (rest.map fun v => v.category).sum ≤ 8) (hdg : decode cc pc = .ok (.invokevirtual index, 3))
    (kk : ∀ (H1 : Heap) (locs1 : List Loc), Hp D A H0 H1 locs1 (W1 ++ Wr) → W p l e R s m args below meth c H1 locs1 cells slots Q (F0 m (pc + 3) ls (.long r0 :: rest))) : W p l e R s m args below meth c H locs cells slots Q (F0 m pc ls st0) := by
  subst hst
  have Z := Y.left
  refine va_calll (va_runV (As := As) (rest := rest) ⟨X.1, X.2.1, hml, X.2.2.1, X.2.2.2.1⟩ (hM H.size) (cwV As.length X.2.2.2.1 hG (by rw [hcw]; rfl) rfl rfl hd hR) ⟨preW_blind, va_recv X.2.2.2.2 Z.1 hc he, fun U hU hW => ⟨rfl, by rw [hU], by rw [hU]; exact Z.1, va_K.moved hW.alike X.2.2.2.2, Z.2.1.weaken (fun _ _ _ _ => trivial)⟩⟩ rfl rfl rfl rfl (lv_room hw) hdg hcs) Z.2.2.1 (fun q _ h => Z.free q h) Z.free (fun r u t H1 locs1 ht hvm hpost hB hz1 hk1 hS => ?_)
  subst hpost
  obtain ⟨hP1, hK1, hD1⟩ := hB
  rw [ht] at hP1
  exact kk H1 locs1 (Y.joined hP1 hD1 hk1 hS)
end LC
