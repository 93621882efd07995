def bind2 {α β γ : Type} (x : Option (α × β)) (k : α → β → Option γ) : Option γ := match x with
  | none => none
  | some q => k q.1 q.2
theorem ob2 {α β γ : Type} {x : Option (α × β)} {k : α → β → Option γ} {y : γ} (h : bind2 x k = some y) : ∃ a b, x = some (a, b) ∧ k a b = some y := by
  cases x with
  | none => cases h
  | some q => exact ⟨q.1, q.2, rfl, h⟩
theorem ot {α : Type} {P : Prop} [Decidable P] {a b : Option α} {y : α} (hc : P) (h : (if P then a else b) = some y) : a = some y := (if_pos hc).symm.trans h
theorem oe {α : Type} {P : Prop} [Decidable P] {a b : Option α} {y : α} (hc : ¬ P) (h : (if P then a else b) = some y) : b = some y := (if_neg hc).symm.trans h
theorem os1 {α : Type} {a b : α} (h : some a = some b) : b = a := (Option.some.inj h).symm
theorem os2 {α β : Type} {a c : α} {b d : β} (h : some (a, b) = some (c, d)) : c = a ∧ d = b := by
  have q := Option.some.inj h
  exact ⟨(congrArg Prod.fst q).symm, (congrArg Prod.snd q).symm⟩
theorem lkR (g : Nat → ClassId) (ad : Nat → Nat) (σ : St) : (WC g ad σ)[10]? = some (ad 10, .inr (0, fR ad σ)) := rfl
theorem lkX (g : Nat → ClassId) (ad : Nat → Nat) (σ : St) : (WC g ad σ)[0]? = some (ad 0, .inr (2, fX ad σ)) := rfl
theorem lkM (g : Nat → ClassId) (ad : Nat → Nat) (σ : St) : (WM g ad σ)[0]? = some (ad 0, .inr (3, fM ad σ)) := rfl
theorem lkC_11 (g : Nat → ClassId) (ad : Nat → Nat) (σ : St) : (WC g ad σ)[11]? = some (ad 11, .inl (g 0, 5, .inl (σ 11))) := rfl
theorem stC_11 (g : Nat → ClassId) (ad : Nat → Nat) (σ : St) (f : Nat → Int32) : (WC g ad σ).set 11 (ad 11, .inl (g 0, 5, .inl f)) = WC g ad (upA σ 11 f) := rfl
theorem lkC_18 (g : Nat → ClassId) (ad : Nat → Nat) (σ : St) : (WC g ad σ)[18]? = some (ad 18, .inl (g 0, 8, .inl (σ 18))) := rfl
theorem stC_18 (g : Nat → ClassId) (ad : Nat → Nat) (σ : St) (f : Nat → Int32) : (WC g ad σ).set 18 (ad 18, .inl (g 0, 8, .inl f)) = WC g ad (upA σ 18 f) := rfl
theorem lkC_19 (g : Nat → ClassId) (ad : Nat → Nat) (σ : St) : (WC g ad σ)[19]? = some (ad 19, .inl (g 0, 8, .inl (σ 19))) := rfl
theorem stC_19 (g : Nat → ClassId) (ad : Nat → Nat) (σ : St) (f : Nat → Int32) : (WC g ad σ).set 19 (ad 19, .inl (g 0, 8, .inl f)) = WC g ad (upA σ 19 f) := rfl
theorem lkC_20 (g : Nat → ClassId) (ad : Nat → Nat) (σ : St) : (WC g ad σ)[20]? = some (ad 20, .inl (g 0, 32, .inl (σ 20))) := rfl
theorem stC_20 (g : Nat → ClassId) (ad : Nat → Nat) (σ : St) (f : Nat → Int32) : (WC g ad σ).set 20 (ad 20, .inl (g 0, 32, .inl f)) = WC g ad (upA σ 20 f) := rfl
theorem lkC_21 (g : Nat → ClassId) (ad : Nat → Nat) (σ : St) : (WC g ad σ)[21]? = some (ad 21, .inl (g 1, 32, .inl (σ 21))) := rfl
theorem stC_21 (g : Nat → ClassId) (ad : Nat → Nat) (σ : St) (f : Nat → Int32) : (WC g ad σ).set 21 (ad 21, .inl (g 1, 32, .inl f)) = WC g ad (upA σ 21 f) := rfl
theorem lkM_1 (g : Nat → ClassId) (ad : Nat → Nat) (σ : St) : (WM g ad σ)[1]? = some (ad 1, .inl (g 0, 4, .inl (σ 1))) := rfl
theorem stM_A1 (g : Nat → ClassId) (ad : Nat → Nat) (σ : St) (f : Nat → Int32) : (WM g ad σ).set 1 (ad 1, .inl (g 0, 4, .inl f)) = WM g ad (upA σ 1 f) := rfl
theorem lkM_2 (g : Nat → ClassId) (ad : Nat → Nat) (σ : St) : (WM g ad σ)[2]? = some (ad 2, .inl (g 0, 4, .inl (σ 2))) := rfl
theorem stM_A2 (g : Nat → ClassId) (ad : Nat → Nat) (σ : St) (f : Nat → Int32) : (WM g ad σ).set 2 (ad 2, .inl (g 0, 4, .inl f)) = WM g ad (upA σ 2 f) := rfl
theorem lkM_3 (g : Nat → ClassId) (ad : Nat → Nat) (σ : St) : (WM g ad σ)[3]? = some (ad 3, .inl (g 0, 240, .inl (σ 3))) := rfl
theorem stM_A3 (g : Nat → ClassId) (ad : Nat → Nat) (σ : St) (f : Nat → Int32) : (WM g ad σ).set 3 (ad 3, .inl (g 0, 240, .inl f)) = WM g ad (upA σ 3 f) := rfl
theorem lkM_4 (g : Nat → ClassId) (ad : Nat → Nat) (σ : St) : (WM g ad σ)[4]? = some (ad 4, .inl (g 0, 5, .inl (σ 4))) := rfl
theorem stM_A4 (g : Nat → ClassId) (ad : Nat → Nat) (σ : St) (f : Nat → Int32) : (WM g ad σ).set 4 (ad 4, .inl (g 0, 5, .inl f)) = WM g ad (upA σ 4 f) := rfl
theorem lkM_5 (g : Nat → ClassId) (ad : Nat → Nat) (σ : St) : (WM g ad σ)[5]? = some (ad 5, .inl (g 0, 5, .inl (σ 5))) := rfl
theorem stM_A5 (g : Nat → ClassId) (ad : Nat → Nat) (σ : St) (f : Nat → Int32) : (WM g ad σ).set 5 (ad 5, .inl (g 0, 5, .inl f)) = WM g ad (upA σ 5 f) := rfl
theorem lkM_6 (g : Nat → ClassId) (ad : Nat → Nat) (σ : St) : (WM g ad σ)[6]? = some (ad 6, .inl (g 0, 25, .inl (σ 6))) := rfl
theorem stM_A6 (g : Nat → ClassId) (ad : Nat → Nat) (σ : St) (f : Nat → Int32) : (WM g ad σ).set 6 (ad 6, .inl (g 0, 25, .inl f)) = WM g ad (upA σ 6 f) := rfl
theorem lkM_7 (g : Nat → ClassId) (ad : Nat → Nat) (σ : St) : (WM g ad σ)[7]? = some (ad 7, .inl (g 0, 5, .inl (σ 7))) := rfl
theorem stM_A7 (g : Nat → ClassId) (ad : Nat → Nat) (σ : St) (f : Nat → Int32) : (WM g ad σ).set 7 (ad 7, .inl (g 0, 5, .inl f)) = WM g ad (upA σ 7 f) := rfl
theorem lkM_8 (g : Nat → ClassId) (ad : Nat → Nat) (σ : St) : (WM g ad σ)[8]? = some (ad 8, .inl (g 0, 5, .inl (σ 8))) := rfl
theorem stM_A8 (g : Nat → ClassId) (ad : Nat → Nat) (σ : St) (f : Nat → Int32) : (WM g ad σ).set 8 (ad 8, .inl (g 0, 5, .inl f)) = WM g ad (upA σ 8 f) := rfl
theorem lkM_9 (g : Nat → ClassId) (ad : Nat → Nat) (σ : St) : (WM g ad σ)[9]? = some (ad 9, .inl (g 0, 25, .inl (σ 9))) := rfl
theorem stM_A9 (g : Nat → ClassId) (ad : Nat → Nat) (σ : St) (f : Nat → Int32) : (WM g ad σ).set 9 (ad 9, .inl (g 0, 25, .inl f)) = WM g ad (upA σ 9 f) := rfl
theorem lkM_10 (g : Nat → ClassId) (ad : Nat → Nat) (σ : St) : (WM g ad σ)[10]? = some (ad 10, .inl (g 0, 5, .inl (σ 10))) := rfl
theorem stM_A10 (g : Nat → ClassId) (ad : Nat → Nat) (σ : St) (f : Nat → Int32) : (WM g ad σ).set 10 (ad 10, .inl (g 0, 5, .inl f)) = WM g ad (upA σ 10 f) := rfl
theorem lkM_11 (g : Nat → ClassId) (ad : Nat → Nat) (σ : St) : (WM g ad σ)[11]? = some (ad 11, .inl (g 0, 32, .inl (σ 11))) := rfl
theorem stM_A11 (g : Nat → ClassId) (ad : Nat → Nat) (σ : St) (f : Nat → Int32) : (WM g ad σ).set 11 (ad 11, .inl (g 0, 32, .inl f)) = WM g ad (upA σ 11 f) := rfl
theorem lkM_12 (g : Nat → ClassId) (ad : Nat → Nat) (σ : St) : (WM g ad σ)[12]? = some (ad 12, .inl (g 0, 8, .inl (σ 12))) := rfl
theorem stM_A12 (g : Nat → ClassId) (ad : Nat → Nat) (σ : St) (f : Nat → Int32) : (WM g ad σ).set 12 (ad 12, .inl (g 0, 8, .inl f)) = WM g ad (upA σ 12 f) := rfl
theorem lkM_13 (g : Nat → ClassId) (ad : Nat → Nat) (σ : St) : (WM g ad σ)[13]? = some (ad 13, .inl (g 0, 8, .inl (σ 13))) := rfl
theorem stM_A13 (g : Nat → ClassId) (ad : Nat → Nat) (σ : St) (f : Nat → Int32) : (WM g ad σ).set 13 (ad 13, .inl (g 0, 8, .inl f)) = WM g ad (upA σ 13 f) := rfl
theorem stR_0 (g : Nat → ClassId) (ad : Nat → Nat) (σ : St) (v : Int32) : (WC g ad σ).set 10 (ad 10, .inr (0, (fR ad σ).set 0 (.int v))) = WC g ad (up2 σ 10 0 v) := rfl
theorem stR_1 (g : Nat → ClassId) (ad : Nat → Nat) (σ : St) (v : Int32) : (WC g ad σ).set 10 (ad 10, .inr (0, (fR ad σ).set 1 (.int v))) = WC g ad (up2 σ 10 1 v) := rfl
theorem stR_2 (g : Nat → ClassId) (ad : Nat → Nat) (σ : St) (v : Int32) : (WC g ad σ).set 10 (ad 10, .inr (0, (fR ad σ).set 2 (.int v))) = WC g ad (up2 σ 10 2 v) := rfl
theorem stR_3 (g : Nat → ClassId) (ad : Nat → Nat) (σ : St) (v : Int32) : (WC g ad σ).set 10 (ad 10, .inr (0, (fR ad σ).set 3 (.int v))) = WC g ad (up2 σ 10 3 v) := rfl
theorem stR_6 (g : Nat → ClassId) (ad : Nat → Nat) (σ : St) (v : Int32) : (WC g ad σ).set 10 (ad 10, .inr (0, (fR ad σ).set 6 (.int v))) = WC g ad (up2 σ 10 6 v) := rfl
theorem stX_2 (g : Nat → ClassId) (ad : Nat → Nat) (σ : St) (v : Int32) : (WC g ad σ).set 0 (ad 0, .inr (2, (fX ad σ).set 2 (.int v))) = WC g ad (up2 σ 0 2 v) := rfl
theorem stX_3 (g : Nat → ClassId) (ad : Nat → Nat) (σ : St) (v : Int32) : (WC g ad σ).set 0 (ad 0, .inr (2, (fX ad σ).set 3 (.int v))) = WC g ad (up2 σ 0 3 v) := rfl
theorem stM_0 (g : Nat → ClassId) (ad : Nat → Nat) (σ : St) (v : Int32) : (WM g ad σ).set 0 (ad 0, .inr (3, (fM ad σ).set 0 (.int v))) = WM g ad (up2 σ 0 0 v) := rfl
theorem stM_1 (g : Nat → ClassId) (ad : Nat → Nat) (σ : St) (v : Int32) : (WM g ad σ).set 0 (ad 0, .inr (3, (fM ad σ).set 1 (.int v))) = WM g ad (up2 σ 0 1 v) := rfl
theorem stM_5 (g : Nat → ClassId) (ad : Nat → Nat) (σ : St) (v : Int32) : (WM g ad σ).set 0 (ad 0, .inr (3, (fM ad σ).set 5 (.int v))) = WM g ad (up2 σ 0 5 v) := rfl
theorem stM_6 (g : Nat → ClassId) (ad : Nat → Nat) (σ : St) (v : Int32) : (WM g ad σ).set 0 (ad 0, .inr (3, (fM ad σ).set 6 (.int v))) = WM g ad (up2 σ 0 6 v) := rfl
theorem stM_7 (g : Nat → ClassId) (ad : Nat → Nat) (σ : St) (v : Int32) : (WM g ad σ).set 0 (ad 0, .inr (3, (fM ad σ).set 7 (.int v))) = WM g ad (up2 σ 0 7 v) := rfl
theorem stM_11 (g : Nat → ClassId) (ad : Nat → Nat) (σ : St) (v : Int32) : (WM g ad σ).set 0 (ad 0, .inr (3, (fM ad σ).set 11 (.int v))) = WM g ad (up2 σ 0 11 v) := rfl
theorem stM_12 (g : Nat → ClassId) (ad : Nat → Nat) (σ : St) (v : Int32) : (WM g ad σ).set 0 (ad 0, .inr (3, (fM ad σ).set 12 (.int v))) = WM g ad (up2 σ 0 12 v) := rfl
theorem stM_13 (g : Nat → ClassId) (ad : Nat → Nat) (σ : St) (v : Int32) : (WM g ad σ).set 0 (ad 0, .inr (3, (fM ad σ).set 13 (.int v))) = WM g ad (up2 σ 0 13 v) := rfl
theorem stM_14 (g : Nat → ClassId) (ad : Nat → Nat) (σ : St) (v : Int32) : (WM g ad σ).set 0 (ad 0, .inr (3, (fM ad σ).set 14 (.int v))) = WM g ad (up2 σ 0 14 v) := rfl
theorem stM_18 (g : Nat → ClassId) (ad : Nat → Nat) (σ : St) (v : Int32) : (WM g ad σ).set 0 (ad 0, .inr (3, (fM ad σ).set 18 (.int v))) = WM g ad (up2 σ 0 18 v) := rfl
theorem stM_19 (g : Nat → ClassId) (ad : Nat → Nat) (σ : St) (v : Int32) : (WM g ad σ).set 0 (ad 0, .inr (3, (fM ad σ).set 19 (.int v))) = WM g ad (up2 σ 0 19 v) := rfl
theorem stM_20 (g : Nat → ClassId) (ad : Nat → Nat) (σ : St) (v : Int32) : (WM g ad σ).set 0 (ad 0, .inr (3, (fM ad σ).set 20 (.int v))) = WM g ad (up2 σ 0 20 v) := rfl
theorem stM_21 (g : Nat → ClassId) (ad : Nat → Nat) (σ : St) (v : Int32) : (WM g ad σ).set 0 (ad 0, .inr (3, (fM ad σ).set 21 (.int v))) = WM g ad (up2 σ 0 21 v) := rfl
theorem stM_22 (g : Nat → ClassId) (ad : Nat → Nat) (σ : St) (v : Int32) : (WM g ad σ).set 0 (ad 0, .inr (3, (fM ad σ).set 22 (.int v))) = WM g ad (up2 σ 0 22 v) := rfl
theorem stM_23 (g : Nat → ClassId) (ad : Nat → Nat) (σ : St) (v : Int32) : (WM g ad σ).set 0 (ad 0, .inr (3, (fM ad σ).set 23 (.int v))) = WM g ad (up2 σ 0 23 v) := rfl
theorem stM_26 (g : Nat → ClassId) (ad : Nat → Nat) (σ : St) (v : Int32) : (WM g ad σ).set 0 (ad 0, .inr (3, (fM ad σ).set 26 (.int v))) = WM g ad (up2 σ 0 26 v) := rfl
theorem twc_link : (Cond.methodLink RX3 189 arraycopyName) ∈ TB := tbm 412 (by decide +kernel) (by decide +kernel)
theorem twc_nat : (Cond.native arraycopyName) ∈ TB := tbm 414 (by decide +kernel) (by decide +kernel)
theorem twc_stat : (Cond.static arraycopyName) ∈ TB := tbm 413 (by decide +kernel) (by decide +kernel)
theorem twc_ini : (Cond.initialized "java/lang/System") ∈ TB := tw_40
theorem twm_stat : (Cond.static Lib.Math.min.name) ∈ TB := tbm 310 (by decide +kernel) (by decide +kernel)
theorem twm_ini : (Cond.initialized "java/lang/Math") ∈ TB := tw_39
theorem twm_code : (Cond.code Lib.Math.min.name Lib.Math.min.code 2 (some .int)) ∈ TB := tbm 311 (by decide +kernel) (by decide +kernel)
theorem lt_of_get {α : Type} {l : List α} {k n : Nat} {v : α} (h : l[k]? = some v) (hn : l.length = n) : k < n := hn ▸ (List.getElem?_eq_some_iff.mp h).1
section FR2
variable {p : Program} {l : Launch} {e : Env} {R : Room} {s : State} {m : MethodId} {args : Array Value} {below : List Frame} {meth : Method} {c : Code} {H : Heap} {locs : List Loc} {cells slots : Nat} {Q : State → Prop}
variable {cc : ByteArray} {pc : Nat} {ls : Array Slot} {rest : List Value} {D : va_G} {g : Nat → ClassId} {A : Nat → Prop} {H0 : Heap} {W1 : va_W} {own : String} {cw : Cond} {ad : Nat → Nat} {σ : St}
theorem rgR (X : Cx p s m c args cc own cw D g) (Y : Hp D A H0 H locs (WC g ad σ)) {index : Nat} (k : Nat) {v : Value} (hlink : Cond.fieldLink own index (TX0 k).1 (TX0 k).2.1 (TX0 k).2.2.1 ∈ TB) (hv : (fR ad σ)[k]? = some v) (hdg : decode cc pc = .ok (.getfield index, 3)) (kk : W p l e R s m args below meth c H locs cells slots Q (F0 m (pc + 3) ls (v :: rest))) : W p l e R s m args below meth c H locs cells slots Q (F0 m pc ls (.ref (ad 10) :: rest)) :=
  rg X Y (lkR g ad σ) rfl tin_TX0 k (lt_of_get hv rfl) hlink hv hdg kk
theorem rpR (X : Cx p s m c args cc own cw D g) (Y : Hp D A H0 H locs (WC g ad σ)) {index : Nat} (k : Nat) {v : Int32} (hlink : Cond.fieldLink own index (TX0 k).1 (TX0 k).2.1 (TX0 k).2.2.1 ∈ TB) (hfin : (TX0 k).2.2.2 = false) (hn : narrow (tyX0 k) (.int v) = .int v) (hfit : fits (tyX0 k) (.int v) = true) (hset : (WC g ad σ).set 10 (ad 10, .inr (0, (fR ad σ).set k (.int v))) = W1) (hdg : decode cc pc = .ok (.putfield index, 3)) (kk : ∀ (H1 : Heap) (locs1 : List Loc), Hp D A H0 H1 locs1 W1 → W p l e R s m args below meth c H1 locs1 cells slots Q (F0 m (pc + 3) ls rest)) (hk : k < 11 := by decide) : W p l e R s m args below meth c H locs cells slots Q (F0 m pc ls (.int v :: .ref (ad 10) :: rest)) :=
  rp X Y (lkR g ad σ) rfl tin_TX0 tyX0 tyX0_ok nmX0 k hk hlink hfin hn hfit hk hset hdg kk
theorem rgX (X : Cx p s m c args cc own cw D g) (Y : Hp D A H0 H locs (WC g ad σ)) {index : Nat} (k : Nat) {v : Value} (hlink : Cond.fieldLink own index (TX3 k).1 (TX3 k).2.1 (TX3 k).2.2.1 ∈ TB) (hv : (fX ad σ)[k]? = some v) (hdg : decode cc pc = .ok (.getfield index, 3)) (kk : W p l e R s m args below meth c H locs cells slots Q (F0 m (pc + 3) ls (v :: rest))) : W p l e R s m args below meth c H locs cells slots Q (F0 m pc ls (.ref (ad 0) :: rest)) :=
  rg X Y (lkX g ad σ) rfl tin_TX3 k (lt_of_get hv rfl) hlink hv hdg kk
theorem rpX (X : Cx p s m c args cc own cw D g) (Y : Hp D A H0 H locs (WC g ad σ)) {index : Nat} (k : Nat) {v : Int32} (hlink : Cond.fieldLink own index (TX3 k).1 (TX3 k).2.1 (TX3 k).2.2.1 ∈ TB) (hfin : (TX3 k).2.2.2 = false) (hn : narrow (tyX3 k) (.int v) = .int v) (hfit : fits (tyX3 k) (.int v) = true) (hset : (WC g ad σ).set 0 (ad 0, .inr (2, (fX ad σ).set k (.int v))) = W1) (hdg : decode cc pc = .ok (.putfield index, 3)) (kk : ∀ (H1 : Heap) (locs1 : List Loc), Hp D A H0 H1 locs1 W1 → W p l e R s m args below meth c H1 locs1 cells slots Q (F0 m (pc + 3) ls rest)) (hk : k < 4 := by decide) : W p l e R s m args below meth c H locs cells slots Q (F0 m pc ls (.int v :: .ref (ad 0) :: rest)) :=
  rp X Y (lkX g ad σ) rfl tin_TX3 tyX3 tyX3_ok nmX3 k hk hlink hfin hn hfit hk hset hdg kk
theorem rgS (X : Cx p s m c args cc own cw D g) (Y : Hp D A H0 H locs (WC g ad σ)) {j : Nat} (hj : j < 4) {index : Nat} (k : Nat) {v : Value} (hlink : Cond.fieldLink own index (TX1 k).1 (TX1 k).2.1 (TX1 k).2.2.1 ∈ TB) (hv : (fS ad σ j)[k]? = some v) (hdg : decode cc pc = .ok (.getfield index, 3)) (kk : W p l e R s m args below meth c H locs cells slots Q (F0 m (pc + 3) ls (v :: rest))) : W p l e R s m args below meth c H locs cells slots Q (F0 m pc ls (.ref (ad (2 + j)) :: rest)) :=
  rg X Y (lkS g ad σ hj) rfl tin_TX1 k (lt_of_get hv rfl) hlink hv hdg kk
theorem rpS (X : Cx p s m c args cc own cw D g) (Y : Hp D A H0 H locs (WC g ad σ)) {j : Nat} (hj : j < 4) {index : Nat} (k : Nat) {v : Int32} (hlink : Cond.fieldLink own index (TX1 k).1 (TX1 k).2.1 (TX1 k).2.2.1 ∈ TB) (hfin : (TX1 k).2.2.2 = false) (hn : narrow (tyX1 k) (.int v) = .int v) (hfit : fits (tyX1 k) (.int v) = true) (hset : (WC g ad σ).set (2 + j) (ad (2 + j), .inr (1, (fS ad σ j).set k (.int v))) = W1) (hdg : decode cc pc = .ok (.putfield index, 3)) (kk : ∀ (H1 : Heap) (locs1 : List Loc), Hp D A H0 H1 locs1 W1 → W p l e R s m args below meth c H1 locs1 cells slots Q (F0 m (pc + 3) ls rest)) (hk : k < 4 := by decide) : W p l e R s m args below meth c H locs cells slots Q (F0 m pc ls (.int v :: .ref (ad (2 + j)) :: rest)) :=
  rp X Y (lkS g ad σ hj) rfl tin_TX1 tyX1 tyX1_ok nmX1 k hk hlink hfin hn hfit hk hset hdg kk
theorem rgM (X : Cx p s m c args cc own cw D g) (Y : Hp D A H0 H locs (WM g ad σ)) {index : Nat} (k : Nat) {v : Value} (hlink : Cond.fieldLink own index (TX4 k).1 (TX4 k).2.1 (TX4 k).2.2.1 ∈ TB) (hv : (fM ad σ)[k]? = some v) (hdg : decode cc pc = .ok (.getfield index, 3)) (kk : W p l e R s m args below meth c H locs cells slots Q (F0 m (pc + 3) ls (v :: rest))) : W p l e R s m args below meth c H locs cells slots Q (F0 m pc ls (.ref (ad 0) :: rest)) :=
  rg X Y (lkM g ad σ) rfl tin_TX4 k (lt_of_get hv rfl) hlink hv hdg kk
theorem rpM (X : Cx p s m c args cc own cw D g) (Y : Hp D A H0 H locs (WM g ad σ)) {index : Nat} (k : Nat) {v : Int32} (hlink : Cond.fieldLink own index (TX4 k).1 (TX4 k).2.1 (TX4 k).2.2.1 ∈ TB) (hfin : (TX4 k).2.2.2 = false) (hn : narrow (tyX4 k) (.int v) = .int v) (hfit : fits (tyX4 k) (.int v) = true) (hset : (WM g ad σ).set 0 (ad 0, .inr (3, (fM ad σ).set k (.int v))) = W1) (hdg : decode cc pc = .ok (.putfield index, 3)) (kk : ∀ (H1 : Heap) (locs1 : List Loc), Hp D A H0 H1 locs1 W1 → W p l e R s m args below meth c H1 locs1 cells slots Q (F0 m (pc + 3) ls rest)) (hk : k < 29 := by decide) : W p l e R s m args below meth c H locs cells slots Q (F0 m pc ls (.int v :: .ref (ad 0) :: rest)) :=
  rp X Y (lkM g ad σ) rfl tin_TX4 tyX4 tyX4_ok nmX4 k hk hlink hfin hn hfit hk hset hdg kk
end FR2
