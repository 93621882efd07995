/-! THE FRAME: states as tables of numbers, the class's and the reference's worlds, rows over them -/
abbrev St : Type := Nat → Nat → Int32
def upA (σ : St) (q : Nat) (f : Nat → Int32) : St := fun z => if z = q then f else σ z
def up2 (σ : St) (q i : Nat) (v : Int32) : St := upA σ q (upd (σ q) i v)
def WS (cw : Cond) : List Cond := cw :: TB
abbrev tysG (g : Nat → ClassId) : List (ClassId × FieldType) := [(g 0, .int), (g 1, .boolean), (g 2, .object RX1), (g 3, .array .int)]
def rfs (ad : Nat → Nat) (b n : Nat) : Nat → Option Nat := fun i => if i < n then some (ad (b + i)) else none
abbrev fX (ad : Nat → Nat) (σ : St) : List Value := [.ref (ad 1), .ref (ad 10), .int (σ 0 2), .int (σ 0 3)]
abbrev fS (ad : Nat → Nat) (σ : St) (k : Nat) : List Value := [.ref (ad (6 + k)), .int (σ (2 + k) 1), .int (σ (2 + k) 2), .int (σ (2 + k) 3)]
abbrev fR (ad : Nat → Nat) (σ : St) : List Value := [.int (σ 10 0), .int (σ 10 1), .int (σ 10 2), .int (σ 10 3), .ref (ad 11), .ref (ad 12), .int (σ 10 6), .ref (ad 18), .ref (ad 19), .ref (ad 20), .ref (ad 21)]
abbrev fM (ad : Nat → Nat) (σ : St) : List Value := [.int (σ 0 0), .int (σ 0 1), .ref (ad 1), .ref (ad 2), .ref (ad 3), .int (σ 0 5), .int (σ 0 6), .int (σ 0 7), .ref (ad 4), .ref (ad 5), .ref (ad 6), .int (σ 0 11), .int (σ 0 12), .int (σ 0 13), .int (σ 0 14), .ref (ad 7), .ref (ad 8), .ref (ad 9), .int (σ 0 18), .int (σ 0 19), .int (σ 0 20), .int (σ 0 21), .int (σ 0 22), .int (σ 0 23), .ref (ad 10), .ref (ad 11), .int (σ 0 26), .ref (ad 12), .ref (ad 13)]
abbrev aI (g : Nat → ClassId) (ad : Nat → Nat) (σ : St) (q n : Nat) : Nat × va_E := (ad q, .inl (g 0, n, .inl (σ q)))
def WC (g : Nat → ClassId) (ad : Nat → Nat) (σ : St) : va_W := [(ad 0, .inr (2, fX ad σ)), (ad 1, .inl (g 2, 4, .inr (.inr (.inr (.inr (rfs ad 2 4)))))),
  (ad 2, .inr (1, fS ad σ 0)), (ad 3, .inr (1, fS ad σ 1)), (ad 4, .inr (1, fS ad σ 2)), (ad 5, .inr (1, fS ad σ 3)),
  aI g ad σ 6 60, aI g ad σ 7 60, aI g ad σ 8 60, aI g ad σ 9 60, (ad 10, .inr (0, fR ad σ)), aI g ad σ 11 5,
  (ad 12, .inl (g 3, 5, .inr (.inr (.inr (.inr (rfs ad 13 5)))))), aI g ad σ 13 5, aI g ad σ 14 5, aI g ad σ 15 5, aI g ad σ 16 5, aI g ad σ 17 5,
  aI g ad σ 18 8, aI g ad σ 19 8, aI g ad σ 20 32, (ad 21, .inl (g 1, 32, .inl (σ 21)))]
def WM (g : Nat → ClassId) (ad : Nat → Nat) (σ : St) : va_W := [(ad 0, .inr (3, fM ad σ)), aI g ad σ 1 4, aI g ad σ 2 4, aI g ad σ 3 240, aI g ad σ 4 5, aI g ad σ 5 5, aI g ad σ 6 25, aI g ad σ 7 5, aI g ad σ 8 5, aI g ad σ 9 25, aI g ad σ 10 5, aI g ad σ 11 32, aI g ad σ 12 8, aI g ad σ 13 8]
theorem k4 {P : Nat → Prop} (h0 : P 0) (h1 : P 1) (h2 : P 2) (h3 : P 3) {k : Nat} (hk : k < 4) : P k := by
  rcases (show k = 0 ∨ k = 1 ∨ k = 2 ∨ k = 3 by omega) with rfl | rfl | rfl | rfl <;> assumption
theorem k5 {P : Nat → Prop} (h0 : P 0) (h1 : P 1) (h2 : P 2) (h3 : P 3) (h4 : P 4) {k : Nat} (hk : k < 5) : P k := by
  rcases (show k = 0 ∨ k = 1 ∨ k = 2 ∨ k = 3 ∨ k = 4 by omega) with rfl | rfl | rfl | rfl | rfl <;> assumption
theorem lkS (g : Nat → ClassId) (ad : Nat → Nat) (σ : St) {k : Nat} (hk : k < 4) : (WC g ad σ)[2 + k]? = some (ad (2 + k), .inr (1, fS ad σ k)) := k4 (P := fun k => (WC g ad σ)[2 + k]? = some (ad (2 + k), .inr (1, fS ad σ k))) rfl rfl rfl rfl hk
theorem lkA (g : Nat → ClassId) (ad : Nat → Nat) (σ : St) {k : Nat} (hk : k < 4) : (WC g ad σ)[6 + k]? = some (ad (6 + k), .inl (g 0, 60, .inl (σ (6 + k)))) := k4 (P := fun k => (WC g ad σ)[6 + k]? = some (ad (6 + k), .inl (g 0, 60, .inl (σ (6 + k))))) rfl rfl rfl rfl hk
theorem lkN (g : Nat → ClassId) (ad : Nat → Nat) (σ : St) {k : Nat} (hk : k < 5) : (WC g ad σ)[13 + k]? = some (ad (13 + k), .inl (g 0, 5, .inl (σ (13 + k)))) := k5 (P := fun k => (WC g ad σ)[13 + k]? = some (ad (13 + k), .inl (g 0, 5, .inl (σ (13 + k))))) rfl rfl rfl rfl rfl hk
theorem stA (g : Nat → ClassId) (ad : Nat → Nat) (σ : St) (f : Nat → Int32) {k : Nat} (hk : k < 4) : (WC g ad σ).set (6 + k) (ad (6 + k), .inl (g 0, 60, .inl f)) = WC g ad (upA σ (6 + k) f) := k4 (P := fun k => (WC g ad σ).set (6 + k) (ad (6 + k), .inl (g 0, 60, .inl f)) = WC g ad (upA σ (6 + k) f)) rfl rfl rfl rfl hk
theorem stN (g : Nat → ClassId) (ad : Nat → Nat) (σ : St) (f : Nat → Int32) {k : Nat} (hk : k < 5) : (WC g ad σ).set (13 + k) (ad (13 + k), .inl (g 0, 5, .inl f)) = WC g ad (upA σ (13 + k) f) := k5 (P := fun k => (WC g ad σ).set (13 + k) (ad (13 + k), .inl (g 0, 5, .inl f)) = WC g ad (upA σ (13 + k) f)) rfl rfl rfl rfl rfl hk
theorem stS1 (g : Nat → ClassId) (ad : Nat → Nat) (σ : St) (v : Int32) {k : Nat} (hk : k < 4) : (WC g ad σ).set (2 + k) (ad (2 + k), .inr (1, (fS ad σ k).set 1 (.int v))) = WC g ad (up2 σ (2 + k) 1 v) := k4 (P := fun k => (WC g ad σ).set (2 + k) (ad (2 + k), .inr (1, (fS ad σ k).set 1 (.int v))) = WC g ad (up2 σ (2 + k) 1 v)) rfl rfl rfl rfl hk
theorem stS2 (g : Nat → ClassId) (ad : Nat → Nat) (σ : St) (v : Int32) {k : Nat} (hk : k < 4) : (WC g ad σ).set (2 + k) (ad (2 + k), .inr (1, (fS ad σ k).set 2 (.int v))) = WC g ad (up2 σ (2 + k) 2 v) := k4 (P := fun k => (WC g ad σ).set (2 + k) (ad (2 + k), .inr (1, (fS ad σ k).set 2 (.int v))) = WC g ad (up2 σ (2 + k) 2 v)) rfl rfl rfl rfl hk
theorem stS3 (g : Nat → ClassId) (ad : Nat → Nat) (σ : St) (v : Int32) {k : Nat} (hk : k < 4) : (WC g ad σ).set (2 + k) (ad (2 + k), .inr (1, (fS ad σ k).set 3 (.int v))) = WC g ad (up2 σ (2 + k) 3 v) := k4 (P := fun k => (WC g ad σ).set (2 + k) (ad (2 + k), .inr (1, (fS ad σ k).set 3 (.int v))) = WC g ad (up2 σ (2 + k) 3 v)) rfl rfl rfl rfl hk
-- what a method knows, what holds of the heap
def Cx (p : Program) (s : State) (m : MethodId) (c : Code) (args : Array Value) (cc : ByteArray) (own : String) (cw : Cond) (D : va_G) (g : Nat → ClassId) : Prop := p.tables.exec = Jvm.exec ∧ c.code = cc ∧ s.vm.findClass own = some m.cls ∧ (∀ w ∈ WS cw, w.before args s = true) ∧ va_K D vwCl (tysG g) s
def Hp (D : va_G) (A : Nat → Prop) (H0 H : Heap) (locs : List Loc) (W0 : va_W) : Prop := va_P D vwCl W0 H ∧ va_D A W0 ∧ va_S A H0 H locs ∧ ∀ q : Nat, H0.size ≤ q → A q
def PreW (D : va_G) (g : Nat → ClassId) (W0 : va_W) (sz : Nat) (U : State) : Prop := U.heap.size = sz ∧ va_P D vwCl W0 U.heap ∧ va_K D vwCl (tysG g) U ∧ va_D (fun _ => True) W0
def AtW (D : va_G) (g : Nat → ClassId) (A : Nat → Prop) (W1 : va_W) (t : State) : Prop := va_P D vwCl W1 t.heap ∧ va_K D vwCl (tysG g) t ∧ va_D A W1
abbrev RM (fr lo : Nat) : Room := { frames := fr, cells := 0, slots := 0, locals := lo }
abbrev QI (D : va_G) (g : Nat → ClassId) (A : Nat → Prop) (W1 : va_W) (r0 : Int32) : Array Value → State → Outcome → State → Prop := va_Qi (fun r (_ : Unit) => r = r0) (fun _ t => AtW D g A W1 t) A
abbrev QL (D : va_G) (g : Nat → ClassId) (A : Nat → Prop) (W1 : va_W) (r0 : Int64) : Array Value → State → Outcome → State → Prop := va_Ql (fun r (_ : Unit) => r = r0) (fun _ t => AtW D g A W1 t) A
abbrev QV (D : va_G) (g : Nat → ClassId) (A : Nat → Prop) (W1 : va_W) : Array Value → State → Outcome → State → Prop := va_Qv (fun (_ : Unit) => True) (fun _ t => AtW D g A W1 t) A
def MI (l : Launch) (y : MethodName) (cw : Cond) (fr lo : Nat) (D : va_G) (g : Nat → ClassId) (W0 W1 : va_W) (as : List Value) (r0 : Int32) : Prop := ∀ sz : Nat, Met l y (WS cw) (RM fr lo) (va_Pc as (PreW D g W0 sz)) (QI D g (va_A W0 sz) W1 r0) 0 0 (va_A W0 sz)
def ML (l : Launch) (y : MethodName) (cw : Cond) (fr lo : Nat) (D : va_G) (g : Nat → ClassId) (W0 W1 : va_W) (as : List Value) (r0 : Int64) : Prop := ∀ sz : Nat, Met l y (WS cw) (RM fr lo) (va_Pc as (PreW D g W0 sz)) (QL D g (va_A W0 sz) W1 r0) 0 0 (va_A W0 sz)
def MV (l : Launch) (y : MethodName) (cw : Cond) (fr lo : Nat) (D : va_G) (g : Nat → ClassId) (W0 W1 : va_W) (as : List Value) : Prop := ∀ sz : Nat, Met l y (WS cw) (RM fr lo) (va_Pc as (PreW D g W0 sz)) (QV D g (va_A W0 sz) W1) 0 0 (va_A W0 sz)
theorem gV {own C : String} {index : Nat} {y : MethodName} {cw cw2 : Cond} (h1 : Cond.methodLink own index y ∈ TB) (h2 : Cond.instanceMethod y ∈ TB) (h3 : Cond.selects C y y ∈ TB) (h4 : Cond.initialized C ∈ TB) (h5 : cw2 ∈ TB) : GoodIn (WS cw) (wsV own index C y (WS cw2)) := by
  have hg : ∀ w ∈ TB, w ∈ WS cw ∧ ((w.onTables && w.keeps) = true ∨ ∃ ty, w = .arrayClass ty) := fun w hw => ⟨List.mem_cons_of_mem _ hw, good_of_word (List.mem_filter.mp hw).2⟩
  intro w hw
  simp only [wsV, WS, List.cons_append, List.nil_append, List.mem_cons] at hw
  rcases hw with rfl | rfl | rfl | rfl | rfl | hw
  · exact hg _ h1
  · exact hg _ h2
  · exact hg _ h3
  · exact hg _ h4
  · exact hg _ h5
  · exact hg _ hw
theorem gS {own : String} {index : Nat} {y : MethodName} {cw cw2 : Cond} (h1 : Cond.methodLink own index y ∈ TB) (h2 : Cond.static y ∈ TB) (h4 : Cond.initialized y.cls ∈ TB) (h5 : cw2 ∈ TB) : GoodIn (WS cw) (va_wsS own index y (WS cw2)) := by
  have hg : ∀ w ∈ TB, w ∈ WS cw ∧ ((w.onTables && w.keeps) = true ∨ ∃ ty, w = .arrayClass ty) := fun w hw => ⟨List.mem_cons_of_mem _ hw, good_of_word (List.mem_filter.mp hw).2⟩
  intro w hw
  simp only [va_wsS, WS, List.cons_append, List.nil_append, List.mem_cons] at hw
  rcases hw with rfl | rfl | rfl | rfl | hw
  · exact hg _ h1
  · exact hg _ h2
  · exact hg _ h4
  · exact hg _ h5
  · exact hg _ hw
theorem preW_blind {D : va_G} {g : Nat → ClassId} {W0 : va_W} {sz : Nat} {as : List Value} : FrameBlind (va_Pc as (PreW D g W0 sz)) := by
  intro a U j mk q
  obtain ⟨q0, q1, qP, qK, qD⟩ := q
  exact ⟨q0, q1, qP, va_K.moved (u := U) (U := U.calling j mk a) (Vm.Alike.refl U.vm) qK, qD⟩
theorem Hp.free {D : va_G} {A : Nat → Prop} {H0 H : Heap} {locs : List Loc} {W0 : va_W} (Y : Hp D A H0 H locs W0) : ∀ q, va_A W0 H.size q → A q := by
  intro q h
  rcases h with ⟨k, e, h⟩ | h
  · exact Y.2.1.2 k (q, e) h
  · exact Y.2.2.2 q (Nat.le_trans Y.2.2.1.1 h)
-- small helpers over Option
theorem ob {α β : Type} {x : Option α} {k : α → Option β} {y : β} (h : x.bind k = some y) : ∃ q, x = some q ∧ k q = some y := by
  cases x with
  | none => cases h
  | some q => exact ⟨q, rfl, h⟩
theorem og {α : Type} {P : Prop} [Decidable P] {b : Option α} {y : α} (h : (if P then none else b) = some y) : ¬ P ∧ b = some y := by
  by_cases hp : P
  · rw [if_pos hp] at h; cases h
  · rw [if_neg hp] at h; exact ⟨hp, h⟩
theorem clt {i : Int32} {n : Nat} (h : ¬ (i < 0 ∨ n ≤ i.toNatClampNeg)) : i.toNatClampNeg < n := Nat.not_le.mp fun q => h (Or.inr q)
section FR
variable {p : Program} {l : Launch} {e : Env} {R : Room} {s : State} {m : MethodId} {args : Array Value} {below : List Frame} {meth : Method} {c : Code} {H : Heap} {locs : List Loc} {cells slots : Nat} {Q : State → Prop}
variable {cc : ByteArray} {pc : Nat} {ls : Array Slot} {rest : List Value} {D : va_G} {g : Nat → ClassId} {A : Nat → Prop} {H0 : Heap} {W0 W1 : va_W} {own : String} {cw : Cond} {ad : Nat → Nat} {σ : St}
theorem Cx.tb (X : Cx p s m c args cc own cw D g) {w : Cond} (h : w ∈ TB) : w.before args s = true := X.2.2.2.1 w (List.mem_cons_of_mem _ h)
-- getfield, putfield
theorem rg (X : Cx p s m c args cc own cw D g) (Y : Hp D A H0 H locs W0) {C : String} {T : u_T} {N ci index q0 a : Nat} {fs : List Value} {v : Value} (he : W0[q0]? = some (a, .inr (ci, fs))) (hc : vwCl[ci]? = some (C, T, N)) (hin : ∀ w ∈ u_ws C T N, w ∈ TB) (k : Nat) (hk : k < N) (hlink : Cond.fieldLink own index (T k).1 (T k).2.1 (T k).2.2.1 ∈ TB) (hv : fs[k]? = some v) (hdg : decode cc pc = .ok (.getfield index, 3))
    (kk : W p l e R s m args below meth c H locs cells slots Q (F0 m (pc + 3) ls (v :: rest))) : W p l e R s m args below meth c H locs cells slots Q (F0 m pc ls (.ref a :: rest)) :=
  va_get X.1 X.2.1 X.2.2.2.1 (fun w h => List.mem_cons_of_mem _ (hin w h)) X.2.2.1 X.2.2.2.2 Y.1 q0 he hc k hk (X.tb hlink) (fun _ h => h) hv hdg kk
theorem rp (X : Cx p s m c args cc own cw D g) (Y : Hp D A H0 H locs W0) {C : String} {T : u_T} {N ci index q0 a : Nat} {fs : List Value} {v : Value} (he : W0[q0]? = some (a, .inr (ci, fs))) (hc : vwCl[ci]? = some (C, T, N)) (hin : ∀ w ∈ u_ws C T N, w ∈ TB) (ty0 : Nat → FieldType) (hty : ∀ k, k < N → parseFieldDescriptor (T k).2.2.1 = some (ty0 k)) (hnm : ∀ a, a < N → ∀ b, b < N → a ≠ b → (T a).2.1 ≠ (T b).2.1) (k : Nat) (hk : k < N) (hlink : Cond.fieldLink own index (T k).1 (T k).2.1 (T k).2.2.1 ∈ TB) (hfin : (T k).2.2.2 = false) (hn : narrow (ty0 k) v = v) (hfit : fits (ty0 k) v = true) (hl : k < fs.length) (hset : W0.set q0 (a, .inr (ci, fs.set k v)) = W1) (hdg : decode cc pc = .ok (.putfield index, 3))
    (kk : ∀ (H1 : Heap) (locs1 : List Loc), Hp D A H0 H1 locs1 W1 → W p l e R s m args below meth c H1 locs1 cells slots Q (F0 m (pc + 3) ls rest)) : W p l e R s m args below meth c H locs cells slots Q (F0 m pc ls (v :: .ref a :: rest)) := by
  subst hset
  exact va_put X.1 X.2.1 X.2.2.2.1 (fun w h => List.mem_cons_of_mem _ (hin w h)) ty0 hty hnm X.2.2.1 X.2.2.2.2 Y.1 Y.2.1 Y.2.2.1 q0 he hc k hk (X.tb hlink) (fun _ h => h) hfin (hty k hk) hn hfit hl hdg (fun H1 locs1 a b c => kk H1 locs1 ⟨a, b, c, Y.2.2.2⟩)
-- arrays
theorem ri (X : Cx p s m c args cc own cw D g) (Y : Hp D A H0 H locs W0) {q0 a n : Nat} {f : Nat → Int32} {i : Int32} (he : W0[q0]? = some (a, .inl (g 0, n, .inl f))) (hin : ¬ (i < 0 ∨ n ≤ i.toNatClampNeg)) (hdg : decode cc pc = .ok (.iaload, 1))
    (kk : W p l e R s m args below meth c H locs cells slots Q (F0 m (pc + 1) ls (.int (f i.toNatClampNeg) :: rest))) : W p l e R s m args below meth c H locs cells slots Q (F0 m pc ls (.int i :: .ref a :: rest)) :=
  va_iald X.1 X.2.1 X.2.2.2.2 Y.1 q0 0 he rfl hin hdg kk
theorem rz (X : Cx p s m c args cc own cw D g) (Y : Hp D A H0 H locs W0) {q0 a n : Nat} {f : Nat → Int32} {i : Int32} (he : W0[q0]? = some (a, .inl (g 1, n, .inl f))) (hin : ¬ (i < 0 ∨ n ≤ i.toNatClampNeg)) (hdg : decode cc pc = .ok (.baload, 1))
    (kk : W p l e R s m args below meth c H locs cells slots Q (F0 m (pc + 1) ls (.int (f i.toNatClampNeg) :: rest))) : W p l e R s m args below meth c H locs cells slots Q (F0 m pc ls (.int i :: .ref a :: rest)) :=
  va_zald X.1 X.2.1 X.2.2.2.2 Y.1 q0 1 he rfl hin hdg kk
theorem ris (X : Cx p s m c args cc own cw D g) (Y : Hp D A H0 H locs W0) {q0 a n : Nat} {f : Nat → Int32} {i x : Int32} (he : W0[q0]? = some (a, .inl (g 0, n, .inl f))) (hin : ¬ (i < 0 ∨ n ≤ i.toNatClampNeg)) (hset : W0.set q0 (a, .inl (g 0, n, .inl (upd f i.toNatClampNeg x))) = W1) (hdg : decode cc pc = .ok (.iastore, 1))
    (kk : ∀ (H1 : Heap) (locs1 : List Loc), Hp D A H0 H1 locs1 W1 → W p l e R s m args below meth c H1 locs1 cells slots Q (F0 m (pc + 1) ls rest)) : W p l e R s m args below meth c H locs cells slots Q (F0 m pc ls (.int x :: .int i :: .ref a :: rest)) := by
  subst hset
  exact va_iast X.1 X.2.1 X.2.2.2.2 Y.1 Y.2.1 Y.2.2.1 q0 0 he rfl hin hdg (fun H1 locs1 a b c => kk H1 locs1 ⟨a, b, c, Y.2.2.2⟩)
theorem rzs (X : Cx p s m c args cc own cw D g) (Y : Hp D A H0 H locs W0) {q0 a n : Nat} {f : Nat → Int32} {i x : Int32} (he : W0[q0]? = some (a, .inl (g 1, n, .inl f))) (hin : ¬ (i < 0 ∨ n ≤ i.toNatClampNeg)) (hset : W0.set q0 (a, .inl (g 1, n, .inl (upd f i.toNatClampNeg (vp_nar .boolean x)))) = W1) (hdg : decode cc pc = .ok (.bastore, 1))
    (kk : ∀ (H1 : Heap) (locs1 : List Loc), Hp D A H0 H1 locs1 W1 → W p l e R s m args below meth c H1 locs1 cells slots Q (F0 m (pc + 1) ls rest)) : W p l e R s m args below meth c H locs cells slots Q (F0 m pc ls (.int x :: .int i :: .ref a :: rest)) := by
  subst hset
  exact va_zast X.1 X.2.1 X.2.2.2.2 Y.1 Y.2.1 Y.2.2.1 q0 1 he rfl hin hdg (fun H1 locs1 a b c => kk H1 locs1 ⟨a, b, c, Y.2.2.2⟩)
theorem raS (X : Cx p s m c args cc own cw D g) (Y : Hp D A H0 H locs (WC g ad σ)) {i : Int32} (hin : ¬ (i < 0 ∨ 4 ≤ i.toNatClampNeg)) (hdg : decode cc pc = .ok (.aaload, 1))
    (kk : W p l e R s m args below meth c H locs cells slots Q (F0 m (pc + 1) ls (.ref (ad (2 + i.toNatClampNeg)) :: rest))) : W p l e R s m args below meth c H locs cells slots Q (F0 m pc ls (.int i :: .ref (ad 1) :: rest)) := by
  refine va_aldq X.1 X.2.1 X.2.2.2.2 Y.1 1 2 (f := rfs ad 2 4) (C := RX1) rfl rfl hin hdg ?_
  rw [show va_rf (rfs ad 2 4 i.toNatClampNeg) = .ref (ad (2 + i.toNatClampNeg)) by rw [rfs, if_pos (clt hin)]; rfl]
  exact kk
theorem raN (X : Cx p s m c args cc own cw D g) (Y : Hp D A H0 H locs (WC g ad σ)) {i : Int32} (hin : ¬ (i < 0 ∨ 5 ≤ i.toNatClampNeg)) (hdg : decode cc pc = .ok (.aaload, 1))
    (kk : W p l e R s m args below meth c H locs cells slots Q (F0 m (pc + 1) ls (.ref (ad (13 + i.toNatClampNeg)) :: rest))) : W p l e R s m args below meth c H locs cells slots Q (F0 m pc ls (.int i :: .ref (ad 12) :: rest)) := by
  have hlt := clt hin
  refine W.aald (v := .ref (ad (13 + i.toNatClampNeg))) (ty := .array .int) X.1 X.2.1 (Y.1 12 _ rfl) ((X.2.2.2.2.2 3 _ rfl).1 5 (fun j => va_rf (rfs ad 13 5 j))) rfl (fun q => by cases q) (by show ¬ (i < 0 ∨ (arrV _ _ _).slots.size ≤ _); rw [arrV_size]; exact hin) ?_ rfl rfl hdg kk
  show (arrV _ _ _).slots[_]? = _
  rw [arrV_read _ _ hlt, rfs, if_pos hlt]
  rfl
-- System.arraycopy between two of the sheets' rows
theorem rcp (X : Cx p s m c args cc own cw D g) (Y : Hp D A H0 H locs (WC g ad σ)) (hml : c.maxLocals = ls.size) {index : Nat} (hlink : Cond.methodLink own index arraycopyName ∈ TB) (hnat : Cond.native arraycopyName ∈ TB) (hstat : Cond.static arraycopyName ∈ TB) (hini : Cond.initialized "java/lang/System" ∈ TB) {j k : Nat} (hj : j < 4) (hk : k < 4) {sp dp n : Int32}
    (hin : ¬ (sp < 0 ∨ dp < 0 ∨ n < 0 ∨ 60 < sp.toNatClampNeg + n.toNatClampNeg ∨ 60 < dp.toNatClampNeg + n.toNatClampNeg)) (hframes : 1 ≤ R.frames) (hlocals : (rest.map fun v => v.category).sum + (nativeFrameWords "java/lang/System" "arraycopy" 5 + 11) ≤ R.locals) (hdg : decode cc pc = .ok (.invokestatic index, 3))
    (kk : ∀ (H1 : Heap) (locs1 : List Loc), Hp D A H0 H1 locs1 (WC g ad (upA σ (6 + k) (va_cpy (σ (6 + j)) (σ (6 + k)) sp.toNatClampNeg dp.toNatClampNeg n.toNatClampNeg))) → W p l e R s m args below meth c H1 locs1 cells slots Q (F0 m (pc + 3) ls rest)) :
    W p l e R s m args below meth c H locs cells slots Q (F0 m pc ls (.int n :: .int dp :: .ref (ad (6 + k)) :: .int sp :: .ref (ad (6 + j)) :: rest)) := by
  refine va_copyi X.1 X.2.1 hml X.2.2.1 (X.tb hlink) (X.tb hnat) (X.tb hstat) (X.tb hini) X.2.2.2.2 Y.1 Y.2.1 Y.2.2.1 (6 + j) (6 + k) 0 0 (ty := .int) (lkA g ad σ hj) (lkA g ad σ hk) rfl rfl rfl (fun h => hin (Or.inl h)) (fun h => hin (Or.inr (Or.inl h))) (fun h => hin (Or.inr (Or.inr (Or.inl h)))) (Nat.not_lt.mp fun h => hin (Or.inr (Or.inr (Or.inr (Or.inl h))))) (Nat.not_lt.mp fun h => hin (Or.inr (Or.inr (Or.inr (Or.inr h))))) (fun _ _ => rfl) hframes hlocals hdg (fun H1 locs1 a b c => ?_)
  rw [stA g ad σ _ hk] at a b
  exact kk H1 locs1 ⟨a, b, c, Y.2.2.2⟩
-- answers
theorem retI (X : Cx p s m c args cc own cw D g) (Y : Hp D A s.heap H locs W1) (hr : meth.sig.returnType = some .int) (hlk : meth.locks = false) {r : Int32} (hdg : decode cc pc = .ok (.ireturn, 1)) : W p l e R s m args below meth c H locs 0 0 (MQ below (QI D g A W1 r) args s 0 0 A) (F0 m pc ls [.int r]) :=
  W.iret X.1 X.2.1 hr (fun _ ht hW => ⟨⟨r, (), rfl, rfl, by rw [ht]; exact Y.1, va_K.moved hW.alike X.2.2.2.2, Y.2.1⟩, Y.2.2.1.F ht⟩) Y.2.2.1.2.2 hdg hlk
theorem retZ (X : Cx p s m c args cc own cw D g) (Y : Hp D A s.heap H locs W1) (hr : meth.sig.returnType = some .boolean) (hlk : meth.locks = false) {r : Int32} (hn : narrow .boolean (.int r) = .int r) (hdg : decode cc pc = .ok (.ireturn, 1)) : W p l e R s m args below meth c H locs 0 0 (MQ below (QI D g A W1 r) args s 0 0 A) (F0 m pc ls [.int r]) :=
  W.zret X.1 X.2.1 hr hn (fun _ ht hW => ⟨⟨r, (), rfl, rfl, by rw [ht]; exact Y.1, va_K.moved hW.alike X.2.2.2.2, Y.2.1⟩, Y.2.2.1.F ht⟩) Y.2.2.1.2.2 hdg hlk
theorem retL (X : Cx p s m c args cc own cw D g) (Y : Hp D A s.heap H locs W1) (hr : meth.sig.returnType = some .long) (hlk : meth.locks = false) {r : Int64} (hdg : decode cc pc = .ok (.lreturn, 1)) : W p l e R s m args below meth c H locs 0 0 (MQ below (QL D g A W1 r) args s 0 0 A) (F0 m pc ls [.long r]) :=
  W.lret X.1 X.2.1 hr (fun _ ht hW => ⟨⟨r, (), rfl, rfl, by rw [ht]; exact Y.1, va_K.moved hW.alike X.2.2.2.2, Y.2.1⟩, Y.2.2.1.F ht⟩) Y.2.2.1.2.2 hdg hlk
theorem retV (X : Cx p s m c args cc own cw D g) (Y : Hp D A s.heap H locs W1) (hr : meth.sig.returnType = none) (hlk : meth.locks = false) (hdg : decode cc pc = .ok (.return_, 1)) : W p l e R s m args below meth c H locs 0 0 (MQ below (QV D g A W1) args s 0 0 A) (F0 m pc ls []) :=
  W.vret X.1 X.2.1 hr (fun _ ht hW => ⟨⟨(), rfl, trivial, by rw [ht]; exact Y.1, va_K.moved hW.alike X.2.2.2.2, Y.2.1⟩, Y.2.2.1.F ht⟩) Y.2.2.1.2.2 hdg hlk
-- calls
variable {y : MethodName} {cw2 : Cond} {fr lo index maxL : Nat} {As st0 : List Value} {bytes : ByteArray} {ret : Option FieldType} {b q0 ci N : Nat} {fs : List Value} {C : String} {T : u_T}
theorem cVi (X : Cx p s m c args cc own cw D g) (hml : c.maxLocals = ls.size) (Y : Hp D A H0 H locs W0) {r0 : Int32} (hM : MI l y cw2 fr lo D g W0 W1 (.ref b :: As) r0) (he : W0[q0]? = some (b, .inr (ci, fs))) (hc : vwCl[ci]? = some (C, T, N)) (hG : GoodIn (WS cw) (wsV own index C y (WS cw2))) (hcw : cw2 = Cond.code y bytes maxL ret) (hd : y.cls = C ∧ y.cls ≠ "java/lang/invoke/MethodHandle" ∧ y.cls ≠ "java/lang/invoke/VarHandle" ∧ (parseMethodDescriptor y.desc).map (fun d => d.parameters.length) = some As.length) (hR : fr + 1 ≤ R.frames ∧ 8 + (maxL + 11) + lo ≤ R.locals) (hcs : cells + 0 ≤ R.cells ∧ slots + 0 ≤ R.slots) (hst : st0 = As.reverse ++ .ref b :: rest) (hw : (rest.map fun v => v.category).sum ≤ 8) (hdg : decode cc pc = .ok (.invokevirtual index, 3))
    (kk : ∀ (H1 : Heap) (locs1 : List Loc), Hp D A H0 H1 locs1 W1 → W p l e R s m args below meth c H1 locs1 cells slots Q (F0 m (pc + 3) ls (.int r0 :: rest))) : W p l e R s m args below meth c H locs cells slots Q (F0 m pc ls st0) := by
  subst hst
  refine va_calli (va_runV (As := As) (rest := rest) ⟨X.1, X.2.1, hml, X.2.2.1, X.2.2.2.1⟩ (hM H.size) (cwV As.length X.2.2.2.1 hG (by rw [hcw]; rfl) rfl rfl hd hR) ⟨preW_blind, va_recv X.2.2.2.2 Y.1 hc he, fun U hU hW => ⟨rfl, by rw [hU], by rw [hU]; exact Y.1, va_K.moved hW.alike X.2.2.2.2, Y.2.1.weaken (fun _ _ _ _ => trivial)⟩⟩ rfl rfl rfl rfl (lv_room hw) hdg hcs) Y.2.2.1 (fun q _ h => Y.free q h) Y.free (fun r u t H1 locs1 ht hvm hpost hB hz1 hk1 hS => ?_)
  subst hpost
  obtain ⟨hP1, hK1, hD1⟩ := hB
  rw [ht] at hP1
  exact kk H1 locs1 ⟨hP1, hD1.weaken (fun _ q _ h => Y.free q.1 h), hS, Y.2.2.2⟩
theorem cVl (X : Cx p s m c args cc own cw D g) (hml : c.maxLocals = ls.size) (Y : Hp D A H0 H locs W0) {r0 : Int64} (hM : ML l y cw2 fr lo D g W0 W1 (.ref b :: As) r0) (he : W0[q0]? = some (b, .inr (ci, fs))) (hc : vwCl[ci]? = some (C, T, N)) (hG : GoodIn (WS cw) (wsV own index C y (WS cw2))) (hcw : cw2 = Cond.code y bytes maxL ret) (hd : y.cls = C ∧ y.cls ≠ "java/lang/invoke/MethodHandle" ∧ y.cls ≠ "java/lang/invoke/VarHandle" ∧ (parseMethodDescriptor y.desc).map (fun d => d.parameters.length) = some As.length) (hR : fr + 1 ≤ R.frames ∧ 8 + (maxL + 11) + lo ≤ R.locals) (hcs : cells + 0 ≤ R.cells ∧ slots + 0 ≤ R.slots) (hst : st0 = As.reverse ++ .ref b :: rest) (hw : (rest.map fun v => v.category).sum ≤ 8) (hdg : decode cc pc = .ok (.invokevirtual index, 3))
    (kk : ∀ (H1 : Heap) (locs1 : List Loc), Hp D A H0 H1 locs1 W1 → W p l e R s m args below meth c H1 locs1 cells slots Q (F0 m (pc + 3) ls (.long r0 :: rest))) : W p l e R s m args below meth c H locs cells slots Q (F0 m pc ls st0) := by
  subst hst
  refine va_calll (va_runV (As := As) (rest := rest) ⟨X.1, X.2.1, hml, X.2.2.1, X.2.2.2.1⟩ (hM H.size) (cwV As.length X.2.2.2.1 hG (by rw [hcw]; rfl) rfl rfl hd hR) ⟨preW_blind, va_recv X.2.2.2.2 Y.1 hc he, fun U hU hW => ⟨rfl, by rw [hU], by rw [hU]; exact Y.1, va_K.moved hW.alike X.2.2.2.2, Y.2.1.weaken (fun _ _ _ _ => trivial)⟩⟩ rfl rfl rfl rfl (lv_room hw) hdg hcs) Y.2.2.1 (fun q _ h => Y.free q h) Y.free (fun r u t H1 locs1 ht hvm hpost hB hz1 hk1 hS => ?_)
  subst hpost
  obtain ⟨hP1, hK1, hD1⟩ := hB
  rw [ht] at hP1
  exact kk H1 locs1 ⟨hP1, hD1.weaken (fun _ q _ h => Y.free q.1 h), hS, Y.2.2.2⟩
theorem cVv (X : Cx p s m c args cc own cw D g) (hml : c.maxLocals = ls.size) (Y : Hp D A H0 H locs W0) (hM : MV l y cw2 fr lo D g W0 W1 (.ref b :: As)) (he : W0[q0]? = some (b, .inr (ci, fs))) (hc : vwCl[ci]? = some (C, T, N)) (hG : GoodIn (WS cw) (wsV own index C y (WS cw2))) (hcw : cw2 = Cond.code y bytes maxL ret) (hd : y.cls = C ∧ y.cls ≠ "java/lang/invoke/MethodHandle" ∧ y.cls ≠ "java/lang/invoke/VarHandle" ∧ (parseMethodDescriptor y.desc).map (fun d => d.parameters.length) = some As.length) (hR : fr + 1 ≤ R.frames ∧ 8 + (maxL + 11) + lo ≤ R.locals) (hcs : cells + 0 ≤ R.cells ∧ slots + 0 ≤ R.slots) (hst : st0 = As.reverse ++ .ref b :: rest) (hw : (rest.map fun v => v.category).sum ≤ 8) (hdg : decode cc pc = .ok (.invokevirtual index, 3))
    (kk : ∀ (H1 : Heap) (locs1 : List Loc), Hp D A H0 H1 locs1 W1 → W p l e R s m args below meth c H1 locs1 cells slots Q (F0 m (pc + 3) ls rest)) : W p l e R s m args below meth c H locs cells slots Q (F0 m pc ls st0) := by
  subst hst
  refine va_callv (va_runV (As := As) (rest := rest) ⟨X.1, X.2.1, hml, X.2.2.1, X.2.2.2.1⟩ (hM H.size) (cwV As.length X.2.2.2.1 hG (by rw [hcw]; rfl) rfl rfl hd hR) ⟨preW_blind, va_recv X.2.2.2.2 Y.1 hc he, fun U hU hW => ⟨rfl, by rw [hU], by rw [hU]; exact Y.1, va_K.moved hW.alike X.2.2.2.2, Y.2.1.weaken (fun _ _ _ _ => trivial)⟩⟩ rfl rfl rfl rfl (lv_room hw) hdg hcs) Y.2.2.1 (fun q _ h => Y.free q h) Y.free (fun u t H1 locs1 ht hvm hpost hB hz1 hk1 hS => ?_)
  obtain ⟨hP1, hK1, hD1⟩ := hB
  rw [ht] at hP1
  exact kk H1 locs1 ⟨hP1, hD1.weaken (fun _ q _ h => Y.free q.1 h), hS, Y.2.2.2⟩
theorem cSi (X : Cx p s m c args cc own cw D g) (hml : c.maxLocals = ls.size) (Y : Hp D A H0 H locs W0) {r0 : Int32} (hM : MI l y cw2 fr lo D g W0 W1 As r0) (hG : GoodIn (WS cw) (va_wsS own index y (WS cw2))) (hcw : cw2 = Cond.code y bytes maxL ret) (hd : y.cls ≠ "java/lang/invoke/MethodHandle" ∧ y.cls ≠ "java/lang/invoke/VarHandle" ∧ (parseMethodDescriptor y.desc).map (fun d => d.parameters.length) = some As.length) (hR : fr + 1 ≤ R.frames ∧ 8 + (maxL + 11) + lo ≤ R.locals) (hcs : cells + 0 ≤ R.cells ∧ slots + 0 ≤ R.slots) (hst : st0 = As.reverse ++ rest) (hw : (rest.map fun v => v.category).sum ≤ 8) (hdg : decode cc pc = .ok (.invokestatic index, 3))
    (kk : ∀ (H1 : Heap) (locs1 : List Loc), Hp D A H0 H1 locs1 W1 → W p l e R s m args below meth c H1 locs1 cells slots Q (F0 m (pc + 3) ls (.int r0 :: rest))) : W p l e R s m args below meth c H locs cells slots Q (F0 m pc ls st0) := by
  subst hst
  refine va_calli (va_runS (As := As) (rest := rest) ⟨X.1, X.2.1, hml, X.2.2.1, X.2.2.2.1⟩ (hM H.size) (va_cwS As.length X.2.2.2.1 hG (by rw [hcw]; rfl) rfl rfl hd hR) ⟨preW_blind, fun U hU hW => ⟨rfl, by rw [hU], by rw [hU]; exact Y.1, va_K.moved hW.alike X.2.2.2.2, Y.2.1.weaken (fun _ _ _ _ => trivial)⟩⟩ rfl rfl rfl rfl (lv_room hw) hdg hcs) Y.2.2.1 (fun q _ h => Y.free q h) Y.free (fun r u t H1 locs1 ht hvm hpost hB hz1 hk1 hS => ?_)
  subst hpost
  obtain ⟨hP1, hK1, hD1⟩ := hB
  rw [ht] at hP1
  exact kk H1 locs1 ⟨hP1, hD1.weaken (fun _ q _ h => Y.free q.1 h), hS, Y.2.2.2⟩
theorem cSl (X : Cx p s m c args cc own cw D g) (hml : c.maxLocals = ls.size) (Y : Hp D A H0 H locs W0) {r0 : Int64} (hM : ML l y cw2 fr lo D g W0 W1 As r0) (hG : GoodIn (WS cw) (va_wsS own index y (WS cw2))) (hcw : cw2 = Cond.code y bytes maxL ret) (hd : y.cls ≠ "java/lang/invoke/MethodHandle" ∧ y.cls ≠ "java/lang/invoke/VarHandle" ∧ (parseMethodDescriptor y.desc).map (fun d => d.parameters.length) = some As.length) (hR : fr + 1 ≤ R.frames ∧ 8 + (maxL + 11) + lo ≤ R.locals) (hcs : cells + 0 ≤ R.cells ∧ slots + 0 ≤ R.slots) (hst : st0 = As.reverse ++ rest) (hw : (rest.map fun v => v.category).sum ≤ 8) (hdg : decode cc pc = .ok (.invokestatic index, 3))
    (kk : ∀ (H1 : Heap) (locs1 : List Loc), Hp D A H0 H1 locs1 W1 → W p l e R s m args below meth c H1 locs1 cells slots Q (F0 m (pc + 3) ls (.long r0 :: rest))) : W p l e R s m args below meth c H locs cells slots Q (F0 m pc ls st0) := by
  subst hst
  refine va_calll (va_runS (As := As) (rest := rest) ⟨X.1, X.2.1, hml, X.2.2.1, X.2.2.2.1⟩ (hM H.size) (va_cwS As.length X.2.2.2.1 hG (by rw [hcw]; rfl) rfl rfl hd hR) ⟨preW_blind, fun U hU hW => ⟨rfl, by rw [hU], by rw [hU]; exact Y.1, va_K.moved hW.alike X.2.2.2.2, Y.2.1.weaken (fun _ _ _ _ => trivial)⟩⟩ rfl rfl rfl rfl (lv_room hw) hdg hcs) Y.2.2.1 (fun q _ h => Y.free q h) Y.free (fun r u t H1 locs1 ht hvm hpost hB hz1 hk1 hS => ?_)
  subst hpost
  obtain ⟨hP1, hK1, hD1⟩ := hB
  rw [ht] at hP1
  exact kk H1 locs1 ⟨hP1, hD1.weaken (fun _ q _ h => Y.free q.1 h), hS, Y.2.2.2⟩
end FR
-- a contract out of the walk of its body
theorem Met.of2 {l : Launch} {y : MethodName} {cw : Cond} {fr lo maxL : Nat} {D : va_G} {g : Nat → ClassId} {W0 : va_W} {as : List Value} {cc : ByteArray} {ret : Option FieldType} {own : String} {Qc : (Nat → Prop) → Array Value → State → Outcome → State → Prop} {sz : Nat} (hy : plainName y.cls = true) (hcw : cw = Cond.code y cc maxL ret) (hown : y.cls = own) (hlen : (lg_sl as).length ≤ maxL)
    (body : ∀ (p : Program) (e : Env) (s : State) (m : MethodId) (below : List Frame) (meth : Method) (c : Code) (A : Nat → Prop) (ls : Array Slot), Cx p s m c as.toArray cc own cw D g → meth.sig.returnType = ret → meth.locks = false → c.maxLocals = maxL → Hp D A s.heap s.heap [] W0 → lv_has ls maxL (lv_args 0 as) →
      W p l e (RM fr lo) s m as.toArray below meth c s.heap [] 0 0 (MQ below (Qc A) as.toArray s 0 0 A) (F0 m 0 ls [])) : Met l y (WS cw) (RM fr lo) (va_Pc as (PreW D g W0 sz)) (Qc (va_A W0 sz)) 0 0 (va_A W0 sz) := by
  subst hcw
  refine Met.ofW (cc := cc) (maxL := maxL) (ret := ret) hy rfl ?_
  intro p e s m args below meth c s₁ B hml hv
  obtain ⟨rfl, hsz, hP, hK, hD0⟩ := hv
  subst hsz
  have hD := hD0.self (sz := s.heap.size)
  rw [lg_entry_eq]
  exact body p e s m below meth c _ _ ⟨B.exec, B.bytes, hown ▸ findClass_of_methodNamed B.named, atoms_spec (ws := WS (Cond.code y cc maxL ret)) B.pre, hK⟩ B.returns B.notSynchronized hml ⟨hP, hD, va_S.rf, fun q h => Or.inr h⟩ (lv_entry as hlen)
