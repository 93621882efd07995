/-! the constructors: what they need of the tables, their contract, rows for making cells -/
theorem tw_48 : (Cond.code objectInit ⟨#[0xb1]⟩ 1 none : Cond) ∈ TB := tbm 48 (by decide +kernel) (by decide +kernel)
theorem tw_101 : (Cond.arrayClass .int : Cond) ∈ TB := tbm 101 (by decide +kernel) (by decide +kernel)
theorem tw_102 : (Cond.arrayClass .boolean : Cond) ∈ TB := tbm 102 (by decide +kernel) (by decide +kernel)
theorem tw_55b : (Cond.classLink RX0 15 "[[I" : Cond) ∈ TB := tbm 55 (by decide +kernel) (by decide +kernel)
def XT (g : Nat → ClassId) (U : State) : Prop := va_Nw (.methodLinkNest RX3 11 yX0_init RX3) U ∧ va_Nw (.methodLinkNest RX3 24 yX1_init RX3) U ∧ va_AO RX1 U ∧ gdT g U
theorem XT.warm {g : Nat → ClassId} {s U : State} (hW : s.WarmedH U.vm) (h : XT g s) : XT g U := ⟨va_Nw.warmM hW h.1, va_Nw.warmM hW h.2.1, va_AO.moved hW.alike h.2.2.1, gdT.moved hW.alike h.2.2.2⟩
theorem XT.same {g : Nat → ClassId} {u U : State} (e : u.vm = U.vm) (h : XT g u) : XT g U := ⟨va_Nw.same rfl e h.1, va_Nw.same rfl e h.2.1, va_AO.moved (by rw [e]; exact Vm.Alike.refl U.vm) h.2.2.1, gdT.moved (by rw [e]; exact Vm.Alike.refl U.vm) h.2.2.2⟩
abbrev RC (fr lo mc ms : Nat) : Room := { frames := fr, cells := mc, slots := ms, locals := lo }
abbrev QC (D : va_G) (g : Nat → ClassId) (A : Nat → Prop) (pp : (Nat → Nat) → Prop) (W1 : (Nat → Nat) → va_W) : Array Value → State → Outcome → State → Prop := va_Qv pp (fun ad t => AtW D g A (W1 ad) t) A
def MC (l : Launch) (y : MethodName) (cw : Cond) (fr lo mc ms : Nat) (D : va_G) (g : Nat → ClassId) (W0 : va_W) (pp : (Nat → Nat) → Prop) (W1 : (Nat → Nat) → va_W) (as : List Value) : Prop := ∀ sz : Nat, Met l y (WS cw) (RC fr lo mc ms) (va_Pc as (fun U => PreW D g W0 sz U ∧ XT g U)) (QC D g (va_A W0 sz) pp W1) mc ms (va_A W0 sz)
theorem preC_blind {D : va_G} {g : Nat → ClassId} {W0 : va_W} {sz : Nat} {as : List Value} : FrameBlind (va_Pc as (fun U => PreW D g W0 sz U ∧ XT g U)) := by
  intro a U j mk q
  obtain ⟨q0, ⟨q1, qP, qK, qD⟩, qX⟩ := q
  exact ⟨q0, ⟨q1, qP, va_K.moved (u := U) (U := U.calling j mk a) (Vm.Alike.refl U.vm) qK, qD⟩, XT.same rfl qX⟩
theorem Met.of3 {l : Launch} {y : MethodName} {cw : Cond} {fr lo mc ms maxL : Nat} {D : va_G} {g : Nat → ClassId} {W0 : va_W} {as : List Value} {cc : ByteArray} {own : String} {pp : (Nat → Nat) → Prop} {W1 : (Nat → Nat) → va_W} (hy : plainName y.cls = true) (hnm : y.name = "<init>") (hcw : cw = Cond.code y cc maxL none) (hown : y.cls = own) (hlen : (lg_sl as).length ≤ maxL)
    (body : ∀ (p : Program) (e : Env) (s : State) (m : MethodId) (below : List Frame) (meth : Method) (c : Code) (A : Nat → Prop) (ls : Array Slot), Cx p s m c as.toArray cc own cw D g → XT g s → meth.sig.returnType = none → meth.locks = false → meth.name = "<init>" → c.maxLocals = maxL → Hp D A s.heap s.heap [] W0 → lv_has ls maxL (lv_args 0 as) →
      W p l e (RC fr lo mc ms) s m as.toArray below meth c s.heap [] 0 0 (MQ below (QC D g A pp W1) as.toArray s mc ms A) (F0 m 0 ls [])) : MC l y cw fr lo mc ms D g W0 pp W1 as := by
  intro sz
  subst hcw
  refine Met.ofW (cc := cc) (maxL := maxL) (ret := none) hy rfl ?_
  intro p e s m args below meth c s₁ B hml hv
  obtain ⟨rfl, ⟨hsz, hP, hK, hD0⟩, hX⟩ := hv
  subst hsz
  have hD := hD0.self (sz := s.heap.size)
  rw [lg_entry_eq]
  exact body p e s m below meth c _ _ ⟨B.exec, B.bytes, hown ▸ findClass_of_methodNamed B.named, atoms_spec (ws := WS (Cond.code y cc maxL none)) B.pre, hK⟩ hX B.returns B.notSynchronized ((name_of_methodNamed B.named B.method).1.trans hnm) hml ⟨hP, hD, va_S.rf, fun q h => Or.inr h⟩ (lv_entry as hlen)
theorem pick_at {is : List Nat} {W0 w : va_W} (hs : is.map (fun i => W0[i]?) = w.map some) {k : Nat} {q : Nat × va_E} (hq : w[k]? = some q) : ∃ i, is[k]? = some i ∧ W0[i]? = some q := by
  have h1 : (is.map (fun i => W0[i]?))[k]? = some (some q) := by rw [hs, List.getElem?_map, hq]; rfl
  rw [List.getElem?_map] at h1
  cases hi : is[k]? with
  | none => rw [hi] at h1; cases h1
  | some i => rw [hi] at h1; exact ⟨i, rfl, Option.some.inj h1⟩
theorem goodTB {cw cw2 : Cond} (h5 : cw2 ∈ TB) : GoodIn (WS cw) (WS cw2) := by
  have hg : ∀ w ∈ TB, w ∈ WS cw ∧ ((w.onTables && w.keeps) = true ∨ ∃ ty, w = .arrayClass ty) := fun w hw => ⟨List.mem_cons_of_mem _ hw, good_of_word (List.mem_filter.mp hw).2⟩
  intro w hw
  rcases List.mem_cons.mp hw with rfl | hw
  · exact hg _ h5
  · exact hg _ hw
section CT
variable {p : Program} {l : Launch} {e : Env} {R : Room} {s : State} {m : MethodId} {args : Array Value} {below : List Frame} {meth : Method} {c : Code} {H : Heap} {locs : List Loc} {cells slots : Nat} {Q : State → Prop}
variable {cc : ByteArray} {pc : Nat} {ls : Array Slot} {rest : List Value} {D : va_G} {g : Nat → ClassId} {A : Nat → Prop} {H0 : Heap} {W0 W1 : va_W} {own : String} {cw : Cond}
theorem nA (X : Cx p s m c args cc own cw D g) (Y : Hp D A H0 H locs W0) {n : Int32} (N : Nat) (hn : ¬ n < 0) (hN : n.toNatClampNeg = N) (hb : N * 4 ≤ 536870912) (hcells : cells + 1 ≤ R.cells) (hslots : slots + N ≤ R.slots) (hdg : decode cc pc = .ok (.newarray .int, 2))
    (kk : ∀ (q : Nat) (H1 : Heap), Hp D A H0 H1 locs (W0 ++ [(q, .inl (g 0, N, .inl (fun _ => 0)))]) → W p l e R s m args below meth c H1 locs (cells + 1) (slots + N) Q (F0 m (pc + 2) ls (.ref q :: rest))) : W p l e R s m args below meth c H locs cells slots Q (F0 m pc ls (.int n :: rest)) := by
  refine va_newa X.1 X.2.1 (atype := .int) (X.tb tw_101) (ty := .int) rfl X.2.2.2.2 Y.1 Y.2.1 Y.2.2.1 Y.2.2.2 (a0 := (N, .inl (fun _ => 0))) (fun cA => rfl) hn hN hb hcells hslots hdg (fun q cA H1 hK hP hD hS => ?_)
  have e1 : s.vm.findClass "[I" = some cA := (hK.2 4 _ rfl).2
  have e2 : s.vm.findClass "[I" = some (g 0) := (X.2.2.2.2.2 0 _ rfl).2
  cases Option.some.inj (e1.symm.trans e2)
  exact kk q H1 ⟨hP, hD, hS, Y.2.2.2⟩
theorem nZ (X : Cx p s m c args cc own cw D g) (Y : Hp D A H0 H locs W0) {n : Int32} (N : Nat) (hn : ¬ n < 0) (hN : n.toNatClampNeg = N) (hb : N * 1 ≤ 536870912) (hcells : cells + 1 ≤ R.cells) (hslots : slots + N ≤ R.slots) (hdg : decode cc pc = .ok (.newarray .boolean, 2))
    (kk : ∀ (q : Nat) (H1 : Heap), Hp D A H0 H1 locs (W0 ++ [(q, .inl (g 1, N, .inl (fun _ => 0)))]) → W p l e R s m args below meth c H1 locs (cells + 1) (slots + N) Q (F0 m (pc + 2) ls (.ref q :: rest))) : W p l e R s m args below meth c H locs cells slots Q (F0 m pc ls (.int n :: rest)) := by
  refine va_newa X.1 X.2.1 (atype := .boolean) (X.tb tw_102) (ty := .boolean) rfl X.2.2.2.2 Y.1 Y.2.1 Y.2.2.1 Y.2.2.2 (a0 := (N, .inl (fun _ => 0))) (fun cA => rfl) hn hN hb hcells hslots hdg (fun q cA H1 hK hP hD hS => ?_)
  have e1 : s.vm.findClass "[Z" = some cA := (hK.2 4 _ rfl).2
  have e2 : s.vm.findClass "[Z" = some (g 1) := (X.2.2.2.2.2 1 _ rfl).2
  cases Option.some.inj (e1.symm.trans e2)
  exact kk q H1 ⟨hP, hD, hS, Y.2.2.2⟩
theorem nS (X : Cx p s m c args cc own cw D g) (Y : Hp D A H0 H locs W0) (hAO : va_AO RX1 s) {n : Int32} (N : Nat) {index : Nat} (hcl : Cond.classLink own index RX1 ∈ TB) (hn : ¬ n < 0) (hN : n.toNatClampNeg = N) (hb : N * 4 ≤ 536870912) (hcells : cells + 1 ≤ R.cells) (hslots : slots + N ≤ R.slots) (hdg : decode cc pc = .ok (.anewarray index, 3))
    (kk : ∀ (q : Nat) (H1 : Heap), Hp D A H0 H1 locs (W0 ++ [(q, .inl (g 2, N, .inr (.inr (.inr (.inr (fun _ => none))))))]) → W p l e R s m args below meth c H1 locs (cells + 1) (slots + N) Q (F0 m (pc + 3) ls (.ref q :: rest))) : W p l e R s m args below meth c H locs cells slots Q (F0 m pc ls (.int n :: rest)) := by
  refine va_newq X.1 X.2.1 X.2.2.1 (X.tb hcl) hAO X.2.2.2.2 Y.1 Y.2.1 Y.2.2.1 Y.2.2.2 hn hN hb hcells hslots hdg (fun q cA H1 hK hP hD hS => ?_)
  obtain ⟨-, -, -, -, -, e1⟩ := (hK.2 4 _ rfl).2
  obtain ⟨-, -, -, -, -, e2⟩ := (X.2.2.2.2.2 2 _ rfl).2
  cases Option.some.inj (e1.symm.trans e2)
  exact kk q H1 ⟨hP, hD, hS, Y.2.2.2⟩
theorem nO (X : Cx p s m c args cc own cw D g) (Y : Hp D A H0 H locs W0) {C : String} {T : u_T} {N ci index : Nat} (fs : List Value) (hc : vwCl[ci]? = some (C, T, N)) (hin : ∀ w ∈ u_ws C T N, w ∈ TB) (ty0 : Nat → FieldType) (hty : ∀ k, k < N → parseFieldDescriptor (T k).2.2.1 = some (ty0 k)) (hcl : Cond.classLink own index C ∈ TB) (hinst : Cond.instantiable C N ∈ TB) (hini : Cond.initialized C ∈ TB) (hfs : ∀ j, j < N → defaultValue (ty0 j) = vp_V fs j) (hcells : cells + 1 ≤ R.cells) (hslots : slots + N ≤ R.slots) (hdg : decode cc pc = .ok (.new index, 3))
    (kk : ∀ (q : Nat) (H1 : Heap), Hp D A H0 H1 locs (W0 ++ [(q, .inr (ci, fs))]) → W p l e R s m args below meth c H1 locs (cells + 1) (slots + N) Q (F0 m (pc + 3) ls (.ref q :: rest))) : W p l e R s m args below meth c H locs cells slots Q (F0 m pc ls rest) :=
  va_new X.1 X.2.1 X.2.2.2.1 (fun w h => List.mem_cons_of_mem _ (hin w h)) ty0 hty X.2.2.1 (X.tb hcl) (X.tb hinst) (X.tb hini) X.2.2.2.2 Y.1 Y.2.1 Y.2.2.1 Y.2.2.2 hc hfs hcells hslots hdg (fun q H1 hP hD hS => kk q H1 ⟨hP, hD, hS, Y.2.2.2⟩)
theorem rpF (X : Cx p s m c args cc own cw D g) (Y : Hp D A H0 H locs W0) (hnm : meth.name = "<init>") {C : String} {T : u_T} {N ci index q0 a : Nat} {fs : List Value} {v : Value} (he : W0[q0]? = some (a, .inr (ci, fs))) (hc : vwCl[ci]? = some (C, T, N)) (hin : ∀ w ∈ u_ws C T N, w ∈ TB) (ty0 : Nat → FieldType) (hty : ∀ k, k < N → parseFieldDescriptor (T k).2.2.1 = some (ty0 k)) (hnmT : ∀ a, a < N → ∀ b, b < N → a ≠ b → (T a).2.1 ≠ (T b).2.1) (k : Nat) (hk : k < N) (hlink : Cond.fieldLink own index (T k).1 (T k).2.1 (T k).2.2.1 ∈ TB) (hfin : (T k).2.2.2 = true) (hdecl : (T k).1 = own) (hn : narrow (ty0 k) v = v) (hfit : fits (ty0 k) v = true) (hl : k < fs.length) (hset : W0.set q0 (a, .inr (ci, fs.set k v)) = W1) (hdg : decode cc pc = .ok (.putfield index, 3))
    (kk : ∀ (H1 : Heap) (locs1 : List Loc), Hp D A H0 H1 locs1 W1 → W p l e R s m args below meth c H1 locs1 cells slots Q (F0 m (pc + 3) ls rest)) : W p l e R s m args below meth c H locs cells slots Q (F0 m pc ls (v :: .ref a :: rest)) := by
  subst hset
  exact va_putF X.1 X.2.1 X.2.2.2.1 (fun w h => List.mem_cons_of_mem _ (hin w h)) ty0 hty hnmT X.2.2.1 X.2.2.2.2 Y.1 Y.2.1 Y.2.2.1 q0 he hc k hk (X.tb hlink) (fun _ h => h) hfin hnm hdecl (hty k hk) hn hfit hl hdg (fun H1 locs1 a b c => kk H1 locs1 ⟨a, b, c, Y.2.2.2⟩)
theorem rOI (X : Cx p s m c args cc own cw D g) (hml : c.maxLocals = ls.size) {index a : Nat} (hlink : Cond.methodLink own index objectInit ∈ TB) (hdg : decode cc pc = .ok (.invokespecial index, 3)) (hf : 1 ≤ R.frames) (hlo : (rest.map fun v => v.category).sum + 12 ≤ R.locals)
    (kk : W p l e R s m args below meth c H locs cells slots Q (F0 m (pc + 3) ls rest)) : W p l e R s m args below meth c H locs cells slots Q (F0 m pc ls (.ref a :: rest)) := by
  refine W.objInit X.1 X.2.1 X.2.2.1 (X.tb hlink) (X.tb tw_47) (X.tb tw_48) rfl hml.symm rfl hdg hf ?_ kk
  show 2 * (F0 m pc ls (.ref a :: rest)).monitorRoom + _ + 12 ≤ _
  have : (F0 m pc ls (.ref a :: rest)).monitorRoom = 0 := rfl
  omega
theorem rAS (X : Cx p s m c args cc own cw D g) (Y : Hp D A H0 H locs W0) (q0 qk : Nat) {a n v : Nat} {vs : List Value} {f : Nat → Option Nat} {i : Int32} (ha : W0[q0]? = some (a, .inl (g 2, n, .inr (.inr (.inr (.inr f)))))) (hv : W0[qk]? = some (v, .inr (1, vs))) (hin : ¬ (i < 0 ∨ n ≤ i.toNatClampNeg)) (hset : W0.set q0 (a, .inl (g 2, n, .inr (.inr (.inr (.inr (va_up f i.toNatClampNeg (some v))))))) = W1) (hdg : decode cc pc = .ok (.aastore, 1))
    (kk : ∀ (H1 : Heap) (locs1 : List Loc), Hp D A H0 H1 locs1 W1 → W p l e R s m args below meth c H1 locs1 cells slots Q (F0 m (pc + 1) ls rest)) : W p l e R s m args below meth c H locs cells slots Q (F0 m pc ls (.ref v :: .int i :: .ref a :: rest)) := by
  subst hset
  exact va_astq X.1 X.2.1 X.2.2.2.2 Y.1 Y.2.1 Y.2.2.1 q0 2 qk 1 (r := (RX1, TX1, 4)) ha rfl hv rfl hin hdg (fun H1 locs1 a b c => kk H1 locs1 ⟨a, b, c, Y.2.2.2⟩)
theorem retC {mc ms : Nat} {pp : (Nat → Nat) → Prop} {WW : (Nat → Nat) → va_W} (X : Cx p s m c args cc own cw D g) (Y : Hp D A s.heap H locs W1) (hr : meth.sig.returnType = none) (hlk : meth.locks = false) (ad : Nat → Nat) (hp : pp ad) (hW1 : W1 = WW ad) (h1 : cells ≤ mc) (h2 : slots ≤ ms) (hdg : decode cc pc = .ok (.return_, 1)) : W p l e R s m args below meth c H locs cells slots (MQ below (QC D g A pp WW) args s mc ms A) (F0 m pc ls []) := by
  subst hW1
  exact W.widen h1 h2 (W.vret X.1 X.2.1 hr (fun _ ht hW => ⟨⟨ad, rfl, hp, by rw [ht]; exact Y.1, va_K.moved hW.alike X.2.2.2.2, Y.2.1⟩, Y.2.2.1.F ht⟩) Y.2.2.1.2.2 hdg hlk)
variable {y : MethodName} {cw2 : Cond} {fr lo mc ms index maxL b : Nat} {bytes : ByteArray} {Wc Wr : va_W} {pp : (Nat → Nat) → Prop} {WW : (Nat → Nat) → va_W} {host : String} {st0 : List Value}
theorem cNs (X : Cx p s m c args cc own cw D g) (hX : XT g s) (hml : c.maxLocals = ls.size) (Y : Hp D A H0 H locs W0) (hM : MC l y cw2 fr lo mc ms D g Wc pp WW [.ref b]) (isC isR : List Nat) (hC : isC.map (fun i => W0[i]?) = Wc.map some) (hR : isR.map (fun i => W0[i]?) = Wr.map some) (hnC : va_nd isC = true) (hn : va_nd isR = true) (hdis : ∀ i ∈ isR, i ∉ isC) (hl : va_Nw (.methodLinkNest own index y host) s) (hini : Cond.initialized y.cls ∈ TB) (hinst : Cond.instanceMethod y ∈ TB) (hct : cw2 ∈ TB) (hcw : cw2 = Cond.code y bytes maxL none) (hnm : y.name = "<init>") (hd : y.cls ≠ "java/lang/invoke/MethodHandle" ∧ y.cls ≠ "java/lang/invoke/VarHandle" ∧ (parseMethodDescriptor y.desc).map (fun d => d.parameters.length) = some 0) (hRm : fr + 1 ≤ R.frames ∧ 8 + (maxL + 11) + lo ≤ R.locals) (hcs : cells + mc ≤ R.cells ∧ slots + ms ≤ R.slots) (hw : (rest.map fun v => v.category).sum ≤ 8) (hdg : decode cc pc = .ok (.invokespecial index, 3))
    (kk : ∀ (ad : Nat → Nat) (H1 : Heap) (locs1 : List Loc), pp ad → Hp D A H0 H1 locs1 (Wr ++ WW ad) → W p l e R s m args below meth c H1 locs1 (cells + mc) (slots + ms) Q (F0 m (pc + 3) ls rest)) : W p l e R s m args below meth c H locs cells slots Q (F0 m pc ls (.ref b :: rest)) := by
  have hPc : va_P D vwCl Wc H := fun k q hk => by
    obtain ⟨i, -, h2⟩ := pick_at hC hk
    exact Y.1 i q h2
  have hDc : va_D A Wc := Y.2.1.sub isC hnC hC
  have hFc : ∀ q, va_A Wc H.size q → A q := va_free (wc := Wc) Y.2.1 Y.2.2.1 Y.2.2.2 isC hC
  refine va_callv (va_runIN (As := []) (rest := rest) ⟨X.1, X.2.1, hml, X.2.2.1, X.2.2.2.1⟩ (hM H.size) ⟨va_cnB 0 X.2.2.2.1 (goodTB hct) (by rw [hcw]; rfl) rfl rfl hl (X.tb hini) hd hRm, hnm, X.tb hinst⟩ ⟨preC_blind, fun U hU hW => ⟨rfl, ⟨by rw [hU], by rw [hU]; exact hPc, va_K.moved hW.alike X.2.2.2.2, hDc.weaken (fun _ _ _ _ => trivial)⟩, hX.warm hW⟩⟩ rfl rfl rfl rfl (lv_room hw) hdg hcs) Y.2.2.1 (fun q _ h => hFc q h) hFc (fun ad t H1 locs1 ht hvm hpost hB hz1 hk1 hS => ?_)
  obtain ⟨hP1, hK1, hD1⟩ := hB
  rw [ht] at hP1
  obtain ⟨hP, hD⟩ := va_join Y.1 Y.2.1 isC isR hC hR hn hdis hk1 hFc hP1 hD1
  exact kk ad H1 locs1 hpost ⟨hP, hD, hS, Y.2.2.2⟩
theorem cIs (X : Cx p s m c args cc own cw D g) (hX : XT g s) (hml : c.maxLocals = ls.size) (Y : Hp D A H0 H locs W0) (hM : MC l y cw2 fr lo mc ms D g Wc pp WW [.ref b]) (isC isR : List Nat) (hC : isC.map (fun i => W0[i]?) = Wc.map some) (hR : isR.map (fun i => W0[i]?) = Wr.map some) (hnC : va_nd isC = true) (hn : va_nd isR = true) (hdis : ∀ i ∈ isR, i ∉ isC) (hl : Cond.methodLink own index y ∈ TB) (hini : Cond.initialized y.cls ∈ TB) (hinst : Cond.instanceMethod y ∈ TB) (hct : cw2 ∈ TB) (hcw : cw2 = Cond.code y bytes maxL none) (hnm : y.name = "<init>") (hd : y.cls ≠ "java/lang/invoke/MethodHandle" ∧ y.cls ≠ "java/lang/invoke/VarHandle" ∧ (parseMethodDescriptor y.desc).map (fun d => d.parameters.length) = some 0) (hRm : fr + 1 ≤ R.frames ∧ 8 + (maxL + 11) + lo ≤ R.locals) (hcs : cells + mc ≤ R.cells ∧ slots + ms ≤ R.slots) (hw : (rest.map fun v => v.category).sum ≤ 8) (hdg : decode cc pc = .ok (.invokespecial index, 3))
    (kk : ∀ (ad : Nat → Nat) (H1 : Heap) (locs1 : List Loc), pp ad → Hp D A H0 H1 locs1 (Wr ++ WW ad) → W p l e R s m args below meth c H1 locs1 (cells + mc) (slots + ms) Q (F0 m (pc + 3) ls rest)) : W p l e R s m args below meth c H locs cells slots Q (F0 m pc ls (.ref b :: rest)) := by
  have hPc : va_P D vwCl Wc H := fun k q hk => by
    obtain ⟨i, -, h2⟩ := pick_at hC hk
    exact Y.1 i q h2
  have hDc : va_D A Wc := Y.2.1.sub isC hnC hC
  have hFc : ∀ q, va_A Wc H.size q → A q := va_free (wc := Wc) Y.2.1 Y.2.2.1 Y.2.2.2 isC hC
  refine va_callv (va_runI (As := []) (rest := rest) ⟨X.1, X.2.1, hml, X.2.2.1, X.2.2.2.1⟩ (hM H.size) (cwI 0 X.2.2.2.1 (goodTB hct) (by rw [hcw]; rfl) rfl rfl (X.tb hini) (X.tb hl) (X.tb hinst) hnm hd hRm) ⟨preC_blind, fun U hU hW => ⟨rfl, ⟨by rw [hU], by rw [hU]; exact hPc, va_K.moved hW.alike X.2.2.2.2, hDc.weaken (fun _ _ _ _ => trivial)⟩, hX.warm hW⟩⟩ rfl rfl rfl rfl (lv_room hw) hdg hcs) Y.2.2.1 (fun q _ h => hFc q h) hFc (fun ad t H1 locs1 ht hvm hpost hB hz1 hk1 hS => ?_)
  obtain ⟨hP1, hK1, hD1⟩ := hB
  rw [ht] at hP1
  obtain ⟨hP, hD⟩ := va_join Y.1 Y.2.1 isC isR hC hR hn hdis hk1 hFc hP1 hD1
  exact kk ad H1 locs1 hpost ⟨hP, hD, hS, Y.2.2.2⟩
end CT
