set_option maxHeartbeats 4000000 in
set_option maxRecDepth 100000 in
theorem w_fX0_findFewest_G14 {p : Program} {l : Launch} {e : Env} {s : State} {m : MethodId} {args : Array Value} {below : List Frame} {meth : Method} {c : Code} {D : va_G} {g : Nat → ClassId} {ad : Nat → Nat} {A : Nat → Prop} {σ0 : St} (X : Cx p s m c args cX0_findFewest RX0 kX0_findFewest D g) (hr : meth.sig.returnType = none) (hlk : meth.locks = false) (hml : c.maxLocals = 5) : ∀ n : Nat, (∀ (σ : St) (v1 : Int32) (v2 : Int32) (H : Heap) (locs : List Loc) (ls : Array Slot), Hp D A s.heap H locs (WC g ad σ) → lv_has ls 5 [(0, .ref (ad 10)), (1, .int v1), (2, .int v2)] → fX0_findFewest_G14 n 0 σ v1 v2 0 = some σ0 → W p l e (RM 4 96) s m args below meth c H locs 0 0 (MQ below (QV D g A (WC g ad σ0)) args s 0 0 A) (F0 m 14 ls [])) ∧ (∀ (σ : St) (v1 : Int32) (v2 : Int32) (v3 : Int32) (H : Heap) (locs : List Loc) (ls : Array Slot), Hp D A s.heap H locs (WC g ad σ) → lv_has ls 5 [(0, .ref (ad 10)), (1, .int v1), (2, .int v2), (3, .int v3)] → fX0_findFewest_G14 n 1 σ v1 v2 v3 = some σ0 → W p l e (RM 4 96) s m args below meth c H locs 0 0 (MQ below (QV D g A (WC g ad σ0)) args s 0 0 A) (F0 m 40 ls [])) := by
  have hx := X.1
  have hb := X.2.1
  intro n
  induction n with
  | zero => refine ⟨?_, ?_⟩
            · intro σ v1 v2 H locs ls Y hl h; cases (show none = _ from h)
            · intro σ v1 v2 v3 H locs ls Y hl h; cases (show none = _ from h)
  | succ n ih =>
    refine ⟨?_, ?_⟩
    · intro σ v1 v2 H locs ls Y hl h
      rw [fX0_findFewest_G14] at h
      replace h := ot rfl h
      refine lv_iload_n hx hb dX0_findFewest_14 rfl (lv_at hl 2 rfl) ?_
      refine lv_iload_n hx hb dX0_findFewest_15 rfl (lv_at hl 1 rfl) ?_
      refine lv_icmp_gt (tgt := 111) hx hb dX0_findFewest_16 (by decide) (fun c4 => ?_) (fun c4 => ?_)
      · replace h := ot c4 h
        obtain rfl := os1 h
        exact retV X Y hr hlk dX0_findFewest_111
      · replace h := oe c4 h
        refine lv_aload_n hx hb dX0_findFewest_19 rfl (lv_at hl 0 rfl) ?_
        refine rgR X Y 10 (v := .ref (ad 21)) tw_77 rfl dX0_findFewest_20 ?_
        refine lv_iload_n hx hb dX0_findFewest_23 rfl (lv_at hl 2 rfl) ?_
        refine lv_aload_n hx hb dX0_findFewest_24 rfl (lv_at hl 0 rfl) ?_
        refine lv_iload_n hx hb dX0_findFewest_25 rfl (lv_at hl 2 rfl) ?_
        obtain ⟨r6, hg5, h⟩ := ob h
        refine cVi X (hml.trans hl.1.symm) Y (c_fX0_isFair l D g ad σ n v2 hg5) (lkR g ad σ) rfl (gs_X0_86 _) rfl fd_X0_isFair ⟨Nat.le_of_ble_eq_true rfl, Nat.le_of_ble_eq_true rfl⟩ ⟨Nat.le_of_ble_eq_true rfl, Nat.le_of_ble_eq_true rfl⟩ (rest := [.int v2, .ref (ad 21)]) rfl (Nat.le_of_ble_eq_true rfl) dX0_findFewest_26 (fun H locs Y => ?_)
        obtain ⟨hg7, h⟩ := og h
        refine rzs X Y (W1 := WC g ad (up2 σ 21 v2.toNatClampNeg (vp_nar .boolean r6))) (lkC_21 g ad σ) hg7 (stC_21 g ad σ _) dX0_findFewest_29 (fun H locs Y => ?_)
        refine lv_aload_n hx hb dX0_findFewest_30 rfl (lv_at hl 0 rfl) ?_
        refine rgR X Y 9 (v := .ref (ad 20)) tw_75 rfl dX0_findFewest_31 ?_
        refine lv_iload_n hx hb dX0_findFewest_34 rfl (lv_at hl 2 rfl) ?_
        refine lv_bipush (v := (-9)) hx hb dX0_findFewest_35 (by decide) ?_
        obtain ⟨hg8, h⟩ := og h
        refine ris X Y (W1 := WC g ad (up2 (up2 σ 21 v2.toNatClampNeg (vp_nar .boolean r6)) 20 v2.toNatClampNeg (-9))) (lkC_20 g ad (up2 σ 21 v2.toNatClampNeg (vp_nar .boolean r6))) hg8 (stC_20 g ad (up2 σ 21 v2.toNatClampNeg (vp_nar .boolean r6)) _) dX0_findFewest_37 (fun H locs Y => ?_)
        refine lv_iconst (v := 1) hx hb dX0_findFewest_38 (by decide) ?_
        refine lv_istore_n (lv' := [(3, .int 1), (0, .ref (ad 10)), (1, .int v1), (2, .int v2)]) hx hb dX0_findFewest_39 rfl hl (by decide) rfl (fun ls hl => ?_)
        exact ih.2 (up2 (up2 σ 21 v2.toNatClampNeg (vp_nar .boolean r6)) 20 v2.toNatClampNeg (-9)) v1 v2 1 _ _ _ Y (lv_sub hl [1, 2, 3, 0] rfl) h
    · intro σ v1 v2 v3 H locs ls Y hl h
      rw [fX0_findFewest_G14] at h
      replace h := oe (by decide) h
      refine lv_iload_n hx hb dX0_findFewest_40 rfl (lv_at hl 3 rfl) ?_
      refine lv_iload_n hx hb dX0_findFewest_41 rfl (lv_at hl 2 rfl) ?_
      refine lv_icmp_gt (tgt := 105) hx hb dX0_findFewest_42 (by decide) (fun c9 => ?_) (fun c9 => ?_)
      · replace h := ot c9 h
        refine lv_iinc (v := v2 + 1) (lv' := [(2, .int (v2 + 1)), (0, .ref (ad 10)), (1, .int v1), (3, .int v3)]) hx hb dX0_findFewest_105 hl (k := 2) rfl rfl (by decide) rfl (fun ls hl => ?_)
        refine lv_goto (tgt := 14) hx hb dX0_findFewest_108 (by decide) ?_
        exact ih.1 σ v1 (v2 + 1) _ _ _ Y (lv_sub hl [1, 2, 0] rfl) h
      · replace h := oe c9 h
        refine lv_aload_n hx hb dX0_findFewest_45 rfl (lv_at hl 0 rfl) ?_
        refine lv_iload_n hx hb dX0_findFewest_46 rfl (lv_at hl 3 rfl) ?_
        refine lv_iload_n hx hb dX0_findFewest_47 rfl (lv_at hl 2 rfl) ?_
        obtain ⟨r11, hg10, h⟩ := ob h
        refine cVi X (hml.trans hl.1.symm) Y (c_fX0_canCrossBy l D g ad σ v3 v2 hg10) (lkR g ad σ) rfl (gs_X0_89 _) rfl fd_X0_canCrossBy ⟨Nat.le_of_ble_eq_true rfl, Nat.le_of_ble_eq_true rfl⟩ ⟨Nat.le_of_ble_eq_true rfl, Nat.le_of_ble_eq_true rfl⟩ (rest := []) rfl (Nat.le_of_ble_eq_true rfl) dX0_findFewest_48 (fun H locs Y => ?_)
        refine lv_if_eq (tgt := 99) hx hb dX0_findFewest_51 (by decide) (fun c12 => ?_) (fun c12 => ?_)
        · replace h := ot c12 h
          refine lv_iinc (v := v3 + 1) (lv' := [(3, .int (v3 + 1)), (0, .ref (ad 10)), (1, .int v1), (2, .int v2)]) hx hb dX0_findFewest_99 hl (k := 3) rfl rfl (by decide) rfl (fun ls hl => ?_)
          refine lv_goto (tgt := 40) hx hb dX0_findFewest_102 (by decide) ?_
          exact ih.2 σ v1 v2 (v3 + 1) _ _ _ Y (lv_sub hl [1, 2, 3, 0] rfl) h
        · replace h := oe c12 h
          refine lv_aload_n hx hb dX0_findFewest_54 rfl (lv_at hl 0 rfl) ?_
          refine rgR X Y 9 (v := .ref (ad 20)) tw_75 rfl dX0_findFewest_55 ?_
          refine lv_iload_n hx hb dX0_findFewest_58 rfl (lv_at hl 2 rfl) ?_
          refine lv_iload_n hx hb dX0_findFewest_59 rfl (lv_at hl 3 rfl) ?_
          refine lv_ixor hx hb dX0_findFewest_60 ?_
          obtain ⟨hg13, h⟩ := og h
          refine ri X Y (lkC_20 g ad σ) hg13 dX0_findFewest_61 ?_
          refine lv_iconst (v := 1) hx hb dX0_findFewest_62 (by decide) ?_
          refine lv_iadd hx hb dX0_findFewest_63 ?_
          refine lv_istore (lv' := [(4, .int ((σ 20 (v2 ^^^ v3).toNatClampNeg) + 1)), (0, .ref (ad 10)), (1, .int v1), (2, .int v2), (3, .int v3)]) hx hb dX0_findFewest_64 hl (by decide) rfl (fun ls hl => ?_)
          refine lv_aload_n hx hb dX0_findFewest_66 rfl (lv_at hl 1 rfl) ?_
          refine rgR X Y 9 (v := .ref (ad 20)) tw_75 rfl dX0_findFewest_67 ?_
          refine lv_iload_n hx hb dX0_findFewest_70 rfl (lv_at hl 3 rfl) ?_
          refine lv_aload_n hx hb dX0_findFewest_71 rfl (lv_at hl 1 rfl) ?_
          refine rgR X Y 9 (v := .ref (ad 20)) tw_75 rfl dX0_findFewest_72 ?_
          refine lv_iload_n hx hb dX0_findFewest_75 rfl (lv_at hl 3 rfl) ?_
          obtain ⟨hg14, h⟩ := og h
          refine ri X Y (lkC_20 g ad σ) hg14 dX0_findFewest_76 ?_
          refine lv_bipush (v := (-9)) hx hb dX0_findFewest_77 (by decide) ?_
          refine lv_icmp_ne (tgt := 87) hx hb dX0_findFewest_79 (by decide) (fun c15 => ?_) (fun c15 => ?_)
          · replace h := oe c15 h
            refine lv_aload_n hx hb dX0_findFewest_87 rfl (lv_at hl 1 rfl) ?_
            refine rgR X Y 9 (v := .ref (ad 20)) tw_75 rfl dX0_findFewest_88 ?_
            refine lv_iload_n hx hb dX0_findFewest_91 rfl (lv_at hl 3 rfl) ?_
            obtain ⟨hg16, h⟩ := og h
            refine ri X Y (lkC_20 g ad σ) hg16 dX0_findFewest_92 ?_
            refine lv_iload hx hb dX0_findFewest_93 (lv_at hl 0 rfl) ?_
            refine va_mmin hx hb (hml.trans hl.1.symm) X.2.2.1 (X.tb tw_309) (X.tb twm_stat) (X.tb twm_ini) (X.tb twm_code) (Nat.le_of_ble_eq_true rfl) (Nat.le_of_ble_eq_true rfl) (Nat.le_of_ble_eq_true rfl) (Nat.le_of_ble_eq_true rfl) dX0_findFewest_95 ?_
            obtain ⟨hg17, h⟩ := og h
            refine ris X Y (W1 := WC g ad (up2 σ 20 v2.toNatClampNeg (if (σ 20 (v2 ^^^ v3).toNatClampNeg) + 1 < σ 20 v2.toNatClampNeg then (σ 20 (v2 ^^^ v3).toNatClampNeg) + 1 else σ 20 v2.toNatClampNeg))) (lkC_20 g ad σ) hg17 (stC_20 g ad σ _) dX0_findFewest_98 (fun H locs Y => ?_)
            refine lv_iinc (v := v3 + 1) (lv' := [(3, .int (v3 + 1)), (4, .int ((σ 20 (v2 ^^^ v3).toNatClampNeg) + 1)), (0, .ref (ad 10)), (1, .int v1), (2, .int v2)]) hx hb dX0_findFewest_99 hl (k := 4) rfl rfl (by decide) rfl (fun ls hl => ?_)
            refine lv_goto (tgt := 40) hx hb dX0_findFewest_102 (by decide) ?_
            exact ih.2 (up2 σ 20 v2.toNatClampNeg (if (σ 20 (v2 ^^^ v3).toNatClampNeg) + 1 < σ 20 v2.toNatClampNeg then (σ 20 (v2 ^^^ v3).toNatClampNeg) + 1 else σ 20 v2.toNatClampNeg)) v1 v2 (v3 + 1) _ _ _ Y (lv_sub hl [2, 3, 4, 0] rfl) h
          · replace h := ot c15 h
            refine lv_iload hx hb dX0_findFewest_82 (lv_at hl 0 rfl) ?_
            refine lv_goto (tgt := 98) hx hb dX0_findFewest_84 (by decide) ?_
            obtain ⟨hg18, h⟩ := og h
            refine ris X Y (W1 := WC g ad (up2 σ 20 v2.toNatClampNeg ((σ 20 (v2 ^^^ v3).toNatClampNeg) + 1))) (lkC_20 g ad σ) hg18 (stC_20 g ad σ _) dX0_findFewest_98 (fun H locs Y => ?_)
            refine lv_iinc (v := v3 + 1) (lv' := [(3, .int (v3 + 1)), (4, .int ((σ 20 (v2 ^^^ v3).toNatClampNeg) + 1)), (0, .ref (ad 10)), (1, .int v1), (2, .int v2)]) hx hb dX0_findFewest_99 hl (k := 4) rfl rfl (by decide) rfl (fun ls hl => ?_)
            refine lv_goto (tgt := 40) hx hb dX0_findFewest_102 (by decide) ?_
            exact ih.2 (up2 σ 20 v2.toNatClampNeg ((σ 20 (v2 ^^^ v3).toNatClampNeg) + 1)) v1 v2 (v3 + 1) _ _ _ Y (lv_sub hl [2, 3, 4, 0] rfl) h
set_option maxHeartbeats 4000000 in
set_option maxRecDepth 100000 in
theorem c_fX0_findFewest (l : Launch) (D : va_G) (g : Nat → ClassId) (ad : Nat → Nat) (σ : St) (n : Nat) {σ0 : St} (h : fX0_findFewest n σ = some σ0) : MV l yX0_findFewest kX0_findFewest 4 96 D g (WC g ad σ) (WC g ad σ0) [.ref (ad 10)] := by
  intro sz
  refine Met.of2 (Qc := fun A => QV D g A (WC g ad σ0)) (cc := cX0_findFewest) (maxL := 5) (ret := none) (own := RX0) (by decide) rfl rfl (Nat.le_of_ble_eq_true rfl) ?_
  intro p e s m below meth c A ls X hr hlk hml Y hl
  have hx := X.1
  have hb := X.2.1
  have hl : lv_has ls 5 [(0, .ref (ad 10))] := hl
  rw [fX0_findFewest] at h
  refine lv_aload_n hx hb dX0_findFewest_0 rfl (lv_at hl 0 rfl) ?_
  obtain ⟨r2, hg1, h⟩ := ob h
  refine cVi X (hml.trans hl.1.symm) Y (c_fX0_everybody l D g ad σ hg1) (lkR g ad σ) rfl (gs_X0_41 _) rfl fd_X0_everybody ⟨Nat.le_of_ble_eq_true rfl, Nat.le_of_ble_eq_true rfl⟩ ⟨Nat.le_of_ble_eq_true rfl, Nat.le_of_ble_eq_true rfl⟩ (rest := []) rfl (Nat.le_of_ble_eq_true rfl) dX0_findFewest_1 (fun H locs Y => ?_)
  refine lv_istore_n (lv' := [(1, .int r2), (0, .ref (ad 10))]) hx hb dX0_findFewest_4 rfl hl (by decide) rfl (fun ls hl => ?_)
  refine lv_aload_n hx hb dX0_findFewest_5 rfl (lv_at hl 1 rfl) ?_
  refine rgR X Y 9 (v := .ref (ad 20)) tw_75 rfl dX0_findFewest_6 ?_
  refine lv_iconst (v := 0) hx hb dX0_findFewest_9 (by decide) ?_
  refine lv_iconst (v := 0) hx hb dX0_findFewest_10 (by decide) ?_
  obtain ⟨hg3, h⟩ := og h
  refine ris X Y (W1 := WC g ad (up2 σ 20 ((0 : Int32).toNatClampNeg) 0)) (lkC_20 g ad σ) hg3 (stC_20 g ad σ _) dX0_findFewest_11 (fun H locs Y => ?_)
  refine lv_iconst (v := 1) hx hb dX0_findFewest_12 (by decide) ?_
  refine lv_istore_n (lv' := [(2, .int 1), (1, .int r2), (0, .ref (ad 10))]) hx hb dX0_findFewest_13 rfl hl (by decide) rfl (fun ls hl => ?_)
  exact (w_fX0_findFewest_G14 X hr hlk hml n).1 (up2 σ 20 ((0 : Int32).toNatClampNeg) 0) r2 1 _ _ _ Y (lv_sub hl [2, 1, 0] rfl) h
set_option maxHeartbeats 4000000 in
set_option maxRecDepth 100000 in
theorem w_fX0_firstLoadOf_L2 {p : Program} {l : Launch} {e : Env} {s : State} {m : MethodId} {args : Array Value} {below : List Frame} {meth : Method} {c : Code} {D : va_G} {g : Nat → ClassId} {ad : Nat → Nat} {A : Nat → Prop} {r0 : Int32} (X : Cx p s m c args cX0_firstLoadOf RX0 kX0_firstLoadOf D g) (hr : meth.sig.returnType = (some .int)) (hlk : meth.locks = false) (hml : c.maxLocals = 3) : ∀ (n : Nat), ∀ (σ : St) (v1 : Int32) (v2 : Int32) (H : Heap) (locs : List Loc) (ls : Array Slot), Hp D A s.heap H locs (WC g ad σ) → lv_has ls 3 [(0, .ref (ad 10)), (1, .int v1), (2, .int v2)] → fX0_firstLoadOf_L2 n σ v1 v2 = some r0 → W p l e (RM 1 22) s m args below meth c H locs 0 0 (MQ below (QI D g A (WC g ad σ) r0) args s 0 0 A) (F0 m 2 ls []) := by
  have hx := X.1
  have hb := X.2.1
  intro n
  induction n with
  | zero => intro σ v1 v2 H locs ls Y hl h; cases (show none = _ from h)
  | succ n ih =>
    intro σ v1 v2 H locs ls Y hl h
    rw [fX0_firstLoadOf_L2] at h
    refine lv_iload_n hx hb dX0_firstLoadOf_2 rfl (lv_at hl 2 rfl) ?_
    refine lv_iload_n hx hb dX0_firstLoadOf_3 rfl (lv_at hl 1 rfl) ?_
    refine lv_icmp_gt (tgt := 43) hx hb dX0_firstLoadOf_4 (by decide) (fun c1 => ?_) (fun c1 => ?_)
    · replace h := ot c1 h
      refine lv_iconst (v := 0) hx hb dX0_firstLoadOf_43 (by decide) ?_
      obtain rfl := os1 h
      exact retI X Y hr hlk dX0_firstLoadOf_44
    · replace h := oe c1 h
      refine lv_aload_n hx hb dX0_firstLoadOf_7 rfl (lv_at hl 0 rfl) ?_
      refine lv_iload_n hx hb dX0_firstLoadOf_8 rfl (lv_at hl 2 rfl) ?_
      refine lv_iload_n hx hb dX0_firstLoadOf_9 rfl (lv_at hl 1 rfl) ?_
      obtain ⟨r3, hg2, h⟩ := ob h
      refine cVi X (hml.trans hl.1.symm) Y (c_fX0_canCrossBy l D g ad σ v2 v1 hg2) (lkR g ad σ) rfl (gs_X0_89 _) rfl fd_X0_canCrossBy ⟨Nat.le_of_ble_eq_true rfl, Nat.le_of_ble_eq_true rfl⟩ ⟨Nat.le_of_ble_eq_true rfl, Nat.le_of_ble_eq_true rfl⟩ (rest := []) rfl (Nat.le_of_ble_eq_true rfl) dX0_firstLoadOf_10 (fun H locs Y => ?_)
      refine lv_if_eq (tgt := 37) hx hb dX0_firstLoadOf_13 (by decide) (fun c4 => ?_) (fun c4 => ?_)
      · replace h := ot c4 h
        refine lv_iinc (v := v2 + 1) (lv' := [(2, .int (v2 + 1)), (0, .ref (ad 10)), (1, .int v1)]) hx hb dX0_firstLoadOf_37 hl (k := 2) rfl rfl (by decide) rfl (fun ls hl => ?_)
        refine lv_goto (tgt := 2) hx hb dX0_firstLoadOf_40 (by decide) ?_
        exact ih σ v1 (v2 + 1) _ _ _ Y (lv_sub hl [1, 2, 0] rfl) h
      · replace h := oe c4 h
        refine lv_aload_n hx hb dX0_firstLoadOf_16 rfl (lv_at hl 0 rfl) ?_
        refine rgR X Y 9 (v := .ref (ad 20)) tw_75 rfl dX0_firstLoadOf_17 ?_
        refine lv_iload_n hx hb dX0_firstLoadOf_20 rfl (lv_at hl 1 rfl) ?_
        refine lv_iload_n hx hb dX0_firstLoadOf_21 rfl (lv_at hl 2 rfl) ?_
        refine lv_ixor hx hb dX0_firstLoadOf_22 ?_
        obtain ⟨hg5, h⟩ := og h
        refine ri X Y (lkC_20 g ad σ) hg5 dX0_firstLoadOf_23 ?_
        refine lv_iconst (v := 1) hx hb dX0_firstLoadOf_24 (by decide) ?_
        refine lv_iadd hx hb dX0_firstLoadOf_25 ?_
        refine lv_aload_n hx hb dX0_firstLoadOf_26 rfl (lv_at hl 0 rfl) ?_
        refine rgR X Y 9 (v := .ref (ad 20)) tw_75 rfl dX0_firstLoadOf_27 ?_
        refine lv_iload_n hx hb dX0_firstLoadOf_30 rfl (lv_at hl 1 rfl) ?_
        obtain ⟨hg6, h⟩ := og h
        refine ri X Y (lkC_20 g ad σ) hg6 dX0_firstLoadOf_31 ?_
        refine lv_icmp_ne (tgt := 37) hx hb dX0_firstLoadOf_32 (by decide) (fun c7 => ?_) (fun c7 => ?_)
        · replace h := oe c7 h
          refine lv_iinc (v := v2 + 1) (lv' := [(2, .int (v2 + 1)), (0, .ref (ad 10)), (1, .int v1)]) hx hb dX0_firstLoadOf_37 hl (k := 2) rfl rfl (by decide) rfl (fun ls hl => ?_)
          refine lv_goto (tgt := 2) hx hb dX0_firstLoadOf_40 (by decide) ?_
          exact ih σ v1 (v2 + 1) _ _ _ Y (lv_sub hl [1, 2, 0] rfl) h
        · replace h := ot c7 h
          refine lv_iload_n hx hb dX0_firstLoadOf_35 rfl (lv_at hl 2 rfl) ?_
          obtain rfl := os1 h
          exact retI X Y hr hlk dX0_firstLoadOf_36
set_option maxHeartbeats 4000000 in
set_option maxRecDepth 100000 in
theorem c_fX0_firstLoadOf (l : Launch) (D : va_G) (g : Nat → ClassId) (ad : Nat → Nat) (σ : St) (n : Nat) (v1 : Int32) {r0 : Int32} (h : fX0_firstLoadOf n σ v1 = some r0) : MI l yX0_firstLoadOf kX0_firstLoadOf 1 22 D g (WC g ad σ) (WC g ad σ) [.ref (ad 10), .int v1] r0 := by
  intro sz
  refine Met.of2 (Qc := fun A => QI D g A (WC g ad σ) r0) (cc := cX0_firstLoadOf) (maxL := 3) (ret := (some .int)) (own := RX0) (by decide) rfl rfl (Nat.le_of_ble_eq_true rfl) ?_
  intro p e s m below meth c A ls X hr hlk hml Y hl
  have hx := X.1
  have hb := X.2.1
  have hl : lv_has ls 3 [(0, .ref (ad 10)), (1, .int v1)] := hl
  rw [fX0_firstLoadOf] at h
  refine lv_iconst (v := 1) hx hb dX0_firstLoadOf_0 (by decide) ?_
  refine lv_istore_n (lv' := [(2, .int 1), (0, .ref (ad 10)), (1, .int v1)]) hx hb dX0_firstLoadOf_1 rfl hl (by decide) rfl (fun ls hl => ?_)
  exact w_fX0_firstLoadOf_L2 X hr hlk hml n σ v1 1 _ _ _ Y (lv_sub hl [1, 2, 0] rfl) h
set_option maxHeartbeats 4000000 in
set_option maxRecDepth 100000 in
theorem w_fX0_loadOfCross_L10 {p : Program} {l : Launch} {e : Env} {s : State} {m : MethodId} {args : Array Value} {below : List Frame} {meth : Method} {c : Code} {D : va_G} {g : Nat → ClassId} {ad : Nat → Nat} {A : Nat → Prop} {r0 : Int32} (X : Cx p s m c args cX0_loadOfCross RX0 kX0_loadOfCross D g) (hr : meth.sig.returnType = (some .int)) (hlk : meth.locks = false) (hml : c.maxLocals = 5) : ∀ (n : Nat), ∀ (σ : St) (v1 : Int32) (v2 : Int32) (v3 : Int32) (v4 : Int32) (H : Heap) (locs : List Loc) (ls : Array Slot), Hp D A s.heap H locs (WC g ad σ) → lv_has ls 5 [(0, .ref (ad 10)), (1, .int v1), (2, .int v2), (3, .int v3), (4, .int v4)] → fX0_loadOfCross_L10 n σ v1 v2 v3 v4 = some r0 → W p l e (RM 2 44) s m args below meth c H locs 0 0 (MQ below (QI D g A (WC g ad σ) r0) args s 0 0 A) (F0 m 10 ls []) := by
  have hx := X.1
  have hb := X.2.1
  intro n
  induction n with
  | zero => intro σ v1 v2 v3 v4 H locs ls Y hl h; cases (show none = _ from h)
  | succ n ih =>
    intro σ v1 v2 v3 v4 H locs ls Y hl h
    rw [fX0_loadOfCross_L10] at h
    refine lv_iload hx hb dX0_loadOfCross_10 (lv_at hl 4 rfl) ?_
    refine lv_iload_n hx hb dX0_loadOfCross_12 rfl (lv_at hl 1 rfl) ?_
    refine lv_icmp_gt (tgt := 32) hx hb dX0_loadOfCross_13 (by decide) (fun c3 => ?_) (fun c3 => ?_)
    · replace h := ot c3 h
      refine lv_iload_n hx hb dX0_loadOfCross_32 rfl (lv_at hl 3 rfl) ?_
      obtain rfl := os1 h
      exact retI X Y hr hlk dX0_loadOfCross_33
    · replace h := oe c3 h
      refine lv_aload_n hx hb dX0_loadOfCross_16 rfl (lv_at hl 0 rfl) ?_
      refine lv_iload_n hx hb dX0_loadOfCross_17 rfl (lv_at hl 2 rfl) ?_
      obtain ⟨r5, hg4, h⟩ := ob h
      refine cVi X (hml.trans hl.1.symm) Y (c_fX0_firstLoadOf l D g ad σ n v2 hg4) (lkR g ad σ) rfl (gs_X0_99 _) rfl fd_X0_firstLoadOf ⟨Nat.le_of_ble_eq_true rfl, Nat.le_of_ble_eq_true rfl⟩ ⟨Nat.le_of_ble_eq_true rfl, Nat.le_of_ble_eq_true rfl⟩ (rest := []) rfl (Nat.le_of_ble_eq_true rfl) dX0_loadOfCross_18 (fun H locs Y => ?_)
      refine lv_istore_n (lv' := [(3, .int r5), (0, .ref (ad 10)), (1, .int v1), (2, .int v2), (4, .int v4)]) hx hb dX0_loadOfCross_21 rfl hl (by decide) rfl (fun ls hl => ?_)
      refine lv_iload_n hx hb dX0_loadOfCross_22 rfl (lv_at hl 3 rfl) ?_
      refine lv_iload_n hx hb dX0_loadOfCross_23 rfl (lv_at hl 0 rfl) ?_
      refine lv_ixor hx hb dX0_loadOfCross_24 ?_
      refine lv_istore_n (lv' := [(2, .int (v2 ^^^ r5)), (3, .int r5), (0, .ref (ad 10)), (1, .int v1), (4, .int v4)]) hx hb dX0_loadOfCross_25 rfl hl (by decide) rfl (fun ls hl => ?_)
      refine lv_iinc (v := v4 + 1) (lv' := [(4, .int (v4 + 1)), (2, .int (v2 ^^^ r5)), (3, .int r5), (0, .ref (ad 10)), (1, .int v1)]) hx hb dX0_loadOfCross_26 hl (k := 4) rfl rfl (by decide) rfl (fun ls hl => ?_)
      refine lv_goto (tgt := 10) hx hb dX0_loadOfCross_29 (by decide) ?_
      exact ih σ v1 (v2 ^^^ r5) r5 (v4 + 1) _ _ _ Y (lv_sub hl [3, 4, 1, 2, 0] rfl) h
set_option maxHeartbeats 4000000 in
set_option maxRecDepth 100000 in
theorem c_fX0_loadOfCross (l : Launch) (D : va_G) (g : Nat → ClassId) (ad : Nat → Nat) (σ : St) (n : Nat) (v1 : Int32) {r0 : Int32} (h : fX0_loadOfCross n σ v1 = some r0) : MI l yX0_loadOfCross kX0_loadOfCross 2 44 D g (WC g ad σ) (WC g ad σ) [.ref (ad 10), .int v1] r0 := by
  intro sz
  refine Met.of2 (Qc := fun A => QI D g A (WC g ad σ) r0) (cc := cX0_loadOfCross) (maxL := 5) (ret := (some .int)) (own := RX0) (by decide) rfl rfl (Nat.le_of_ble_eq_true rfl) ?_
  intro p e s m below meth c A ls X hr hlk hml Y hl
  have hx := X.1
  have hb := X.2.1
  have hl : lv_has ls 5 [(0, .ref (ad 10)), (1, .int v1)] := hl
  rw [fX0_loadOfCross] at h
  refine lv_aload_n hx hb dX0_loadOfCross_0 rfl (lv_at hl 0 rfl) ?_
  obtain ⟨r2, hg1, h⟩ := ob h
  refine cVi X (hml.trans hl.1.symm) Y (c_fX0_everybody l D g ad σ hg1) (lkR g ad σ) rfl (gs_X0_41 _) rfl fd_X0_everybody ⟨Nat.le_of_ble_eq_true rfl, Nat.le_of_ble_eq_true rfl⟩ ⟨Nat.le_of_ble_eq_true rfl, Nat.le_of_ble_eq_true rfl⟩ (rest := []) rfl (Nat.le_of_ble_eq_true rfl) dX0_loadOfCross_1 (fun H locs Y => ?_)
  refine lv_istore_n (lv' := [(2, .int r2), (0, .ref (ad 10)), (1, .int v1)]) hx hb dX0_loadOfCross_4 rfl hl (by decide) rfl (fun ls hl => ?_)
  refine lv_iconst (v := 0) hx hb dX0_loadOfCross_5 (by decide) ?_
  refine lv_istore_n (lv' := [(3, .int 0), (2, .int r2), (0, .ref (ad 10)), (1, .int v1)]) hx hb dX0_loadOfCross_6 rfl hl (by decide) rfl (fun ls hl => ?_)
  refine lv_iconst (v := 0) hx hb dX0_loadOfCross_7 (by decide) ?_
  refine lv_istore (lv' := [(4, .int 0), (3, .int 0), (2, .int r2), (0, .ref (ad 10)), (1, .int v1)]) hx hb dX0_loadOfCross_8 hl (by decide) rfl (fun ls hl => ?_)
  exact w_fX0_loadOfCross_L10 X hr hlk hml n σ v1 r2 0 0 _ _ _ Y (lv_sub hl [3, 4, 2, 1, 0] rfl) h
set_option maxHeartbeats 4000000 in
set_option maxRecDepth 100000 in
theorem w_fX0_lenderOf_L3 {p : Program} {l : Launch} {e : Env} {s : State} {m : MethodId} {args : Array Value} {below : List Frame} {meth : Method} {c : Code} {D : va_G} {g : Nat → ClassId} {ad : Nat → Nat} {A : Nat → Prop} {r0 : Int32} {σ0 : St} (X : Cx p s m c args cX0_lenderOf RX0 kX0_lenderOf D g) (hr : meth.sig.returnType = (some .int)) (hlk : meth.locks = false) (hml : c.maxLocals = 7) : ∀ (n : Nat), ∀ (σ : St) (v1 : Int32) (v2 : Int32) (v3 : Int32) (v4 : Int32) (H : Heap) (locs : List Loc) (ls : Array Slot), Hp D A s.heap H locs (WC g ad σ) → lv_has ls 7 [(0, .ref (ad 10)), (1, .int v1), (2, .int v2), (3, .int v3), (4, .int v4)] → fX0_lenderOf_L3 n σ v1 v2 v3 v4 = some (r0, σ0) → W p l e (RM 3 74) s m args below meth c H locs 0 0 (MQ below (QI D g A (WC g ad σ0) r0) args s 0 0 A) (F0 m 3 ls []) := by
  have hx := X.1
  have hb := X.2.1
  intro n
  induction n with
  | zero => intro σ v1 v2 v3 v4 H locs ls Y hl h; cases (show none = _ from h)
  | succ n ih =>
    intro σ v1 v2 v3 v4 H locs ls Y hl h
    rw [fX0_lenderOf_L3] at h
    refine lv_iload hx hb dX0_lenderOf_3 (lv_at hl 4 rfl) ?_
    refine lv_aload_n hx hb dX0_lenderOf_5 rfl (lv_at hl 0 rfl) ?_
    refine rgR X Y 0 (v := .int (σ 10 0)) tw_57 rfl dX0_lenderOf_6 ?_
    refine lv_icmp_ge (tgt := 94) hx hb dX0_lenderOf_9 (by decide) (fun c1 => ?_) (fun c1 => ?_)
    · replace h := ot c1 h
      refine lv_bipush (v := (-9)) hx hb dX0_lenderOf_94 (by decide) ?_
      obtain ⟨rfl, rfl⟩ := os2 h
      exact retI X Y hr hlk dX0_lenderOf_96
    · replace h := oe c1 h
      refine lv_aload_n hx hb dX0_lenderOf_12 rfl (lv_at hl 0 rfl) ?_
      refine rgR X Y 5 (v := .ref (ad 12)) tw_67 rfl dX0_lenderOf_13 ?_
      refine lv_iload_n hx hb dX0_lenderOf_16 rfl (lv_at hl 1 rfl) ?_
      obtain ⟨hg2, h⟩ := og h
      refine raN X Y hg2 dX0_lenderOf_17 ?_
      refine lv_iload hx hb dX0_lenderOf_18 (lv_at hl 4 rfl) ?_
      obtain ⟨hg3, h⟩ := og h
      refine ri X Y (lkN g ad σ (clt hg2)) hg3 dX0_lenderOf_20 ?_
      refine lv_istore (lv' := [(5, .int (σ (13 + v1.toNatClampNeg) v4.toNatClampNeg)), (0, .ref (ad 10)), (1, .int v1), (2, .int v2), (3, .int v3), (4, .int v4)]) hx hb dX0_lenderOf_21 hl (by decide) rfl (fun ls hl => ?_)
      refine lv_iload hx hb dX0_lenderOf_23 (lv_at hl 5 rfl) ?_
      refine lv_iload_n hx hb dX0_lenderOf_25 rfl (lv_at hl 2 rfl) ?_
      refine lv_icmp_eq (tgt := 88) hx hb dX0_lenderOf_26 (by decide) (fun c4 => ?_) (fun c4 => ?_)
      · replace h := ot c4 h
        refine lv_iinc (v := v4 + 1) (lv' := [(4, .int (v4 + 1)), (5, .int (σ (13 + v1.toNatClampNeg) v4.toNatClampNeg)), (0, .ref (ad 10)), (1, .int v1), (2, .int v2), (3, .int v3)]) hx hb dX0_lenderOf_88 hl (k := 5) rfl rfl (by decide) rfl (fun ls hl => ?_)
        refine lv_goto (tgt := 3) hx hb dX0_lenderOf_91 (by decide) ?_
        exact ih σ v1 v2 v3 (v4 + 1) _ _ _ Y (lv_sub hl [2, 3, 4, 5, 0] rfl) h
      · replace h := oe c4 h
        refine lv_iload hx hb dX0_lenderOf_29 (lv_at hl 0 rfl) ?_
        refine lv_iload_n hx hb dX0_lenderOf_31 rfl (lv_at hl 4 rfl) ?_
        refine lv_iadd hx hb dX0_lenderOf_32 ?_
        refine lv_bipush (v := 9) hx hb dX0_lenderOf_33 (by decide) ?_
        refine lv_icmp_gt (tgt := 88) hx hb dX0_lenderOf_35 (by decide) (fun c5 => ?_) (fun c5 => ?_)
        · replace h := ot c5 h
          refine lv_iinc (v := v4 + 1) (lv' := [(4, .int (v4 + 1)), (5, .int (σ (13 + v1.toNatClampNeg) v4.toNatClampNeg)), (0, .ref (ad 10)), (1, .int v1), (2, .int v2), (3, .int v3)]) hx hb dX0_lenderOf_88 hl (k := 5) rfl rfl (by decide) rfl (fun ls hl => ?_)
          refine lv_goto (tgt := 3) hx hb dX0_lenderOf_91 (by decide) ?_
          exact ih σ v1 v2 v3 (v4 + 1) _ _ _ Y (lv_sub hl [2, 3, 4, 5, 0] rfl) h
        · replace h := oe c5 h
          refine lv_aload_n hx hb dX0_lenderOf_38 rfl (lv_at hl 1 rfl) ?_
          refine rgR X Y 5 (v := .ref (ad 12)) tw_67 rfl dX0_lenderOf_39 ?_
          refine lv_iload_n hx hb dX0_lenderOf_42 rfl (lv_at hl 2 rfl) ?_
          obtain ⟨hg6, h⟩ := og h
          refine raN X Y hg6 dX0_lenderOf_43 ?_
          refine lv_iload hx hb dX0_lenderOf_44 (lv_at hl 5 rfl) ?_
          refine lv_iload hx hb dX0_lenderOf_46 (lv_at hl 0 rfl) ?_
          refine lv_iload_n hx hb dX0_lenderOf_48 rfl (lv_at hl 4 rfl) ?_
          refine lv_iadd hx hb dX0_lenderOf_49 ?_
          obtain ⟨hg7, h⟩ := og h
          refine ris X Y (W1 := WC g ad (up2 σ (13 + v1.toNatClampNeg) v4.toNatClampNeg ((σ (13 + v1.toNatClampNeg) v4.toNatClampNeg) + v3))) (lkN g ad σ (clt hg6)) hg7 (stN g ad σ _ (clt hg6)) dX0_lenderOf_50 (fun H locs Y => ?_)
          refine lv_aload_n hx hb dX0_lenderOf_51 rfl (lv_at hl 1 rfl) ?_
          refine lv_iload_n hx hb dX0_lenderOf_52 rfl (lv_at hl 3 rfl) ?_
          obtain ⟨r9, hg8, h⟩ := ob h
          refine cVi X (hml.trans hl.1.symm) Y (c_fX0_pullersOf l D g ad (up2 σ (13 + v1.toNatClampNeg) v4.toNatClampNeg ((σ (13 + v1.toNatClampNeg) v4.toNatClampNeg) + v3)) n v2 hg8) (lkR g ad (up2 σ (13 + v1.toNatClampNeg) v4.toNatClampNeg ((σ (13 + v1.toNatClampNeg) v4.toNatClampNeg) + v3))) rfl (gs_X0_80 _) rfl fd_X0_pullersOf ⟨Nat.le_of_ble_eq_true rfl, Nat.le_of_ble_eq_true rfl⟩ ⟨Nat.le_of_ble_eq_true rfl, Nat.le_of_ble_eq_true rfl⟩ (rest := []) rfl (Nat.le_of_ble_eq_true rfl) dX0_lenderOf_53 (fun H locs Y => ?_)
          refine lv_iconst (v := 1) hx hb dX0_lenderOf_56 (by decide) ?_
          refine lv_iload_n hx hb dX0_lenderOf_57 rfl (lv_at hl 2 rfl) ?_
          refine lv_ishl hx hb dX0_lenderOf_58 ?_
          refine lv_icmp_ne (tgt := 66) hx hb dX0_lenderOf_59 (by decide) (fun c10 => ?_) (fun c10 => ?_)
          · replace h := oe c10 h
            refine lv_iconst (v := 0) hx hb dX0_lenderOf_66 (by decide) ?_
            refine lv_istore (lv' := [(6, .int 0), (5, .int (σ (13 + v1.toNatClampNeg) v4.toNatClampNeg)), (0, .ref (ad 10)), (1, .int v1), (2, .int v2), (3, .int v3), (4, .int v4)]) hx hb dX0_lenderOf_67 hl (by decide) rfl (fun ls hl => ?_)
            refine lv_aload_n hx hb dX0_lenderOf_69 rfl (lv_at hl 2 rfl) ?_
            refine rgR X Y 5 (v := .ref (ad 12)) tw_67 rfl dX0_lenderOf_70 ?_
            refine lv_iload_n hx hb dX0_lenderOf_73 rfl (lv_at hl 3 rfl) ?_
            obtain ⟨hg11, h⟩ := og h
            refine raN X Y hg11 dX0_lenderOf_74 ?_
            refine lv_iload hx hb dX0_lenderOf_75 (lv_at hl 6 rfl) ?_
            refine lv_iload hx hb dX0_lenderOf_77 (lv_at hl 1 rfl) ?_
            obtain ⟨hg12, h⟩ := og h
            refine ris X Y (W1 := WC g ad (up2 (up2 σ (13 + v1.toNatClampNeg) v4.toNatClampNeg ((σ (13 + v1.toNatClampNeg) v4.toNatClampNeg) + v3)) (13 + v1.toNatClampNeg) v4.toNatClampNeg (σ (13 + v1.toNatClampNeg) v4.toNatClampNeg))) (lkN g ad (up2 σ (13 + v1.toNatClampNeg) v4.toNatClampNeg ((σ (13 + v1.toNatClampNeg) v4.toNatClampNeg) + v3)) (clt hg11)) hg12 (stN g ad (up2 σ (13 + v1.toNatClampNeg) v4.toNatClampNeg ((σ (13 + v1.toNatClampNeg) v4.toNatClampNeg) + v3)) _ (clt hg11)) dX0_lenderOf_79 (fun H locs Y => ?_)
            refine lv_iload hx hb dX0_lenderOf_80 (lv_at hl 0 rfl) ?_
            refine lv_if_eq (tgt := 88) hx hb dX0_lenderOf_82 (by decide) (fun _ => ?_) (fun c9 => absurd c9 (by decide))
            refine lv_iinc (v := v4 + 1) (lv' := [(4, .int (v4 + 1)), (6, .int 0), (5, .int (σ (13 + v1.toNatClampNeg) v4.toNatClampNeg)), (0, .ref (ad 10)), (1, .int v1), (2, .int v2), (3, .int v3)]) hx hb dX0_lenderOf_88 hl (k := 6) rfl rfl (by decide) rfl (fun ls hl => ?_)
            refine lv_goto (tgt := 3) hx hb dX0_lenderOf_91 (by decide) ?_
            exact ih (up2 (up2 σ (13 + v1.toNatClampNeg) v4.toNatClampNeg ((σ (13 + v1.toNatClampNeg) v4.toNatClampNeg) + v3)) (13 + v1.toNatClampNeg) v4.toNatClampNeg (σ (13 + v1.toNatClampNeg) v4.toNatClampNeg)) v1 v2 v3 (v4 + 1) _ _ _ Y (lv_sub hl [3, 4, 5, 6, 0] rfl) h
          · replace h := ot c10 h
            refine lv_iconst (v := 1) hx hb dX0_lenderOf_62 (by decide) ?_
            refine lv_goto (tgt := 67) hx hb dX0_lenderOf_63 (by decide) ?_
            refine lv_istore (lv' := [(6, .int 1), (5, .int (σ (13 + v1.toNatClampNeg) v4.toNatClampNeg)), (0, .ref (ad 10)), (1, .int v1), (2, .int v2), (3, .int v3), (4, .int v4)]) hx hb dX0_lenderOf_67 hl (by decide) rfl (fun ls hl => ?_)
            refine lv_aload_n hx hb dX0_lenderOf_69 rfl (lv_at hl 2 rfl) ?_
            refine rgR X Y 5 (v := .ref (ad 12)) tw_67 rfl dX0_lenderOf_70 ?_
            refine lv_iload_n hx hb dX0_lenderOf_73 rfl (lv_at hl 3 rfl) ?_
            obtain ⟨hg13, h⟩ := og h
            refine raN X Y hg13 dX0_lenderOf_74 ?_
            refine lv_iload hx hb dX0_lenderOf_75 (lv_at hl 6 rfl) ?_
            refine lv_iload hx hb dX0_lenderOf_77 (lv_at hl 1 rfl) ?_
            obtain ⟨hg14, h⟩ := og h
            refine ris X Y (W1 := WC g ad (up2 (up2 σ (13 + v1.toNatClampNeg) v4.toNatClampNeg ((σ (13 + v1.toNatClampNeg) v4.toNatClampNeg) + v3)) (13 + v1.toNatClampNeg) v4.toNatClampNeg (σ (13 + v1.toNatClampNeg) v4.toNatClampNeg))) (lkN g ad (up2 σ (13 + v1.toNatClampNeg) v4.toNatClampNeg ((σ (13 + v1.toNatClampNeg) v4.toNatClampNeg) + v3)) (clt hg13)) hg14 (stN g ad (up2 σ (13 + v1.toNatClampNeg) v4.toNatClampNeg ((σ (13 + v1.toNatClampNeg) v4.toNatClampNeg) + v3)) _ (clt hg13)) dX0_lenderOf_79 (fun H locs Y => ?_)
            refine lv_iload hx hb dX0_lenderOf_80 (lv_at hl 0 rfl) ?_
            refine lv_if_eq (tgt := 88) hx hb dX0_lenderOf_82 (by decide) (fun c9 => absurd c9 (by decide)) (fun _ => ?_)
            refine lv_iload hx hb dX0_lenderOf_85 (lv_at hl 6 rfl) ?_
            obtain ⟨rfl, rfl⟩ := os2 h
            exact retI X Y hr hlk dX0_lenderOf_87
set_option maxHeartbeats 4000000 in
set_option maxRecDepth 100000 in
theorem c_fX0_lenderOf (l : Launch) (D : va_G) (g : Nat → ClassId) (ad : Nat → Nat) (σ : St) (n : Nat) (v1 : Int32) (v2 : Int32) (v3 : Int32) {r0 : Int32} {σ0 : St} (h : fX0_lenderOf n σ v1 v2 v3 = some (r0, σ0)) : MI l yX0_lenderOf kX0_lenderOf 3 74 D g (WC g ad σ) (WC g ad σ0) [.ref (ad 10), .int v1, .int v2, .int v3] r0 := by
  intro sz
  refine Met.of2 (Qc := fun A => QI D g A (WC g ad σ0) r0) (cc := cX0_lenderOf) (maxL := 7) (ret := (some .int)) (own := RX0) (by decide) rfl rfl (Nat.le_of_ble_eq_true rfl) ?_
  intro p e s m below meth c A ls X hr hlk hml Y hl
  have hx := X.1
  have hb := X.2.1
  have hl : lv_has ls 7 [(0, .ref (ad 10)), (1, .int v1), (2, .int v2), (3, .int v3)] := hl
  rw [fX0_lenderOf] at h
  refine lv_iconst (v := 0) hx hb dX0_lenderOf_0 (by decide) ?_
  refine lv_istore (lv' := [(4, .int 0), (0, .ref (ad 10)), (1, .int v1), (2, .int v2), (3, .int v3)]) hx hb dX0_lenderOf_1 hl (by decide) rfl (fun ls hl => ?_)
  exact w_fX0_lenderOf_L3 X hr hlk hml n σ v1 v2 v3 0 _ _ _ Y (lv_sub hl [1, 2, 3, 4, 0] rfl) h
set_option maxHeartbeats 4000000 in
set_option maxRecDepth 100000 in
theorem w_fX0_areReadingsSo_L2 {p : Program} {l : Launch} {e : Env} {s : State} {m : MethodId} {args : Array Value} {below : List Frame} {meth : Method} {c : Code} {D : va_G} {g : Nat → ClassId} {ad : Nat → Nat} {A : Nat → Prop} {r0 : Int32} (X : Cx p s m c args cX0_areReadingsSo RX0 kX0_areReadingsSo D g) (hr : meth.sig.returnType = (some .boolean)) (hlk : meth.locks = false) (hml : c.maxLocals = 2) : ∀ (n : Nat), ∀ (σ : St) (v1 : Int32) (H : Heap) (locs : List Loc) (ls : Array Slot), Hp D A s.heap H locs (WC g ad σ) → lv_has ls 2 [(0, .ref (ad 10)), (1, .int v1)] → fX0_areReadingsSo_L2 n σ v1 = some r0 → W p l e (RM 3 74) s m args below meth c H locs 0 0 (MQ below (QI D g A (WC g ad σ) r0) args s 0 0 A) (F0 m 2 ls []) := by
  have hx := X.1
  have hb := X.2.1
  intro n
  induction n with
  | zero => intro σ v1 H locs ls Y hl h; cases (show none = _ from h)
  | succ n ih =>
    intro σ v1 H locs ls Y hl h
    rw [fX0_areReadingsSo_L2] at h
    refine lv_iload_n hx hb dX0_areReadingsSo_2 rfl (lv_at hl 1 rfl) ?_
    refine lv_aload_n hx hb dX0_areReadingsSo_3 rfl (lv_at hl 0 rfl) ?_
    refine rgR X Y 6 (v := .int (σ 10 6)) tw_69 rfl dX0_areReadingsSo_4 ?_
    refine lv_icmp_ge (tgt := 37) hx hb dX0_areReadingsSo_7 (by decide) (fun c1 => ?_) (fun c1 => ?_)
    · replace h := ot c1 h
      refine lv_iconst (v := 1) hx hb dX0_areReadingsSo_37 (by decide) ?_
      obtain rfl := os1 h
      exact retZ X Y hr hlk rfl dX0_areReadingsSo_38
    · replace h := oe c1 h
      refine lv_aload_n hx hb dX0_areReadingsSo_10 rfl (lv_at hl 0 rfl) ?_
      refine lv_aload_n hx hb dX0_areReadingsSo_11 rfl (lv_at hl 0 rfl) ?_
      refine rgR X Y 7 (v := .ref (ad 18)) tw_71 rfl dX0_areReadingsSo_12 ?_
      refine lv_iload_n hx hb dX0_areReadingsSo_15 rfl (lv_at hl 1 rfl) ?_
      obtain ⟨hg2, h⟩ := og h
      refine ri X Y (lkC_18 g ad σ) hg2 dX0_areReadingsSo_16 ?_
      obtain ⟨r4, hg3, h⟩ := ob h
      refine cVi X (hml.trans hl.1.symm) Y (c_fX0_pullersOf l D g ad σ n (σ 18 v1.toNatClampNeg) hg3) (lkR g ad σ) rfl (gs_X0_80 _) rfl fd_X0_pullersOf ⟨Nat.le_of_ble_eq_true rfl, Nat.le_of_ble_eq_true rfl⟩ ⟨Nat.le_of_ble_eq_true rfl, Nat.le_of_ble_eq_true rfl⟩ (rest := []) rfl (Nat.le_of_ble_eq_true rfl) dX0_areReadingsSo_17 (fun H locs Y => ?_)
      refine lv_aload_n hx hb dX0_areReadingsSo_20 rfl (lv_at hl 0 rfl) ?_
      refine rgR X Y 8 (v := .ref (ad 19)) tw_73 rfl dX0_areReadingsSo_21 ?_
      refine lv_iload_n hx hb dX0_areReadingsSo_24 rfl (lv_at hl 1 rfl) ?_
      obtain ⟨hg5, h⟩ := og h
      refine ri X Y (lkC_19 g ad σ) hg5 dX0_areReadingsSo_25 ?_
      refine lv_icmp_eq (tgt := 31) hx hb dX0_areReadingsSo_26 (by decide) (fun c6 => ?_) (fun c6 => ?_)
      · replace h := ot c6 h
        refine lv_iinc (v := v1 + 1) (lv' := [(1, .int (v1 + 1)), (0, .ref (ad 10))]) hx hb dX0_areReadingsSo_31 hl (k := 1) rfl rfl (by decide) rfl (fun ls hl => ?_)
        refine lv_goto (tgt := 2) hx hb dX0_areReadingsSo_34 (by decide) ?_
        exact ih σ (v1 + 1) _ _ _ Y (lv_sub hl [1, 0] rfl) h
      · replace h := oe c6 h
        refine lv_iconst (v := 0) hx hb dX0_areReadingsSo_29 (by decide) ?_
        obtain rfl := os1 h
        exact retZ X Y hr hlk rfl dX0_areReadingsSo_30
set_option maxHeartbeats 4000000 in
set_option maxRecDepth 100000 in
theorem c_fX0_areReadingsSo (l : Launch) (D : va_G) (g : Nat → ClassId) (ad : Nat → Nat) (σ : St) (n : Nat) {r0 : Int32} (h : fX0_areReadingsSo n σ = some r0) : MI l yX0_areReadingsSo kX0_areReadingsSo 3 74 D g (WC g ad σ) (WC g ad σ) [.ref (ad 10)] r0 := by
  intro sz
  refine Met.of2 (Qc := fun A => QI D g A (WC g ad σ) r0) (cc := cX0_areReadingsSo) (maxL := 2) (ret := (some .boolean)) (own := RX0) (by decide) rfl rfl (Nat.le_of_ble_eq_true rfl) ?_
  intro p e s m below meth c A ls X hr hlk hml Y hl
  have hx := X.1
  have hb := X.2.1
  have hl : lv_has ls 2 [(0, .ref (ad 10))] := hl
  rw [fX0_areReadingsSo] at h
  refine lv_iconst (v := 0) hx hb dX0_areReadingsSo_0 (by decide) ?_
  refine lv_istore_n (lv' := [(1, .int 0), (0, .ref (ad 10))]) hx hb dX0_areReadingsSo_1 rfl hl (by decide) rfl (fun ls hl => ?_)
  exact w_fX0_areReadingsSo_L2 X hr hlk hml n σ 0 _ _ _ Y (lv_sub hl [1, 0] rfl) h
set_option maxHeartbeats 4000000 in
set_option maxRecDepth 100000 in
theorem w_fX0_notesThatFit_L15 {p : Program} {l : Launch} {e : Env} {s : State} {m : MethodId} {args : Array Value} {below : List Frame} {meth : Method} {c : Code} {D : va_G} {g : Nat → ClassId} {ad : Nat → Nat} {A : Nat → Prop} {r0 : Int32} {σ0 : St} (X : Cx p s m c args cX0_notesThatFit RX0 kX0_notesThatFit D g) (hr : meth.sig.returnType = (some .int)) (hlk : meth.locks = false) (hml : c.maxLocals = 6) : ∀ (n : Nat), ∀ (σ : St) (v1 : Int32) (v2 : Int32) (v3 : Int32) (v4 : Int32) (v5 : Int32) (H : Heap) (locs : List Loc) (ls : Array Slot), Hp D A s.heap H locs (WC g ad σ) → lv_has ls 6 [(0, .ref (ad 10)), (1, .int v1), (2, .int v2), (3, .int v3), (4, .int v4), (5, .int v5)] → fX0_notesThatFit_L15 n σ v1 v2 v3 v4 v5 = some (r0, σ0) → W p l e (RM 4 95) s m args below meth c H locs 0 0 (MQ below (QI D g A (WC g ad σ0) r0) args s 0 0 A) (F0 m 15 ls []) := by
  have hx := X.1
  have hb := X.2.1
  intro n
  induction n with
  | zero => intro σ v1 v2 v3 v4 v5 H locs ls Y hl h; cases (show none = _ from h)
  | succ n ih =>
    intro σ v1 v2 v3 v4 v5 H locs ls Y hl h
    rw [fX0_notesThatFit_L15] at h
    refine lv_iload hx hb dX0_notesThatFit_15 (lv_at hl 5 rfl) ?_
    refine lv_bipush (v := 9) hx hb dX0_notesThatFit_17 (by decide) ?_
    refine lv_icmp_gt (tgt := 58) hx hb dX0_notesThatFit_19 (by decide) (fun c3 => ?_) (fun c3 => ?_)
    · replace h := ot c3 h
      refine lv_aload_n hx hb dX0_notesThatFit_58 rfl (lv_at hl 0 rfl) ?_
      refine rgR X Y 5 (v := .ref (ad 12)) tw_67 rfl dX0_notesThatFit_59 ?_
      refine lv_iload_n hx hb dX0_notesThatFit_62 rfl (lv_at hl 1 rfl) ?_
      obtain ⟨hg4, h⟩ := og h
      refine raN X Y hg4 dX0_notesThatFit_63 ?_
      refine lv_iload_n hx hb dX0_notesThatFit_64 rfl (lv_at hl 2 rfl) ?_
      refine lv_iload_n hx hb dX0_notesThatFit_65 rfl (lv_at hl 3 rfl) ?_
      obtain ⟨hg5, h⟩ := og h
      refine ris X Y (W1 := WC g ad (up2 σ (13 + v1.toNatClampNeg) v2.toNatClampNeg v3)) (lkN g ad σ (clt hg4)) hg5 (stN g ad σ _ (clt hg4)) dX0_notesThatFit_66 (fun H locs Y => ?_)
      refine lv_iload hx hb dX0_notesThatFit_67 (lv_at hl 4 rfl) ?_
      obtain ⟨rfl, rfl⟩ := os2 h
      exact retI X Y hr hlk dX0_notesThatFit_69
    · replace h := oe c3 h
      refine lv_aload_n hx hb dX0_notesThatFit_22 rfl (lv_at hl 0 rfl) ?_
      refine rgR X Y 5 (v := .ref (ad 12)) tw_67 rfl dX0_notesThatFit_23 ?_
      refine lv_iload_n hx hb dX0_notesThatFit_26 rfl (lv_at hl 1 rfl) ?_
      obtain ⟨hg6, h⟩ := og h
      refine raN X Y hg6 dX0_notesThatFit_27 ?_
      refine lv_iload_n hx hb dX0_notesThatFit_28 rfl (lv_at hl 2 rfl) ?_
      refine lv_iload hx hb dX0_notesThatFit_29 (lv_at hl 5 rfl) ?_
      obtain ⟨hg7, h⟩ := og h
      refine ris X Y (W1 := WC g ad (up2 σ (13 + v1.toNatClampNeg) v2.toNatClampNeg v5)) (lkN g ad σ (clt hg6)) hg7 (stN g ad σ _ (clt hg6)) dX0_notesThatFit_31 (fun H locs Y => ?_)
      refine lv_iload hx hb dX0_notesThatFit_32 (lv_at hl 4 rfl) ?_
      refine lv_aload_n hx hb dX0_notesThatFit_34 rfl (lv_at hl 0 rfl) ?_
      obtain ⟨r9, hg8, h⟩ := ob h
      refine cVi X (hml.trans hl.1.symm) Y (c_fX0_areReadingsSo l D g ad (up2 σ (13 + v1.toNatClampNeg) v2.toNatClampNeg v5) n hg8) (lkR g ad (up2 σ (13 + v1.toNatClampNeg) v2.toNatClampNeg v5)) rfl (gs_X0_102 _) rfl fd_X0_areReadingsSo ⟨Nat.le_of_ble_eq_true rfl, Nat.le_of_ble_eq_true rfl⟩ ⟨Nat.le_of_ble_eq_true rfl, Nat.le_of_ble_eq_true rfl⟩ (rest := [.int v4]) rfl (Nat.le_of_ble_eq_true rfl) dX0_notesThatFit_35 (fun H locs Y => ?_)
      refine lv_if_eq (tgt := 48) hx hb dX0_notesThatFit_38 (by decide) (fun c10 => ?_) (fun c10 => ?_)
      · replace h := ot c10 h
        refine lv_iconst (v := 0) hx hb dX0_notesThatFit_48 (by decide) ?_
        refine lv_ior hx hb dX0_notesThatFit_49 ?_
        refine lv_istore (lv' := [(4, .int (v4 ||| 0)), (0, .ref (ad 10)), (1, .int v1), (2, .int v2), (3, .int v3), (5, .int v5)]) hx hb dX0_notesThatFit_50 hl (by decide) rfl (fun ls hl => ?_)
        refine lv_iinc (v := v5 + 1) (lv' := [(5, .int (v5 + 1)), (4, .int (v4 ||| 0)), (0, .ref (ad 10)), (1, .int v1), (2, .int v2), (3, .int v3)]) hx hb dX0_notesThatFit_52 hl (k := 5) rfl rfl (by decide) rfl (fun ls hl => ?_)
        refine lv_goto (tgt := 15) hx hb dX0_notesThatFit_55 (by decide) ?_
        exact ih (up2 σ (13 + v1.toNatClampNeg) v2.toNatClampNeg v5) v1 v2 v3 (v4 ||| 0) (v5 + 1) _ _ _ Y (lv_sub hl [2, 3, 4, 5, 1, 0] rfl) h
      · replace h := oe c10 h
        refine lv_iconst (v := 1) hx hb dX0_notesThatFit_41 (by decide) ?_
        refine lv_iload hx hb dX0_notesThatFit_42 (lv_at hl 5 rfl) ?_
        refine lv_ishl hx hb dX0_notesThatFit_44 ?_
        refine lv_goto (tgt := 49) hx hb dX0_notesThatFit_45 (by decide) ?_
        refine lv_ior hx hb dX0_notesThatFit_49 ?_
        refine lv_istore (lv' := [(4, .int (v4 ||| ((1 : Int32) <<< (v5 &&& 31)))), (0, .ref (ad 10)), (1, .int v1), (2, .int v2), (3, .int v3), (5, .int v5)]) hx hb dX0_notesThatFit_50 hl (by decide) rfl (fun ls hl => ?_)
        refine lv_iinc (v := v5 + 1) (lv' := [(5, .int (v5 + 1)), (4, .int (v4 ||| ((1 : Int32) <<< (v5 &&& 31)))), (0, .ref (ad 10)), (1, .int v1), (2, .int v2), (3, .int v3)]) hx hb dX0_notesThatFit_52 hl (k := 5) rfl rfl (by decide) rfl (fun ls hl => ?_)
        refine lv_goto (tgt := 15) hx hb dX0_notesThatFit_55 (by decide) ?_
        exact ih (up2 σ (13 + v1.toNatClampNeg) v2.toNatClampNeg v5) v1 v2 v3 (v4 ||| ((1 : Int32) <<< (v5 &&& 31))) (v5 + 1) _ _ _ Y (lv_sub hl [2, 3, 4, 5, 1, 0] rfl) h
set_option maxHeartbeats 4000000 in
set_option maxRecDepth 100000 in
theorem c_fX0_notesThatFit (l : Launch) (D : va_G) (g : Nat → ClassId) (ad : Nat → Nat) (σ : St) (n : Nat) (v1 : Int32) (v2 : Int32) {r0 : Int32} {σ0 : St} (h : fX0_notesThatFit n σ v1 v2 = some (r0, σ0)) : MI l yX0_notesThatFit kX0_notesThatFit 4 95 D g (WC g ad σ) (WC g ad σ0) [.ref (ad 10), .int v1, .int v2] r0 := by
  intro sz
  refine Met.of2 (Qc := fun A => QI D g A (WC g ad σ0) r0) (cc := cX0_notesThatFit) (maxL := 6) (ret := (some .int)) (own := RX0) (by decide) rfl rfl (Nat.le_of_ble_eq_true rfl) ?_
  intro p e s m below meth c A ls X hr hlk hml Y hl
  have hx := X.1
  have hb := X.2.1
  have hl : lv_has ls 6 [(0, .ref (ad 10)), (1, .int v1), (2, .int v2)] := hl
  rw [fX0_notesThatFit] at h
  refine lv_aload_n hx hb dX0_notesThatFit_0 rfl (lv_at hl 0 rfl) ?_
  refine rgR X Y 5 (v := .ref (ad 12)) tw_67 rfl dX0_notesThatFit_1 ?_
  refine lv_iload_n hx hb dX0_notesThatFit_4 rfl (lv_at hl 1 rfl) ?_
  obtain ⟨hg1, h⟩ := og h
  refine raN X Y hg1 dX0_notesThatFit_5 ?_
  refine lv_iload_n hx hb dX0_notesThatFit_6 rfl (lv_at hl 2 rfl) ?_
  obtain ⟨hg2, h⟩ := og h
  refine ri X Y (lkN g ad σ (clt hg1)) hg2 dX0_notesThatFit_7 ?_
  refine lv_istore_n (lv' := [(3, .int (σ (13 + v1.toNatClampNeg) v2.toNatClampNeg)), (0, .ref (ad 10)), (1, .int v1), (2, .int v2)]) hx hb dX0_notesThatFit_8 rfl hl (by decide) rfl (fun ls hl => ?_)
  refine lv_iconst (v := 0) hx hb dX0_notesThatFit_9 (by decide) ?_
  refine lv_istore (lv' := [(4, .int 0), (3, .int (σ (13 + v1.toNatClampNeg) v2.toNatClampNeg)), (0, .ref (ad 10)), (1, .int v1), (2, .int v2)]) hx hb dX0_notesThatFit_10 hl (by decide) rfl (fun ls hl => ?_)
  refine lv_iconst (v := 0) hx hb dX0_notesThatFit_12 (by decide) ?_
  refine lv_istore (lv' := [(5, .int 0), (4, .int 0), (3, .int (σ (13 + v1.toNatClampNeg) v2.toNatClampNeg)), (0, .ref (ad 10)), (1, .int v1), (2, .int v2)]) hx hb dX0_notesThatFit_13 hl (by decide) rfl (fun ls hl => ?_)
  exact w_fX0_notesThatFit_L15 X hr hlk hml n σ v1 v2 (σ (13 + v1.toNatClampNeg) v2.toNatClampNeg) 0 0 _ _ _ Y (lv_sub hl [3, 4, 5, 2, 1, 0] rfl) h
set_option maxHeartbeats 4000000 in
set_option maxRecDepth 100000 in
theorem w_fX0_kindsThatFit_L12 {p : Program} {l : Launch} {e : Env} {s : State} {m : MethodId} {args : Array Value} {below : List Frame} {meth : Method} {c : Code} {D : va_G} {g : Nat → ClassId} {ad : Nat → Nat} {A : Nat → Prop} {r0 : Int32} {σ0 : St} (X : Cx p s m c args cX0_kindsThatFit RX0 kX0_kindsThatFit D g) (hr : meth.sig.returnType = (some .int)) (hlk : meth.locks = false) (hml : c.maxLocals = 5) : ∀ (n : Nat), ∀ (σ : St) (v1 : Int32) (v2 : Int32) (v3 : Int32) (v4 : Int32) (H : Heap) (locs : List Loc) (ls : Array Slot), Hp D A s.heap H locs (WC g ad σ) → lv_has ls 5 [(0, .ref (ad 10)), (1, .int v1), (2, .int v2), (3, .int v3), (4, .int v4)] → fX0_kindsThatFit_L12 n σ v1 v2 v3 v4 = some (r0, σ0) → W p l e (RM 4 95) s m args below meth c H locs 0 0 (MQ below (QI D g A (WC g ad σ0) r0) args s 0 0 A) (F0 m 12 ls []) := by
  have hx := X.1
  have hb := X.2.1
  intro n
  induction n with
  | zero => intro σ v1 v2 v3 v4 H locs ls Y hl h; cases (show none = _ from h)
  | succ n ih =>
    intro σ v1 v2 v3 v4 H locs ls Y hl h
    rw [fX0_kindsThatFit_L12] at h
    refine lv_iload hx hb dX0_kindsThatFit_12 (lv_at hl 4 rfl) ?_
    refine lv_iconst (v := 2) hx hb dX0_kindsThatFit_14 (by decide) ?_
    refine lv_icmp_gt (tgt := 50) hx hb dX0_kindsThatFit_15 (by decide) (fun c2 => ?_) (fun c2 => ?_)
    · replace h := ot c2 h
      refine lv_aload_n hx hb dX0_kindsThatFit_50 rfl (lv_at hl 0 rfl) ?_
      refine rgR X Y 4 (v := .ref (ad 11)) tw_65 rfl dX0_kindsThatFit_51 ?_
      refine lv_iload_n hx hb dX0_kindsThatFit_54 rfl (lv_at hl 1 rfl) ?_
      refine lv_iload_n hx hb dX0_kindsThatFit_55 rfl (lv_at hl 2 rfl) ?_
      obtain ⟨hg3, h⟩ := og h
      refine ris X Y (W1 := WC g ad (up2 σ 11 v1.toNatClampNeg v2)) (lkC_11 g ad σ) hg3 (stC_11 g ad σ _) dX0_kindsThatFit_56 (fun H locs Y => ?_)
      refine lv_iload_n hx hb dX0_kindsThatFit_57 rfl (lv_at hl 3 rfl) ?_
      obtain ⟨rfl, rfl⟩ := os2 h
      exact retI X Y hr hlk dX0_kindsThatFit_58
    · replace h := oe c2 h
      refine lv_aload_n hx hb dX0_kindsThatFit_18 rfl (lv_at hl 0 rfl) ?_
      refine rgR X Y 4 (v := .ref (ad 11)) tw_65 rfl dX0_kindsThatFit_19 ?_
      refine lv_iload_n hx hb dX0_kindsThatFit_22 rfl (lv_at hl 1 rfl) ?_
      refine lv_iload hx hb dX0_kindsThatFit_23 (lv_at hl 4 rfl) ?_
      obtain ⟨hg4, h⟩ := og h
      refine ris X Y (W1 := WC g ad (up2 σ 11 v1.toNatClampNeg v4)) (lkC_11 g ad σ) hg4 (stC_11 g ad σ _) dX0_kindsThatFit_25 (fun H locs Y => ?_)
      refine lv_iload_n hx hb dX0_kindsThatFit_26 rfl (lv_at hl 3 rfl) ?_
      refine lv_aload_n hx hb dX0_kindsThatFit_27 rfl (lv_at hl 0 rfl) ?_
      obtain ⟨r6, hg5, h⟩ := ob h
      refine cVi X (hml.trans hl.1.symm) Y (c_fX0_areReadingsSo l D g ad (up2 σ 11 v1.toNatClampNeg v4) n hg5) (lkR g ad (up2 σ 11 v1.toNatClampNeg v4)) rfl (gs_X0_102 _) rfl fd_X0_areReadingsSo ⟨Nat.le_of_ble_eq_true rfl, Nat.le_of_ble_eq_true rfl⟩ ⟨Nat.le_of_ble_eq_true rfl, Nat.le_of_ble_eq_true rfl⟩ (rest := [.int v3]) rfl (Nat.le_of_ble_eq_true rfl) dX0_kindsThatFit_28 (fun H locs Y => ?_)
      refine lv_if_eq (tgt := 41) hx hb dX0_kindsThatFit_31 (by decide) (fun c7 => ?_) (fun c7 => ?_)
      · replace h := ot c7 h
        refine lv_iconst (v := 0) hx hb dX0_kindsThatFit_41 (by decide) ?_
        refine lv_ior hx hb dX0_kindsThatFit_42 ?_
        refine lv_istore_n (lv' := [(3, .int (v3 ||| 0)), (0, .ref (ad 10)), (1, .int v1), (2, .int v2), (4, .int v4)]) hx hb dX0_kindsThatFit_43 rfl hl (by decide) rfl (fun ls hl => ?_)
        refine lv_iinc (v := v4 + 1) (lv' := [(4, .int (v4 + 1)), (3, .int (v3 ||| 0)), (0, .ref (ad 10)), (1, .int v1), (2, .int v2)]) hx hb dX0_kindsThatFit_44 hl (k := 4) rfl rfl (by decide) rfl (fun ls hl => ?_)
        refine lv_goto (tgt := 12) hx hb dX0_kindsThatFit_47 (by decide) ?_
        exact ih (up2 σ 11 v1.toNatClampNeg v4) v1 v2 (v3 ||| 0) (v4 + 1) _ _ _ Y (lv_sub hl [2, 3, 4, 1, 0] rfl) h
      · replace h := oe c7 h
        refine lv_iconst (v := 1) hx hb dX0_kindsThatFit_34 (by decide) ?_
        refine lv_iload hx hb dX0_kindsThatFit_35 (lv_at hl 4 rfl) ?_
        refine lv_ishl hx hb dX0_kindsThatFit_37 ?_
        refine lv_goto (tgt := 42) hx hb dX0_kindsThatFit_38 (by decide) ?_
        refine lv_ior hx hb dX0_kindsThatFit_42 ?_
        refine lv_istore_n (lv' := [(3, .int (v3 ||| ((1 : Int32) <<< (v4 &&& 31)))), (0, .ref (ad 10)), (1, .int v1), (2, .int v2), (4, .int v4)]) hx hb dX0_kindsThatFit_43 rfl hl (by decide) rfl (fun ls hl => ?_)
        refine lv_iinc (v := v4 + 1) (lv' := [(4, .int (v4 + 1)), (3, .int (v3 ||| ((1 : Int32) <<< (v4 &&& 31)))), (0, .ref (ad 10)), (1, .int v1), (2, .int v2)]) hx hb dX0_kindsThatFit_44 hl (k := 4) rfl rfl (by decide) rfl (fun ls hl => ?_)
        refine lv_goto (tgt := 12) hx hb dX0_kindsThatFit_47 (by decide) ?_
        exact ih (up2 σ 11 v1.toNatClampNeg v4) v1 v2 (v3 ||| ((1 : Int32) <<< (v4 &&& 31))) (v4 + 1) _ _ _ Y (lv_sub hl [2, 3, 4, 1, 0] rfl) h
set_option maxHeartbeats 4000000 in
set_option maxRecDepth 100000 in
theorem c_fX0_kindsThatFit (l : Launch) (D : va_G) (g : Nat → ClassId) (ad : Nat → Nat) (σ : St) (n : Nat) (v1 : Int32) {r0 : Int32} {σ0 : St} (h : fX0_kindsThatFit n σ v1 = some (r0, σ0)) : MI l yX0_kindsThatFit kX0_kindsThatFit 4 95 D g (WC g ad σ) (WC g ad σ0) [.ref (ad 10), .int v1] r0 := by
  intro sz
  refine Met.of2 (Qc := fun A => QI D g A (WC g ad σ0) r0) (cc := cX0_kindsThatFit) (maxL := 5) (ret := (some .int)) (own := RX0) (by decide) rfl rfl (Nat.le_of_ble_eq_true rfl) ?_
  intro p e s m below meth c A ls X hr hlk hml Y hl
  have hx := X.1
  have hb := X.2.1
  have hl : lv_has ls 5 [(0, .ref (ad 10)), (1, .int v1)] := hl
  rw [fX0_kindsThatFit] at h
  refine lv_aload_n hx hb dX0_kindsThatFit_0 rfl (lv_at hl 0 rfl) ?_
  refine rgR X Y 4 (v := .ref (ad 11)) tw_65 rfl dX0_kindsThatFit_1 ?_
  refine lv_iload_n hx hb dX0_kindsThatFit_4 rfl (lv_at hl 1 rfl) ?_
  obtain ⟨hg1, h⟩ := og h
  refine ri X Y (lkC_11 g ad σ) hg1 dX0_kindsThatFit_5 ?_
  refine lv_istore_n (lv' := [(2, .int (σ 11 v1.toNatClampNeg)), (0, .ref (ad 10)), (1, .int v1)]) hx hb dX0_kindsThatFit_6 rfl hl (by decide) rfl (fun ls hl => ?_)
  refine lv_iconst (v := 0) hx hb dX0_kindsThatFit_7 (by decide) ?_
  refine lv_istore_n (lv' := [(3, .int 0), (2, .int (σ 11 v1.toNatClampNeg)), (0, .ref (ad 10)), (1, .int v1)]) hx hb dX0_kindsThatFit_8 rfl hl (by decide) rfl (fun ls hl => ?_)
  refine lv_iconst (v := 0) hx hb dX0_kindsThatFit_9 (by decide) ?_
  refine lv_istore (lv' := [(4, .int 0), (3, .int 0), (2, .int (σ 11 v1.toNatClampNeg)), (0, .ref (ad 10)), (1, .int v1)]) hx hb dX0_kindsThatFit_10 hl (by decide) rfl (fun ls hl => ?_)
  exact w_fX0_kindsThatFit_L12 X hr hlk hml n σ v1 (σ 11 v1.toNatClampNeg) 0 0 _ _ _ Y (lv_sub hl [3, 4, 2, 1, 0] rfl) h
set_option maxHeartbeats 4000000 in
set_option maxRecDepth 100000 in
theorem w_fX0_timesThatFit_L9 {p : Program} {l : Launch} {e : Env} {s : State} {m : MethodId} {args : Array Value} {below : List Frame} {meth : Method} {c : Code} {D : va_G} {g : Nat → ClassId} {ad : Nat → Nat} {A : Nat → Prop} {r0 : Int32} {σ0 : St} (X : Cx p s m c args cX0_timesThatFit RX0 kX0_timesThatFit D g) (hr : meth.sig.returnType = (some .int)) (hlk : meth.locks = false) (hml : c.maxLocals = 4) : ∀ (n : Nat), ∀ (σ : St) (v1 : Int32) (v2 : Int32) (v3 : Int32) (H : Heap) (locs : List Loc) (ls : Array Slot), Hp D A s.heap H locs (WC g ad σ) → lv_has ls 4 [(0, .ref (ad 10)), (1, .int v1), (2, .int v2), (3, .int v3)] → fX0_timesThatFit_L9 n σ v1 v2 v3 = some (r0, σ0) → W p l e (RM 4 95) s m args below meth c H locs 0 0 (MQ below (QI D g A (WC g ad σ0) r0) args s 0 0 A) (F0 m 9 ls []) := by
  have hx := X.1
  have hb := X.2.1
  intro n
  induction n with
  | zero => intro σ v1 v2 v3 H locs ls Y hl h; cases (show none = _ from h)
  | succ n ih =>
    intro σ v1 v2 v3 H locs ls Y hl h
    rw [fX0_timesThatFit_L9] at h
    refine lv_iload_n hx hb dX0_timesThatFit_9 rfl (lv_at hl 3 rfl) ?_
    refine lv_iconst (v := 3) hx hb dX0_timesThatFit_10 (by decide) ?_
    refine lv_icmp_gt (tgt := 42) hx hb dX0_timesThatFit_11 (by decide) (fun c1 => ?_) (fun c1 => ?_)
    · replace h := ot c1 h
      refine lv_aload_n hx hb dX0_timesThatFit_42 rfl (lv_at hl 0 rfl) ?_
      refine lv_iload_n hx hb dX0_timesThatFit_43 rfl (lv_at hl 1 rfl) ?_
      refine rpR X Y 2 (v := v1) tw_62 rfl rfl rfl (stR_2 g ad σ v1) dX0_timesThatFit_44 (fun H locs Y => ?_)
      refine lv_iload_n hx hb dX0_timesThatFit_47 rfl (lv_at hl 2 rfl) ?_
      obtain ⟨rfl, rfl⟩ := os2 h
      exact retI X Y hr hlk dX0_timesThatFit_48
    · replace h := oe c1 h
      refine lv_aload_n hx hb dX0_timesThatFit_14 rfl (lv_at hl 0 rfl) ?_
      refine lv_iload_n hx hb dX0_timesThatFit_15 rfl (lv_at hl 3 rfl) ?_
      refine rpR X Y 2 (v := v3) tw_62 rfl rfl rfl (stR_2 g ad σ v3) dX0_timesThatFit_16 (fun H locs Y => ?_)
      refine lv_iload_n hx hb dX0_timesThatFit_19 rfl (lv_at hl 2 rfl) ?_
      refine lv_aload_n hx hb dX0_timesThatFit_20 rfl (lv_at hl 0 rfl) ?_
      obtain ⟨r3, hg2, h⟩ := ob h
      refine cVi X (hml.trans hl.1.symm) Y (c_fX0_areReadingsSo l D g ad (up2 σ 10 2 v3) n hg2) (lkR g ad (up2 σ 10 2 v3)) rfl (gs_X0_102 _) rfl fd_X0_areReadingsSo ⟨Nat.le_of_ble_eq_true rfl, Nat.le_of_ble_eq_true rfl⟩ ⟨Nat.le_of_ble_eq_true rfl, Nat.le_of_ble_eq_true rfl⟩ (rest := [.int v2]) rfl (Nat.le_of_ble_eq_true rfl) dX0_timesThatFit_21 (fun H locs Y => ?_)
      refine lv_if_eq (tgt := 33) hx hb dX0_timesThatFit_24 (by decide) (fun c4 => ?_) (fun c4 => ?_)
      · replace h := ot c4 h
        refine lv_iconst (v := 0) hx hb dX0_timesThatFit_33 (by decide) ?_
        refine lv_ior hx hb dX0_timesThatFit_34 ?_
        refine lv_istore_n (lv' := [(2, .int (v2 ||| 0)), (0, .ref (ad 10)), (1, .int v1), (3, .int v3)]) hx hb dX0_timesThatFit_35 rfl hl (by decide) rfl (fun ls hl => ?_)
        refine lv_iinc (v := v3 + 1) (lv' := [(3, .int (v3 + 1)), (2, .int (v2 ||| 0)), (0, .ref (ad 10)), (1, .int v1)]) hx hb dX0_timesThatFit_36 hl (k := 3) rfl rfl (by decide) rfl (fun ls hl => ?_)
        refine lv_goto (tgt := 9) hx hb dX0_timesThatFit_39 (by decide) ?_
        exact ih (up2 σ 10 2 v3) v1 (v2 ||| 0) (v3 + 1) _ _ _ Y (lv_sub hl [2, 3, 1, 0] rfl) h
      · replace h := oe c4 h
        refine lv_iconst (v := 1) hx hb dX0_timesThatFit_27 (by decide) ?_
        refine lv_iload_n hx hb dX0_timesThatFit_28 rfl (lv_at hl 3 rfl) ?_
        refine lv_ishl hx hb dX0_timesThatFit_29 ?_
        refine lv_goto (tgt := 34) hx hb dX0_timesThatFit_30 (by decide) ?_
        refine lv_ior hx hb dX0_timesThatFit_34 ?_
        refine lv_istore_n (lv' := [(2, .int (v2 ||| ((1 : Int32) <<< (v3 &&& 31)))), (0, .ref (ad 10)), (1, .int v1), (3, .int v3)]) hx hb dX0_timesThatFit_35 rfl hl (by decide) rfl (fun ls hl => ?_)
        refine lv_iinc (v := v3 + 1) (lv' := [(3, .int (v3 + 1)), (2, .int (v2 ||| ((1 : Int32) <<< (v3 &&& 31)))), (0, .ref (ad 10)), (1, .int v1)]) hx hb dX0_timesThatFit_36 hl (k := 3) rfl rfl (by decide) rfl (fun ls hl => ?_)
        refine lv_goto (tgt := 9) hx hb dX0_timesThatFit_39 (by decide) ?_
        exact ih (up2 σ 10 2 v3) v1 (v2 ||| ((1 : Int32) <<< (v3 &&& 31))) (v3 + 1) _ _ _ Y (lv_sub hl [2, 3, 1, 0] rfl) h
set_option maxHeartbeats 4000000 in
set_option maxRecDepth 100000 in
theorem c_fX0_timesThatFit (l : Launch) (D : va_G) (g : Nat → ClassId) (ad : Nat → Nat) (σ : St) (n : Nat) {r0 : Int32} {σ0 : St} (h : fX0_timesThatFit n σ = some (r0, σ0)) : MI l yX0_timesThatFit kX0_timesThatFit 4 95 D g (WC g ad σ) (WC g ad σ0) [.ref (ad 10)] r0 := by
  intro sz
  refine Met.of2 (Qc := fun A => QI D g A (WC g ad σ0) r0) (cc := cX0_timesThatFit) (maxL := 4) (ret := (some .int)) (own := RX0) (by decide) rfl rfl (Nat.le_of_ble_eq_true rfl) ?_
  intro p e s m below meth c A ls X hr hlk hml Y hl
  have hx := X.1
  have hb := X.2.1
  have hl : lv_has ls 4 [(0, .ref (ad 10))] := hl
  rw [fX0_timesThatFit] at h
  refine lv_aload_n hx hb dX0_timesThatFit_0 rfl (lv_at hl 0 rfl) ?_
  refine rgR X Y 2 (v := .int (σ 10 2)) tw_62 rfl dX0_timesThatFit_1 ?_
  refine lv_istore_n (lv' := [(1, .int (σ 10 2)), (0, .ref (ad 10))]) hx hb dX0_timesThatFit_4 rfl hl (by decide) rfl (fun ls hl => ?_)
  refine lv_iconst (v := 0) hx hb dX0_timesThatFit_5 (by decide) ?_
  refine lv_istore_n (lv' := [(2, .int 0), (1, .int (σ 10 2)), (0, .ref (ad 10))]) hx hb dX0_timesThatFit_6 rfl hl (by decide) rfl (fun ls hl => ?_)
  refine lv_iconst (v := 1) hx hb dX0_timesThatFit_7 (by decide) ?_
  refine lv_istore_n (lv' := [(3, .int 1), (2, .int 0), (1, .int (σ 10 2)), (0, .ref (ad 10))]) hx hb dX0_timesThatFit_8 rfl hl (by decide) rfl (fun ls hl => ?_)
  exact w_fX0_timesThatFit_L9 X hr hlk hml n σ (σ 10 2) 0 1 _ _ _ Y (lv_sub hl [3, 2, 1, 0] rfl) h
set_option maxHeartbeats 4000000 in
set_option maxRecDepth 100000 in
theorem w_fX0_wetSetsWithPuller_L11 {p : Program} {l : Launch} {e : Env} {s : State} {m : MethodId} {args : Array Value} {below : List Frame} {meth : Method} {c : Code} {D : va_G} {g : Nat → ClassId} {ad : Nat → Nat} {A : Nat → Prop} {r0 : Int32} (X : Cx p s m c args cX0_wetSetsWithPuller RX0 kX0_wetSetsWithPuller D g) (hr : meth.sig.returnType = (some .int)) (hlk : meth.locks = false) (hml : c.maxLocals = 6) : ∀ (n : Nat), ∀ (σ : St) (v1 : Int32) (v2 : Int32) (v3 : Int32) (v4 : Int32) (v5 : Int32) (H : Heap) (locs : List Loc) (ls : Array Slot), Hp D A s.heap H locs (WC g ad σ) → lv_has ls 6 [(0, .ref (ad 10)), (1, .int v1), (2, .int v2), (3, .int v3), (4, .int v4), (5, .int v5)] → fX0_wetSetsWithPuller_L11 n σ v1 v2 v3 v4 v5 = some r0 → W p l e (RM 2 53) s m args below meth c H locs 0 0 (MQ below (QI D g A (WC g ad σ) r0) args s 0 0 A) (F0 m 11 ls []) := by
  have hx := X.1
  have hb := X.2.1
  intro n
  induction n with
  | zero => intro σ v1 v2 v3 v4 v5 H locs ls Y hl h; cases (show none = _ from h)
  | succ n ih =>
    intro σ v1 v2 v3 v4 v5 H locs ls Y hl h
    rw [fX0_wetSetsWithPuller_L11] at h
    refine lv_iload hx hb dX0_wetSetsWithPuller_11 (lv_at hl 5 rfl) ?_
    refine lv_iload_n hx hb dX0_wetSetsWithPuller_13 rfl (lv_at hl 3 rfl) ?_
    refine lv_icmp_gt (tgt := 40) hx hb dX0_wetSetsWithPuller_14 (by decide) (fun c3 => ?_) (fun c3 => ?_)
    · replace h := ot c3 h
      refine lv_iload hx hb dX0_wetSetsWithPuller_40 (lv_at hl 4 rfl) ?_
      obtain rfl := os1 h
      exact retI X Y hr hlk dX0_wetSetsWithPuller_42
    · replace h := oe c3 h
      refine lv_iload hx hb dX0_wetSetsWithPuller_17 (lv_at hl 4 rfl) ?_
      refine lv_aload_n hx hb dX0_wetSetsWithPuller_19 rfl (lv_at hl 0 rfl) ?_
      refine lv_iload_n hx hb dX0_wetSetsWithPuller_20 rfl (lv_at hl 2 rfl) ?_
      refine lv_iconst (v := 0) hx hb dX0_wetSetsWithPuller_21 (by decide) ?_
      refine lv_iload hx hb dX0_wetSetsWithPuller_22 (lv_at hl 5 rfl) ?_
      obtain ⟨r5, hg4, h⟩ := ob h
      refine cVi X (hml.trans hl.1.symm) Y (c_fX0_pullersIf l D g ad σ n v2 0 v5 hg4) (lkR g ad σ) rfl (gs_X0_68 _) rfl fd_X0_pullersIf ⟨Nat.le_of_ble_eq_true rfl, Nat.le_of_ble_eq_true rfl⟩ ⟨Nat.le_of_ble_eq_true rfl, Nat.le_of_ble_eq_true rfl⟩ (rest := [.int v4]) rfl (Nat.le_of_ble_eq_true rfl) dX0_wetSetsWithPuller_24 (fun H locs Y => ?_)
      refine lv_iload_n hx hb dX0_wetSetsWithPuller_27 rfl (lv_at hl 1 rfl) ?_
      refine lv_ishr hx hb dX0_wetSetsWithPuller_28 ?_
      refine lv_iconst (v := 1) hx hb dX0_wetSetsWithPuller_29 (by decide) ?_
      refine lv_iand hx hb dX0_wetSetsWithPuller_30 ?_
      refine lv_iadd hx hb dX0_wetSetsWithPuller_31 ?_
      refine lv_istore (lv' := [(4, .int (v4 + ((r5 >>> (v1 &&& 31)) &&& 1))), (0, .ref (ad 10)), (1, .int v1), (2, .int v2), (3, .int v3), (5, .int v5)]) hx hb dX0_wetSetsWithPuller_32 hl (by decide) rfl (fun ls hl => ?_)
      refine lv_iinc (v := v5 + 1) (lv' := [(5, .int (v5 + 1)), (4, .int (v4 + ((r5 >>> (v1 &&& 31)) &&& 1))), (0, .ref (ad 10)), (1, .int v1), (2, .int v2), (3, .int v3)]) hx hb dX0_wetSetsWithPuller_34 hl (k := 5) rfl rfl (by decide) rfl (fun ls hl => ?_)
      refine lv_goto (tgt := 11) hx hb dX0_wetSetsWithPuller_37 (by decide) ?_
      exact ih σ v1 v2 v3 (v4 + ((r5 >>> (v1 &&& 31)) &&& 1)) (v5 + 1) _ _ _ Y (lv_sub hl [2, 3, 4, 5, 1, 0] rfl) h
set_option maxHeartbeats 4000000 in
set_option maxRecDepth 100000 in
theorem c_fX0_wetSetsWithPuller (l : Launch) (D : va_G) (g : Nat → ClassId) (ad : Nat → Nat) (σ : St) (n : Nat) (v1 : Int32) (v2 : Int32) {r0 : Int32} (h : fX0_wetSetsWithPuller n σ v1 v2 = some r0) : MI l yX0_wetSetsWithPuller kX0_wetSetsWithPuller 2 53 D g (WC g ad σ) (WC g ad σ) [.ref (ad 10), .int v1, .int v2] r0 := by
  intro sz
  refine Met.of2 (Qc := fun A => QI D g A (WC g ad σ) r0) (cc := cX0_wetSetsWithPuller) (maxL := 6) (ret := (some .int)) (own := RX0) (by decide) rfl rfl (Nat.le_of_ble_eq_true rfl) ?_
  intro p e s m below meth c A ls X hr hlk hml Y hl
  have hx := X.1
  have hb := X.2.1
  have hl : lv_has ls 6 [(0, .ref (ad 10)), (1, .int v1), (2, .int v2)] := hl
  rw [fX0_wetSetsWithPuller] at h
  refine lv_aload_n hx hb dX0_wetSetsWithPuller_0 rfl (lv_at hl 0 rfl) ?_
  obtain ⟨r2, hg1, h⟩ := ob h
  refine cVi X (hml.trans hl.1.symm) Y (c_fX0_everybody l D g ad σ hg1) (lkR g ad σ) rfl (gs_X0_41 _) rfl fd_X0_everybody ⟨Nat.le_of_ble_eq_true rfl, Nat.le_of_ble_eq_true rfl⟩ ⟨Nat.le_of_ble_eq_true rfl, Nat.le_of_ble_eq_true rfl⟩ (rest := []) rfl (Nat.le_of_ble_eq_true rfl) dX0_wetSetsWithPuller_1 (fun H locs Y => ?_)
  refine lv_istore_n (lv' := [(3, .int r2), (0, .ref (ad 10)), (1, .int v1), (2, .int v2)]) hx hb dX0_wetSetsWithPuller_4 rfl hl (by decide) rfl (fun ls hl => ?_)
  refine lv_iconst (v := 0) hx hb dX0_wetSetsWithPuller_5 (by decide) ?_
  refine lv_istore (lv' := [(4, .int 0), (3, .int r2), (0, .ref (ad 10)), (1, .int v1), (2, .int v2)]) hx hb dX0_wetSetsWithPuller_6 hl (by decide) rfl (fun ls hl => ?_)
  refine lv_iconst (v := 0) hx hb dX0_wetSetsWithPuller_8 (by decide) ?_
  refine lv_istore (lv' := [(5, .int 0), (4, .int 0), (3, .int r2), (0, .ref (ad 10)), (1, .int v1), (2, .int v2)]) hx hb dX0_wetSetsWithPuller_9 hl (by decide) rfl (fun ls hl => ?_)
  exact w_fX0_wetSetsWithPuller_L11 X hr hlk hml n σ v1 v2 r2 0 0 _ _ _ Y (lv_sub hl [3, 4, 5, 2, 1, 0] rfl) h
set_option maxHeartbeats 4000000 in
set_option maxRecDepth 100000 in
theorem w_fX1_startRow_L17 {p : Program} {l : Launch} {e : Env} {s : State} {m : MethodId} {args : Array Value} {below : List Frame} {meth : Method} {c : Code} {D : va_G} {g : Nat → ClassId} {ad : Nat → Nat} {A : Nat → Prop} {σ0 : St} (X : Cx p s m c args cX1_startRow RX1 kX1_startRow D g) (hr : meth.sig.returnType = none) (hlk : meth.locks = false) (hml : c.maxLocals = 4) : ∀ (n : Nat), ∀ (σ : St) (k0 : Nat) (hk0 : k0 < 4) (v3 : Int32) (H : Heap) (locs : List Loc) (ls : Array Slot), Hp D A s.heap H locs (WC g ad σ) → lv_has ls 4 [(0, .ref (ad (2 + k0))), (3, .int v3)] → fX1_startRow_L17 n σ k0 v3 = some σ0 → W p l e (RM 0 0) s m args below meth c H locs 0 0 (MQ below (QV D g A (WC g ad σ0)) args s 0 0 A) (F0 m 17 ls []) := by
  have hx := X.1
  have hb := X.2.1
  intro n
  induction n with
  | zero => intro σ k0 hk0 v3 H locs ls Y hl h; cases (show none = _ from h)
  | succ n ih =>
    intro σ k0 hk0 v3 H locs ls Y hl h
    rw [fX1_startRow_L17] at h
    refine lv_iload_n hx hb dX1_startRow_17 rfl (lv_at hl 1 rfl) ?_
    refine lv_bipush (v := 60) hx hb dX1_startRow_18 (by decide) ?_
    refine lv_icmp_ge (tgt := 36) hx hb dX1_startRow_20 (by decide) (fun c1 => ?_) (fun c1 => ?_)
    · replace h := ot c1 h
      obtain rfl := os1 h
      exact retV X Y hr hlk dX1_startRow_36
    · replace h := oe c1 h
      refine lv_aload_n hx hb dX1_startRow_23 rfl (lv_at hl 0 rfl) ?_
      refine rgS X Y hk0 0 (v := .ref (ad (6 + k0))) tw_110 rfl dX1_startRow_24 ?_
      refine lv_iload_n hx hb dX1_startRow_27 rfl (lv_at hl 1 rfl) ?_
      refine lv_iconst (v := 0) hx hb dX1_startRow_28 (by decide) ?_
      obtain ⟨hg2, h⟩ := og h
      refine ris X Y (W1 := WC g ad (up2 σ (6 + k0) v3.toNatClampNeg 0)) (lkA g ad σ hk0) hg2 (stA g ad σ _ hk0) dX1_startRow_29 (fun H locs Y => ?_)
      refine lv_iinc (v := v3 + 1) (lv' := [(3, .int (v3 + 1)), (0, .ref (ad (2 + k0)))]) hx hb dX1_startRow_30 hl (k := 1) rfl rfl (by decide) rfl (fun ls hl => ?_)
      refine lv_goto (tgt := 17) hx hb dX1_startRow_33 (by decide) ?_
      exact ih (up2 σ (6 + k0) v3.toNatClampNeg 0) k0 hk0 (v3 + 1) _ _ _ Y (lv_sub hl [1, 0] rfl) h
set_option maxHeartbeats 4000000 in
set_option maxRecDepth 100000 in
theorem c_fX1_startRow (l : Launch) (D : va_G) (g : Nat → ClassId) (ad : Nat → Nat) (σ : St) (n : Nat) (k0 : Nat) (hk0 : k0 < 4) (v1 : Int32) (v2 : Int32) {σ0 : St} (h : fX1_startRow n σ k0 v1 v2 = some σ0) : MV l yX1_startRow kX1_startRow 0 0 D g (WC g ad σ) (WC g ad σ0) [.ref (ad (2 + k0)), .int v1, .int v2] := by
  intro sz
  refine Met.of2 (Qc := fun A => QV D g A (WC g ad σ0)) (cc := cX1_startRow) (maxL := 4) (ret := none) (own := RX1) (by decide) rfl rfl (Nat.le_of_ble_eq_true rfl) ?_
  intro p e s m below meth c A ls X hr hlk hml Y hl
  have hx := X.1
  have hb := X.2.1
  have hl : lv_has ls 4 [(0, .ref (ad (2 + k0))), (1, .int v1), (2, .int v2)] := hl
  rw [fX1_startRow] at h
  refine lv_aload_n hx hb dX1_startRow_0 rfl (lv_at hl 0 rfl) ?_
  refine lv_iconst (v := 1) hx hb dX1_startRow_1 (by decide) ?_
  refine rpS X Y hk0 1 (v := 1) tw_114 rfl rfl rfl (stS1 g ad σ 1 hk0) dX1_startRow_2 (fun H locs Y => ?_)
  refine lv_aload_n hx hb dX1_startRow_5 rfl (lv_at hl 0 rfl) ?_
  refine lv_iload_n hx hb dX1_startRow_6 rfl (lv_at hl 1 rfl) ?_
  refine rpS X Y hk0 2 (v := v1) tw_116 rfl rfl rfl (stS2 g ad (up2 σ (2 + k0) 1 1) v1 hk0) dX1_startRow_7 (fun H locs Y => ?_)
  refine lv_aload_n hx hb dX1_startRow_10 rfl (lv_at hl 0 rfl) ?_
  refine lv_iload_n hx hb dX1_startRow_11 rfl (lv_at hl 2 rfl) ?_
  refine rpS X Y hk0 3 (v := v2) tw_118 rfl rfl rfl (stS3 g ad (up2 (up2 σ (2 + k0) 1 1) (2 + k0) 2 v1) v2 hk0) dX1_startRow_12 (fun H locs Y => ?_)
  refine lv_iconst (v := 0) hx hb dX1_startRow_15 (by decide) ?_
  refine lv_istore_n (lv' := [(3, .int 0), (0, .ref (ad (2 + k0))), (1, .int v1), (2, .int v2)]) hx hb dX1_startRow_16 rfl hl (by decide) rfl (fun ls hl => ?_)
  exact w_fX1_startRow_L17 X hr hlk hml n (up2 (up2 (up2 σ (2 + k0) 1 1) (2 + k0) 2 v1) (2 + k0) 3 v2) k0 hk0 0 _ _ _ Y (lv_sub hl [1, 0] rfl) h
set_option maxHeartbeats 4000000 in
set_option maxRecDepth 100000 in
theorem c_fX1_faultAs (l : Launch) (D : va_G) (g : Nat → ClassId) (ad : Nat → Nat) (σ : St) (k0 : Nat) (hk0 : k0 < 4) (v1 : Int32) {r0 : Int32} (h : fX1_faultAs σ k0 v1 = some r0) : MI l yX1_faultAs kX1_faultAs 0 0 D g (WC g ad σ) (WC g ad σ) [.ref (ad (2 + k0)), .int v1] r0 := by
  intro sz
  refine Met.of2 (Qc := fun A => QI D g A (WC g ad σ) r0) (cc := cX1_faultAs) (maxL := 2) (ret := (some .int)) (own := RX1) (by decide) rfl rfl (Nat.le_of_ble_eq_true rfl) ?_
  intro p e s m below meth c A ls X hr hlk hml Y hl
  have hx := X.1
  have hb := X.2.1
  have hl : lv_has ls 2 [(0, .ref (ad (2 + k0))), (1, .int v1)] := hl
  rw [fX1_faultAs] at h
  refine lv_aload_n hx hb dX1_faultAs_0 rfl (lv_at hl 0 rfl) ?_
  refine rgS X Y hk0 1 (v := .int (σ (2 + k0) 1)) tw_114 rfl dX1_faultAs_1 ?_
  refine lv_if_ne (tgt := 9) hx hb dX1_faultAs_4 (by decide) (fun c1 => ?_) (fun c1 => ?_)
  · replace h := oe c1 h
    refine lv_aload_n hx hb dX1_faultAs_9 rfl (lv_at hl 0 rfl) ?_
    refine rgS X Y hk0 2 (v := .int (σ (2 + k0) 2)) tw_116 rfl dX1_faultAs_10 ?_
    refine lv_iload_n hx hb dX1_faultAs_13 rfl (lv_at hl 1 rfl) ?_
    refine lv_icmp_ne (tgt := 21) hx hb dX1_faultAs_14 (by decide) (fun c2 => ?_) (fun c2 => ?_)
    · replace h := oe c2 h
      refine lv_iconst (v := 2) hx hb dX1_faultAs_21 (by decide) ?_
      obtain rfl := os1 h
      exact retI X Y hr hlk dX1_faultAs_22
    · replace h := ot c2 h
      refine lv_iconst (v := 0) hx hb dX1_faultAs_17 (by decide) ?_
      refine lv_goto (tgt := 22) hx hb dX1_faultAs_18 (by decide) ?_
      obtain rfl := os1 h
      exact retI X Y hr hlk dX1_faultAs_22
  · replace h := ot c1 h
    refine lv_iconst (v := 1) hx hb dX1_faultAs_7 (by decide) ?_
    obtain rfl := os1 h
    exact retI X Y hr hlk dX1_faultAs_8
set_option maxHeartbeats 4000000 in
set_option maxRecDepth 100000 in
theorem c_fX1_hasCell (l : Launch) (D : va_G) (g : Nat → ClassId) (ad : Nat → Nat) (σ : St) (k0 : Nat) (hk0 : k0 < 4) (v1 : Int32) {r0 : Int32} (h : fX1_hasCell σ k0 v1 = some r0) : MI l yX1_hasCell kX1_hasCell 0 0 D g (WC g ad σ) (WC g ad σ) [.ref (ad (2 + k0)), .int v1] r0 := by
  intro sz
  refine Met.of2 (Qc := fun A => QI D g A (WC g ad σ) r0) (cc := cX1_hasCell) (maxL := 2) (ret := (some .boolean)) (own := RX1) (by decide) rfl rfl (Nat.le_of_ble_eq_true rfl) ?_
  intro p e s m below meth c A ls X hr hlk hml Y hl
  have hx := X.1
  have hb := X.2.1
  have hl : lv_has ls 2 [(0, .ref (ad (2 + k0))), (1, .int v1)] := hl
  rw [fX1_hasCell] at h
  refine lv_iload_n hx hb dX1_hasCell_0 rfl (lv_at hl 1 rfl) ?_
  refine lv_if_lt (tgt := 16) hx hb dX1_hasCell_1 (by decide) (fun c1 => ?_) (fun c1 => ?_)
  · replace h := ot c1 h
    refine lv_iconst (v := 0) hx hb dX1_hasCell_16 (by decide) ?_
    obtain rfl := os1 h
    exact retZ X Y hr hlk rfl dX1_hasCell_17
  · replace h := oe c1 h
    refine lv_iload_n hx hb dX1_hasCell_4 rfl (lv_at hl 1 rfl) ?_
    refine lv_aload_n hx hb dX1_hasCell_5 rfl (lv_at hl 0 rfl) ?_
    refine rgS X Y hk0 3 (v := .int (σ (2 + k0) 3)) tw_118 rfl dX1_hasCell_6 ?_
    refine lv_icmp_ge (tgt := 16) hx hb dX1_hasCell_9 (by decide) (fun c2 => ?_) (fun c2 => ?_)
    · replace h := ot c2 h
      refine lv_iconst (v := 0) hx hb dX1_hasCell_16 (by decide) ?_
      obtain rfl := os1 h
      exact retZ X Y hr hlk rfl dX1_hasCell_17
    · replace h := oe c2 h
      refine lv_iconst (v := 1) hx hb dX1_hasCell_12 (by decide) ?_
      refine lv_goto (tgt := 17) hx hb dX1_hasCell_13 (by decide) ?_
      obtain rfl := os1 h
      exact retZ X Y hr hlk rfl dX1_hasCell_17
set_option maxHeartbeats 4000000 in
set_option maxRecDepth 100000 in
theorem c_fX1_hasCells (l : Launch) (D : va_G) (g : Nat → ClassId) (ad : Nat → Nat) (σ : St) (k0 : Nat) (hk0 : k0 < 4) (v1 : Int32) (v2 : Int32) {r0 : Int32} (h : fX1_hasCells σ k0 v1 v2 = some r0) : MI l yX1_hasCells kX1_hasCells 0 0 D g (WC g ad σ) (WC g ad σ) [.ref (ad (2 + k0)), .int v1, .int v2] r0 := by
  intro sz
  refine Met.of2 (Qc := fun A => QI D g A (WC g ad σ) r0) (cc := cX1_hasCells) (maxL := 3) (ret := (some .boolean)) (own := RX1) (by decide) rfl rfl (Nat.le_of_ble_eq_true rfl) ?_
  intro p e s m below meth c A ls X hr hlk hml Y hl
  have hx := X.1
  have hb := X.2.1
  have hl : lv_has ls 3 [(0, .ref (ad (2 + k0))), (1, .int v1), (2, .int v2)] := hl
  rw [fX1_hasCells] at h
  refine lv_iload_n hx hb dX1_hasCells_0 rfl (lv_at hl 1 rfl) ?_
  refine lv_if_lt (tgt := 30) hx hb dX1_hasCells_1 (by decide) (fun c1 => ?_) (fun c1 => ?_)
  · replace h := ot c1 h
    refine lv_iconst (v := 0) hx hb dX1_hasCells_30 (by decide) ?_
    obtain rfl := os1 h
    exact retZ X Y hr hlk rfl dX1_hasCells_31
  · replace h := oe c1 h
    refine lv_iload_n hx hb dX1_hasCells_4 rfl (lv_at hl 1 rfl) ?_
    refine lv_aload_n hx hb dX1_hasCells_5 rfl (lv_at hl 0 rfl) ?_
    refine rgS X Y hk0 3 (v := .int (σ (2 + k0) 3)) tw_118 rfl dX1_hasCells_6 ?_
    refine lv_icmp_gt (tgt := 30) hx hb dX1_hasCells_9 (by decide) (fun c2 => ?_) (fun c2 => ?_)
    · replace h := ot c2 h
      refine lv_iconst (v := 0) hx hb dX1_hasCells_30 (by decide) ?_
      obtain rfl := os1 h
      exact retZ X Y hr hlk rfl dX1_hasCells_31
    · replace h := oe c2 h
      refine lv_iload_n hx hb dX1_hasCells_12 rfl (lv_at hl 2 rfl) ?_
      refine lv_if_lt (tgt := 30) hx hb dX1_hasCells_13 (by decide) (fun c3 => ?_) (fun c3 => ?_)
      · replace h := ot c3 h
        refine lv_iconst (v := 0) hx hb dX1_hasCells_30 (by decide) ?_
        obtain rfl := os1 h
        exact retZ X Y hr hlk rfl dX1_hasCells_31
      · replace h := oe c3 h
        refine lv_iload_n hx hb dX1_hasCells_16 rfl (lv_at hl 2 rfl) ?_
        refine lv_aload_n hx hb dX1_hasCells_17 rfl (lv_at hl 0 rfl) ?_
        refine rgS X Y hk0 3 (v := .int (σ (2 + k0) 3)) tw_118 rfl dX1_hasCells_18 ?_
        refine lv_iload_n hx hb dX1_hasCells_21 rfl (lv_at hl 1 rfl) ?_
        refine lv_isub hx hb dX1_hasCells_22 ?_
        refine lv_icmp_gt (tgt := 30) hx hb dX1_hasCells_23 (by decide) (fun c4 => ?_) (fun c4 => ?_)
        · replace h := ot c4 h
          refine lv_iconst (v := 0) hx hb dX1_hasCells_30 (by decide) ?_
          obtain rfl := os1 h
          exact retZ X Y hr hlk rfl dX1_hasCells_31
        · replace h := oe c4 h
          refine lv_iconst (v := 1) hx hb dX1_hasCells_26 (by decide) ?_
          refine lv_goto (tgt := 31) hx hb dX1_hasCells_27 (by decide) ?_
          obtain rfl := os1 h
          exact retZ X Y hr hlk rfl dX1_hasCells_31
set_option maxHeartbeats 4000000 in
set_option maxRecDepth 100000 in
theorem c_fX1_store (l : Launch) (D : va_G) (g : Nat → ClassId) (ad : Nat → Nat) (σ : St) (k0 : Nat) (hk0 : k0 < 4) (v1 : Int32) (v2 : Int32) {σ0 : St} (h : fX1_store σ k0 v1 v2 = some σ0) : MV l yX1_store kX1_store 0 0 D g (WC g ad σ) (WC g ad σ0) [.ref (ad (2 + k0)), .int v1, .int v2] := by
  intro sz
  refine Met.of2 (Qc := fun A => QV D g A (WC g ad σ0)) (cc := cX1_store) (maxL := 3) (ret := none) (own := RX1) (by decide) rfl rfl (Nat.le_of_ble_eq_true rfl) ?_
  intro p e s m below meth c A ls X hr hlk hml Y hl
  have hx := X.1
  have hb := X.2.1
  have hl : lv_has ls 3 [(0, .ref (ad (2 + k0))), (1, .int v1), (2, .int v2)] := hl
  rw [fX1_store] at h
  refine lv_aload_n hx hb dX1_store_0 rfl (lv_at hl 0 rfl) ?_
  refine rgS X Y hk0 2 (v := .int (σ (2 + k0) 2)) tw_116 rfl dX1_store_1 ?_
  refine lv_if_ne (tgt := 18) hx hb dX1_store_4 (by decide) (fun c1 => ?_) (fun c1 => ?_)
  · replace h := oe c1 h
    refine lv_aload_n hx hb dX1_store_18 rfl (lv_at hl 0 rfl) ?_
    refine rgS X Y hk0 2 (v := .int (σ (2 + k0) 2)) tw_116 rfl dX1_store_19 ?_
    refine lv_iconst (v := 1) hx hb dX1_store_22 (by decide) ?_
    refine lv_icmp_ne (tgt := 37) hx hb dX1_store_23 (by decide) (fun c2 => ?_) (fun c2 => ?_)
    · replace h := oe c2 h
      refine lv_aload_n hx hb dX1_store_37 rfl (lv_at hl 0 rfl) ?_
      refine rgS X Y hk0 0 (v := .ref (ad (6 + k0))) tw_110 rfl dX1_store_38 ?_
      refine lv_iload_n hx hb dX1_store_41 rfl (lv_at hl 1 rfl) ?_
      refine lv_iload_n hx hb dX1_store_42 rfl (lv_at hl 2 rfl) ?_
      obtain ⟨hg3, h⟩ := og h
      refine ris X Y (W1 := WC g ad (up2 σ (6 + k0) v1.toNatClampNeg v2)) (lkA g ad σ hk0) hg3 (stA g ad σ _ hk0) dX1_store_43 (fun H locs Y => ?_)
      obtain rfl := os1 h
      exact retV X Y hr hlk dX1_store_44
    · replace h := ot c2 h
      refine lv_aload_n hx hb dX1_store_26 rfl (lv_at hl 0 rfl) ?_
      refine rgS X Y hk0 0 (v := .ref (ad (6 + k0))) tw_110 rfl dX1_store_27 ?_
      refine lv_iload_n hx hb dX1_store_30 rfl (lv_at hl 1 rfl) ?_
      refine lv_iload_n hx hb dX1_store_31 rfl (lv_at hl 2 rfl) ?_
      refine lv_i2s (v := v2.toInt16.toInt32) hx hb dX1_store_32 rfl ?_
      obtain ⟨hg4, h⟩ := og h
      refine ris X Y (W1 := WC g ad (up2 σ (6 + k0) v1.toNatClampNeg v2.toInt16.toInt32)) (lkA g ad σ hk0) hg4 (stA g ad σ _ hk0) dX1_store_33 (fun H locs Y => ?_)
      refine lv_goto (tgt := 44) hx hb dX1_store_34 (by decide) ?_
      obtain rfl := os1 h
      exact retV X Y hr hlk dX1_store_44
  · replace h := ot c1 h
    refine lv_aload_n hx hb dX1_store_7 rfl (lv_at hl 0 rfl) ?_
    refine rgS X Y hk0 0 (v := .ref (ad (6 + k0))) tw_110 rfl dX1_store_8 ?_
    refine lv_iload_n hx hb dX1_store_11 rfl (lv_at hl 1 rfl) ?_
    refine lv_iload_n hx hb dX1_store_12 rfl (lv_at hl 2 rfl) ?_
    refine lv_i2b (v := v2.toInt8.toInt32) hx hb dX1_store_13 rfl ?_
    obtain ⟨hg5, h⟩ := og h
    refine ris X Y (W1 := WC g ad (up2 σ (6 + k0) v1.toNatClampNeg v2.toInt8.toInt32)) (lkA g ad σ hk0) hg5 (stA g ad σ _ hk0) dX1_store_14 (fun H locs Y => ?_)
    refine lv_goto (tgt := 44) hx hb dX1_store_15 (by decide) ?_
    obtain rfl := os1 h
    exact retV X Y hr hlk dX1_store_44
set_option maxHeartbeats 4000000 in
set_option maxRecDepth 100000 in
theorem c_fX2_isDigit (l : Launch) (D : va_G) (g : Nat → ClassId) (W0 : va_W) (v0 : Int32) (v1 : Int32) (v2 : Int32) {r0 : Int32} (h : fX2_isDigit v0 v1 v2 = some r0) : MI l yX2_isDigit kX2_isDigit 0 0 D g (W0) (W0) [.int v0, .int v1, .int v2] r0 := by
  intro sz
  refine Met.of2 (Qc := fun A => QI D g A (W0) r0) (cc := cX2_isDigit) (maxL := 3) (ret := (some .boolean)) (own := RX2) (by decide) rfl rfl (Nat.le_of_ble_eq_true rfl) ?_
  intro p e s m below meth c A ls X hr hlk hml Y hl
  have hx := X.1
  have hb := X.2.1
  have hl : lv_has ls 3 [(0, .int v0), (1, .int v1), (2, .int v2)] := hl
  rw [fX2_isDigit] at h
  refine lv_iload_n hx hb dX2_isDigit_0 rfl (lv_at hl 0 rfl) ?_
  refine lv_bipush (v := 48) hx hb dX2_isDigit_1 (by decide) ?_
  refine lv_iload_n hx hb dX2_isDigit_3 rfl (lv_at hl 1 rfl) ?_
  refine lv_iadd hx hb dX2_isDigit_4 ?_
  refine lv_icmp_lt (tgt := 20) hx hb dX2_isDigit_5 (by decide) (fun c1 => ?_) (fun c1 => ?_)
  · replace h := ot c1 h
    refine lv_iconst (v := 0) hx hb dX2_isDigit_20 (by decide) ?_
    obtain rfl := os1 h
    exact retZ X Y hr hlk rfl dX2_isDigit_21
  · replace h := oe c1 h
    refine lv_iload_n hx hb dX2_isDigit_8 rfl (lv_at hl 0 rfl) ?_
    refine lv_bipush (v := 48) hx hb dX2_isDigit_9 (by decide) ?_
    refine lv_iload_n hx hb dX2_isDigit_11 rfl (lv_at hl 2 rfl) ?_
    refine lv_iadd hx hb dX2_isDigit_12 ?_
    refine lv_icmp_gt (tgt := 20) hx hb dX2_isDigit_13 (by decide) (fun c2 => ?_) (fun c2 => ?_)
    · replace h := ot c2 h
      refine lv_iconst (v := 0) hx hb dX2_isDigit_20 (by decide) ?_
      obtain rfl := os1 h
      exact retZ X Y hr hlk rfl dX2_isDigit_21
    · replace h := oe c2 h
      refine lv_iconst (v := 1) hx hb dX2_isDigit_16 (by decide) ?_
      refine lv_goto (tgt := 21) hx hb dX2_isDigit_17 (by decide) ?_
      obtain rfl := os1 h
      exact retZ X Y hr hlk rfl dX2_isDigit_21
set_option maxHeartbeats 4000000 in
set_option maxRecDepth 100000 in
theorem c_fX2_goesOnInPerson (l : Launch) (D : va_G) (g : Nat → ClassId) (W0 : va_W) (v0 : Int32) (v1 : Int32) (v2 : Int32) {r0 : Int32} (h : fX2_goesOnInPerson v0 v1 v2 = some r0) : MI l yX2_goesOnInPerson kX2_goesOnInPerson 1 22 D g (W0) (W0) [.int v0, .int v1, .int v2] r0 := by
  intro sz
  refine Met.of2 (Qc := fun A => QI D g A (W0) r0) (cc := cX2_goesOnInPerson) (maxL := 6) (ret := (some .boolean)) (own := RX2) (by decide) rfl rfl (Nat.le_of_ble_eq_true rfl) ?_
  intro p e s m below meth c A ls X hr hlk hml Y hl
  have hx := X.1
  have hb := X.2.1
  have hl : lv_has ls 6 [(0, .int v0), (1, .int v1), (2, .int v2)] := hl
  rw [fX2_goesOnInPerson] at h
  refine lv_iconst (v := 3) hx hb dX2_goesOnInPerson_0 (by decide) ?_
  refine lv_iload_n hx hb dX2_goesOnInPerson_1 rfl (lv_at hl 2 rfl) ?_
  refine lv_iadd hx hb dX2_goesOnInPerson_2 ?_
  refine lv_istore_n (lv' := [(3, .int ((3 : Int32) + v2)), (0, .int v0), (1, .int v1), (2, .int v2)]) hx hb dX2_goesOnInPerson_3 rfl hl (by decide) rfl (fun ls hl => ?_)
  refine lv_iload_n hx hb dX2_goesOnInPerson_4 rfl (lv_at hl 1 rfl) ?_
  refine lv_iload_n hx hb dX2_goesOnInPerson_5 rfl (lv_at hl 0 rfl) ?_
  obtain ⟨hg1, h⟩ := og h
  refine lv_idiv hx hb dX2_goesOnInPerson_6 hg1 ?_
  refine lv_istore (lv' := [(4, .int (v0 / ((3 : Int32) + v2))), (3, .int ((3 : Int32) + v2)), (0, .int v0), (1, .int v1), (2, .int v2)]) hx hb dX2_goesOnInPerson_7 hl (by decide) rfl (fun ls hl => ?_)
  refine lv_iload_n hx hb dX2_goesOnInPerson_9 rfl (lv_at hl 2 rfl) ?_
  refine lv_iload_n hx hb dX2_goesOnInPerson_10 rfl (lv_at hl 1 rfl) ?_
  obtain ⟨hg2, h⟩ := og h
  refine lv_irem hx hb dX2_goesOnInPerson_11 hg2 ?_
  refine lv_istore (lv' := [(5, .int (v0 - v0 / ((3 : Int32) + v2) * ((3 : Int32) + v2))), (4, .int (v0 / ((3 : Int32) + v2))), (3, .int ((3 : Int32) + v2)), (0, .int v0), (1, .int v1), (2, .int v2)]) hx hb dX2_goesOnInPerson_12 hl (by decide) rfl (fun ls hl => ?_)
  refine lv_iload hx hb dX2_goesOnInPerson_14 (lv_at hl 0 rfl) ?_
  by_cases c3 : v0 - v0 / ((3 : Int32) + v2) * ((3 : Int32) + v2) = 0
  · replace h := ot c3 h
    refine lv_tableIn (tgt := 44) (off := 28) hx hb dX2_goesOnInPerson_16 (by rw [c3]; decide) (by rw [c3]; decide) (by rw [c3]; rfl) (by decide) ?_
    refine lv_iload_n hx hb dX2_goesOnInPerson_44 rfl (lv_at hl 4 rfl) ?_
    refine lv_bipush (v := 44) hx hb dX2_goesOnInPerson_45 (by decide) ?_
    refine lv_icmp_ne (tgt := 54) hx hb dX2_goesOnInPerson_47 (by decide) (fun c4 => ?_) (fun c4 => ?_)
    · replace h := oe c4 h
      refine lv_iconst (v := 0) hx hb dX2_goesOnInPerson_54 (by decide) ?_
      obtain rfl := os1 h
      exact retZ X Y hr hlk rfl dX2_goesOnInPerson_55
    · replace h := ot c4 h
      refine lv_iconst (v := 1) hx hb dX2_goesOnInPerson_50 (by decide) ?_
      refine lv_goto (tgt := 55) hx hb dX2_goesOnInPerson_51 (by decide) ?_
      obtain rfl := os1 h
      exact retZ X Y hr hlk rfl dX2_goesOnInPerson_55
  · replace h := oe c3 h
    by_cases c5 : v0 - v0 / ((3 : Int32) + v2) * ((3 : Int32) + v2) = 1
    · replace h := ot c5 h
      refine lv_tableIn (tgt := 56) (off := 40) hx hb dX2_goesOnInPerson_16 (by rw [c5]; decide) (by rw [c5]; decide) (by rw [c5]; rfl) (by decide) ?_
      refine lv_iload_n hx hb dX2_goesOnInPerson_56 rfl (lv_at hl 4 rfl) ?_
      obtain ⟨r7, hg6, h⟩ := ob h
      refine cSi X (hml.trans hl.1.symm) Y (c_fX2_kindOf l D g W0 v1 hg6) (gs_X2_27 _) rfl fd_X2_kindOf ⟨Nat.le_of_ble_eq_true rfl, Nat.le_of_ble_eq_true rfl⟩ ⟨Nat.le_of_ble_eq_true rfl, Nat.le_of_ble_eq_true rfl⟩ (rest := []) rfl (Nat.le_of_ble_eq_true rfl) dX2_goesOnInPerson_57 (fun H locs Y => ?_)
      refine lv_bipush (v := (-9)) hx hb dX2_goesOnInPerson_60 (by decide) ?_
      refine lv_icmp_eq (tgt := 69) hx hb dX2_goesOnInPerson_62 (by decide) (fun c8 => ?_) (fun c8 => ?_)
      · replace h := ot c8 h
        refine lv_iconst (v := 0) hx hb dX2_goesOnInPerson_69 (by decide) ?_
        obtain rfl := os1 h
        exact retZ X Y hr hlk rfl dX2_goesOnInPerson_70
      · replace h := oe c8 h
        refine lv_iconst (v := 1) hx hb dX2_goesOnInPerson_65 (by decide) ?_
        refine lv_goto (tgt := 70) hx hb dX2_goesOnInPerson_66 (by decide) ?_
        obtain rfl := os1 h
        exact retZ X Y hr hlk rfl dX2_goesOnInPerson_70
    · replace h := oe c5 h
      by_cases c9 : v0 - v0 / ((3 : Int32) + v2) * ((3 : Int32) + v2) = 2
      · replace h := ot c9 h
        refine lv_tableIn (tgt := 71) (off := 55) hx hb dX2_goesOnInPerson_16 (by rw [c9]; decide) (by rw [c9]; decide) (by rw [c9]; rfl) (by decide) ?_
        refine lv_iload_n hx hb dX2_goesOnInPerson_71 rfl (lv_at hl 4 rfl) ?_
        refine lv_iconst (v := 0) hx hb dX2_goesOnInPerson_72 (by decide) ?_
        refine lv_iconst (v := 1) hx hb dX2_goesOnInPerson_73 (by decide) ?_
        obtain ⟨r11, hg10, h⟩ := ob h
        refine cSi X (hml.trans hl.1.symm) Y (c_fX2_isDigit l D g W0 v1 0 1 hg10) (gs_X2_21 _) rfl fd_X2_isDigit ⟨Nat.le_of_ble_eq_true rfl, Nat.le_of_ble_eq_true rfl⟩ ⟨Nat.le_of_ble_eq_true rfl, Nat.le_of_ble_eq_true rfl⟩ (rest := []) rfl (Nat.le_of_ble_eq_true rfl) dX2_goesOnInPerson_74 (fun H locs Y => ?_)
        obtain rfl := os1 h
        exact retZ X Y hr hlk (bz_fX2_isDigit hg10) dX2_goesOnInPerson_77
      · replace h := oe c9 h
        refine lv_tableOut (tgt := 78) hx hb dX2_goesOnInPerson_16 (by have q0 := lv_neT c3 (show (0 : Int32).toInt = 0 by decide); have q1 := lv_neT c5 (show (1 : Int32).toInt = 1 by decide); have q2 := lv_neT c9 (show (2 : Int32).toInt = 2 by decide); omega) (by decide) ?_
        refine lv_iload_n hx hb dX2_goesOnInPerson_78 rfl (lv_at hl 4 rfl) ?_
        refine lv_iconst (v := 0) hx hb dX2_goesOnInPerson_79 (by decide) ?_
        refine lv_iload hx hb dX2_goesOnInPerson_80 (lv_at hl 0 rfl) ?_
        refine lv_iconst (v := 3) hx hb dX2_goesOnInPerson_82 (by decide) ?_
        refine lv_isub hx hb dX2_goesOnInPerson_83 ?_
        refine lv_iload hx hb dX2_goesOnInPerson_84 (lv_at hl 1 rfl) ?_
        refine lv_icmp_ne (tgt := 93) hx hb dX2_goesOnInPerson_86 (by decide) (fun c12 => ?_) (fun c12 => ?_)
        · replace h := oe c12 h
          refine lv_bipush (v := 9) hx hb dX2_goesOnInPerson_93 (by decide) ?_
          obtain ⟨r14, hg13, h⟩ := ob h
          refine cSi X (hml.trans hl.1.symm) Y (c_fX2_isDigit l D g W0 v1 0 9 hg13) (gs_X2_21 _) rfl fd_X2_isDigit ⟨Nat.le_of_ble_eq_true rfl, Nat.le_of_ble_eq_true rfl⟩ ⟨Nat.le_of_ble_eq_true rfl, Nat.le_of_ble_eq_true rfl⟩ (rest := []) rfl (Nat.le_of_ble_eq_true rfl) dX2_goesOnInPerson_95 (fun H locs Y => ?_)
          obtain rfl := os1 h
          exact retZ X Y hr hlk (bz_fX2_isDigit hg13) dX2_goesOnInPerson_98
        · replace h := ot c12 h
          refine lv_iconst (v := 0) hx hb dX2_goesOnInPerson_89 (by decide) ?_
          refine lv_goto (tgt := 95) hx hb dX2_goesOnInPerson_90 (by decide) ?_
          obtain ⟨r16, hg15, h⟩ := ob h
          refine cSi X (hml.trans hl.1.symm) Y (c_fX2_isDigit l D g W0 v1 0 0 hg15) (gs_X2_21 _) rfl fd_X2_isDigit ⟨Nat.le_of_ble_eq_true rfl, Nat.le_of_ble_eq_true rfl⟩ ⟨Nat.le_of_ble_eq_true rfl, Nat.le_of_ble_eq_true rfl⟩ (rest := []) rfl (Nat.le_of_ble_eq_true rfl) dX2_goesOnInPerson_95 (fun H locs Y => ?_)
          obtain rfl := os1 h
          exact retZ X Y hr hlk (bz_fX2_isDigit hg15) dX2_goesOnInPerson_98
set_option maxHeartbeats 4000000 in
set_option maxRecDepth 100000 in
theorem c_fX2_goesOn (l : Launch) (D : va_G) (g : Nat → ClassId) (W0 : va_W) (v0 : Int32) (v1 : Int32) (v2 : Int32) {r0 : Int32} (h : fX2_goesOn v0 v1 v2 = some r0) : MI l yX2_goesOn kX2_goesOn 2 47 D g (W0) (W0) [.int v0, .int v1, .int v2] r0 := by
  intro sz
  refine Met.of2 (Qc := fun A => QI D g A (W0) r0) (cc := cX2_goesOn) (maxL := 3) (ret := (some .boolean)) (own := RX2) (by decide) rfl rfl (Nat.le_of_ble_eq_true rfl) ?_
  intro p e s m below meth c A ls X hr hlk hml Y hl
  have hx := X.1
  have hb := X.2.1
  have hl : lv_has ls 3 [(0, .int v0), (1, .int v1), (2, .int v2)] := hl
  rw [fX2_goesOn] at h
  refine lv_iload_n hx hb dX2_goesOn_0 rfl (lv_at hl 0 rfl) ?_
  by_cases c1 : v0 = 0
  · replace h := ot c1 h
    refine lv_tableIn (tgt := 32) (off := 31) hx hb dX2_goesOn_1 (by rw [c1]; decide) (by rw [c1]; decide) (by rw [c1]; rfl) (by decide) ?_
    refine lv_iload_n hx hb dX2_goesOn_32 rfl (lv_at hl 1 rfl) ?_
    refine lv_bipush (v := 111) hx hb dX2_goesOn_33 (by decide) ?_
    refine lv_icmp_ne (tgt := 42) hx hb dX2_goesOn_35 (by decide) (fun c2 => ?_) (fun c2 => ?_)
    · replace h := oe c2 h
      refine lv_iconst (v := 0) hx hb dX2_goesOn_42 (by decide) ?_
      obtain rfl := os1 h
      exact retZ X Y hr hlk rfl dX2_goesOn_43
    · replace h := ot c2 h
      refine lv_iconst (v := 1) hx hb dX2_goesOn_38 (by decide) ?_
      refine lv_goto (tgt := 43) hx hb dX2_goesOn_39 (by decide) ?_
      obtain rfl := os1 h
      exact retZ X Y hr hlk rfl dX2_goesOn_43
  · replace h := oe c1 h
    by_cases c3 : v0 = 1
    · replace h := ot c3 h
      refine lv_tableIn (tgt := 44) (off := 43) hx hb dX2_goesOn_1 (by rw [c3]; decide) (by rw [c3]; decide) (by rw [c3]; rfl) (by decide) ?_
      refine lv_iload_n hx hb dX2_goesOn_44 rfl (lv_at hl 1 rfl) ?_
      refine lv_iconst (v := 1) hx hb dX2_goesOn_45 (by decide) ?_
      refine lv_iconst (v := 3) hx hb dX2_goesOn_46 (by decide) ?_
      obtain ⟨r5, hg4, h⟩ := ob h
      refine cSi X (hml.trans hl.1.symm) Y (c_fX2_isDigit l D g W0 v1 1 3 hg4) (gs_X2_21 _) rfl fd_X2_isDigit ⟨Nat.le_of_ble_eq_true rfl, Nat.le_of_ble_eq_true rfl⟩ ⟨Nat.le_of_ble_eq_true rfl, Nat.le_of_ble_eq_true rfl⟩ (rest := []) rfl (Nat.le_of_ble_eq_true rfl) dX2_goesOn_47 (fun H locs Y => ?_)
      obtain rfl := os1 h
      exact retZ X Y hr hlk (bz_fX2_isDigit hg4) dX2_goesOn_50
    · replace h := oe c3 h
      by_cases c6 : v0 = 2
      · replace h := ot c6 h
        refine lv_tableIn (tgt := 51) (off := 50) hx hb dX2_goesOn_1 (by rw [c6]; decide) (by rw [c6]; decide) (by rw [c6]; rfl) (by decide) ?_
        refine lv_iload_n hx hb dX2_goesOn_51 rfl (lv_at hl 1 rfl) ?_
        refine lv_iconst (v := 1) hx hb dX2_goesOn_52 (by decide) ?_
        refine lv_iconst (v := 3) hx hb dX2_goesOn_53 (by decide) ?_
        obtain ⟨r8, hg7, h⟩ := ob h
        refine cSi X (hml.trans hl.1.symm) Y (c_fX2_isDigit l D g W0 v1 1 3 hg7) (gs_X2_21 _) rfl fd_X2_isDigit ⟨Nat.le_of_ble_eq_true rfl, Nat.le_of_ble_eq_true rfl⟩ ⟨Nat.le_of_ble_eq_true rfl, Nat.le_of_ble_eq_true rfl⟩ (rest := []) rfl (Nat.le_of_ble_eq_true rfl) dX2_goesOn_54 (fun H locs Y => ?_)
        obtain rfl := os1 h
        exact retZ X Y hr hlk (bz_fX2_isDigit hg7) dX2_goesOn_57
      · replace h := oe c6 h
        by_cases c9 : v0 = 3
        · replace h := ot c9 h
          refine lv_tableIn (tgt := 58) (off := 57) hx hb dX2_goesOn_1 (by rw [c9]; decide) (by rw [c9]; decide) (by rw [c9]; rfl) (by decide) ?_
          refine lv_iload_n hx hb dX2_goesOn_58 rfl (lv_at hl 1 rfl) ?_
          refine lv_iconst (v := 2) hx hb dX2_goesOn_59 (by decide) ?_
          refine lv_iconst (v := 5) hx hb dX2_goesOn_60 (by decide) ?_
          obtain ⟨r11, hg10, h⟩ := ob h
          refine cSi X (hml.trans hl.1.symm) Y (c_fX2_isDigit l D g W0 v1 2 5 hg10) (gs_X2_21 _) rfl fd_X2_isDigit ⟨Nat.le_of_ble_eq_true rfl, Nat.le_of_ble_eq_true rfl⟩ ⟨Nat.le_of_ble_eq_true rfl, Nat.le_of_ble_eq_true rfl⟩ (rest := []) rfl (Nat.le_of_ble_eq_true rfl) dX2_goesOn_61 (fun H locs Y => ?_)
          obtain rfl := os1 h
          exact retZ X Y hr hlk (bz_fX2_isDigit hg10) dX2_goesOn_64
        · replace h := oe c9 h
          refine lv_tableOut (tgt := 65) hx hb dX2_goesOn_1 (by have q0 := lv_neT c1 (show (0 : Int32).toInt = 0 by decide); have q1 := lv_neT c3 (show (1 : Int32).toInt = 1 by decide); have q2 := lv_neT c6 (show (2 : Int32).toInt = 2 by decide); have q3 := lv_neT c9 (show (3 : Int32).toInt = 3 by decide); omega) (by decide) ?_
          refine lv_iload_n hx hb dX2_goesOn_65 rfl (lv_at hl 0 rfl) ?_
          refine lv_iconst (v := 4) hx hb dX2_goesOn_66 (by decide) ?_
          refine lv_isub hx hb dX2_goesOn_67 ?_
          refine lv_iload_n hx hb dX2_goesOn_68 rfl (lv_at hl 1 rfl) ?_
          refine lv_iload_n hx hb dX2_goesOn_69 rfl (lv_at hl 2 rfl) ?_
          obtain ⟨r13, hg12, h⟩ := ob h
          refine cSi X (hml.trans hl.1.symm) Y (c_fX2_goesOnInPerson l D g W0 (v0 - 4) v1 v2 hg12) (gs_X2_24 _) rfl fd_X2_goesOnInPerson ⟨Nat.le_of_ble_eq_true rfl, Nat.le_of_ble_eq_true rfl⟩ ⟨Nat.le_of_ble_eq_true rfl, Nat.le_of_ble_eq_true rfl⟩ (rest := []) rfl (Nat.le_of_ble_eq_true rfl) dX2_goesOn_70 (fun H locs Y => ?_)
          obtain rfl := os1 h
          exact retZ X Y hr hlk (bz_fX2_goesOnInPerson hg12) dX2_goesOn_73
