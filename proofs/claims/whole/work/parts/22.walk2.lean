set_option maxHeartbeats 4000000 in
set_option maxRecDepth 100000 in
theorem w_fX2_firstFault_L8 {p : Program} {l : Launch} {e : Env} {s : State} {m : MethodId} {args : Array Value} {below : List Frame} {meth : Method} {c : Code} {D : va_G} {g : Nat → ClassId} {ad : Nat → Nat} {A : Nat → Prop} {r0 : Int32} (X : Cx p s m c args cX2_firstFault RX2 kX2_firstFault D g) (hr : meth.sig.returnType = (some .int)) (hlk : meth.locks = false) (hml : c.maxLocals = 7) : ∀ (n : Nat), ∀ (σ : St) (k0 : Nat) (hk0 : k0 < 4) (v1 : Int32) (v2 : Int32) (v3 : Int32) (v4 : Int32) (v5 : Int32) (H : Heap) (locs : List Loc) (ls : Array Slot), Hp D A s.heap H locs (WC g ad σ) → lv_has ls 7 [(0, .ref (ad (2 + k0))), (1, .int v1), (2, .int v2), (3, .int v3), (4, .int v4), (5, .int v5)] → fX2_firstFault_L8 n σ k0 v1 v2 v3 v4 v5 = some r0 → W p l e (RM 3 69) s m args below meth c H locs 0 0 (MQ below (QI D g A (WC g ad σ) r0) args s 0 0 A) (F0 m 8 ls []) := by
  have hx := X.1
  have hb := X.2.1
  intro n
  induction n with
  | zero => intro σ k0 hk0 v1 v2 v3 v4 v5 H locs ls Y hl h; cases (show none = _ from h)
  | succ n ih =>
    intro σ k0 hk0 v1 v2 v3 v4 v5 H locs ls Y hl h
    rw [fX2_firstFault_L8] at h
    refine lv_iload hx hb dX2_firstFault_8 (lv_at hl 5 rfl) ?_
    refine lv_iload_n hx hb dX2_firstFault_10 rfl (lv_at hl 2 rfl) ?_
    refine lv_icmp_ge (tgt := 73) hx hb dX2_firstFault_11 (by decide) (fun c1 => ?_) (fun c1 => ?_)
    · replace h := ot c1 h
      refine lv_iload_n hx hb dX2_firstFault_73 rfl (lv_at hl 2 rfl) ?_
      refine lv_iload hx hb dX2_firstFault_74 (lv_at hl 4 rfl) ?_
      refine lv_icmp_ge (tgt := 83) hx hb dX2_firstFault_76 (by decide) (fun c2 => ?_) (fun c2 => ?_)
      · replace h := ot c2 h
        refine lv_bipush (v := (-9)) hx hb dX2_firstFault_83 (by decide) ?_
        obtain rfl := os1 h
        exact retI X Y hr hlk dX2_firstFault_85
      · replace h := oe c2 h
        refine lv_iload_n hx hb dX2_firstFault_79 rfl (lv_at hl 2 rfl) ?_
        refine lv_goto (tgt := 85) hx hb dX2_firstFault_80 (by decide) ?_
        obtain rfl := os1 h
        exact retI X Y hr hlk dX2_firstFault_85
    · replace h := oe c1 h
      refine lv_aload_n hx hb dX2_firstFault_14 rfl (lv_at hl 0 rfl) ?_
      refine rgS X Y hk0 0 (v := .ref (ad (6 + k0))) tw_111 rfl dX2_firstFault_15 ?_
      refine lv_iload_n hx hb dX2_firstFault_18 rfl (lv_at hl 1 rfl) ?_
      refine lv_iload hx hb dX2_firstFault_19 (lv_at hl 5 rfl) ?_
      refine lv_iadd hx hb dX2_firstFault_21 ?_
      obtain ⟨hg3, h⟩ := og h
      refine ri X Y (lkA g ad σ hk0) hg3 dX2_firstFault_22 ?_
      refine lv_istore (lv' := [(6, .int (σ (6 + k0) (v1 + v5).toNatClampNeg)), (0, .ref (ad (2 + k0))), (1, .int v1), (2, .int v2), (3, .int v3), (4, .int v4), (5, .int v5)]) hx hb dX2_firstFault_23 hl (by decide) rfl (fun ls hl => ?_)
      refine lv_iload hx hb dX2_firstFault_25 (lv_at hl 6 rfl) ?_
      refine lv_iload hx hb dX2_firstFault_27 (lv_at hl 5 rfl) ?_
      refine lv_icmp_ge (tgt := 43) hx hb dX2_firstFault_29 (by decide) (fun c4 => ?_) (fun c4 => ?_)
      · replace h := ot c4 h
        refine lv_iload hx hb dX2_firstFault_43 (lv_at hl 6 rfl) ?_
        obtain rfl := os1 h
        exact retI X Y hr hlk dX2_firstFault_45
      · replace h := oe c4 h
        refine lv_iload hx hb dX2_firstFault_32 (lv_at hl 6 rfl) ?_
        refine lv_iload hx hb dX2_firstFault_34 (lv_at hl 0 rfl) ?_
        refine lv_iload_n hx hb dX2_firstFault_36 rfl (lv_at hl 4 rfl) ?_
        obtain ⟨r6, hg5, h⟩ := ob h
        refine cSi X (hml.trans hl.1.symm) Y (c_fX2_goesOn l D g (WC g ad σ) v5 (σ (6 + k0) (v1 + v5).toNatClampNeg) v3 hg5) (gs_X2_15 _) rfl fd_X2_goesOn ⟨Nat.le_of_ble_eq_true rfl, Nat.le_of_ble_eq_true rfl⟩ ⟨Nat.le_of_ble_eq_true rfl, Nat.le_of_ble_eq_true rfl⟩ (rest := []) rfl (Nat.le_of_ble_eq_true rfl) dX2_firstFault_37 (fun H locs Y => ?_)
        refine lv_if_ne (tgt := 46) hx hb dX2_firstFault_40 (by decide) (fun c7 => ?_) (fun c7 => ?_)
        · replace h := oe c7 h
          refine lv_iload hx hb dX2_firstFault_46 (lv_at hl 6 rfl) ?_
          refine lv_iconst (v := 3) hx hb dX2_firstFault_48 (by decide) ?_
          refine lv_icmp_ne (tgt := 67) hx hb dX2_firstFault_49 (by decide) (fun c8 => ?_) (fun c8 => ?_)
          · replace h := oe c8 h
            refine lv_iinc (v := v5 + 1) (lv' := [(5, .int (v5 + 1)), (6, .int (σ (6 + k0) (v1 + v5).toNatClampNeg)), (0, .ref (ad (2 + k0))), (1, .int v1), (2, .int v2), (3, .int v3), (4, .int v4)]) hx hb dX2_firstFault_67 hl (k := 6) rfl rfl (by decide) rfl (fun ls hl => ?_)
            refine lv_goto (tgt := 8) hx hb dX2_firstFault_70 (by decide) ?_
            exact ih σ k0 hk0 v1 v2 v3 v4 (v5 + 1) _ _ _ Y (lv_sub hl [2, 3, 4, 5, 6, 0] rfl) h
          · replace h := ot c8 h
            refine lv_iload hx hb dX2_firstFault_52 (lv_at hl 0 rfl) ?_
            refine lv_bipush (v := 48) hx hb dX2_firstFault_54 (by decide) ?_
            refine lv_isub hx hb dX2_firstFault_56 ?_
            refine lv_istore_n (lv' := [(3, .int ((σ (6 + k0) (v1 + v5).toNatClampNeg) - 48)), (6, .int (σ (6 + k0) (v1 + v5).toNatClampNeg)), (0, .ref (ad (2 + k0))), (1, .int v1), (2, .int v2), (4, .int v4), (5, .int v5)]) hx hb dX2_firstFault_57 rfl hl (by decide) rfl (fun ls hl => ?_)
            refine lv_iconst (v := 4) hx hb dX2_firstFault_58 (by decide) ?_
            refine lv_iload_n hx hb dX2_firstFault_59 rfl (lv_at hl 0 rfl) ?_
            refine lv_iconst (v := 3) hx hb dX2_firstFault_60 (by decide) ?_
            refine lv_iload_n hx hb dX2_firstFault_61 rfl (lv_at hl 0 rfl) ?_
            refine lv_iadd hx hb dX2_firstFault_62 ?_
            refine lv_imul hx hb dX2_firstFault_63 ?_
            refine lv_iadd hx hb dX2_firstFault_64 ?_
            refine lv_istore (lv' := [(4, .int ((4 : Int32) + (((σ (6 + k0) (v1 + v5).toNatClampNeg) - 48) * ((3 : Int32) + ((σ (6 + k0) (v1 + v5).toNatClampNeg) - 48))))), (3, .int ((σ (6 + k0) (v1 + v5).toNatClampNeg) - 48)), (6, .int (σ (6 + k0) (v1 + v5).toNatClampNeg)), (0, .ref (ad (2 + k0))), (1, .int v1), (2, .int v2), (5, .int v5)]) hx hb dX2_firstFault_65 hl (by decide) rfl (fun ls hl => ?_)
            refine lv_iinc (v := v5 + 1) (lv' := [(5, .int (v5 + 1)), (4, .int ((4 : Int32) + (((σ (6 + k0) (v1 + v5).toNatClampNeg) - 48) * ((3 : Int32) + ((σ (6 + k0) (v1 + v5).toNatClampNeg) - 48))))), (3, .int ((σ (6 + k0) (v1 + v5).toNatClampNeg) - 48)), (6, .int (σ (6 + k0) (v1 + v5).toNatClampNeg)), (0, .ref (ad (2 + k0))), (1, .int v1), (2, .int v2)]) hx hb dX2_firstFault_67 hl (k := 6) rfl rfl (by decide) rfl (fun ls hl => ?_)
            refine lv_goto (tgt := 8) hx hb dX2_firstFault_70 (by decide) ?_
            exact ih σ k0 hk0 v1 v2 ((σ (6 + k0) (v1 + v5).toNatClampNeg) - 48) ((4 : Int32) + (((σ (6 + k0) (v1 + v5).toNatClampNeg) - 48) * ((3 : Int32) + ((σ (6 + k0) (v1 + v5).toNatClampNeg) - 48)))) (v5 + 1) _ _ _ Y (lv_sub hl [4, 5, 6, 2, 1, 0] rfl) h
        · replace h := ot c7 h
          refine lv_iload hx hb dX2_firstFault_43 (lv_at hl 6 rfl) ?_
          obtain rfl := os1 h
          exact retI X Y hr hlk dX2_firstFault_45
set_option maxHeartbeats 4000000 in
set_option maxRecDepth 100000 in
theorem c_fX2_firstFault (l : Launch) (D : va_G) (g : Nat → ClassId) (ad : Nat → Nat) (σ : St) (n : Nat) (k0 : Nat) (hk0 : k0 < 4) (v1 : Int32) (v2 : Int32) {r0 : Int32} (h : fX2_firstFault n σ k0 v1 v2 = some r0) : MI l yX2_firstFault kX2_firstFault 3 69 D g (WC g ad σ) (WC g ad σ) [.ref (ad (2 + k0)), .int v1, .int v2] r0 := by
  intro sz
  refine Met.of2 (Qc := fun A => QI D g A (WC g ad σ) r0) (cc := cX2_firstFault) (maxL := 7) (ret := (some .int)) (own := RX2) (by decide) rfl rfl (Nat.le_of_ble_eq_true rfl) ?_
  intro p e s m below meth c A ls X hr hlk hml Y hl
  have hx := X.1
  have hb := X.2.1
  have hl : lv_has ls 7 [(0, .ref (ad (2 + k0))), (1, .int v1), (2, .int v2)] := hl
  rw [fX2_firstFault] at h
  refine lv_iconst (v := 0) hx hb dX2_firstFault_0 (by decide) ?_
  refine lv_istore_n (lv' := [(3, .int 0), (0, .ref (ad (2 + k0))), (1, .int v1), (2, .int v2)]) hx hb dX2_firstFault_1 rfl hl (by decide) rfl (fun ls hl => ?_)
  refine lv_iconst (v := 4) hx hb dX2_firstFault_2 (by decide) ?_
  refine lv_istore (lv' := [(4, .int 4), (3, .int 0), (0, .ref (ad (2 + k0))), (1, .int v1), (2, .int v2)]) hx hb dX2_firstFault_3 hl (by decide) rfl (fun ls hl => ?_)
  refine lv_iconst (v := 0) hx hb dX2_firstFault_5 (by decide) ?_
  refine lv_istore (lv' := [(5, .int 0), (4, .int 4), (3, .int 0), (0, .ref (ad (2 + k0))), (1, .int v1), (2, .int v2)]) hx hb dX2_firstFault_6 hl (by decide) rfl (fun ls hl => ?_)
  exact w_fX2_firstFault_L8 X hr hlk hml n σ k0 hk0 v1 v2 0 4 0 _ _ _ Y (lv_sub hl [3, 4, 5, 2, 1, 0] rfl) h
set_option maxHeartbeats 4000000 in
set_option maxRecDepth 100000 in
theorem c_fX3_isSheet (l : Launch) (D : va_G) (g : Nat → ClassId) (W0 : va_W) (v0 : Int32) {r0 : Int32} (h : fX3_isSheet v0 = some r0) : MI l yX3_isSheet kX3_isSheet 0 0 D g (W0) (W0) [.int v0] r0 := by
  intro sz
  refine Met.of2 (Qc := fun A => QI D g A (W0) r0) (cc := cX3_isSheet) (maxL := 1) (ret := (some .boolean)) (own := RX3) (by decide) rfl rfl (Nat.le_of_ble_eq_true rfl) ?_
  intro p e s m below meth c A ls X hr hlk hml Y hl
  have hx := X.1
  have hb := X.2.1
  have hl : lv_has ls 1 [(0, .int v0)] := hl
  rw [fX3_isSheet] at h
  refine lv_iload_n hx hb dX3_isSheet_0 rfl (lv_at hl 0 rfl) ?_
  refine lv_if_lt (tgt := 13) hx hb dX3_isSheet_1 (by decide) (fun c1 => ?_) (fun c1 => ?_)
  · replace h := ot c1 h
    refine lv_iconst (v := 0) hx hb dX3_isSheet_13 (by decide) ?_
    obtain rfl := os1 h
    exact retZ X Y hr hlk rfl dX3_isSheet_14
  · replace h := oe c1 h
    refine lv_iload_n hx hb dX3_isSheet_4 rfl (lv_at hl 0 rfl) ?_
    refine lv_iconst (v := 4) hx hb dX3_isSheet_5 (by decide) ?_
    refine lv_icmp_ge (tgt := 13) hx hb dX3_isSheet_6 (by decide) (fun c2 => ?_) (fun c2 => ?_)
    · replace h := ot c2 h
      refine lv_iconst (v := 0) hx hb dX3_isSheet_13 (by decide) ?_
      obtain rfl := os1 h
      exact retZ X Y hr hlk rfl dX3_isSheet_14
    · replace h := oe c2 h
      refine lv_iconst (v := 1) hx hb dX3_isSheet_9 (by decide) ?_
      refine lv_goto (tgt := 14) hx hb dX3_isSheet_10 (by decide) ?_
      obtain rfl := os1 h
      exact retZ X Y hr hlk rfl dX3_isSheet_14
set_option maxHeartbeats 4000000 in
set_option maxRecDepth 100000 in
theorem c_fX3_isLane (l : Launch) (D : va_G) (g : Nat → ClassId) (W0 : va_W) (v0 : Int32) {r0 : Int32} (h : fX3_isLane v0 = some r0) : MI l yX3_isLane kX3_isLane 0 0 D g (W0) (W0) [.int v0] r0 := by
  intro sz
  refine Met.of2 (Qc := fun A => QI D g A (W0) r0) (cc := cX3_isLane) (maxL := 1) (ret := (some .boolean)) (own := RX3) (by decide) rfl rfl (Nat.le_of_ble_eq_true rfl) ?_
  intro p e s m below meth c A ls X hr hlk hml Y hl
  have hx := X.1
  have hb := X.2.1
  have hl : lv_has ls 1 [(0, .int v0)] := hl
  rw [fX3_isLane] at h
  refine lv_iload_n hx hb dX3_isLane_0 rfl (lv_at hl 0 rfl) ?_
  refine lv_if_lt (tgt := 13) hx hb dX3_isLane_1 (by decide) (fun c1 => ?_) (fun c1 => ?_)
  · replace h := ot c1 h
    refine lv_iconst (v := 0) hx hb dX3_isLane_13 (by decide) ?_
    obtain rfl := os1 h
    exact retZ X Y hr hlk rfl dX3_isLane_14
  · replace h := oe c1 h
    refine lv_iload_n hx hb dX3_isLane_4 rfl (lv_at hl 0 rfl) ?_
    refine lv_iconst (v := 2) hx hb dX3_isLane_5 (by decide) ?_
    refine lv_icmp_gt (tgt := 13) hx hb dX3_isLane_6 (by decide) (fun c2 => ?_) (fun c2 => ?_)
    · replace h := ot c2 h
      refine lv_iconst (v := 0) hx hb dX3_isLane_13 (by decide) ?_
      obtain rfl := os1 h
      exact retZ X Y hr hlk rfl dX3_isLane_14
    · replace h := oe c2 h
      refine lv_iconst (v := 1) hx hb dX3_isLane_9 (by decide) ?_
      refine lv_goto (tgt := 14) hx hb dX3_isLane_10 (by decide) ?_
      obtain rfl := os1 h
      exact retZ X Y hr hlk rfl dX3_isLane_14
set_option maxHeartbeats 4000000 in
set_option maxRecDepth 100000 in
theorem c_fX3_faulted (l : Launch) (D : va_G) (g : Nat → ClassId) (ad : Nat → Nat) (σ : St) (v1 : Int32) {r0 : Int32} {σ0 : St} (h : fX3_faulted σ v1 = some (r0, σ0)) : MI l yX3_faulted kX3_faulted 0 0 D g (WC g ad σ) (WC g ad σ0) [.ref (ad 0), .int v1] r0 := by
  intro sz
  refine Met.of2 (Qc := fun A => QI D g A (WC g ad σ0) r0) (cc := cX3_faulted) (maxL := 2) (ret := (some .int)) (own := RX3) (by decide) rfl rfl (Nat.le_of_ble_eq_true rfl) ?_
  intro p e s m below meth c A ls X hr hlk hml Y hl
  have hx := X.1
  have hb := X.2.1
  have hl : lv_has ls 2 [(0, .ref (ad 0)), (1, .int v1)] := hl
  rw [fX3_faulted] at h
  refine lv_aload_n hx hb dX3_faulted_0 rfl (lv_at hl 0 rfl) ?_
  refine lv_iload_n hx hb dX3_faulted_1 rfl (lv_at hl 1 rfl) ?_
  refine rpX X Y 3 (v := v1) tw_131 rfl rfl rfl (stX_3 g ad σ v1) dX3_faulted_2 (fun H locs Y => ?_)
  refine lv_bipush (v := (-10)) hx hb dX3_faulted_5 (by decide) ?_
  refine lv_iload_n hx hb dX3_faulted_7 rfl (lv_at hl 1 rfl) ?_
  refine lv_isub hx hb dX3_faulted_8 ?_
  obtain ⟨rfl, rfl⟩ := os2 h
  exact retI X Y hr hlk dX3_faulted_9
set_option maxHeartbeats 4000000 in
set_option maxRecDepth 100000 in
theorem c_fX3_river (l : Launch) (D : va_G) (g : Nat → ClassId) (ad : Nat → Nat) (σ : St) (n : Nat) (v1 : Int32) (v2 : Int32) (v3 : Int32) (v4 : Int32) {r0 : Int32} {σ0 : St} (h : fX3_river n σ v1 v2 v3 v4 = some (r0, σ0)) : MI l yX3_river kX3_river 4 95 D g (WC g ad σ) (WC g ad σ0) [.ref (ad 0), .int v1, .int v2, .int v3, .int v4] r0 := by
  intro sz
  refine Met.of2 (Qc := fun A => QI D g A (WC g ad σ0) r0) (cc := cX3_river) (maxL := 8) (ret := (some .int)) (own := RX3) (by decide) rfl rfl (Nat.le_of_ble_eq_true rfl) ?_
  intro p e s m below meth c A ls X hr hlk hml Y hl
  have hx := X.1
  have hb := X.2.1
  have hl : lv_has ls 8 [(0, .ref (ad 0)), (1, .int v1), (2, .int v2), (3, .int v3), (4, .int v4)] := hl
  rw [fX3_river] at h
  refine lv_aload_n hx hb dX3_river_0 rfl (lv_at hl 0 rfl) ?_
  refine lv_iconst (v := 0) hx hb dX3_river_1 (by decide) ?_
  refine rpX X Y 3 (v := 0) tw_131 rfl rfl rfl (stX_3 g ad σ 0) dX3_river_2 (fun H locs Y => ?_)
  refine lv_iload_n hx hb dX3_river_5 rfl (lv_at hl 1 rfl) ?_
  obtain ⟨r2, hg1, h⟩ := ob h
  refine cSi X (hml.trans hl.1.symm) Y (c_fX3_isSheet l D g (WC g ad (up2 σ 0 3 0)) v1 hg1) (gs_X3_29 _) rfl fd_X3_isSheet ⟨Nat.le_of_ble_eq_true rfl, Nat.le_of_ble_eq_true rfl⟩ ⟨Nat.le_of_ble_eq_true rfl, Nat.le_of_ble_eq_true rfl⟩ (rest := []) rfl (Nat.le_of_ble_eq_true rfl) dX3_river_6 (fun H locs Y => ?_)
  refine lv_if_ne (tgt := 14) hx hb dX3_river_9 (by decide) (fun c3 => ?_) (fun c3 => ?_)
  · replace h := oe c3 h
    refine lv_iload_n hx hb dX3_river_14 rfl (lv_at hl 2 rfl) ?_
    obtain ⟨r5, hg4, h⟩ := ob h
    refine cSi X (hml.trans hl.1.symm) Y (c_fX3_isLane l D g (WC g ad (up2 σ 0 3 0)) v2 hg4) (gs_X3_33 _) rfl fd_X3_isLane ⟨Nat.le_of_ble_eq_true rfl, Nat.le_of_ble_eq_true rfl⟩ ⟨Nat.le_of_ble_eq_true rfl, Nat.le_of_ble_eq_true rfl⟩ (rest := []) rfl (Nat.le_of_ble_eq_true rfl) dX3_river_15 (fun H locs Y => ?_)
    refine lv_if_ne (tgt := 24) hx hb dX3_river_18 (by decide) (fun c6 => ?_) (fun c6 => ?_)
    · replace h := oe c6 h
      refine lv_aload_n hx hb dX3_river_24 rfl (lv_at hl 0 rfl) ?_
      refine rgX X Y 0 (v := .ref (ad 1)) tw_128 rfl dX3_river_25 ?_
      refine lv_iload_n hx hb dX3_river_28 rfl (lv_at hl 1 rfl) ?_
      obtain ⟨hg7, h⟩ := og h
      refine raS X Y hg7 dX3_river_29 ?_
      refine lv_astore (lv' := [(5, .ref (ad (2 + v1.toNatClampNeg))), (0, .ref (ad 0)), (1, .int v1), (2, .int v2), (3, .int v3), (4, .int v4)]) hx hb dX3_river_30 hl (by decide) rfl (fun ls hl => ?_)
      refine lv_aload hx hb dX3_river_32 (lv_at hl 0 rfl) ?_
      refine lv_iload_n hx hb dX3_river_34 rfl (lv_at hl 3 rfl) ?_
      obtain ⟨r9, hg8, h⟩ := ob h
      refine cVi X (hml.trans hl.1.symm) Y (c_fX1_faultAs l D g ad (up2 σ 0 3 0) v1.toNatClampNeg (clt hg7) v2 hg8) (lkS g ad (up2 σ 0 3 0) (clt hg7)) rfl (gs_X3_36 _) rfl fd_X1_faultAs ⟨Nat.le_of_ble_eq_true rfl, Nat.le_of_ble_eq_true rfl⟩ ⟨Nat.le_of_ble_eq_true rfl, Nat.le_of_ble_eq_true rfl⟩ (rest := []) rfl (Nat.le_of_ble_eq_true rfl) dX3_river_35 (fun H locs Y => ?_)
      refine lv_istore (lv' := [(6, .int r9), (5, .ref (ad (2 + v1.toNatClampNeg))), (0, .ref (ad 0)), (1, .int v1), (2, .int v2), (3, .int v3), (4, .int v4)]) hx hb dX3_river_38 hl (by decide) rfl (fun ls hl => ?_)
      refine lv_iload hx hb dX3_river_40 (lv_at hl 0 rfl) ?_
      refine lv_if_ne (tgt := 53) hx hb dX3_river_42 (by decide) (fun c10 => ?_) (fun c10 => ?_)
      · replace h := oe c10 h
        refine lv_iload hx hb dX3_river_53 (lv_at hl 0 rfl) ?_
        refine lv_if_ne (tgt := 72) hx hb dX3_river_55 (by decide) (fun c11 => ?_) (fun c11 => ?_)
        · replace h := oe c11 h
          refine lv_iload hx hb dX3_river_72 (lv_at hl 0 rfl) ?_
          refine lv_if_eq (tgt := 84) hx hb dX3_river_74 (by decide) (fun c12 => ?_) (fun c12 => ?_)
          · replace h := ot c12 h
            refine lv_aload hx hb dX3_river_84 (lv_at hl 1 rfl) ?_
            refine lv_iload_n hx hb dX3_river_86 rfl (lv_at hl 5 rfl) ?_
            refine lv_iload hx hb dX3_river_87 (lv_at hl 6 rfl) ?_
            obtain ⟨r14, hg13, h⟩ := ob h
            refine cSi X (hml.trans hl.1.symm) Y (c_fX2_firstFault l D g ad (up2 σ 0 3 0) n v1.toNatClampNeg (clt hg7) v3 v4 hg13) (gs_X3_47 _) rfl fd_X2_firstFault ⟨Nat.le_of_ble_eq_true rfl, Nat.le_of_ble_eq_true rfl⟩ ⟨Nat.le_of_ble_eq_true rfl, Nat.le_of_ble_eq_true rfl⟩ (rest := []) rfl (Nat.le_of_ble_eq_true rfl) dX3_river_89 (fun H locs Y => ?_)
            refine lv_istore (lv' := [(7, .int r14), (6, .int r9), (5, .ref (ad (2 + v1.toNatClampNeg))), (0, .ref (ad 0)), (1, .int v1), (2, .int v2), (3, .int v3), (4, .int v4)]) hx hb dX3_river_92 hl (by decide) rfl (fun ls hl => ?_)
            refine lv_iload hx hb dX3_river_94 (lv_at hl 0 rfl) ?_
            refine lv_bipush (v := (-9)) hx hb dX3_river_96 (by decide) ?_
            refine lv_icmp_eq (tgt := 107) hx hb dX3_river_98 (by decide) (fun c15 => ?_) (fun c15 => ?_)
            · replace h := ot c15 h
              refine lv_aload_n hx hb dX3_river_107 rfl (lv_at hl 3 rfl) ?_
              refine rgX X Y 1 (v := .ref (ad 10)) tw_129 rfl dX3_river_108 ?_
              refine lv_aload hx hb dX3_river_111 (lv_at hl 2 rfl) ?_
              refine lv_iload_n hx hb dX3_river_113 rfl (lv_at hl 6 rfl) ?_
              obtain ⟨σ17, hg16, h⟩ := ob h
              refine cVv X (hml.trans hl.1.symm) Y (c_fX0_takeText l D g ad (up2 σ 0 3 0) n v1.toNatClampNeg (clt hg7) v3 hg16) (lkR g ad (up2 σ 0 3 0)) rfl (gs_X3_53 _) rfl fd_X0_takeText ⟨Nat.le_of_ble_eq_true rfl, Nat.le_of_ble_eq_true rfl⟩ ⟨Nat.le_of_ble_eq_true rfl, Nat.le_of_ble_eq_true rfl⟩ (rest := []) rfl (Nat.le_of_ble_eq_true rfl) dX3_river_114 (fun H locs Y => ?_)
              refine lv_aload_n hx hb dX3_river_117 rfl (lv_at hl 3 rfl) ?_
              refine rgX X Y 1 (v := .ref (ad 10)) tw_129 rfl dX3_river_118 ?_
              refine rgR X Y 0 (v := .int (σ17 10 0)) tw_58 rfl dX3_river_121 ?_
              obtain ⟨rfl, rfl⟩ := os2 h
              exact retI X Y hr hlk dX3_river_124
            · replace h := oe c15 h
              refine lv_bipush (v := (-100)) hx hb dX3_river_101 (by decide) ?_
              refine lv_iload hx hb dX3_river_103 (lv_at hl 0 rfl) ?_
              refine lv_isub hx hb dX3_river_105 ?_
              obtain ⟨rfl, rfl⟩ := os2 h
              exact retI X Y hr hlk dX3_river_106
          · replace h := oe c12 h
            refine lv_aload_n hx hb dX3_river_77 rfl (lv_at hl 2 rfl) ?_
            refine lv_iload hx hb dX3_river_78 (lv_at hl 0 rfl) ?_
            obtain ⟨r19, σ19, hg18, h⟩ := ob2 h
            refine cVi X (hml.trans hl.1.symm) Y (c_fX3_faulted l D g ad (up2 σ 0 3 0) r9 hg18) (lkX g ad (up2 σ 0 3 0)) rfl (gs_X3_44 _) rfl fd_X3_faulted ⟨Nat.le_of_ble_eq_true rfl, Nat.le_of_ble_eq_true rfl⟩ ⟨Nat.le_of_ble_eq_true rfl, Nat.le_of_ble_eq_true rfl⟩ (rest := []) rfl (Nat.le_of_ble_eq_true rfl) dX3_river_80 (fun H locs Y => ?_)
            obtain ⟨rfl, rfl⟩ := os2 h
            exact retI X Y hr hlk dX3_river_83
        · replace h := ot c11 h
          refine lv_aload hx hb dX3_river_58 (lv_at hl 1 rfl) ?_
          refine lv_iload_n hx hb dX3_river_60 rfl (lv_at hl 5 rfl) ?_
          refine lv_iload hx hb dX3_river_61 (lv_at hl 6 rfl) ?_
          obtain ⟨r21, hg20, h⟩ := ob h
          refine cVi X (hml.trans hl.1.symm) Y (c_fX1_hasCells l D g ad (up2 σ 0 3 0) v1.toNatClampNeg (clt hg7) v3 v4 hg20) (lkS g ad (up2 σ 0 3 0) (clt hg7)) rfl (gs_X3_40 _) rfl fd_X1_hasCells ⟨Nat.le_of_ble_eq_true rfl, Nat.le_of_ble_eq_true rfl⟩ ⟨Nat.le_of_ble_eq_true rfl, Nat.le_of_ble_eq_true rfl⟩ (rest := []) rfl (Nat.le_of_ble_eq_true rfl) dX3_river_63 (fun H locs Y => ?_)
          refine lv_if_ne (tgt := 72) hx hb dX3_river_66 (by decide) (fun c22 => ?_) (fun c22 => ?_)
          · replace h := oe c22 h
            refine lv_iload hx hb dX3_river_72 (lv_at hl 0 rfl) ?_
            refine lv_if_eq (tgt := 84) hx hb dX3_river_74 (by decide) (fun c23 => ?_) (fun c23 => ?_)
            · replace h := ot c23 h
              refine lv_aload hx hb dX3_river_84 (lv_at hl 1 rfl) ?_
              refine lv_iload_n hx hb dX3_river_86 rfl (lv_at hl 5 rfl) ?_
              refine lv_iload hx hb dX3_river_87 (lv_at hl 6 rfl) ?_
              obtain ⟨r25, hg24, h⟩ := ob h
              refine cSi X (hml.trans hl.1.symm) Y (c_fX2_firstFault l D g ad (up2 σ 0 3 0) n v1.toNatClampNeg (clt hg7) v3 v4 hg24) (gs_X3_47 _) rfl fd_X2_firstFault ⟨Nat.le_of_ble_eq_true rfl, Nat.le_of_ble_eq_true rfl⟩ ⟨Nat.le_of_ble_eq_true rfl, Nat.le_of_ble_eq_true rfl⟩ (rest := []) rfl (Nat.le_of_ble_eq_true rfl) dX3_river_89 (fun H locs Y => ?_)
              refine lv_istore (lv' := [(7, .int r25), (6, .int r9), (5, .ref (ad (2 + v1.toNatClampNeg))), (0, .ref (ad 0)), (1, .int v1), (2, .int v2), (3, .int v3), (4, .int v4)]) hx hb dX3_river_92 hl (by decide) rfl (fun ls hl => ?_)
              refine lv_iload hx hb dX3_river_94 (lv_at hl 0 rfl) ?_
              refine lv_bipush (v := (-9)) hx hb dX3_river_96 (by decide) ?_
              refine lv_icmp_eq (tgt := 107) hx hb dX3_river_98 (by decide) (fun c26 => ?_) (fun c26 => ?_)
              · replace h := ot c26 h
                refine lv_aload_n hx hb dX3_river_107 rfl (lv_at hl 3 rfl) ?_
                refine rgX X Y 1 (v := .ref (ad 10)) tw_129 rfl dX3_river_108 ?_
                refine lv_aload hx hb dX3_river_111 (lv_at hl 2 rfl) ?_
                refine lv_iload_n hx hb dX3_river_113 rfl (lv_at hl 6 rfl) ?_
                obtain ⟨σ28, hg27, h⟩ := ob h
                refine cVv X (hml.trans hl.1.symm) Y (c_fX0_takeText l D g ad (up2 σ 0 3 0) n v1.toNatClampNeg (clt hg7) v3 hg27) (lkR g ad (up2 σ 0 3 0)) rfl (gs_X3_53 _) rfl fd_X0_takeText ⟨Nat.le_of_ble_eq_true rfl, Nat.le_of_ble_eq_true rfl⟩ ⟨Nat.le_of_ble_eq_true rfl, Nat.le_of_ble_eq_true rfl⟩ (rest := []) rfl (Nat.le_of_ble_eq_true rfl) dX3_river_114 (fun H locs Y => ?_)
                refine lv_aload_n hx hb dX3_river_117 rfl (lv_at hl 3 rfl) ?_
                refine rgX X Y 1 (v := .ref (ad 10)) tw_129 rfl dX3_river_118 ?_
                refine rgR X Y 0 (v := .int (σ28 10 0)) tw_58 rfl dX3_river_121 ?_
                obtain ⟨rfl, rfl⟩ := os2 h
                exact retI X Y hr hlk dX3_river_124
              · replace h := oe c26 h
                refine lv_bipush (v := (-100)) hx hb dX3_river_101 (by decide) ?_
                refine lv_iload hx hb dX3_river_103 (lv_at hl 0 rfl) ?_
                refine lv_isub hx hb dX3_river_105 ?_
                obtain ⟨rfl, rfl⟩ := os2 h
                exact retI X Y hr hlk dX3_river_106
            · replace h := oe c23 h
              refine lv_aload_n hx hb dX3_river_77 rfl (lv_at hl 2 rfl) ?_
              refine lv_iload hx hb dX3_river_78 (lv_at hl 0 rfl) ?_
              obtain ⟨r30, σ30, hg29, h⟩ := ob2 h
              refine cVi X (hml.trans hl.1.symm) Y (c_fX3_faulted l D g ad (up2 σ 0 3 0) r9 hg29) (lkX g ad (up2 σ 0 3 0)) rfl (gs_X3_44 _) rfl fd_X3_faulted ⟨Nat.le_of_ble_eq_true rfl, Nat.le_of_ble_eq_true rfl⟩ ⟨Nat.le_of_ble_eq_true rfl, Nat.le_of_ble_eq_true rfl⟩ (rest := []) rfl (Nat.le_of_ble_eq_true rfl) dX3_river_80 (fun H locs Y => ?_)
              obtain ⟨rfl, rfl⟩ := os2 h
              exact retI X Y hr hlk dX3_river_83
          · replace h := ot c22 h
            refine lv_iconst (v := 3) hx hb dX3_river_69 (by decide) ?_
            refine lv_istore (lv' := [(6, .int 3), (5, .ref (ad (2 + v1.toNatClampNeg))), (0, .ref (ad 0)), (1, .int v1), (2, .int v2), (3, .int v3), (4, .int v4)]) hx hb dX3_river_70 hl (by decide) rfl (fun ls hl => ?_)
            refine lv_iload hx hb dX3_river_72 (lv_at hl 0 rfl) ?_
            refine lv_if_eq (tgt := 84) hx hb dX3_river_74 (by decide) (fun c9 => absurd c9 (by decide)) (fun _ => ?_)
            refine lv_aload_n hx hb dX3_river_77 rfl (lv_at hl 2 rfl) ?_
            refine lv_iload hx hb dX3_river_78 (lv_at hl 0 rfl) ?_
            obtain ⟨r32, σ32, hg31, h⟩ := ob2 h
            refine cVi X (hml.trans hl.1.symm) Y (c_fX3_faulted l D g ad (up2 σ 0 3 0) 3 hg31) (lkX g ad (up2 σ 0 3 0)) rfl (gs_X3_44 _) rfl fd_X3_faulted ⟨Nat.le_of_ble_eq_true rfl, Nat.le_of_ble_eq_true rfl⟩ ⟨Nat.le_of_ble_eq_true rfl, Nat.le_of_ble_eq_true rfl⟩ (rest := []) rfl (Nat.le_of_ble_eq_true rfl) dX3_river_80 (fun H locs Y => ?_)
            obtain ⟨rfl, rfl⟩ := os2 h
            exact retI X Y hr hlk dX3_river_83
      · replace h := ot c10 h
        refine lv_iload hx hb dX3_river_45 (lv_at hl 6 rfl) ?_
        refine lv_if_ge (tgt := 53) hx hb dX3_river_47 (by decide) (fun c33 => ?_) (fun c33 => ?_)
        · replace h := ot c33 h
          refine lv_iload hx hb dX3_river_53 (lv_at hl 0 rfl) ?_
          refine lv_if_ne (tgt := 72) hx hb dX3_river_55 (by decide) (fun c34 => ?_) (fun c34 => ?_)
          · replace h := oe c34 h
            refine lv_iload hx hb dX3_river_72 (lv_at hl 0 rfl) ?_
            refine lv_if_eq (tgt := 84) hx hb dX3_river_74 (by decide) (fun c35 => ?_) (fun c35 => ?_)
            · replace h := ot c35 h
              refine lv_aload hx hb dX3_river_84 (lv_at hl 1 rfl) ?_
              refine lv_iload_n hx hb dX3_river_86 rfl (lv_at hl 5 rfl) ?_
              refine lv_iload hx hb dX3_river_87 (lv_at hl 6 rfl) ?_
              obtain ⟨r37, hg36, h⟩ := ob h
              refine cSi X (hml.trans hl.1.symm) Y (c_fX2_firstFault l D g ad (up2 σ 0 3 0) n v1.toNatClampNeg (clt hg7) v3 v4 hg36) (gs_X3_47 _) rfl fd_X2_firstFault ⟨Nat.le_of_ble_eq_true rfl, Nat.le_of_ble_eq_true rfl⟩ ⟨Nat.le_of_ble_eq_true rfl, Nat.le_of_ble_eq_true rfl⟩ (rest := []) rfl (Nat.le_of_ble_eq_true rfl) dX3_river_89 (fun H locs Y => ?_)
              refine lv_istore (lv' := [(7, .int r37), (6, .int r9), (5, .ref (ad (2 + v1.toNatClampNeg))), (0, .ref (ad 0)), (1, .int v1), (2, .int v2), (3, .int v3), (4, .int v4)]) hx hb dX3_river_92 hl (by decide) rfl (fun ls hl => ?_)
              refine lv_iload hx hb dX3_river_94 (lv_at hl 0 rfl) ?_
              refine lv_bipush (v := (-9)) hx hb dX3_river_96 (by decide) ?_
              refine lv_icmp_eq (tgt := 107) hx hb dX3_river_98 (by decide) (fun c38 => ?_) (fun c38 => ?_)
              · replace h := ot c38 h
                refine lv_aload_n hx hb dX3_river_107 rfl (lv_at hl 3 rfl) ?_
                refine rgX X Y 1 (v := .ref (ad 10)) tw_129 rfl dX3_river_108 ?_
                refine lv_aload hx hb dX3_river_111 (lv_at hl 2 rfl) ?_
                refine lv_iload_n hx hb dX3_river_113 rfl (lv_at hl 6 rfl) ?_
                obtain ⟨σ40, hg39, h⟩ := ob h
                refine cVv X (hml.trans hl.1.symm) Y (c_fX0_takeText l D g ad (up2 σ 0 3 0) n v1.toNatClampNeg (clt hg7) v3 hg39) (lkR g ad (up2 σ 0 3 0)) rfl (gs_X3_53 _) rfl fd_X0_takeText ⟨Nat.le_of_ble_eq_true rfl, Nat.le_of_ble_eq_true rfl⟩ ⟨Nat.le_of_ble_eq_true rfl, Nat.le_of_ble_eq_true rfl⟩ (rest := []) rfl (Nat.le_of_ble_eq_true rfl) dX3_river_114 (fun H locs Y => ?_)
                refine lv_aload_n hx hb dX3_river_117 rfl (lv_at hl 3 rfl) ?_
                refine rgX X Y 1 (v := .ref (ad 10)) tw_129 rfl dX3_river_118 ?_
                refine rgR X Y 0 (v := .int (σ40 10 0)) tw_58 rfl dX3_river_121 ?_
                obtain ⟨rfl, rfl⟩ := os2 h
                exact retI X Y hr hlk dX3_river_124
              · replace h := oe c38 h
                refine lv_bipush (v := (-100)) hx hb dX3_river_101 (by decide) ?_
                refine lv_iload hx hb dX3_river_103 (lv_at hl 0 rfl) ?_
                refine lv_isub hx hb dX3_river_105 ?_
                obtain ⟨rfl, rfl⟩ := os2 h
                exact retI X Y hr hlk dX3_river_106
            · replace h := oe c35 h
              refine lv_aload_n hx hb dX3_river_77 rfl (lv_at hl 2 rfl) ?_
              refine lv_iload hx hb dX3_river_78 (lv_at hl 0 rfl) ?_
              obtain ⟨r42, σ42, hg41, h⟩ := ob2 h
              refine cVi X (hml.trans hl.1.symm) Y (c_fX3_faulted l D g ad (up2 σ 0 3 0) r9 hg41) (lkX g ad (up2 σ 0 3 0)) rfl (gs_X3_44 _) rfl fd_X3_faulted ⟨Nat.le_of_ble_eq_true rfl, Nat.le_of_ble_eq_true rfl⟩ ⟨Nat.le_of_ble_eq_true rfl, Nat.le_of_ble_eq_true rfl⟩ (rest := []) rfl (Nat.le_of_ble_eq_true rfl) dX3_river_80 (fun H locs Y => ?_)
              obtain ⟨rfl, rfl⟩ := os2 h
              exact retI X Y hr hlk dX3_river_83
          · replace h := ot c34 h
            refine lv_aload hx hb dX3_river_58 (lv_at hl 1 rfl) ?_
            refine lv_iload_n hx hb dX3_river_60 rfl (lv_at hl 5 rfl) ?_
            refine lv_iload hx hb dX3_river_61 (lv_at hl 6 rfl) ?_
            obtain ⟨r44, hg43, h⟩ := ob h
            refine cVi X (hml.trans hl.1.symm) Y (c_fX1_hasCells l D g ad (up2 σ 0 3 0) v1.toNatClampNeg (clt hg7) v3 v4 hg43) (lkS g ad (up2 σ 0 3 0) (clt hg7)) rfl (gs_X3_40 _) rfl fd_X1_hasCells ⟨Nat.le_of_ble_eq_true rfl, Nat.le_of_ble_eq_true rfl⟩ ⟨Nat.le_of_ble_eq_true rfl, Nat.le_of_ble_eq_true rfl⟩ (rest := []) rfl (Nat.le_of_ble_eq_true rfl) dX3_river_63 (fun H locs Y => ?_)
            refine lv_if_ne (tgt := 72) hx hb dX3_river_66 (by decide) (fun c45 => ?_) (fun c45 => ?_)
            · replace h := oe c45 h
              refine lv_iload hx hb dX3_river_72 (lv_at hl 0 rfl) ?_
              refine lv_if_eq (tgt := 84) hx hb dX3_river_74 (by decide) (fun c46 => ?_) (fun c46 => ?_)
              · replace h := ot c46 h
                refine lv_aload hx hb dX3_river_84 (lv_at hl 1 rfl) ?_
                refine lv_iload_n hx hb dX3_river_86 rfl (lv_at hl 5 rfl) ?_
                refine lv_iload hx hb dX3_river_87 (lv_at hl 6 rfl) ?_
                obtain ⟨r48, hg47, h⟩ := ob h
                refine cSi X (hml.trans hl.1.symm) Y (c_fX2_firstFault l D g ad (up2 σ 0 3 0) n v1.toNatClampNeg (clt hg7) v3 v4 hg47) (gs_X3_47 _) rfl fd_X2_firstFault ⟨Nat.le_of_ble_eq_true rfl, Nat.le_of_ble_eq_true rfl⟩ ⟨Nat.le_of_ble_eq_true rfl, Nat.le_of_ble_eq_true rfl⟩ (rest := []) rfl (Nat.le_of_ble_eq_true rfl) dX3_river_89 (fun H locs Y => ?_)
                refine lv_istore (lv' := [(7, .int r48), (6, .int r9), (5, .ref (ad (2 + v1.toNatClampNeg))), (0, .ref (ad 0)), (1, .int v1), (2, .int v2), (3, .int v3), (4, .int v4)]) hx hb dX3_river_92 hl (by decide) rfl (fun ls hl => ?_)
                refine lv_iload hx hb dX3_river_94 (lv_at hl 0 rfl) ?_
                refine lv_bipush (v := (-9)) hx hb dX3_river_96 (by decide) ?_
                refine lv_icmp_eq (tgt := 107) hx hb dX3_river_98 (by decide) (fun c49 => ?_) (fun c49 => ?_)
                · replace h := ot c49 h
                  refine lv_aload_n hx hb dX3_river_107 rfl (lv_at hl 3 rfl) ?_
                  refine rgX X Y 1 (v := .ref (ad 10)) tw_129 rfl dX3_river_108 ?_
                  refine lv_aload hx hb dX3_river_111 (lv_at hl 2 rfl) ?_
                  refine lv_iload_n hx hb dX3_river_113 rfl (lv_at hl 6 rfl) ?_
                  obtain ⟨σ51, hg50, h⟩ := ob h
                  refine cVv X (hml.trans hl.1.symm) Y (c_fX0_takeText l D g ad (up2 σ 0 3 0) n v1.toNatClampNeg (clt hg7) v3 hg50) (lkR g ad (up2 σ 0 3 0)) rfl (gs_X3_53 _) rfl fd_X0_takeText ⟨Nat.le_of_ble_eq_true rfl, Nat.le_of_ble_eq_true rfl⟩ ⟨Nat.le_of_ble_eq_true rfl, Nat.le_of_ble_eq_true rfl⟩ (rest := []) rfl (Nat.le_of_ble_eq_true rfl) dX3_river_114 (fun H locs Y => ?_)
                  refine lv_aload_n hx hb dX3_river_117 rfl (lv_at hl 3 rfl) ?_
                  refine rgX X Y 1 (v := .ref (ad 10)) tw_129 rfl dX3_river_118 ?_
                  refine rgR X Y 0 (v := .int (σ51 10 0)) tw_58 rfl dX3_river_121 ?_
                  obtain ⟨rfl, rfl⟩ := os2 h
                  exact retI X Y hr hlk dX3_river_124
                · replace h := oe c49 h
                  refine lv_bipush (v := (-100)) hx hb dX3_river_101 (by decide) ?_
                  refine lv_iload hx hb dX3_river_103 (lv_at hl 0 rfl) ?_
                  refine lv_isub hx hb dX3_river_105 ?_
                  obtain ⟨rfl, rfl⟩ := os2 h
                  exact retI X Y hr hlk dX3_river_106
              · replace h := oe c46 h
                refine lv_aload_n hx hb dX3_river_77 rfl (lv_at hl 2 rfl) ?_
                refine lv_iload hx hb dX3_river_78 (lv_at hl 0 rfl) ?_
                obtain ⟨r53, σ53, hg52, h⟩ := ob2 h
                refine cVi X (hml.trans hl.1.symm) Y (c_fX3_faulted l D g ad (up2 σ 0 3 0) r9 hg52) (lkX g ad (up2 σ 0 3 0)) rfl (gs_X3_44 _) rfl fd_X3_faulted ⟨Nat.le_of_ble_eq_true rfl, Nat.le_of_ble_eq_true rfl⟩ ⟨Nat.le_of_ble_eq_true rfl, Nat.le_of_ble_eq_true rfl⟩ (rest := []) rfl (Nat.le_of_ble_eq_true rfl) dX3_river_80 (fun H locs Y => ?_)
                obtain ⟨rfl, rfl⟩ := os2 h
                exact retI X Y hr hlk dX3_river_83
            · replace h := ot c45 h
              refine lv_iconst (v := 3) hx hb dX3_river_69 (by decide) ?_
              refine lv_istore (lv' := [(6, .int 3), (5, .ref (ad (2 + v1.toNatClampNeg))), (0, .ref (ad 0)), (1, .int v1), (2, .int v2), (3, .int v3), (4, .int v4)]) hx hb dX3_river_70 hl (by decide) rfl (fun ls hl => ?_)
              refine lv_iload hx hb dX3_river_72 (lv_at hl 0 rfl) ?_
              refine lv_if_eq (tgt := 84) hx hb dX3_river_74 (by decide) (fun c9 => absurd c9 (by decide)) (fun _ => ?_)
              refine lv_aload_n hx hb dX3_river_77 rfl (lv_at hl 2 rfl) ?_
              refine lv_iload hx hb dX3_river_78 (lv_at hl 0 rfl) ?_
              obtain ⟨r55, σ55, hg54, h⟩ := ob2 h
              refine cVi X (hml.trans hl.1.symm) Y (c_fX3_faulted l D g ad (up2 σ 0 3 0) 3 hg54) (lkX g ad (up2 σ 0 3 0)) rfl (gs_X3_44 _) rfl fd_X3_faulted ⟨Nat.le_of_ble_eq_true rfl, Nat.le_of_ble_eq_true rfl⟩ ⟨Nat.le_of_ble_eq_true rfl, Nat.le_of_ble_eq_true rfl⟩ (rest := []) rfl (Nat.le_of_ble_eq_true rfl) dX3_river_80 (fun H locs Y => ?_)
              obtain ⟨rfl, rfl⟩ := os2 h
              exact retI X Y hr hlk dX3_river_83
        · replace h := oe c33 h
          refine lv_iconst (v := 4) hx hb dX3_river_50 (by decide) ?_
          refine lv_istore (lv' := [(6, .int 4), (5, .ref (ad (2 + v1.toNatClampNeg))), (0, .ref (ad 0)), (1, .int v1), (2, .int v2), (3, .int v3), (4, .int v4)]) hx hb dX3_river_51 hl (by decide) rfl (fun ls hl => ?_)
          refine lv_iload hx hb dX3_river_53 (lv_at hl 0 rfl) ?_
          refine lv_if_ne (tgt := 72) hx hb dX3_river_55 (by decide) (fun _ => ?_) (fun c9 => absurd c9 (by decide))
          refine lv_iload hx hb dX3_river_72 (lv_at hl 0 rfl) ?_
          refine lv_if_eq (tgt := 84) hx hb dX3_river_74 (by decide) (fun c9 => absurd c9 (by decide)) (fun _ => ?_)
          refine lv_aload_n hx hb dX3_river_77 rfl (lv_at hl 2 rfl) ?_
          refine lv_iload hx hb dX3_river_78 (lv_at hl 0 rfl) ?_
          obtain ⟨r57, σ57, hg56, h⟩ := ob2 h
          refine cVi X (hml.trans hl.1.symm) Y (c_fX3_faulted l D g ad (up2 σ 0 3 0) 4 hg56) (lkX g ad (up2 σ 0 3 0)) rfl (gs_X3_44 _) rfl fd_X3_faulted ⟨Nat.le_of_ble_eq_true rfl, Nat.le_of_ble_eq_true rfl⟩ ⟨Nat.le_of_ble_eq_true rfl, Nat.le_of_ble_eq_true rfl⟩ (rest := []) rfl (Nat.le_of_ble_eq_true rfl) dX3_river_80 (fun H locs Y => ?_)
          obtain ⟨rfl, rfl⟩ := os2 h
          exact retI X Y hr hlk dX3_river_83
    · replace h := ot c6 h
      refine lv_bipush (v := (-2)) hx hb dX3_river_21 (by decide) ?_
      obtain ⟨rfl, rfl⟩ := os2 h
      exact retI X Y hr hlk dX3_river_23
  · replace h := ot c3 h
    refine lv_iconst (v := (-1)) hx hb dX3_river_12 (by decide) ?_
    obtain ⟨rfl, rfl⟩ := os2 h
    exact retI X Y hr hlk dX3_river_13
set_option maxHeartbeats 4000000 in
set_option maxRecDepth 100000 in
theorem c_fX3_ofPerson (l : Launch) (D : va_G) (g : Nat → ClassId) (ad : Nat → Nat) (σ : St) (n : Nat) (v1 : Int32) (v2 : Int32) {r0 : Int32} (h : fX3_ofPerson n σ v1 v2 = some r0) : MI l yX3_ofPerson kX3_ofPerson 1 23 D g (WC g ad σ) (WC g ad σ) [.ref (ad 0), .int v1, .int v2] r0 := by
  intro sz
  refine Met.of2 (Qc := fun A => QI D g A (WC g ad σ) r0) (cc := cX3_ofPerson) (maxL := 3) (ret := (some .int)) (own := RX3) (by decide) rfl rfl (Nat.le_of_ble_eq_true rfl) ?_
  intro p e s m below meth c A ls X hr hlk hml Y hl
  have hx := X.1
  have hb := X.2.1
  have hl : lv_has ls 3 [(0, .ref (ad 0)), (1, .int v1), (2, .int v2)] := hl
  rw [fX3_ofPerson] at h
  refine lv_aload_n hx hb dX3_ofPerson_0 rfl (lv_at hl 0 rfl) ?_
  refine rgX X Y 1 (v := .ref (ad 10)) tw_129 rfl dX3_ofPerson_1 ?_
  refine lv_iload_n hx hb dX3_ofPerson_4 rfl (lv_at hl 1 rfl) ?_
  obtain ⟨r2, hg1, h⟩ := ob h
  refine cVi X (hml.trans hl.1.symm) Y (c_fX0_isPerson l D g ad σ v1 hg1) (lkR g ad σ) rfl (gs_X3_60 _) rfl fd_X0_isPerson ⟨Nat.le_of_ble_eq_true rfl, Nat.le_of_ble_eq_true rfl⟩ ⟨Nat.le_of_ble_eq_true rfl, Nat.le_of_ble_eq_true rfl⟩ (rest := []) rfl (Nat.le_of_ble_eq_true rfl) dX3_ofPerson_5 (fun H locs Y => ?_)
  refine lv_if_ne (tgt := 13) hx hb dX3_ofPerson_8 (by decide) (fun c3 => ?_) (fun c3 => ?_)
  · replace h := oe c3 h
    refine lv_iload_n hx hb dX3_ofPerson_13 rfl (lv_at hl 2 rfl) ?_
    by_cases c4 : v2 = 0
    · replace h := ot c4 h
      refine lv_tableIn (tgt := 40) (off := 26) hx hb dX3_ofPerson_14 (by rw [c4]; decide) (by rw [c4]; decide) (by rw [c4]; rfl) (by decide) ?_
      refine lv_aload_n hx hb dX3_ofPerson_40 rfl (lv_at hl 0 rfl) ?_
      refine rgX X Y 1 (v := .ref (ad 10)) tw_129 rfl dX3_ofPerson_41 ?_
      refine rgR X Y 4 (v := .ref (ad 11)) tw_66 rfl dX3_ofPerson_44 ?_
      refine lv_iload_n hx hb dX3_ofPerson_47 rfl (lv_at hl 1 rfl) ?_
      obtain ⟨hg5, h⟩ := og h
      refine ri X Y (lkC_11 g ad σ) hg5 dX3_ofPerson_48 ?_
      obtain rfl := os1 h
      exact retI X Y hr hlk dX3_ofPerson_49
    · replace h := oe c4 h
      by_cases c6 : v2 = 1
      · replace h := ot c6 h
        refine lv_tableIn (tgt := 50) (off := 36) hx hb dX3_ofPerson_14 (by rw [c6]; decide) (by rw [c6]; decide) (by rw [c6]; rfl) (by decide) ?_
        refine lv_aload_n hx hb dX3_ofPerson_50 rfl (lv_at hl 0 rfl) ?_
        refine rgX X Y 1 (v := .ref (ad 10)) tw_129 rfl dX3_ofPerson_51 ?_
        refine rgR X Y 3 (v := .int (σ 10 3)) tw_63 rfl dX3_ofPerson_54 ?_
        refine lv_iload_n hx hb dX3_ofPerson_57 rfl (lv_at hl 1 rfl) ?_
        refine lv_ishr hx hb dX3_ofPerson_58 ?_
        refine lv_iconst (v := 1) hx hb dX3_ofPerson_59 (by decide) ?_
        refine lv_iand hx hb dX3_ofPerson_60 ?_
        obtain rfl := os1 h
        exact retI X Y hr hlk dX3_ofPerson_61
      · replace h := oe c6 h
        by_cases c7 : v2 = 2
        · replace h := ot c7 h
          refine lv_tableIn (tgt := 62) (off := 48) hx hb dX3_ofPerson_14 (by rw [c7]; decide) (by rw [c7]; decide) (by rw [c7]; rfl) (by decide) ?_
          refine lv_aload_n hx hb dX3_ofPerson_62 rfl (lv_at hl 0 rfl) ?_
          refine rgX X Y 1 (v := .ref (ad 10)) tw_129 rfl dX3_ofPerson_63 ?_
          refine lv_iload_n hx hb dX3_ofPerson_66 rfl (lv_at hl 1 rfl) ?_
          obtain ⟨r9, hg8, h⟩ := ob h
          refine cVi X (hml.trans hl.1.symm) Y (c_fX0_allNotes l D g ad σ n v1 hg8) (lkR g ad σ) rfl (gs_X3_70 _) rfl fd_X0_allNotes ⟨Nat.le_of_ble_eq_true rfl, Nat.le_of_ble_eq_true rfl⟩ ⟨Nat.le_of_ble_eq_true rfl, Nat.le_of_ble_eq_true rfl⟩ (rest := []) rfl (Nat.le_of_ble_eq_true rfl) dX3_ofPerson_67 (fun H locs Y => ?_)
          obtain rfl := os1 h
          exact retI X Y hr hlk dX3_ofPerson_70
        · replace h := oe c7 h
          refine lv_tableOut (tgt := 71) hx hb dX3_ofPerson_14 (by have q0 := lv_neT c4 (show (0 : Int32).toInt = 0 by decide); have q1 := lv_neT c6 (show (1 : Int32).toInt = 1 by decide); have q2 := lv_neT c7 (show (2 : Int32).toInt = 2 by decide); omega) (by decide) ?_
          refine lv_bipush (v := (-2)) hx hb dX3_ofPerson_71 (by decide) ?_
          obtain rfl := os1 h
          exact retI X Y hr hlk dX3_ofPerson_73
  · replace h := ot c3 h
    refine lv_iconst (v := (-1)) hx hb dX3_ofPerson_11 (by decide) ?_
    obtain rfl := os1 h
    exact retI X Y hr hlk dX3_ofPerson_12
set_option maxHeartbeats 4000000 in
set_option maxRecDepth 100000 in
theorem c_fX3_owes (l : Launch) (D : va_G) (g : Nat → ClassId) (ad : Nat → Nat) (σ : St) (v1 : Int32) (v2 : Int32) {r0 : Int32} (h : fX3_owes σ v1 v2 = some r0) : MI l yX3_owes kX3_owes 1 21 D g (WC g ad σ) (WC g ad σ) [.ref (ad 0), .int v1, .int v2] r0 := by
  intro sz
  refine Met.of2 (Qc := fun A => QI D g A (WC g ad σ) r0) (cc := cX3_owes) (maxL := 3) (ret := (some .int)) (own := RX3) (by decide) rfl rfl (Nat.le_of_ble_eq_true rfl) ?_
  intro p e s m below meth c A ls X hr hlk hml Y hl
  have hx := X.1
  have hb := X.2.1
  have hl : lv_has ls 3 [(0, .ref (ad 0)), (1, .int v1), (2, .int v2)] := hl
  rw [fX3_owes] at h
  refine lv_aload_n hx hb dX3_owes_0 rfl (lv_at hl 0 rfl) ?_
  refine rgX X Y 1 (v := .ref (ad 10)) tw_129 rfl dX3_owes_1 ?_
  refine lv_iload_n hx hb dX3_owes_4 rfl (lv_at hl 1 rfl) ?_
  obtain ⟨r2, hg1, h⟩ := ob h
  refine cVi X (hml.trans hl.1.symm) Y (c_fX0_isPerson l D g ad σ v1 hg1) (lkR g ad σ) rfl (gs_X3_60 _) rfl fd_X0_isPerson ⟨Nat.le_of_ble_eq_true rfl, Nat.le_of_ble_eq_true rfl⟩ ⟨Nat.le_of_ble_eq_true rfl, Nat.le_of_ble_eq_true rfl⟩ (rest := []) rfl (Nat.le_of_ble_eq_true rfl) dX3_owes_5 (fun H locs Y => ?_)
  refine lv_if_eq (tgt := 22) hx hb dX3_owes_8 (by decide) (fun c3 => ?_) (fun c3 => ?_)
  · replace h := ot c3 h
    refine lv_iconst (v := (-1)) hx hb dX3_owes_22 (by decide) ?_
    obtain rfl := os1 h
    exact retI X Y hr hlk dX3_owes_23
  · replace h := oe c3 h
    refine lv_aload_n hx hb dX3_owes_11 rfl (lv_at hl 0 rfl) ?_
    refine rgX X Y 1 (v := .ref (ad 10)) tw_129 rfl dX3_owes_12 ?_
    refine lv_iload_n hx hb dX3_owes_15 rfl (lv_at hl 2 rfl) ?_
    obtain ⟨r5, hg4, h⟩ := ob h
    refine cVi X (hml.trans hl.1.symm) Y (c_fX0_isPerson l D g ad σ v2 hg4) (lkR g ad σ) rfl (gs_X3_60 _) rfl fd_X0_isPerson ⟨Nat.le_of_ble_eq_true rfl, Nat.le_of_ble_eq_true rfl⟩ ⟨Nat.le_of_ble_eq_true rfl, Nat.le_of_ble_eq_true rfl⟩ (rest := []) rfl (Nat.le_of_ble_eq_true rfl) dX3_owes_16 (fun H locs Y => ?_)
    refine lv_if_ne (tgt := 24) hx hb dX3_owes_19 (by decide) (fun c6 => ?_) (fun c6 => ?_)
    · replace h := oe c6 h
      refine lv_aload_n hx hb dX3_owes_24 rfl (lv_at hl 0 rfl) ?_
      refine rgX X Y 1 (v := .ref (ad 10)) tw_129 rfl dX3_owes_25 ?_
      refine rgR X Y 5 (v := .ref (ad 12)) tw_68 rfl dX3_owes_28 ?_
      refine lv_iload_n hx hb dX3_owes_31 rfl (lv_at hl 1 rfl) ?_
      obtain ⟨hg7, h⟩ := og h
      refine raN X Y hg7 dX3_owes_32 ?_
      refine lv_iload_n hx hb dX3_owes_33 rfl (lv_at hl 2 rfl) ?_
      obtain ⟨hg8, h⟩ := og h
      refine ri X Y (lkN g ad σ (clt hg7)) hg8 dX3_owes_34 ?_
      obtain rfl := os1 h
      exact retI X Y hr hlk dX3_owes_35
    · replace h := ot c6 h
      refine lv_iconst (v := (-1)) hx hb dX3_owes_22 (by decide) ?_
      obtain rfl := os1 h
      exact retI X Y hr hlk dX3_owes_23
set_option maxHeartbeats 4000000 in
set_option maxRecDepth 100000 in
theorem c_fX3_lend (l : Launch) (D : va_G) (g : Nat → ClassId) (ad : Nat → Nat) (σ : St) (v1 : Int32) (v2 : Int32) (v3 : Int32) {r0 : Int32} {σ0 : St} (h : fX3_lend σ v1 v2 v3 = some (r0, σ0)) : MI l yX3_lend kX3_lend 2 43 D g (WC g ad σ) (WC g ad σ0) [.ref (ad 0), .int v1, .int v2, .int v3] r0 := by
  intro sz
  refine Met.of2 (Qc := fun A => QI D g A (WC g ad σ0) r0) (cc := cX3_lend) (maxL := 5) (ret := (some .int)) (own := RX3) (by decide) rfl rfl (Nat.le_of_ble_eq_true rfl) ?_
  intro p e s m below meth c A ls X hr hlk hml Y hl
  have hx := X.1
  have hb := X.2.1
  have hl : lv_has ls 5 [(0, .ref (ad 0)), (1, .int v1), (2, .int v2), (3, .int v3)] := hl
  rw [fX3_lend] at h
  refine lv_aload_n hx hb dX3_lend_0 rfl (lv_at hl 0 rfl) ?_
  refine rgX X Y 1 (v := .ref (ad 10)) tw_129 rfl dX3_lend_1 ?_
  refine lv_iload_n hx hb dX3_lend_4 rfl (lv_at hl 1 rfl) ?_
  refine lv_iload_n hx hb dX3_lend_5 rfl (lv_at hl 2 rfl) ?_
  obtain ⟨r2, hg1, h⟩ := ob h
  refine cVi X (hml.trans hl.1.symm) Y (c_fX0_isPair l D g ad σ v1 v2 hg1) (lkR g ad σ) rfl (gs_X3_77 _) rfl fd_X0_isPair ⟨Nat.le_of_ble_eq_true rfl, Nat.le_of_ble_eq_true rfl⟩ ⟨Nat.le_of_ble_eq_true rfl, Nat.le_of_ble_eq_true rfl⟩ (rest := []) rfl (Nat.le_of_ble_eq_true rfl) dX3_lend_6 (fun H locs Y => ?_)
  refine lv_if_ne (tgt := 14) hx hb dX3_lend_9 (by decide) (fun c3 => ?_) (fun c3 => ?_)
  · replace h := oe c3 h
    refine lv_iload_n hx hb dX3_lend_14 rfl (lv_at hl 3 rfl) ?_
    refine lv_if_lt (tgt := 24) hx hb dX3_lend_15 (by decide) (fun c4 => ?_) (fun c4 => ?_)
    · replace h := ot c4 h
      refine lv_bipush (v := (-2)) hx hb dX3_lend_24 (by decide) ?_
      obtain ⟨rfl, rfl⟩ := os2 h
      exact retI X Y hr hlk dX3_lend_26
    · replace h := oe c4 h
      refine lv_iload_n hx hb dX3_lend_18 rfl (lv_at hl 3 rfl) ?_
      refine lv_bipush (v := 9) hx hb dX3_lend_19 (by decide) ?_
      refine lv_icmp_le (tgt := 27) hx hb dX3_lend_21 (by decide) (fun c5 => ?_) (fun c5 => ?_)
      · replace h := ot c5 h
        refine lv_aload_n hx hb dX3_lend_27 rfl (lv_at hl 0 rfl) ?_
        refine rgX X Y 1 (v := .ref (ad 10)) tw_129 rfl dX3_lend_28 ?_
        refine rgR X Y 5 (v := .ref (ad 12)) tw_68 rfl dX3_lend_31 ?_
        refine lv_iload_n hx hb dX3_lend_34 rfl (lv_at hl 1 rfl) ?_
        obtain ⟨hg6, h⟩ := og h
        refine raN X Y hg6 dX3_lend_35 ?_
        refine lv_iload_n hx hb dX3_lend_36 rfl (lv_at hl 2 rfl) ?_
        obtain ⟨hg7, h⟩ := og h
        refine ri X Y (lkN g ad σ (clt hg6)) hg7 dX3_lend_37 ?_
        refine lv_istore (lv' := [(4, .int (σ (13 + v1.toNatClampNeg) v2.toNatClampNeg)), (0, .ref (ad 0)), (1, .int v1), (2, .int v2), (3, .int v3)]) hx hb dX3_lend_38 hl (by decide) rfl (fun ls hl => ?_)
        refine lv_aload_n hx hb dX3_lend_40 rfl (lv_at hl 1 rfl) ?_
        refine rgX X Y 1 (v := .ref (ad 10)) tw_129 rfl dX3_lend_41 ?_
        refine rgR X Y 5 (v := .ref (ad 12)) tw_68 rfl dX3_lend_44 ?_
        refine lv_iload_n hx hb dX3_lend_47 rfl (lv_at hl 2 rfl) ?_
        obtain ⟨hg8, h⟩ := og h
        refine raN X Y hg8 dX3_lend_48 ?_
        refine lv_iload_n hx hb dX3_lend_49 rfl (lv_at hl 3 rfl) ?_
        refine lv_iload_n hx hb dX3_lend_50 rfl (lv_at hl 4 rfl) ?_
        obtain ⟨hg9, h⟩ := og h
        refine ris X Y (W1 := WC g ad (up2 σ (13 + v1.toNatClampNeg) v2.toNatClampNeg v3)) (lkN g ad σ (clt hg8)) hg9 (stN g ad σ _ (clt hg8)) dX3_lend_51 (fun H locs Y => ?_)
        refine lv_iload hx hb dX3_lend_52 (lv_at hl 0 rfl) ?_
        obtain ⟨rfl, rfl⟩ := os2 h
        exact retI X Y hr hlk dX3_lend_54
      · replace h := oe c5 h
        refine lv_bipush (v := (-2)) hx hb dX3_lend_24 (by decide) ?_
        obtain ⟨rfl, rfl⟩ := os2 h
        exact retI X Y hr hlk dX3_lend_26
  · replace h := ot c3 h
    refine lv_iconst (v := (-1)) hx hb dX3_lend_12 (by decide) ?_
    obtain ⟨rfl, rfl⟩ := os2 h
    exact retI X Y hr hlk dX3_lend_13
set_option maxHeartbeats 4000000 in
set_option maxRecDepth 100000 in
theorem c_fX3_count (l : Launch) (D : va_G) (g : Nat → ClassId) (ad : Nat → Nat) (σ : St) (v1 : Int32) {r0 : Int32} {σ0 : St} (h : fX3_count σ v1 = some (r0, σ0)) : MI l yX3_count kX3_count 1 20 D g (WC g ad σ) (WC g ad σ0) [.ref (ad 0), .int v1] r0 := by
  intro sz
  refine Met.of2 (Qc := fun A => QI D g A (WC g ad σ0) r0) (cc := cX3_count) (maxL := 3) (ret := (some .int)) (own := RX3) (by decide) rfl rfl (Nat.le_of_ble_eq_true rfl) ?_
  intro p e s m below meth c A ls X hr hlk hml Y hl
  have hx := X.1
  have hb := X.2.1
  have hl : lv_has ls 3 [(0, .ref (ad 0)), (1, .int v1)] := hl
  rw [fX3_count] at h
  refine lv_iload_n hx hb dX3_count_0 rfl (lv_at hl 1 rfl) ?_
  refine lv_iconst (v := 1) hx hb dX3_count_1 (by decide) ?_
  refine lv_icmp_lt (tgt := 10) hx hb dX3_count_2 (by decide) (fun c1 => ?_) (fun c1 => ?_)
  · replace h := ot c1 h
    refine lv_bipush (v := (-2)) hx hb dX3_count_10 (by decide) ?_
    obtain ⟨rfl, rfl⟩ := os2 h
    exact retI X Y hr hlk dX3_count_12
  · replace h := oe c1 h
    refine lv_iload_n hx hb dX3_count_5 rfl (lv_at hl 1 rfl) ?_
    refine lv_iconst (v := 3) hx hb dX3_count_6 (by decide) ?_
    refine lv_icmp_le (tgt := 13) hx hb dX3_count_7 (by decide) (fun c2 => ?_) (fun c2 => ?_)
    · replace h := ot c2 h
      refine lv_aload_n hx hb dX3_count_13 rfl (lv_at hl 0 rfl) ?_
      refine rgX X Y 1 (v := .ref (ad 10)) tw_129 rfl dX3_count_14 ?_
      obtain ⟨r4, hg3, h⟩ := ob h
      refine cVi X (hml.trans hl.1.symm) Y (c_fX0_isThere l D g ad σ hg3) (lkR g ad σ) rfl (gs_X3_80 _) rfl fd_X0_isThere ⟨Nat.le_of_ble_eq_true rfl, Nat.le_of_ble_eq_true rfl⟩ ⟨Nat.le_of_ble_eq_true rfl, Nat.le_of_ble_eq_true rfl⟩ (rest := []) rfl (Nat.le_of_ble_eq_true rfl) dX3_count_17 (fun H locs Y => ?_)
      refine lv_if_ne (tgt := 26) hx hb dX3_count_20 (by decide) (fun c5 => ?_) (fun c5 => ?_)
      · replace h := oe c5 h
        refine lv_aload_n hx hb dX3_count_26 rfl (lv_at hl 0 rfl) ?_
        refine rgX X Y 1 (v := .ref (ad 10)) tw_129 rfl dX3_count_27 ?_
        refine rgR X Y 2 (v := .int (σ 10 2)) tw_61 rfl dX3_count_30 ?_
        refine lv_istore_n (lv' := [(2, .int (σ 10 2)), (0, .ref (ad 0)), (1, .int v1)]) hx hb dX3_count_33 rfl hl (by decide) rfl (fun ls hl => ?_)
        refine lv_aload_n hx hb dX3_count_34 rfl (lv_at hl 1 rfl) ?_
        refine rgX X Y 1 (v := .ref (ad 10)) tw_129 rfl dX3_count_35 ?_
        refine lv_iload_n hx hb dX3_count_38 rfl (lv_at hl 2 rfl) ?_
        refine rpR X Y 2 (v := v1) tw_61 rfl rfl rfl (stR_2 g ad σ v1) dX3_count_39 (fun H locs Y => ?_)
        refine lv_iload_n hx hb dX3_count_42 rfl (lv_at hl 0 rfl) ?_
        obtain ⟨rfl, rfl⟩ := os2 h
        exact retI X Y hr hlk dX3_count_43
      · replace h := ot c5 h
        refine lv_bipush (v := (-3)) hx hb dX3_count_23 (by decide) ?_
        obtain ⟨rfl, rfl⟩ := os2 h
        exact retI X Y hr hlk dX3_count_25
    · replace h := oe c2 h
      refine lv_bipush (v := (-2)) hx hb dX3_count_10 (by decide) ?_
      obtain ⟨rfl, rfl⟩ := os2 h
      exact retI X Y hr hlk dX3_count_12
set_option maxHeartbeats 4000000 in
set_option maxRecDepth 100000 in
theorem c_fX3_build (l : Launch) (D : va_G) (g : Nat → ClassId) (ad : Nat → Nat) (σ : St) (v1 : Int32) {r0 : Int32} {σ0 : St} (h : fX3_build σ v1 = some (r0, σ0)) : MI l yX3_build kX3_build 1 20 D g (WC g ad σ) (WC g ad σ0) [.ref (ad 0), .int v1] r0 := by
  intro sz
  refine Met.of2 (Qc := fun A => QI D g A (WC g ad σ0) r0) (cc := cX3_build) (maxL := 3) (ret := (some .int)) (own := RX3) (by decide) rfl rfl (Nat.le_of_ble_eq_true rfl) ?_
  intro p e s m below meth c A ls X hr hlk hml Y hl
  have hx := X.1
  have hb := X.2.1
  have hl : lv_has ls 3 [(0, .ref (ad 0)), (1, .int v1)] := hl
  rw [fX3_build] at h
  refine lv_iload_n hx hb dX3_build_0 rfl (lv_at hl 1 rfl) ?_
  refine lv_iconst (v := 1) hx hb dX3_build_1 (by decide) ?_
  refine lv_icmp_lt (tgt := 10) hx hb dX3_build_2 (by decide) (fun c1 => ?_) (fun c1 => ?_)
  · replace h := ot c1 h
    refine lv_bipush (v := (-2)) hx hb dX3_build_10 (by decide) ?_
    obtain ⟨rfl, rfl⟩ := os2 h
    exact retI X Y hr hlk dX3_build_12
  · replace h := oe c1 h
    refine lv_iload_n hx hb dX3_build_5 rfl (lv_at hl 1 rfl) ?_
    refine lv_iconst (v := 3) hx hb dX3_build_6 (by decide) ?_
    refine lv_icmp_le (tgt := 13) hx hb dX3_build_7 (by decide) (fun c2 => ?_) (fun c2 => ?_)
    · replace h := ot c2 h
      refine lv_aload_n hx hb dX3_build_13 rfl (lv_at hl 0 rfl) ?_
      refine rgX X Y 1 (v := .ref (ad 10)) tw_129 rfl dX3_build_14 ?_
      obtain ⟨r4, hg3, h⟩ := ob h
      refine cVi X (hml.trans hl.1.symm) Y (c_fX0_isThere l D g ad σ hg3) (lkR g ad σ) rfl (gs_X3_80 _) rfl fd_X0_isThere ⟨Nat.le_of_ble_eq_true rfl, Nat.le_of_ble_eq_true rfl⟩ ⟨Nat.le_of_ble_eq_true rfl, Nat.le_of_ble_eq_true rfl⟩ (rest := []) rfl (Nat.le_of_ble_eq_true rfl) dX3_build_17 (fun H locs Y => ?_)
      refine lv_if_ne (tgt := 26) hx hb dX3_build_20 (by decide) (fun c5 => ?_) (fun c5 => ?_)
      · replace h := oe c5 h
        refine lv_aload_n hx hb dX3_build_26 rfl (lv_at hl 0 rfl) ?_
        refine rgX X Y 1 (v := .ref (ad 10)) tw_129 rfl dX3_build_27 ?_
        refine rgR X Y 1 (v := .int (σ 10 1)) tw_60 rfl dX3_build_30 ?_
        refine lv_istore_n (lv' := [(2, .int (σ 10 1)), (0, .ref (ad 0)), (1, .int v1)]) hx hb dX3_build_33 rfl hl (by decide) rfl (fun ls hl => ?_)
        refine lv_aload_n hx hb dX3_build_34 rfl (lv_at hl 1 rfl) ?_
        refine rgX X Y 1 (v := .ref (ad 10)) tw_129 rfl dX3_build_35 ?_
        refine lv_iload_n hx hb dX3_build_38 rfl (lv_at hl 2 rfl) ?_
        refine rpR X Y 1 (v := v1) tw_60 rfl rfl rfl (stR_1 g ad σ v1) dX3_build_39 (fun H locs Y => ?_)
        refine lv_iload_n hx hb dX3_build_42 rfl (lv_at hl 0 rfl) ?_
        obtain ⟨rfl, rfl⟩ := os2 h
        exact retI X Y hr hlk dX3_build_43
      · replace h := ot c5 h
        refine lv_bipush (v := (-3)) hx hb dX3_build_23 (by decide) ?_
        obtain ⟨rfl, rfl⟩ := os2 h
        exact retI X Y hr hlk dX3_build_25
    · replace h := oe c2 h
      refine lv_bipush (v := (-2)) hx hb dX3_build_10 (by decide) ?_
      obtain ⟨rfl, rfl⟩ := os2 h
      exact retI X Y hr hlk dX3_build_12
set_option maxHeartbeats 4000000 in
set_option maxRecDepth 100000 in
theorem c_fX3_refusalOfOneIn (l : Launch) (D : va_G) (g : Nat → ClassId) (ad : Nat → Nat) (σ : St) (v1 : Int32) (v2 : Int32) (v3 : Int32) {r0 : Int32} (h : fX3_refusalOfOneIn σ v1 v2 v3 = some r0) : MI l yX3_refusalOfOneIn kX3_refusalOfOneIn 2 41 D g (WC g ad σ) (WC g ad σ) [.ref (ad 0), .int v1, .int v2, .int v3] r0 := by
  intro sz
  refine Met.of2 (Qc := fun A => QI D g A (WC g ad σ) r0) (cc := cX3_refusalOfOneIn) (maxL := 4) (ret := (some .int)) (own := RX3) (by decide) rfl rfl (Nat.le_of_ble_eq_true rfl) ?_
  intro p e s m below meth c A ls X hr hlk hml Y hl
  have hx := X.1
  have hb := X.2.1
  have hl : lv_has ls 4 [(0, .ref (ad 0)), (1, .int v1), (2, .int v2), (3, .int v3)] := hl
  rw [fX3_refusalOfOneIn] at h
  refine lv_aload_n hx hb dX3_refusalOfOneIn_0 rfl (lv_at hl 0 rfl) ?_
  refine rgX X Y 1 (v := .ref (ad 10)) tw_129 rfl dX3_refusalOfOneIn_1 ?_
  refine lv_iload_n hx hb dX3_refusalOfOneIn_4 rfl (lv_at hl 1 rfl) ?_
  obtain ⟨r2, hg1, h⟩ := ob h
  refine cVi X (hml.trans hl.1.symm) Y (c_fX0_isPerson l D g ad σ v1 hg1) (lkR g ad σ) rfl (gs_X3_60 _) rfl fd_X0_isPerson ⟨Nat.le_of_ble_eq_true rfl, Nat.le_of_ble_eq_true rfl⟩ ⟨Nat.le_of_ble_eq_true rfl, Nat.le_of_ble_eq_true rfl⟩ (rest := []) rfl (Nat.le_of_ble_eq_true rfl) dX3_refusalOfOneIn_5 (fun H locs Y => ?_)
  refine lv_if_ne (tgt := 13) hx hb dX3_refusalOfOneIn_8 (by decide) (fun c3 => ?_) (fun c3 => ?_)
  · replace h := oe c3 h
    refine lv_aload_n hx hb dX3_refusalOfOneIn_13 rfl (lv_at hl 0 rfl) ?_
    refine rgX X Y 1 (v := .ref (ad 10)) tw_129 rfl dX3_refusalOfOneIn_14 ?_
    refine lv_iload_n hx hb dX3_refusalOfOneIn_17 rfl (lv_at hl 2 rfl) ?_
    obtain ⟨r5, hg4, h⟩ := ob h
    refine cVi X (hml.trans hl.1.symm) Y (c_fX0_isLoad l D g ad σ v2 hg4) (lkR g ad σ) rfl (gs_X3_213 _) rfl fd_X0_isLoad ⟨Nat.le_of_ble_eq_true rfl, Nat.le_of_ble_eq_true rfl⟩ ⟨Nat.le_of_ble_eq_true rfl, Nat.le_of_ble_eq_true rfl⟩ (rest := []) rfl (Nat.le_of_ble_eq_true rfl) dX3_refusalOfOneIn_18 (fun H locs Y => ?_)
    refine lv_if_eq (tgt := 28) hx hb dX3_refusalOfOneIn_21 (by decide) (fun c6 => ?_) (fun c6 => ?_)
    · replace h := ot c6 h
      refine lv_bipush (v := (-2)) hx hb dX3_refusalOfOneIn_28 (by decide) ?_
      obtain rfl := os1 h
      exact retI X Y hr hlk dX3_refusalOfOneIn_30
    · replace h := oe c6 h
      refine lv_iload_n hx hb dX3_refusalOfOneIn_24 rfl (lv_at hl 3 rfl) ?_
      refine lv_if_ne (tgt := 31) hx hb dX3_refusalOfOneIn_25 (by decide) (fun c7 => ?_) (fun c7 => ?_)
      · replace h := oe c7 h
        refine lv_iload_n hx hb dX3_refusalOfOneIn_31 rfl (lv_at hl 2 rfl) ?_
        refine lv_iload_n hx hb dX3_refusalOfOneIn_32 rfl (lv_at hl 1 rfl) ?_
        refine lv_ishr hx hb dX3_refusalOfOneIn_33 ?_
        refine lv_iconst (v := 1) hx hb dX3_refusalOfOneIn_34 (by decide) ?_
        refine lv_iand hx hb dX3_refusalOfOneIn_35 ?_
        refine lv_iconst (v := 1) hx hb dX3_refusalOfOneIn_36 (by decide) ?_
        refine lv_icmp_ne (tgt := 44) hx hb dX3_refusalOfOneIn_37 (by decide) (fun c8 => ?_) (fun c8 => ?_)
        · replace h := oe c8 h
          refine lv_bipush (v := (-3)) hx hb dX3_refusalOfOneIn_44 (by decide) ?_
          obtain rfl := os1 h
          exact retI X Y hr hlk dX3_refusalOfOneIn_46
        · replace h := ot c8 h
          refine lv_iconst (v := 0) hx hb dX3_refusalOfOneIn_40 (by decide) ?_
          refine lv_goto (tgt := 46) hx hb dX3_refusalOfOneIn_41 (by decide) ?_
          obtain rfl := os1 h
          exact retI X Y hr hlk dX3_refusalOfOneIn_46
      · replace h := ot c7 h
        refine lv_bipush (v := (-2)) hx hb dX3_refusalOfOneIn_28 (by decide) ?_
        obtain rfl := os1 h
        exact retI X Y hr hlk dX3_refusalOfOneIn_30
  · replace h := ot c3 h
    refine lv_iconst (v := (-1)) hx hb dX3_refusalOfOneIn_11 (by decide) ?_
    obtain rfl := os1 h
    exact retI X Y hr hlk dX3_refusalOfOneIn_12
set_option maxHeartbeats 4000000 in
set_option maxRecDepth 100000 in
theorem c_fX3_debt (l : Launch) (D : va_G) (g : Nat → ClassId) (ad : Nat → Nat) (σ : St) (n : Nat) (v1 : Int32) (v2 : Int32) {r0 : Int32} (h : fX3_debt n σ v1 v2 = some r0) : MI l yX3_debt kX3_debt 3 64 D g (WC g ad σ) (WC g ad σ) [.ref (ad 0), .int v1, .int v2] r0 := by
  intro sz
  refine Met.of2 (Qc := fun A => QI D g A (WC g ad σ) r0) (cc := cX3_debt) (maxL := 4) (ret := (some .int)) (own := RX3) (by decide) rfl rfl (Nat.le_of_ble_eq_true rfl) ?_
  intro p e s m below meth c A ls X hr hlk hml Y hl
  have hx := X.1
  have hb := X.2.1
  have hl : lv_has ls 4 [(0, .ref (ad 0)), (1, .int v1), (2, .int v2)] := hl
  rw [fX3_debt] at h
  refine lv_aload_n hx hb dX3_debt_0 rfl (lv_at hl 0 rfl) ?_
  refine lv_iload_n hx hb dX3_debt_1 rfl (lv_at hl 1 rfl) ?_
  refine lv_iload_n hx hb dX3_debt_2 rfl (lv_at hl 2 rfl) ?_
  refine lv_iconst (v := 1) hx hb dX3_debt_3 (by decide) ?_
  obtain ⟨r2, hg1, h⟩ := ob h
  refine cVi X (hml.trans hl.1.symm) Y (c_fX3_refusalOfOneIn l D g ad σ v1 v2 1 hg1) (lkX g ad σ) rfl (gs_X3_90 _) rfl fd_X3_refusalOfOneIn ⟨Nat.le_of_ble_eq_true rfl, Nat.le_of_ble_eq_true rfl⟩ ⟨Nat.le_of_ble_eq_true rfl, Nat.le_of_ble_eq_true rfl⟩ (rest := []) rfl (Nat.le_of_ble_eq_true rfl) dX3_debt_4 (fun H locs Y => ?_)
  refine lv_istore_n (lv' := [(3, .int r2), (0, .ref (ad 0)), (1, .int v1), (2, .int v2)]) hx hb dX3_debt_7 rfl hl (by decide) rfl (fun ls hl => ?_)
  refine lv_iload_n hx hb dX3_debt_8 rfl (lv_at hl 0 rfl) ?_
  refine lv_if_eq (tgt := 14) hx hb dX3_debt_9 (by decide) (fun c3 => ?_) (fun c3 => ?_)
  · replace h := ot c3 h
    refine lv_aload_n hx hb dX3_debt_14 rfl (lv_at hl 1 rfl) ?_
    refine rgX X Y 1 (v := .ref (ad 10)) tw_129 rfl dX3_debt_15 ?_
    refine lv_iload_n hx hb dX3_debt_18 rfl (lv_at hl 2 rfl) ?_
    refine lv_iload_n hx hb dX3_debt_19 rfl (lv_at hl 3 rfl) ?_
    refine lv_iconst (v := 0) hx hb dX3_debt_20 (by decide) ?_
    obtain ⟨r5, hg4, h⟩ := ob h
    refine cVi X (hml.trans hl.1.symm) Y (c_fX0_debtIf l D g ad σ n v1 v2 0 hg4) (lkR g ad σ) rfl (gs_X3_94 _) rfl fd_X0_debtIf ⟨Nat.le_of_ble_eq_true rfl, Nat.le_of_ble_eq_true rfl⟩ ⟨Nat.le_of_ble_eq_true rfl, Nat.le_of_ble_eq_true rfl⟩ (rest := []) rfl (Nat.le_of_ble_eq_true rfl) dX3_debt_21 (fun H locs Y => ?_)
    obtain rfl := os1 h
    exact retI X Y hr hlk dX3_debt_24
  · replace h := oe c3 h
    refine lv_iload_n hx hb dX3_debt_12 rfl (lv_at hl 0 rfl) ?_
    obtain rfl := os1 h
    exact retI X Y hr hlk dX3_debt_13
set_option maxHeartbeats 4000000 in
set_option maxRecDepth 100000 in
theorem c_fX3_refusalOfLoad (l : Launch) (D : va_G) (g : Nat → ClassId) (ad : Nat → Nat) (σ : St) (v1 : Int32) {r0 : Int32} (h : fX3_refusalOfLoad σ v1 = some r0) : MI l yX3_refusalOfLoad kX3_refusalOfLoad 2 41 D g (WC g ad σ) (WC g ad σ) [.ref (ad 0), .int v1] r0 := by
  intro sz
  refine Met.of2 (Qc := fun A => QI D g A (WC g ad σ) r0) (cc := cX3_refusalOfLoad) (maxL := 2) (ret := (some .int)) (own := RX3) (by decide) rfl rfl (Nat.le_of_ble_eq_true rfl) ?_
  intro p e s m below meth c A ls X hr hlk hml Y hl
  have hx := X.1
  have hb := X.2.1
  have hl : lv_has ls 2 [(0, .ref (ad 0)), (1, .int v1)] := hl
  rw [fX3_refusalOfLoad] at h
  refine lv_aload_n hx hb dX3_refusalOfLoad_0 rfl (lv_at hl 0 rfl) ?_
  refine rgX X Y 1 (v := .ref (ad 10)) tw_129 rfl dX3_refusalOfLoad_1 ?_
  obtain ⟨r2, hg1, h⟩ := ob h
  refine cVi X (hml.trans hl.1.symm) Y (c_fX0_isThere l D g ad σ hg1) (lkR g ad σ) rfl (gs_X3_80 _) rfl fd_X0_isThere ⟨Nat.le_of_ble_eq_true rfl, Nat.le_of_ble_eq_true rfl⟩ ⟨Nat.le_of_ble_eq_true rfl, Nat.le_of_ble_eq_true rfl⟩ (rest := []) rfl (Nat.le_of_ble_eq_true rfl) dX3_refusalOfLoad_4 (fun H locs Y => ?_)
  refine lv_if_ne (tgt := 13) hx hb dX3_refusalOfLoad_7 (by decide) (fun c3 => ?_) (fun c3 => ?_)
  · replace h := oe c3 h
    refine lv_aload_n hx hb dX3_refusalOfLoad_13 rfl (lv_at hl 0 rfl) ?_
    refine rgX X Y 1 (v := .ref (ad 10)) tw_129 rfl dX3_refusalOfLoad_14 ?_
    refine lv_iload_n hx hb dX3_refusalOfLoad_17 rfl (lv_at hl 1 rfl) ?_
    obtain ⟨r5, hg4, h⟩ := ob h
    refine cVi X (hml.trans hl.1.symm) Y (c_fX0_isLoad l D g ad σ v1 hg4) (lkR g ad σ) rfl (gs_X3_213 _) rfl fd_X0_isLoad ⟨Nat.le_of_ble_eq_true rfl, Nat.le_of_ble_eq_true rfl⟩ ⟨Nat.le_of_ble_eq_true rfl, Nat.le_of_ble_eq_true rfl⟩ (rest := []) rfl (Nat.le_of_ble_eq_true rfl) dX3_refusalOfLoad_18 (fun H locs Y => ?_)
    refine lv_if_eq (tgt := 28) hx hb dX3_refusalOfLoad_21 (by decide) (fun c6 => ?_) (fun c6 => ?_)
    · replace h := ot c6 h
      refine lv_bipush (v := (-2)) hx hb dX3_refusalOfLoad_28 (by decide) ?_
      obtain rfl := os1 h
      exact retI X Y hr hlk dX3_refusalOfLoad_30
    · replace h := oe c6 h
      refine lv_iconst (v := 0) hx hb dX3_refusalOfLoad_24 (by decide) ?_
      refine lv_goto (tgt := 30) hx hb dX3_refusalOfLoad_25 (by decide) ?_
      obtain rfl := os1 h
      exact retI X Y hr hlk dX3_refusalOfLoad_30
  · replace h := ot c3 h
    refine lv_bipush (v := (-3)) hx hb dX3_refusalOfLoad_10 (by decide) ?_
    obtain rfl := os1 h
    exact retI X Y hr hlk dX3_refusalOfLoad_12
set_option maxHeartbeats 4000000 in
set_option maxRecDepth 100000 in
theorem c_fX3_pullers (l : Launch) (D : va_G) (g : Nat → ClassId) (ad : Nat → Nat) (σ : St) (n : Nat) (v1 : Int32) {r0 : Int32} (h : fX3_pullers n σ v1 = some r0) : MI l yX3_pullers kX3_pullers 3 74 D g (WC g ad σ) (WC g ad σ) [.ref (ad 0), .int v1] r0 := by
  intro sz
  refine Met.of2 (Qc := fun A => QI D g A (WC g ad σ) r0) (cc := cX3_pullers) (maxL := 3) (ret := (some .int)) (own := RX3) (by decide) rfl rfl (Nat.le_of_ble_eq_true rfl) ?_
  intro p e s m below meth c A ls X hr hlk hml Y hl
  have hx := X.1
  have hb := X.2.1
  have hl : lv_has ls 3 [(0, .ref (ad 0)), (1, .int v1)] := hl
  rw [fX3_pullers] at h
  refine lv_aload_n hx hb dX3_pullers_0 rfl (lv_at hl 0 rfl) ?_
  refine lv_iload_n hx hb dX3_pullers_1 rfl (lv_at hl 1 rfl) ?_
  obtain ⟨r2, hg1, h⟩ := ob h
  refine cVi X (hml.trans hl.1.symm) Y (c_fX3_refusalOfLoad l D g ad σ v1 hg1) (lkX g ad σ) rfl (gs_X3_98 _) rfl fd_X3_refusalOfLoad ⟨Nat.le_of_ble_eq_true rfl, Nat.le_of_ble_eq_true rfl⟩ ⟨Nat.le_of_ble_eq_true rfl, Nat.le_of_ble_eq_true rfl⟩ (rest := []) rfl (Nat.le_of_ble_eq_true rfl) dX3_pullers_2 (fun H locs Y => ?_)
  refine lv_istore_n (lv' := [(2, .int r2), (0, .ref (ad 0)), (1, .int v1)]) hx hb dX3_pullers_5 rfl hl (by decide) rfl (fun ls hl => ?_)
  refine lv_iload_n hx hb dX3_pullers_6 rfl (lv_at hl 0 rfl) ?_
  refine lv_if_eq (tgt := 12) hx hb dX3_pullers_7 (by decide) (fun c3 => ?_) (fun c3 => ?_)
  · replace h := ot c3 h
    refine lv_aload_n hx hb dX3_pullers_12 rfl (lv_at hl 1 rfl) ?_
    refine rgX X Y 1 (v := .ref (ad 10)) tw_129 rfl dX3_pullers_13 ?_
    refine lv_iload_n hx hb dX3_pullers_16 rfl (lv_at hl 2 rfl) ?_
    obtain ⟨r5, hg4, h⟩ := ob h
    refine cVi X (hml.trans hl.1.symm) Y (c_fX0_pullersOf l D g ad σ n v1 hg4) (lkR g ad σ) rfl (gs_X3_101 _) rfl fd_X0_pullersOf ⟨Nat.le_of_ble_eq_true rfl, Nat.le_of_ble_eq_true rfl⟩ ⟨Nat.le_of_ble_eq_true rfl, Nat.le_of_ble_eq_true rfl⟩ (rest := []) rfl (Nat.le_of_ble_eq_true rfl) dX3_pullers_17 (fun H locs Y => ?_)
    obtain rfl := os1 h
    exact retI X Y hr hlk dX3_pullers_20
  · replace h := oe c3 h
    refine lv_iload_n hx hb dX3_pullers_10 rfl (lv_at hl 0 rfl) ?_
    obtain rfl := os1 h
    exact retI X Y hr hlk dX3_pullers_11
set_option maxHeartbeats 4000000 in
set_option maxRecDepth 100000 in
theorem c_fX3_fair (l : Launch) (D : va_G) (g : Nat → ClassId) (ad : Nat → Nat) (σ : St) (n : Nat) (v1 : Int32) {r0 : Int32} (h : fX3_fair n σ v1 = some r0) : MI l yX3_fair kX3_fair 4 96 D g (WC g ad σ) (WC g ad σ) [.ref (ad 0), .int v1] r0 := by
  intro sz
  refine Met.of2 (Qc := fun A => QI D g A (WC g ad σ) r0) (cc := cX3_fair) (maxL := 3) (ret := (some .int)) (own := RX3) (by decide) rfl rfl (Nat.le_of_ble_eq_true rfl) ?_
  intro p e s m below meth c A ls X hr hlk hml Y hl
  have hx := X.1
  have hb := X.2.1
  have hl : lv_has ls 3 [(0, .ref (ad 0)), (1, .int v1)] := hl
  rw [fX3_fair] at h
  refine lv_aload_n hx hb dX3_fair_0 rfl (lv_at hl 0 rfl) ?_
  refine lv_iload_n hx hb dX3_fair_1 rfl (lv_at hl 1 rfl) ?_
  obtain ⟨r2, hg1, h⟩ := ob h
  refine cVi X (hml.trans hl.1.symm) Y (c_fX3_refusalOfLoad l D g ad σ v1 hg1) (lkX g ad σ) rfl (gs_X3_98 _) rfl fd_X3_refusalOfLoad ⟨Nat.le_of_ble_eq_true rfl, Nat.le_of_ble_eq_true rfl⟩ ⟨Nat.le_of_ble_eq_true rfl, Nat.le_of_ble_eq_true rfl⟩ (rest := []) rfl (Nat.le_of_ble_eq_true rfl) dX3_fair_2 (fun H locs Y => ?_)
  refine lv_istore_n (lv' := [(2, .int r2), (0, .ref (ad 0)), (1, .int v1)]) hx hb dX3_fair_5 rfl hl (by decide) rfl (fun ls hl => ?_)
  refine lv_iload_n hx hb dX3_fair_6 rfl (lv_at hl 0 rfl) ?_
  refine lv_if_eq (tgt := 12) hx hb dX3_fair_7 (by decide) (fun c3 => ?_) (fun c3 => ?_)
  · replace h := ot c3 h
    refine lv_aload_n hx hb dX3_fair_12 rfl (lv_at hl 1 rfl) ?_
    refine rgX X Y 1 (v := .ref (ad 10)) tw_129 rfl dX3_fair_13 ?_
    refine lv_iload_n hx hb dX3_fair_16 rfl (lv_at hl 2 rfl) ?_
    obtain ⟨r5, hg4, h⟩ := ob h
    refine cVi X (hml.trans hl.1.symm) Y (c_fX0_isFair l D g ad σ n v1 hg4) (lkR g ad σ) rfl (gs_X3_104 _) rfl fd_X0_isFair ⟨Nat.le_of_ble_eq_true rfl, Nat.le_of_ble_eq_true rfl⟩ ⟨Nat.le_of_ble_eq_true rfl, Nat.le_of_ble_eq_true rfl⟩ (rest := []) rfl (Nat.le_of_ble_eq_true rfl) dX3_fair_17 (fun H locs Y => ?_)
    refine lv_if_eq (tgt := 27) hx hb dX3_fair_20 (by decide) (fun c6 => ?_) (fun c6 => ?_)
    · replace h := ot c6 h
      refine lv_iconst (v := 0) hx hb dX3_fair_27 (by decide) ?_
      obtain rfl := os1 h
      exact retI X Y hr hlk dX3_fair_28
    · replace h := oe c6 h
      refine lv_iconst (v := 1) hx hb dX3_fair_23 (by decide) ?_
      refine lv_goto (tgt := 28) hx hb dX3_fair_24 (by decide) ?_
      obtain rfl := os1 h
      exact retI X Y hr hlk dX3_fair_28
  · replace h := oe c3 h
    refine lv_iload_n hx hb dX3_fair_10 rfl (lv_at hl 0 rfl) ?_
    obtain rfl := os1 h
    exact retI X Y hr hlk dX3_fair_11
set_option maxHeartbeats 4000000 in
set_option maxRecDepth 100000 in
theorem c_fX3_isLoadsQuestion (l : Launch) (D : va_G) (g : Nat → ClassId) (W0 : va_W) (v0 : Int32) {r0 : Int32} (h : fX3_isLoadsQuestion v0 = some r0) : MI l yX3_isLoadsQuestion kX3_isLoadsQuestion 0 0 D g (W0) (W0) [.int v0] r0 := by
  intro sz
  refine Met.of2 (Qc := fun A => QI D g A (W0) r0) (cc := cX3_isLoadsQuestion) (maxL := 1) (ret := (some .boolean)) (own := RX3) (by decide) rfl rfl (Nat.le_of_ble_eq_true rfl) ?_
  intro p e s m below meth c A ls X hr hlk hml Y hl
  have hx := X.1
  have hb := X.2.1
  have hl : lv_has ls 1 [(0, .int v0)] := hl
  rw [fX3_isLoadsQuestion] at h
  refine lv_iload_n hx hb dX3_isLoadsQuestion_0 rfl (lv_at hl 0 rfl) ?_
  refine lv_if_lt (tgt := 9) hx hb dX3_isLoadsQuestion_1 (by decide) (fun c1 => ?_) (fun c1 => ?_)
  · replace h := ot c1 h
    refine lv_iload_n hx hb dX3_isLoadsQuestion_9 rfl (lv_at hl 0 rfl) ?_
    refine lv_bipush (v := 10) hx hb dX3_isLoadsQuestion_10 (by decide) ?_
    refine lv_icmp_lt (tgt := 25) hx hb dX3_isLoadsQuestion_12 (by decide) (fun c2 => ?_) (fun c2 => ?_)
    · replace h := ot c2 h
      refine lv_iconst (v := 0) hx hb dX3_isLoadsQuestion_25 (by decide) ?_
      obtain rfl := os1 h
      exact retZ X Y hr hlk rfl dX3_isLoadsQuestion_26
    · replace h := oe c2 h
      refine lv_iload_n hx hb dX3_isLoadsQuestion_15 rfl (lv_at hl 0 rfl) ?_
      refine lv_bipush (v := 15) hx hb dX3_isLoadsQuestion_16 (by decide) ?_
      refine lv_icmp_ge (tgt := 25) hx hb dX3_isLoadsQuestion_18 (by decide) (fun c3 => ?_) (fun c3 => ?_)
      · replace h := ot c3 h
        refine lv_iconst (v := 0) hx hb dX3_isLoadsQuestion_25 (by decide) ?_
        obtain rfl := os1 h
        exact retZ X Y hr hlk rfl dX3_isLoadsQuestion_26
      · replace h := oe c3 h
        refine lv_iconst (v := 1) hx hb dX3_isLoadsQuestion_21 (by decide) ?_
        refine lv_goto (tgt := 26) hx hb dX3_isLoadsQuestion_22 (by decide) ?_
        obtain rfl := os1 h
        exact retZ X Y hr hlk rfl dX3_isLoadsQuestion_26
  · replace h := oe c1 h
    refine lv_iload_n hx hb dX3_isLoadsQuestion_4 rfl (lv_at hl 0 rfl) ?_
    refine lv_iconst (v := 4) hx hb dX3_isLoadsQuestion_5 (by decide) ?_
    refine lv_icmp_le (tgt := 21) hx hb dX3_isLoadsQuestion_6 (by decide) (fun c4 => ?_) (fun c4 => ?_)
    · replace h := ot c4 h
      refine lv_iconst (v := 1) hx hb dX3_isLoadsQuestion_21 (by decide) ?_
      refine lv_goto (tgt := 26) hx hb dX3_isLoadsQuestion_22 (by decide) ?_
      obtain rfl := os1 h
      exact retZ X Y hr hlk rfl dX3_isLoadsQuestion_26
    · replace h := oe c4 h
      refine lv_iload_n hx hb dX3_isLoadsQuestion_9 rfl (lv_at hl 0 rfl) ?_
      refine lv_bipush (v := 10) hx hb dX3_isLoadsQuestion_10 (by decide) ?_
      refine lv_icmp_lt (tgt := 25) hx hb dX3_isLoadsQuestion_12 (by decide) (fun c5 => ?_) (fun c5 => ?_)
      · replace h := ot c5 h
        refine lv_iconst (v := 0) hx hb dX3_isLoadsQuestion_25 (by decide) ?_
        obtain rfl := os1 h
        exact retZ X Y hr hlk rfl dX3_isLoadsQuestion_26
      · replace h := oe c5 h
        refine lv_iload_n hx hb dX3_isLoadsQuestion_15 rfl (lv_at hl 0 rfl) ?_
        refine lv_bipush (v := 15) hx hb dX3_isLoadsQuestion_16 (by decide) ?_
        refine lv_icmp_ge (tgt := 25) hx hb dX3_isLoadsQuestion_18 (by decide) (fun c6 => ?_) (fun c6 => ?_)
        · replace h := ot c6 h
          refine lv_iconst (v := 0) hx hb dX3_isLoadsQuestion_25 (by decide) ?_
          obtain rfl := os1 h
          exact retZ X Y hr hlk rfl dX3_isLoadsQuestion_26
        · replace h := oe c6 h
          refine lv_iconst (v := 1) hx hb dX3_isLoadsQuestion_21 (by decide) ?_
          refine lv_goto (tgt := 26) hx hb dX3_isLoadsQuestion_22 (by decide) ?_
          obtain rfl := os1 h
          exact retZ X Y hr hlk rfl dX3_isLoadsQuestion_26
set_option maxHeartbeats 4000000 in
set_option maxRecDepth 100000 in
theorem w_fX3_ofLoads_L31 {p : Program} {l : Launch} {e : Env} {s : State} {m : MethodId} {args : Array Value} {below : List Frame} {meth : Method} {c : Code} {D : va_G} {g : Nat → ClassId} {ad : Nat → Nat} {A : Nat → Prop} {r0 : Int32} (X : Cx p s m c args cX3_ofLoads RX3 kX3_ofLoads D g) (hr : meth.sig.returnType = (some .int)) (hlk : meth.locks = false) (hml : c.maxLocals = 8) : ∀ (n : Nat), ∀ (σ : St) (k1 : Nat) (hk1 : k1 < 4) (v2 : Int32) (v3 : Int32) (v4 : Int32) (v5 : Int32) (v6 : Int32) (H : Heap) (locs : List Loc) (ls : Array Slot), Hp D A s.heap H locs (WC g ad σ) → lv_has ls 8 [(0, .ref (ad 0)), (1, .ref (ad (2 + k1))), (2, .int v2), (3, .int v3), (4, .int v4), (5, .int v5), (6, .int v6)] → fX3_ofLoads_L31 n σ k1 v2 v3 v4 v5 v6 = some r0 → W p l e (RM 5 118) s m args below meth c H locs 0 0 (MQ below (QI D g A (WC g ad σ) r0) args s 0 0 A) (F0 m 31 ls []) := by
  have hx := X.1
  have hb := X.2.1
  intro n
  induction n with
  | zero => intro σ k1 hk1 v2 v3 v4 v5 v6 H locs ls Y hl h; cases (show none = _ from h)
  | succ n ih =>
    intro σ k1 hk1 v2 v3 v4 v5 v6 H locs ls Y hl h
    rw [fX3_ofLoads_L31] at h
    refine lv_iload hx hb dX3_ofLoads_31 (lv_at hl 6 rfl) ?_
    refine lv_iload_n hx hb dX3_ofLoads_33 rfl (lv_at hl 3 rfl) ?_
    refine lv_icmp_ge (tgt := 87) hx hb dX3_ofLoads_34 (by decide) (fun c5 => ?_) (fun c5 => ?_)
    · replace h := ot c5 h
      refine lv_iload hx hb dX3_ofLoads_87 (lv_at hl 5 rfl) ?_
      obtain rfl := os1 h
      exact retI X Y hr hlk dX3_ofLoads_89
    · replace h := oe c5 h
      refine lv_aload_n hx hb dX3_ofLoads_37 rfl (lv_at hl 1 rfl) ?_
      refine rgS X Y hk1 0 (v := .ref (ad (6 + k1))) tw_113 rfl dX3_ofLoads_38 ?_
      refine lv_iload_n hx hb dX3_ofLoads_41 rfl (lv_at hl 2 rfl) ?_
      refine lv_iload hx hb dX3_ofLoads_42 (lv_at hl 6 rfl) ?_
      refine lv_iadd hx hb dX3_ofLoads_44 ?_
      obtain ⟨hg6, h⟩ := og h
      refine ri X Y (lkA g ad σ hk1) hg6 dX3_ofLoads_45 ?_
      refine lv_istore (lv' := [(7, .int (σ (6 + k1) (v2 + v6).toNatClampNeg)), (0, .ref (ad 0)), (1, .ref (ad (2 + k1))), (2, .int v2), (3, .int v3), (4, .int v4), (5, .int v5), (6, .int v6)]) hx hb dX3_ofLoads_46 hl (by decide) rfl (fun ls hl => ?_)
      refine lv_iload hx hb dX3_ofLoads_48 (lv_at hl 5 rfl) ?_
      refine lv_iconst (v := 2) hx hb dX3_ofLoads_50 (by decide) ?_
      refine lv_icmp_ne (tgt := 64) hx hb dX3_ofLoads_51 (by decide) (fun c7 => ?_) (fun c7 => ?_)
      · replace h := oe c7 h
        refine lv_aload_n hx hb dX3_ofLoads_64 rfl (lv_at hl 1 rfl) ?_
        refine rgX X Y 1 (v := .ref (ad 10)) tw_129 rfl dX3_ofLoads_65 ?_
        refine lv_iload hx hb dX3_ofLoads_68 (lv_at hl 0 rfl) ?_
        refine lv_iload hx hb dX3_ofLoads_70 (lv_at hl 5 rfl) ?_
        obtain ⟨r9, hg8, h⟩ := ob h
        refine cVi X (hml.trans hl.1.symm) Y (c_fX0_isSo l D g ad σ n (σ (6 + k1) (v2 + v6).toNatClampNeg) v4 hg8) (lkR g ad σ) rfl (gs_X3_216 _) rfl fd_X0_isSo ⟨Nat.le_of_ble_eq_true rfl, Nat.le_of_ble_eq_true rfl⟩ ⟨Nat.le_of_ble_eq_true rfl, Nat.le_of_ble_eq_true rfl⟩ (rest := []) rfl (Nat.le_of_ble_eq_true rfl) dX3_ofLoads_72 (fun H locs Y => ?_)
        refine lv_if_eq (tgt := 81) hx hb dX3_ofLoads_75 (by decide) (fun c10 => ?_) (fun c10 => ?_)
        · replace h := ot c10 h
          refine lv_iinc (v := v6 + 1) (lv' := [(6, .int (v6 + 1)), (7, .int (σ (6 + k1) (v2 + v6).toNatClampNeg)), (0, .ref (ad 0)), (1, .ref (ad (2 + k1))), (2, .int v2), (3, .int v3), (4, .int v4), (5, .int v5)]) hx hb dX3_ofLoads_81 hl (k := 7) rfl rfl (by decide) rfl (fun ls hl => ?_)
          refine lv_goto (tgt := 31) hx hb dX3_ofLoads_84 (by decide) ?_
          exact ih σ k1 hk1 v2 v3 v4 v5 (v6 + 1) _ _ _ Y (lv_sub hl [2, 3, 4, 5, 6, 7, 0] rfl) h
        · replace h := oe c10 h
          refine lv_iinc (v := v5 + 1) (lv' := [(5, .int (v5 + 1)), (7, .int (σ (6 + k1) (v2 + v6).toNatClampNeg)), (0, .ref (ad 0)), (1, .ref (ad (2 + k1))), (2, .int v2), (3, .int v3), (4, .int v4), (6, .int v6)]) hx hb dX3_ofLoads_78 hl (k := 6) rfl rfl (by decide) rfl (fun ls hl => ?_)
          refine lv_iinc (v := v6 + 1) (lv' := [(6, .int (v6 + 1)), (5, .int (v5 + 1)), (7, .int (σ (6 + k1) (v2 + v6).toNatClampNeg)), (0, .ref (ad 0)), (1, .ref (ad (2 + k1))), (2, .int v2), (3, .int v3), (4, .int v4)]) hx hb dX3_ofLoads_81 hl (k := 7) rfl rfl (by decide) rfl (fun ls hl => ?_)
          refine lv_goto (tgt := 31) hx hb dX3_ofLoads_84 (by decide) ?_
          exact ih σ k1 hk1 v2 v3 v4 (v5 + 1) (v6 + 1) _ _ _ Y (lv_sub hl [3, 4, 5, 6, 7, 1, 0] rfl) h
      · replace h := ot c7 h
        refine lv_iload hx hb dX3_ofLoads_54 (lv_at hl 6 rfl) ?_
        refine lv_iload hx hb dX3_ofLoads_56 (lv_at hl 0 rfl) ?_
        refine lv_ior hx hb dX3_ofLoads_58 ?_
        refine lv_istore (lv' := [(5, .int (v5 ||| (σ (6 + k1) (v2 + v6).toNatClampNeg))), (7, .int (σ (6 + k1) (v2 + v6).toNatClampNeg)), (0, .ref (ad 0)), (1, .ref (ad (2 + k1))), (2, .int v2), (3, .int v3), (4, .int v4), (6, .int v6)]) hx hb dX3_ofLoads_59 hl (by decide) rfl (fun ls hl => ?_)
        refine lv_goto (tgt := 81) hx hb dX3_ofLoads_61 (by decide) ?_
        refine lv_iinc (v := v6 + 1) (lv' := [(6, .int (v6 + 1)), (5, .int (v5 ||| (σ (6 + k1) (v2 + v6).toNatClampNeg))), (7, .int (σ (6 + k1) (v2 + v6).toNatClampNeg)), (0, .ref (ad 0)), (1, .ref (ad (2 + k1))), (2, .int v2), (3, .int v3), (4, .int v4)]) hx hb dX3_ofLoads_81 hl (k := 7) rfl rfl (by decide) rfl (fun ls hl => ?_)
        refine lv_goto (tgt := 31) hx hb dX3_ofLoads_84 (by decide) ?_
        exact ih σ k1 hk1 v2 v3 v4 (v5 ||| (σ (6 + k1) (v2 + v6).toNatClampNeg)) (v6 + 1) _ _ _ Y (lv_sub hl [3, 4, 5, 6, 7, 1, 0] rfl) h
set_option maxHeartbeats 4000000 in
set_option maxRecDepth 100000 in
theorem c_fX3_ofLoads (l : Launch) (D : va_G) (g : Nat → ClassId) (ad : Nat → Nat) (σ : St) (n : Nat) (k1 : Nat) (hk1 : k1 < 4) (v2 : Int32) (v3 : Int32) (v4 : Int32) {r0 : Int32} (h : fX3_ofLoads n σ k1 v2 v3 v4 = some r0) : MI l yX3_ofLoads kX3_ofLoads 5 118 D g (WC g ad σ) (WC g ad σ) [.ref (ad 0), .ref (ad (2 + k1)), .int v2, .int v3, .int v4] r0 := by
  intro sz
  refine Met.of2 (Qc := fun A => QI D g A (WC g ad σ) r0) (cc := cX3_ofLoads) (maxL := 8) (ret := (some .int)) (own := RX3) (by decide) rfl rfl (Nat.le_of_ble_eq_true rfl) ?_
  intro p e s m below meth c A ls X hr hlk hml Y hl
  have hx := X.1
  have hb := X.2.1
  have hl : lv_has ls 8 [(0, .ref (ad 0)), (1, .ref (ad (2 + k1))), (2, .int v2), (3, .int v3), (4, .int v4)] := hl
  rw [fX3_ofLoads] at h
  refine lv_iload hx hb dX3_ofLoads_0 (lv_at hl 4 rfl) ?_
  refine lv_bipush (v := 10) hx hb dX3_ofLoads_2 (by decide) ?_
  refine lv_icmp_lt (tgt := 25) hx hb dX3_ofLoads_4 (by decide) (fun c1 => ?_) (fun c1 => ?_)
  · replace h := ot c1 h
    refine lv_iconst (v := 0) hx hb dX3_ofLoads_25 (by decide) ?_
    refine lv_istore (lv' := [(5, .int 0), (0, .ref (ad 0)), (1, .ref (ad (2 + k1))), (2, .int v2), (3, .int v3), (4, .int v4)]) hx hb dX3_ofLoads_26 hl (by decide) rfl (fun ls hl => ?_)
    refine lv_iconst (v := 0) hx hb dX3_ofLoads_28 (by decide) ?_
    refine lv_istore (lv' := [(6, .int 0), (5, .int 0), (0, .ref (ad 0)), (1, .ref (ad (2 + k1))), (2, .int v2), (3, .int v3), (4, .int v4)]) hx hb dX3_ofLoads_29 hl (by decide) rfl (fun ls hl => ?_)
    exact w_fX3_ofLoads_L31 X hr hlk hml n σ k1 hk1 v2 v3 v4 0 0 _ _ _ Y (lv_sub hl [2, 3, 4, 5, 6, 1, 0] rfl) h
  · replace h := oe c1 h
    refine lv_aload_n hx hb dX3_ofLoads_7 rfl (lv_at hl 0 rfl) ?_
    refine rgX X Y 1 (v := .ref (ad 10)) tw_129 rfl dX3_ofLoads_8 ?_
    refine lv_iload hx hb dX3_ofLoads_11 (lv_at hl 4 rfl) ?_
    refine lv_bipush (v := 10) hx hb dX3_ofLoads_13 (by decide) ?_
    refine lv_isub hx hb dX3_ofLoads_15 ?_
    obtain ⟨r3, hg2, h⟩ := ob h
    refine cVi X (hml.trans hl.1.symm) Y (c_fX0_isPerson l D g ad σ (v4 - 10) hg2) (lkR g ad σ) rfl (gs_X3_60 _) rfl fd_X0_isPerson ⟨Nat.le_of_ble_eq_true rfl, Nat.le_of_ble_eq_true rfl⟩ ⟨Nat.le_of_ble_eq_true rfl, Nat.le_of_ble_eq_true rfl⟩ (rest := []) rfl (Nat.le_of_ble_eq_true rfl) dX3_ofLoads_16 (fun H locs Y => ?_)
    refine lv_if_ne (tgt := 25) hx hb dX3_ofLoads_19 (by decide) (fun c4 => ?_) (fun c4 => ?_)
    · replace h := oe c4 h
      refine lv_iconst (v := 0) hx hb dX3_ofLoads_25 (by decide) ?_
      refine lv_istore (lv' := [(5, .int 0), (0, .ref (ad 0)), (1, .ref (ad (2 + k1))), (2, .int v2), (3, .int v3), (4, .int v4)]) hx hb dX3_ofLoads_26 hl (by decide) rfl (fun ls hl => ?_)
      refine lv_iconst (v := 0) hx hb dX3_ofLoads_28 (by decide) ?_
      refine lv_istore (lv' := [(6, .int 0), (5, .int 0), (0, .ref (ad 0)), (1, .ref (ad (2 + k1))), (2, .int v2), (3, .int v3), (4, .int v4)]) hx hb dX3_ofLoads_29 hl (by decide) rfl (fun ls hl => ?_)
      exact w_fX3_ofLoads_L31 X hr hlk hml n σ k1 hk1 v2 v3 v4 0 0 _ _ _ Y (lv_sub hl [2, 3, 4, 5, 6, 1, 0] rfl) h
    · replace h := ot c4 h
      refine lv_bipush (v := (-9)) hx hb dX3_ofLoads_22 (by decide) ?_
      obtain rfl := os1 h
      exact retI X Y hr hlk dX3_ofLoads_24
