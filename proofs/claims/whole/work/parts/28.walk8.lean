set_option maxHeartbeats 4000000 in
set_option maxRecDepth 100000 in
theorem w_fX4_notes_L28 {p : Program} {l : Launch} {e : Env} {s : State} {m : MethodId} {args : Array Value} {below : List Frame} {meth : Method} {c : Code} {D : va_G} {g : Nat → ClassId} {ad : Nat → Nat} {A : Nat → Prop} {r0 : Int32} {σ0 : St} (X : Cx p s m c args cX4_notes RX4 kX4_notes D g) (hr : meth.sig.returnType = (some .int)) (hlk : meth.locks = false) (hml : c.maxLocals = 6) : ∀ (n : Nat), ∀ (σ : St) (v1 : Int32) (v2 : Int32) (v3 : Int32) (v4 : Int32) (v5 : Int32) (H : Heap) (locs : List Loc) (ls : Array Slot), Hp D A s.heap H locs (WM g ad σ) → lv_has ls 6 [(0, .ref (ad 0)), (1, .int v1), (2, .int v2), (3, .int v3), (4, .int v4), (5, .int v5)] → fX4_notes_L28 n σ v1 v2 v3 v4 v5 = some (r0, σ0) → W p l e (RM 4 92) s m args below meth c H locs 0 0 (MQ below (QI D g A (WM g ad σ0) r0) args s 0 0 A) (F0 m 28 ls []) := by
  have hx := X.1
  have hb := X.2.1
  intro n
  induction n with
  | zero => intro σ v1 v2 v3 v4 v5 H locs ls Y hl h; cases (show none = _ from h)
  | succ n ih =>
    intro σ v1 v2 v3 v4 v5 H locs ls Y hl h
    rw [fX4_notes_L28] at h
    refine lv_iload hx hb dX4_notes_28 (lv_at hl 5 rfl) ?_
    refine lv_bipush (v := 9) hx hb dX4_notes_30 (by decide) ?_
    refine lv_icmp_gt (tgt := 73) hx hb dX4_notes_32 (by decide) (fun c5 => ?_) (fun c5 => ?_)
    · replace h := ot c5 h
      refine lv_aload_n hx hb dX4_notes_73 rfl (lv_at hl 0 rfl) ?_
      refine rgM X Y 10 (v := .ref (ad 6)) tw_479 rfl dX4_notes_74 ?_
      refine lv_iconst (v := 5) hx hb dX4_notes_77 (by decide) ?_
      refine lv_iload_n hx hb dX4_notes_78 rfl (lv_at hl 1 rfl) ?_
      refine lv_imul hx hb dX4_notes_79 ?_
      refine lv_iload_n hx hb dX4_notes_80 rfl (lv_at hl 2 rfl) ?_
      refine lv_iadd hx hb dX4_notes_81 ?_
      refine lv_iload_n hx hb dX4_notes_82 rfl (lv_at hl 3 rfl) ?_
      obtain ⟨hg6, h⟩ := og h
      refine ris X Y (W1 := WM g ad (up2 σ 6 ((((5 : Int32) * v1) + v2).toNatClampNeg) v3)) (lkM_6 g ad σ) hg6 (stM_A6 g ad σ _) dX4_notes_83 (fun H locs Y => ?_)
      refine lv_iload hx hb dX4_notes_84 (lv_at hl 4 rfl) ?_
      obtain ⟨rfl, rfl⟩ := os2 h
      exact retI X Y hr hlk dX4_notes_86
    · replace h := oe c5 h
      refine lv_aload_n hx hb dX4_notes_35 rfl (lv_at hl 0 rfl) ?_
      refine rgM X Y 10 (v := .ref (ad 6)) tw_479 rfl dX4_notes_36 ?_
      refine lv_iconst (v := 5) hx hb dX4_notes_39 (by decide) ?_
      refine lv_iload_n hx hb dX4_notes_40 rfl (lv_at hl 1 rfl) ?_
      refine lv_imul hx hb dX4_notes_41 ?_
      refine lv_iload_n hx hb dX4_notes_42 rfl (lv_at hl 2 rfl) ?_
      refine lv_iadd hx hb dX4_notes_43 ?_
      refine lv_iload hx hb dX4_notes_44 (lv_at hl 5 rfl) ?_
      obtain ⟨hg7, h⟩ := og h
      refine ris X Y (W1 := WM g ad (up2 σ 6 ((((5 : Int32) * v1) + v2).toNatClampNeg) v5)) (lkM_6 g ad σ) hg7 (stM_A6 g ad σ _) dX4_notes_46 (fun H locs Y => ?_)
      refine lv_iload hx hb dX4_notes_47 (lv_at hl 4 rfl) ?_
      refine lv_aload_n hx hb dX4_notes_49 rfl (lv_at hl 0 rfl) ?_
      obtain ⟨r9, hg8, h⟩ := ob h
      refine cVi X (hml.trans hl.1.symm) Y (c_fX4_areSo l D g ad (up2 σ 6 ((((5 : Int32) * v1) + v2).toNatClampNeg) v5) n hg8) (lkM g ad (up2 σ 6 ((((5 : Int32) * v1) + v2).toNatClampNeg) v5)) rfl (gs_X4_177 _) rfl fd_X4_areSo ⟨Nat.le_of_ble_eq_true rfl, Nat.le_of_ble_eq_true rfl⟩ ⟨Nat.le_of_ble_eq_true rfl, Nat.le_of_ble_eq_true rfl⟩ (rest := [.int v4]) rfl (Nat.le_of_ble_eq_true rfl) dX4_notes_50 (fun H locs Y => ?_)
      refine lv_if_eq (tgt := 63) hx hb dX4_notes_53 (by decide) (fun c10 => ?_) (fun c10 => ?_)
      · replace h := ot c10 h
        refine lv_iconst (v := 0) hx hb dX4_notes_63 (by decide) ?_
        refine lv_ior hx hb dX4_notes_64 ?_
        refine lv_istore (lv' := [(4, .int (v4 ||| 0)), (0, .ref (ad 0)), (1, .int v1), (2, .int v2), (3, .int v3), (5, .int v5)]) hx hb dX4_notes_65 hl (by decide) rfl (fun ls hl => ?_)
        refine lv_iinc (v := v5 + 1) (lv' := [(5, .int (v5 + 1)), (4, .int (v4 ||| 0)), (0, .ref (ad 0)), (1, .int v1), (2, .int v2), (3, .int v3)]) hx hb dX4_notes_67 hl (k := 5) rfl rfl (by decide) rfl (fun ls hl => ?_)
        refine lv_goto (tgt := 28) hx hb dX4_notes_70 (by decide) ?_
        exact ih (up2 σ 6 ((((5 : Int32) * v1) + v2).toNatClampNeg) v5) v1 v2 v3 (v4 ||| 0) (v5 + 1) _ _ _ Y (lv_sub hl [2, 3, 4, 5, 1, 0] rfl) h
      · replace h := oe c10 h
        refine lv_iconst (v := 1) hx hb dX4_notes_56 (by decide) ?_
        refine lv_iload hx hb dX4_notes_57 (lv_at hl 5 rfl) ?_
        refine lv_ishl hx hb dX4_notes_59 ?_
        refine lv_goto (tgt := 64) hx hb dX4_notes_60 (by decide) ?_
        refine lv_ior hx hb dX4_notes_64 ?_
        refine lv_istore (lv' := [(4, .int (v4 ||| ((1 : Int32) <<< (v5 &&& 31)))), (0, .ref (ad 0)), (1, .int v1), (2, .int v2), (3, .int v3), (5, .int v5)]) hx hb dX4_notes_65 hl (by decide) rfl (fun ls hl => ?_)
        refine lv_iinc (v := v5 + 1) (lv' := [(5, .int (v5 + 1)), (4, .int (v4 ||| ((1 : Int32) <<< (v5 &&& 31)))), (0, .ref (ad 0)), (1, .int v1), (2, .int v2), (3, .int v3)]) hx hb dX4_notes_67 hl (k := 5) rfl rfl (by decide) rfl (fun ls hl => ?_)
        refine lv_goto (tgt := 28) hx hb dX4_notes_70 (by decide) ?_
        exact ih (up2 σ 6 ((((5 : Int32) * v1) + v2).toNatClampNeg) v5) v1 v2 v3 (v4 ||| ((1 : Int32) <<< (v5 &&& 31))) (v5 + 1) _ _ _ Y (lv_sub hl [2, 3, 4, 5, 1, 0] rfl) h
set_option maxHeartbeats 4000000 in
set_option maxRecDepth 100000 in
theorem c_fX4_notes (l : Launch) (D : va_G) (g : Nat → ClassId) (ad : Nat → Nat) (σ : St) (n : Nat) (v1 : Int32) (v2 : Int32) {r0 : Int32} {σ0 : St} (h : fX4_notes n σ v1 v2 = some (r0, σ0)) : MI l yX4_notes kX4_notes 4 92 D g (WM g ad σ) (WM g ad σ0) [.ref (ad 0), .int v1, .int v2] r0 := by
  intro sz
  refine Met.of2 (Qc := fun A => QI D g A (WM g ad σ0) r0) (cc := cX4_notes) (maxL := 6) (ret := (some .int)) (own := RX4) (by decide) rfl rfl (Nat.le_of_ble_eq_true rfl) ?_
  intro p e s m below meth c A ls X hr hlk hml Y hl
  have hx := X.1
  have hb := X.2.1
  have hl : lv_has ls 6 [(0, .ref (ad 0)), (1, .int v1), (2, .int v2)] := hl
  rw [fX4_notes] at h
  refine lv_aload_n hx hb dX4_notes_0 rfl (lv_at hl 0 rfl) ?_
  refine lv_iload_n hx hb dX4_notes_1 rfl (lv_at hl 1 rfl) ?_
  refine lv_iload_n hx hb dX4_notes_2 rfl (lv_at hl 2 rfl) ?_
  obtain ⟨r2, hg1, h⟩ := ob h
  refine cVi X (hml.trans hl.1.symm) Y (c_fX4_isNote l D g ad σ v1 v2 hg1) (lkM g ad σ) rfl (gs_X4_121 _) rfl fd_X4_isNote ⟨Nat.le_of_ble_eq_true rfl, Nat.le_of_ble_eq_true rfl⟩ ⟨Nat.le_of_ble_eq_true rfl, Nat.le_of_ble_eq_true rfl⟩ (rest := []) rfl (Nat.le_of_ble_eq_true rfl) dX4_notes_3 (fun H locs Y => ?_)
  refine lv_if_ne (tgt := 11) hx hb dX4_notes_6 (by decide) (fun c3 => ?_) (fun c3 => ?_)
  · replace h := oe c3 h
    refine lv_aload_n hx hb dX4_notes_11 rfl (lv_at hl 0 rfl) ?_
    refine rgM X Y 10 (v := .ref (ad 6)) tw_479 rfl dX4_notes_12 ?_
    refine lv_iconst (v := 5) hx hb dX4_notes_15 (by decide) ?_
    refine lv_iload_n hx hb dX4_notes_16 rfl (lv_at hl 1 rfl) ?_
    refine lv_imul hx hb dX4_notes_17 ?_
    refine lv_iload_n hx hb dX4_notes_18 rfl (lv_at hl 2 rfl) ?_
    refine lv_iadd hx hb dX4_notes_19 ?_
    obtain ⟨hg4, h⟩ := og h
    refine ri X Y (lkM_6 g ad σ) hg4 dX4_notes_20 ?_
    refine lv_istore_n (lv' := [(3, .int (σ 6 (((5 : Int32) * v1) + v2).toNatClampNeg)), (0, .ref (ad 0)), (1, .int v1), (2, .int v2)]) hx hb dX4_notes_21 rfl hl (by decide) rfl (fun ls hl => ?_)
    refine lv_iconst (v := 0) hx hb dX4_notes_22 (by decide) ?_
    refine lv_istore (lv' := [(4, .int 0), (3, .int (σ 6 (((5 : Int32) * v1) + v2).toNatClampNeg)), (0, .ref (ad 0)), (1, .int v1), (2, .int v2)]) hx hb dX4_notes_23 hl (by decide) rfl (fun ls hl => ?_)
    refine lv_iconst (v := 0) hx hb dX4_notes_25 (by decide) ?_
    refine lv_istore (lv' := [(5, .int 0), (4, .int 0), (3, .int (σ 6 (((5 : Int32) * v1) + v2).toNatClampNeg)), (0, .ref (ad 0)), (1, .int v1), (2, .int v2)]) hx hb dX4_notes_26 hl (by decide) rfl (fun ls hl => ?_)
    exact w_fX4_notes_L28 X hr hlk hml n σ v1 v2 (σ 6 (((5 : Int32) * v1) + v2).toNatClampNeg) 0 0 _ _ _ Y (lv_sub hl [3, 4, 5, 2, 1, 0] rfl) h
  · replace h := ot c3 h
    refine lv_iconst (v := (-1)) hx hb dX4_notes_9 (by decide) ?_
    obtain ⟨rfl, rfl⟩ := os2 h
    exact retI X Y hr hlk dX4_notes_10
set_option maxHeartbeats 4000000 in
set_option maxRecDepth 100000 in
theorem w_fX4_kinds_L22 {p : Program} {l : Launch} {e : Env} {s : State} {m : MethodId} {args : Array Value} {below : List Frame} {meth : Method} {c : Code} {D : va_G} {g : Nat → ClassId} {ad : Nat → Nat} {A : Nat → Prop} {r0 : Int32} {σ0 : St} (X : Cx p s m c args cX4_kinds RX4 kX4_kinds D g) (hr : meth.sig.returnType = (some .int)) (hlk : meth.locks = false) (hml : c.maxLocals = 5) : ∀ (n : Nat), ∀ (σ : St) (v1 : Int32) (v2 : Int32) (v3 : Int32) (v4 : Int32) (H : Heap) (locs : List Loc) (ls : Array Slot), Hp D A s.heap H locs (WM g ad σ) → lv_has ls 5 [(0, .ref (ad 0)), (1, .int v1), (2, .int v2), (3, .int v3), (4, .int v4)] → fX4_kinds_L22 n σ v1 v2 v3 v4 = some (r0, σ0) → W p l e (RM 4 92) s m args below meth c H locs 0 0 (MQ below (QI D g A (WM g ad σ0) r0) args s 0 0 A) (F0 m 22 ls []) := by
  have hx := X.1
  have hb := X.2.1
  intro n
  induction n with
  | zero => intro σ v1 v2 v3 v4 H locs ls Y hl h; cases (show none = _ from h)
  | succ n ih =>
    intro σ v1 v2 v3 v4 H locs ls Y hl h
    rw [fX4_kinds_L22] at h
    refine lv_iload hx hb dX4_kinds_22 (lv_at hl 4 rfl) ?_
    refine lv_iconst (v := 3) hx hb dX4_kinds_24 (by decide) ?_
    refine lv_icmp_ge (tgt := 60) hx hb dX4_kinds_25 (by decide) (fun c5 => ?_) (fun c5 => ?_)
    · replace h := ot c5 h
      refine lv_aload_n hx hb dX4_kinds_60 rfl (lv_at hl 0 rfl) ?_
      refine rgM X Y 8 (v := .ref (ad 4)) tw_477 rfl dX4_kinds_61 ?_
      refine lv_iload_n hx hb dX4_kinds_64 rfl (lv_at hl 1 rfl) ?_
      refine lv_iload_n hx hb dX4_kinds_65 rfl (lv_at hl 2 rfl) ?_
      obtain ⟨hg6, h⟩ := og h
      refine ris X Y (W1 := WM g ad (up2 σ 4 v1.toNatClampNeg v2)) (lkM_4 g ad σ) hg6 (stM_A4 g ad σ _) dX4_kinds_66 (fun H locs Y => ?_)
      refine lv_iload_n hx hb dX4_kinds_67 rfl (lv_at hl 3 rfl) ?_
      obtain ⟨rfl, rfl⟩ := os2 h
      exact retI X Y hr hlk dX4_kinds_68
    · replace h := oe c5 h
      refine lv_aload_n hx hb dX4_kinds_28 rfl (lv_at hl 0 rfl) ?_
      refine rgM X Y 8 (v := .ref (ad 4)) tw_477 rfl dX4_kinds_29 ?_
      refine lv_iload_n hx hb dX4_kinds_32 rfl (lv_at hl 1 rfl) ?_
      refine lv_iload hx hb dX4_kinds_33 (lv_at hl 4 rfl) ?_
      obtain ⟨hg7, h⟩ := og h
      refine ris X Y (W1 := WM g ad (up2 σ 4 v1.toNatClampNeg v4)) (lkM_4 g ad σ) hg7 (stM_A4 g ad σ _) dX4_kinds_35 (fun H locs Y => ?_)
      refine lv_iload_n hx hb dX4_kinds_36 rfl (lv_at hl 3 rfl) ?_
      refine lv_aload_n hx hb dX4_kinds_37 rfl (lv_at hl 0 rfl) ?_
      obtain ⟨r9, hg8, h⟩ := ob h
      refine cVi X (hml.trans hl.1.symm) Y (c_fX4_areSo l D g ad (up2 σ 4 v1.toNatClampNeg v4) n hg8) (lkM g ad (up2 σ 4 v1.toNatClampNeg v4)) rfl (gs_X4_177 _) rfl fd_X4_areSo ⟨Nat.le_of_ble_eq_true rfl, Nat.le_of_ble_eq_true rfl⟩ ⟨Nat.le_of_ble_eq_true rfl, Nat.le_of_ble_eq_true rfl⟩ (rest := [.int v3]) rfl (Nat.le_of_ble_eq_true rfl) dX4_kinds_38 (fun H locs Y => ?_)
      refine lv_if_eq (tgt := 51) hx hb dX4_kinds_41 (by decide) (fun c10 => ?_) (fun c10 => ?_)
      · replace h := ot c10 h
        refine lv_iconst (v := 0) hx hb dX4_kinds_51 (by decide) ?_
        refine lv_ior hx hb dX4_kinds_52 ?_
        refine lv_istore_n (lv' := [(3, .int (v3 ||| 0)), (0, .ref (ad 0)), (1, .int v1), (2, .int v2), (4, .int v4)]) hx hb dX4_kinds_53 rfl hl (by decide) rfl (fun ls hl => ?_)
        refine lv_iinc (v := v4 + 1) (lv' := [(4, .int (v4 + 1)), (3, .int (v3 ||| 0)), (0, .ref (ad 0)), (1, .int v1), (2, .int v2)]) hx hb dX4_kinds_54 hl (k := 4) rfl rfl (by decide) rfl (fun ls hl => ?_)
        refine lv_goto (tgt := 22) hx hb dX4_kinds_57 (by decide) ?_
        exact ih (up2 σ 4 v1.toNatClampNeg v4) v1 v2 (v3 ||| 0) (v4 + 1) _ _ _ Y (lv_sub hl [2, 3, 4, 1, 0] rfl) h
      · replace h := oe c10 h
        refine lv_iconst (v := 1) hx hb dX4_kinds_44 (by decide) ?_
        refine lv_iload hx hb dX4_kinds_45 (lv_at hl 4 rfl) ?_
        refine lv_ishl hx hb dX4_kinds_47 ?_
        refine lv_goto (tgt := 52) hx hb dX4_kinds_48 (by decide) ?_
        refine lv_ior hx hb dX4_kinds_52 ?_
        refine lv_istore_n (lv' := [(3, .int (v3 ||| ((1 : Int32) <<< (v4 &&& 31)))), (0, .ref (ad 0)), (1, .int v1), (2, .int v2), (4, .int v4)]) hx hb dX4_kinds_53 rfl hl (by decide) rfl (fun ls hl => ?_)
        refine lv_iinc (v := v4 + 1) (lv' := [(4, .int (v4 + 1)), (3, .int (v3 ||| ((1 : Int32) <<< (v4 &&& 31)))), (0, .ref (ad 0)), (1, .int v1), (2, .int v2)]) hx hb dX4_kinds_54 hl (k := 4) rfl rfl (by decide) rfl (fun ls hl => ?_)
        refine lv_goto (tgt := 22) hx hb dX4_kinds_57 (by decide) ?_
        exact ih (up2 σ 4 v1.toNatClampNeg v4) v1 v2 (v3 ||| ((1 : Int32) <<< (v4 &&& 31))) (v4 + 1) _ _ _ Y (lv_sub hl [2, 3, 4, 1, 0] rfl) h
set_option maxHeartbeats 4000000 in
set_option maxRecDepth 100000 in
theorem c_fX4_kinds (l : Launch) (D : va_G) (g : Nat → ClassId) (ad : Nat → Nat) (σ : St) (n : Nat) (v1 : Int32) {r0 : Int32} {σ0 : St} (h : fX4_kinds n σ v1 = some (r0, σ0)) : MI l yX4_kinds kX4_kinds 4 92 D g (WM g ad σ) (WM g ad σ0) [.ref (ad 0), .int v1] r0 := by
  intro sz
  refine Met.of2 (Qc := fun A => QI D g A (WM g ad σ0) r0) (cc := cX4_kinds) (maxL := 5) (ret := (some .int)) (own := RX4) (by decide) rfl rfl (Nat.le_of_ble_eq_true rfl) ?_
  intro p e s m below meth c A ls X hr hlk hml Y hl
  have hx := X.1
  have hb := X.2.1
  have hl : lv_has ls 5 [(0, .ref (ad 0)), (1, .int v1)] := hl
  rw [fX4_kinds] at h
  refine lv_aload_n hx hb dX4_kinds_0 rfl (lv_at hl 0 rfl) ?_
  refine lv_iload_n hx hb dX4_kinds_1 rfl (lv_at hl 1 rfl) ?_
  obtain ⟨r2, hg1, h⟩ := ob h
  refine cVi X (hml.trans hl.1.symm) Y (c_fX4_isPerson l D g ad σ v1 hg1) (lkM g ad σ) rfl (gs_X4_115 _) rfl fd_X4_isPerson ⟨Nat.le_of_ble_eq_true rfl, Nat.le_of_ble_eq_true rfl⟩ ⟨Nat.le_of_ble_eq_true rfl, Nat.le_of_ble_eq_true rfl⟩ (rest := []) rfl (Nat.le_of_ble_eq_true rfl) dX4_kinds_2 (fun H locs Y => ?_)
  refine lv_if_ne (tgt := 10) hx hb dX4_kinds_5 (by decide) (fun c3 => ?_) (fun c3 => ?_)
  · replace h := oe c3 h
    refine lv_aload_n hx hb dX4_kinds_10 rfl (lv_at hl 0 rfl) ?_
    refine rgM X Y 8 (v := .ref (ad 4)) tw_477 rfl dX4_kinds_11 ?_
    refine lv_iload_n hx hb dX4_kinds_14 rfl (lv_at hl 1 rfl) ?_
    obtain ⟨hg4, h⟩ := og h
    refine ri X Y (lkM_4 g ad σ) hg4 dX4_kinds_15 ?_
    refine lv_istore_n (lv' := [(2, .int (σ 4 v1.toNatClampNeg)), (0, .ref (ad 0)), (1, .int v1)]) hx hb dX4_kinds_16 rfl hl (by decide) rfl (fun ls hl => ?_)
    refine lv_iconst (v := 0) hx hb dX4_kinds_17 (by decide) ?_
    refine lv_istore_n (lv' := [(3, .int 0), (2, .int (σ 4 v1.toNatClampNeg)), (0, .ref (ad 0)), (1, .int v1)]) hx hb dX4_kinds_18 rfl hl (by decide) rfl (fun ls hl => ?_)
    refine lv_iconst (v := 0) hx hb dX4_kinds_19 (by decide) ?_
    refine lv_istore (lv' := [(4, .int 0), (3, .int 0), (2, .int (σ 4 v1.toNatClampNeg)), (0, .ref (ad 0)), (1, .int v1)]) hx hb dX4_kinds_20 hl (by decide) rfl (fun ls hl => ?_)
    exact w_fX4_kinds_L22 X hr hlk hml n σ v1 (σ 4 v1.toNatClampNeg) 0 0 _ _ _ Y (lv_sub hl [3, 4, 2, 1, 0] rfl) h
  · replace h := ot c3 h
    refine lv_iconst (v := (-1)) hx hb dX4_kinds_8 (by decide) ?_
    obtain ⟨rfl, rfl⟩ := os2 h
    exact retI X Y hr hlk dX4_kinds_9
set_option maxHeartbeats 4000000 in
set_option maxRecDepth 100000 in
theorem w_fX4_often_L19 {p : Program} {l : Launch} {e : Env} {s : State} {m : MethodId} {args : Array Value} {below : List Frame} {meth : Method} {c : Code} {D : va_G} {g : Nat → ClassId} {ad : Nat → Nat} {A : Nat → Prop} {r0 : Int32} {σ0 : St} (X : Cx p s m c args cX4_often RX4 kX4_often D g) (hr : meth.sig.returnType = (some .int)) (hlk : meth.locks = false) (hml : c.maxLocals = 4) : ∀ (n : Nat), ∀ (σ : St) (v1 : Int32) (v2 : Int32) (v3 : Int32) (H : Heap) (locs : List Loc) (ls : Array Slot), Hp D A s.heap H locs (WM g ad σ) → lv_has ls 4 [(0, .ref (ad 0)), (1, .int v1), (2, .int v2), (3, .int v3)] → fX4_often_L19 n σ v1 v2 v3 = some (r0, σ0) → W p l e (RM 4 92) s m args below meth c H locs 0 0 (MQ below (QI D g A (WM g ad σ0) r0) args s 0 0 A) (F0 m 19 ls []) := by
  have hx := X.1
  have hb := X.2.1
  intro n
  induction n with
  | zero => intro σ v1 v2 v3 H locs ls Y hl h; cases (show none = _ from h)
  | succ n ih =>
    intro σ v1 v2 v3 H locs ls Y hl h
    rw [fX4_often_L19] at h
    refine lv_iload_n hx hb dX4_often_19 rfl (lv_at hl 3 rfl) ?_
    refine lv_iconst (v := 3) hx hb dX4_often_20 (by decide) ?_
    refine lv_icmp_gt (tgt := 52) hx hb dX4_often_21 (by decide) (fun c2 => ?_) (fun c2 => ?_)
    · replace h := ot c2 h
      refine lv_aload_n hx hb dX4_often_52 rfl (lv_at hl 0 rfl) ?_
      refine lv_iload_n hx hb dX4_often_53 rfl (lv_at hl 1 rfl) ?_
      refine rpM X Y 7 (v := v1) tw_476 rfl rfl rfl (stM_7 g ad σ v1) dX4_often_54 (fun H locs Y => ?_)
      refine lv_iload_n hx hb dX4_often_57 rfl (lv_at hl 2 rfl) ?_
      obtain ⟨rfl, rfl⟩ := os2 h
      exact retI X Y hr hlk dX4_often_58
    · replace h := oe c2 h
      refine lv_aload_n hx hb dX4_often_24 rfl (lv_at hl 0 rfl) ?_
      refine lv_iload_n hx hb dX4_often_25 rfl (lv_at hl 3 rfl) ?_
      refine rpM X Y 7 (v := v3) tw_476 rfl rfl rfl (stM_7 g ad σ v3) dX4_often_26 (fun H locs Y => ?_)
      refine lv_iload_n hx hb dX4_often_29 rfl (lv_at hl 2 rfl) ?_
      refine lv_aload_n hx hb dX4_often_30 rfl (lv_at hl 0 rfl) ?_
      obtain ⟨r4, hg3, h⟩ := ob h
      refine cVi X (hml.trans hl.1.symm) Y (c_fX4_areSo l D g ad (up2 σ 0 7 v3) n hg3) (lkM g ad (up2 σ 0 7 v3)) rfl (gs_X4_177 _) rfl fd_X4_areSo ⟨Nat.le_of_ble_eq_true rfl, Nat.le_of_ble_eq_true rfl⟩ ⟨Nat.le_of_ble_eq_true rfl, Nat.le_of_ble_eq_true rfl⟩ (rest := [.int v2]) rfl (Nat.le_of_ble_eq_true rfl) dX4_often_31 (fun H locs Y => ?_)
      refine lv_if_eq (tgt := 43) hx hb dX4_often_34 (by decide) (fun c5 => ?_) (fun c5 => ?_)
      · replace h := ot c5 h
        refine lv_iconst (v := 0) hx hb dX4_often_43 (by decide) ?_
        refine lv_ior hx hb dX4_often_44 ?_
        refine lv_istore_n (lv' := [(2, .int (v2 ||| 0)), (0, .ref (ad 0)), (1, .int v1), (3, .int v3)]) hx hb dX4_often_45 rfl hl (by decide) rfl (fun ls hl => ?_)
        refine lv_iinc (v := v3 + 1) (lv' := [(3, .int (v3 + 1)), (2, .int (v2 ||| 0)), (0, .ref (ad 0)), (1, .int v1)]) hx hb dX4_often_46 hl (k := 3) rfl rfl (by decide) rfl (fun ls hl => ?_)
        refine lv_goto (tgt := 19) hx hb dX4_often_49 (by decide) ?_
        exact ih (up2 σ 0 7 v3) v1 (v2 ||| 0) (v3 + 1) _ _ _ Y (lv_sub hl [2, 3, 1, 0] rfl) h
      · replace h := oe c5 h
        refine lv_iconst (v := 1) hx hb dX4_often_37 (by decide) ?_
        refine lv_iload_n hx hb dX4_often_38 rfl (lv_at hl 3 rfl) ?_
        refine lv_ishl hx hb dX4_often_39 ?_
        refine lv_goto (tgt := 44) hx hb dX4_often_40 (by decide) ?_
        refine lv_ior hx hb dX4_often_44 ?_
        refine lv_istore_n (lv' := [(2, .int (v2 ||| ((1 : Int32) <<< (v3 &&& 31)))), (0, .ref (ad 0)), (1, .int v1), (3, .int v3)]) hx hb dX4_often_45 rfl hl (by decide) rfl (fun ls hl => ?_)
        refine lv_iinc (v := v3 + 1) (lv' := [(3, .int (v3 + 1)), (2, .int (v2 ||| ((1 : Int32) <<< (v3 &&& 31)))), (0, .ref (ad 0)), (1, .int v1)]) hx hb dX4_often_46 hl (k := 3) rfl rfl (by decide) rfl (fun ls hl => ?_)
        refine lv_goto (tgt := 19) hx hb dX4_often_49 (by decide) ?_
        exact ih (up2 σ 0 7 v3) v1 (v2 ||| ((1 : Int32) <<< (v3 &&& 31))) (v3 + 1) _ _ _ Y (lv_sub hl [2, 3, 1, 0] rfl) h
set_option maxHeartbeats 4000000 in
set_option maxRecDepth 100000 in
theorem c_fX4_often (l : Launch) (D : va_G) (g : Nat → ClassId) (ad : Nat → Nat) (σ : St) (n : Nat) {r0 : Int32} {σ0 : St} (h : fX4_often n σ = some (r0, σ0)) : MI l yX4_often kX4_often 4 92 D g (WM g ad σ) (WM g ad σ0) [.ref (ad 0)] r0 := by
  intro sz
  refine Met.of2 (Qc := fun A => QI D g A (WM g ad σ0) r0) (cc := cX4_often) (maxL := 4) (ret := (some .int)) (own := RX4) (by decide) rfl rfl (Nat.le_of_ble_eq_true rfl) ?_
  intro p e s m below meth c A ls X hr hlk hml Y hl
  have hx := X.1
  have hb := X.2.1
  have hl : lv_has ls 4 [(0, .ref (ad 0))] := hl
  rw [fX4_often] at h
  refine lv_aload_n hx hb dX4_often_0 rfl (lv_at hl 0 rfl) ?_
  refine rgM X Y 5 (v := .int (σ 0 5)) tw_474 rfl dX4_often_1 ?_
  refine lv_if_ne (tgt := 10) hx hb dX4_often_4 (by decide) (fun c1 => ?_) (fun c1 => ?_)
  · replace h := oe c1 h
    refine lv_aload_n hx hb dX4_often_10 rfl (lv_at hl 0 rfl) ?_
    refine rgM X Y 7 (v := .int (σ 0 7)) tw_476 rfl dX4_often_11 ?_
    refine lv_istore_n (lv' := [(1, .int (σ 0 7)), (0, .ref (ad 0))]) hx hb dX4_often_14 rfl hl (by decide) rfl (fun ls hl => ?_)
    refine lv_iconst (v := 0) hx hb dX4_often_15 (by decide) ?_
    refine lv_istore_n (lv' := [(2, .int 0), (1, .int (σ 0 7)), (0, .ref (ad 0))]) hx hb dX4_often_16 rfl hl (by decide) rfl (fun ls hl => ?_)
    refine lv_iconst (v := 1) hx hb dX4_often_17 (by decide) ?_
    refine lv_istore_n (lv' := [(3, .int 1), (2, .int 0), (1, .int (σ 0 7)), (0, .ref (ad 0))]) hx hb dX4_often_18 rfl hl (by decide) rfl (fun ls hl => ?_)
    exact w_fX4_often_L19 X hr hlk hml n σ (σ 0 7) 0 1 _ _ _ Y (lv_sub hl [3, 2, 1, 0] rfl) h
  · replace h := ot c1 h
    refine lv_bipush (v := (-3)) hx hb dX4_often_7 (by decide) ?_
    obtain ⟨rfl, rfl⟩ := os2 h
    exact retI X Y hr hlk dX4_often_9
set_option maxHeartbeats 4000000 in
set_option maxRecDepth 100000 in
theorem w_fX4_inLeastTerms_L6 {p : Program} {l : Launch} {e : Env} {s : State} {m : MethodId} {args : Array Value} {below : List Frame} {meth : Method} {c : Code} {D : va_G} {g : Nat → ClassId} {W0 : va_W} {A : Nat → Prop} {r0 : Int64} (X : Cx p s m c args cX4_inLeastTerms RX4 kX4_inLeastTerms D g) (hr : meth.sig.returnType = (some .long)) (hlk : meth.locks = false) (hml : c.maxLocals = 11) : ∀ (n : Nat), ∀ (v0 : Int64) (v2 : Int64) (v4 : Int32) (v5 : Int64) (v7 : Int64) (H : Heap) (locs : List Loc) (ls : Array Slot), Hp D A s.heap H locs (W0) → lv_has ls 11 [(0, .long v0), (2, .long v2), (4, .int v4), (5, .long v5), (7, .long v7)] → fX4_inLeastTerms_L6 n v0 v2 v4 v5 v7 = some r0 → W p l e (RM 0 0) s m args below meth c H locs 0 0 (MQ below (QL D g A (W0) r0) args s 0 0 A) (F0 m 6 ls []) := by
  have hx := X.1
  have hb := X.2.1
  intro n
  induction n with
  | zero => intro v0 v2 v4 v5 v7 H locs ls Y hl h; cases (show none = _ from h)
  | succ n ih =>
    intro v0 v2 v4 v5 v7 H locs ls Y hl h
    rw [fX4_inLeastTerms_L6] at h
    refine lv_lload hx hb dX4_inLeastTerms_6 (lv_at hl 4 rfl) ?_
    refine lv_lconst (v := 0) hx hb dX4_inLeastTerms_8 (by decide) ?_
    refine W.lcmp hx hb dX4_inLeastTerms_9 ?_
    refine lv_if_eq (tgt := 31) hx hb dX4_inLeastTerms_10 (by decide) (fun c1 => ?_) (fun c1 => ?_)
    · replace h := ot c1 h
      refine lv_iload hx hb dX4_inLeastTerms_31 (lv_at hl 2 rfl) ?_
      refine lv_if_ne (tgt := 43) hx hb dX4_inLeastTerms_33 (by decide) (fun c2 => ?_) (fun c2 => ?_)
      · replace h := oe c2 h
        refine lv_lload_n hx hb dX4_inLeastTerms_43 rfl (lv_at hl 1 rfl) ?_
        refine lv_lload hx hb dX4_inLeastTerms_44 (lv_at hl 3 rfl) ?_
        obtain ⟨hg3, h⟩ := og h
        refine lv_ldiv hx hb dX4_inLeastTerms_46 hg3 ?_
        obtain rfl := os1 h
        exact retL X Y hr hlk dX4_inLeastTerms_47
      · replace h := ot c2 h
        refine lv_lload_n hx hb dX4_inLeastTerms_36 rfl (lv_at hl 0 rfl) ?_
        refine lv_lload hx hb dX4_inLeastTerms_37 (lv_at hl 3 rfl) ?_
        obtain ⟨hg4, h⟩ := og h
        refine lv_ldiv hx hb dX4_inLeastTerms_39 hg4 ?_
        refine lv_goto (tgt := 47) hx hb dX4_inLeastTerms_40 (by decide) ?_
        obtain rfl := os1 h
        exact retL X Y hr hlk dX4_inLeastTerms_47
    · replace h := oe c1 h
      refine lv_lload hx hb dX4_inLeastTerms_13 (lv_at hl 3 rfl) ?_
      refine lv_lload hx hb dX4_inLeastTerms_15 (lv_at hl 4 rfl) ?_
      obtain ⟨hg5, h⟩ := og h
      refine lv_lrem hx hb dX4_inLeastTerms_17 hg5 ?_
      refine lv_lstore (lv' := [(9, .long (v5 - v5 / v7 * v7)), (0, .long v0), (2, .long v2), (4, .int v4), (5, .long v5), (7, .long v7)]) hx hb dX4_inLeastTerms_18 hl (by decide) rfl (fun ls hl => ?_)
      refine lv_lload hx hb dX4_inLeastTerms_20 (lv_at hl 5 rfl) ?_
      refine lv_lstore (lv' := [(5, .long v7), (9, .long (v5 - v5 / v7 * v7)), (0, .long v0), (2, .long v2), (4, .int v4), (7, .long v7)]) hx hb dX4_inLeastTerms_22 hl (by decide) rfl (fun ls hl => ?_)
      refine lv_lload hx hb dX4_inLeastTerms_24 (lv_at hl 1 rfl) ?_
      refine lv_lstore (lv' := [(7, .long (v5 - v5 / v7 * v7)), (5, .long v7), (9, .long (v5 - v5 / v7 * v7)), (0, .long v0), (2, .long v2), (4, .int v4)]) hx hb dX4_inLeastTerms_26 hl (by decide) rfl (fun ls hl => ?_)
      refine lv_goto (tgt := 6) hx hb dX4_inLeastTerms_28 (by decide) ?_
      exact ih  v0 v2 v4 v7 (v5 - v5 / v7 * v7) _ _ _ Y (lv_sub hl [3, 4, 5, 1, 0] rfl) h
set_option maxHeartbeats 4000000 in
set_option maxRecDepth 100000 in
theorem c_fX4_inLeastTerms (l : Launch) (D : va_G) (g : Nat → ClassId) (W0 : va_W) (n : Nat) (v0 : Int64) (v2 : Int64) (v4 : Int32) {r0 : Int64} (h : fX4_inLeastTerms n v0 v2 v4 = some r0) : ML l yX4_inLeastTerms kX4_inLeastTerms 0 0 D g (W0) (W0) [.long v0, .long v2, .int v4] r0 := by
  intro sz
  refine Met.of2 (Qc := fun A => QL D g A (W0) r0) (cc := cX4_inLeastTerms) (maxL := 11) (ret := (some .long)) (own := RX4) (by decide) rfl rfl (Nat.le_of_ble_eq_true rfl) ?_
  intro p e s m below meth c A ls X hr hlk hml Y hl
  have hx := X.1
  have hb := X.2.1
  have hl : lv_has ls 11 [(0, .long v0), (2, .long v2), (4, .int v4)] := hl
  rw [fX4_inLeastTerms] at h
  refine lv_lload_n hx hb dX4_inLeastTerms_0 rfl (lv_at hl 0 rfl) ?_
  refine lv_lstore (lv' := [(5, .long v0), (0, .long v0), (2, .long v2), (4, .int v4)]) hx hb dX4_inLeastTerms_1 hl (by decide) rfl (fun ls hl => ?_)
  refine lv_lload_n hx hb dX4_inLeastTerms_3 rfl (lv_at hl 2 rfl) ?_
  refine lv_lstore (lv' := [(7, .long v2), (5, .long v0), (0, .long v0), (2, .long v2), (4, .int v4)]) hx hb dX4_inLeastTerms_4 hl (by decide) rfl (fun ls hl => ?_)
  exact w_fX4_inLeastTerms_L6 X hr hlk hml n  v0 v2 v4 v0 v2 _ _ _ Y (lv_sub hl [2, 3, 4, 1, 0] rfl) h
set_option maxHeartbeats 4000000 in
set_option maxRecDepth 100000 in
theorem w_fX4_odds_L53 {p : Program} {l : Launch} {e : Env} {s : State} {m : MethodId} {args : Array Value} {below : List Frame} {meth : Method} {c : Code} {D : va_G} {g : Nat → ClassId} {ad : Nat → Nat} {A : Nat → Prop} {r0 : Int64} {σ0 : St} (X : Cx p s m c args cX4_odds RX4 kX4_odds D g) (hr : meth.sig.returnType = (some .long)) (hlk : meth.locks = false) (hml : c.maxLocals = 6) : ∀ (n : Nat), ∀ (σ : St) (v1 : Int32) (v2 : Int32) (v3 : Int32) (v4 : Int32) (v5 : Int32) (H : Heap) (locs : List Loc) (ls : Array Slot), Hp D A s.heap H locs (WM g ad σ) → lv_has ls 6 [(0, .ref (ad 0)), (1, .int v1), (2, .int v2), (3, .int v3), (4, .int v4), (5, .int v5)] → fX4_odds_L53 n σ v1 v2 v3 v4 v5 = some (r0, σ0) → W p l e (RM 3 71) s m args below meth c H locs 0 0 (MQ below (QL D g A (WM g ad σ0) r0) args s 0 0 A) (F0 m 53 ls []) := by
  have hx := X.1
  have hb := X.2.1
  intro n
  induction n with
  | zero => intro σ v1 v2 v3 v4 v5 H locs ls Y hl h; cases (show none = _ from h)
  | succ n ih =>
    intro σ v1 v2 v3 v4 v5 H locs ls Y hl h
    rw [fX4_odds_L53] at h
    refine lv_aload_n hx hb dX4_odds_53 rfl (lv_at hl 0 rfl) ?_
    refine rgM X Y 18 (v := .int (σ 0 18)) tw_487 rfl dX4_odds_54 ?_
    refine lv_iload hx hb dX4_odds_57 (lv_at hl 5 rfl) ?_
    refine lv_icmp_ge (tgt := 97) hx hb dX4_odds_59 (by decide) (fun c13 => ?_) (fun c13 => ?_)
    · replace h := ot c13 h
      refine lv_aload_n hx hb dX4_odds_97 rfl (lv_at hl 0 rfl) ?_
      refine lv_iconst (v := 0) hx hb dX4_odds_98 (by decide) ?_
      refine rpM X Y 18 (v := 0) tw_487 rfl rfl rfl (stM_18 g ad σ 0) dX4_odds_99 (fun H locs Y => ?_)
      refine lv_iload hx hb dX4_odds_102 (lv_at hl 4 rfl) ?_
      refine lv_i2l (v := v4.toInt64) hx hb dX4_odds_104 rfl ?_
      refine lv_iload hx hb dX4_odds_105 (lv_at hl 5 rfl) ?_
      refine lv_i2l (v := v5.toInt64) hx hb dX4_odds_107 rfl ?_
      refine lv_iload_n hx hb dX4_odds_108 rfl (lv_at hl 3 rfl) ?_
      obtain ⟨r15, hg14, h⟩ := ob h
      refine cSl X (hml.trans hl.1.symm) Y (c_fX4_inLeastTerms l D g (WM g ad (up2 σ 0 18 0)) n v4.toInt64 v5.toInt64 v3 hg14) (gs_X4_181 _) rfl fd_X4_inLeastTerms ⟨Nat.le_of_ble_eq_true rfl, Nat.le_of_ble_eq_true rfl⟩ ⟨Nat.le_of_ble_eq_true rfl, Nat.le_of_ble_eq_true rfl⟩ (rest := []) rfl (Nat.le_of_ble_eq_true rfl) dX4_odds_109 (fun H locs Y => ?_)
      obtain ⟨rfl, rfl⟩ := os2 h
      exact retL X Y hr hlk dX4_odds_112
    · replace h := oe c13 h
      refine lv_iload hx hb dX4_odds_62 (lv_at hl 4 rfl) ?_
      refine lv_aload_n hx hb dX4_odds_64 rfl (lv_at hl 0 rfl) ?_
      refine lv_iload_n hx hb dX4_odds_65 rfl (lv_at hl 2 rfl) ?_
      obtain ⟨r17, hg16, h⟩ := ob h
      refine cVi X (hml.trans hl.1.symm) Y (c_fX4_pullersOf l D g ad σ n v2 hg16) (lkM g ad σ) rfl (gs_X4_137 _) rfl fd_X4_pullersOf ⟨Nat.le_of_ble_eq_true rfl, Nat.le_of_ble_eq_true rfl⟩ ⟨Nat.le_of_ble_eq_true rfl, Nat.le_of_ble_eq_true rfl⟩ (rest := [.int v4]) rfl (Nat.le_of_ble_eq_true rfl) dX4_odds_66 (fun H locs Y => ?_)
      refine lv_iload_n hx hb dX4_odds_69 rfl (lv_at hl 1 rfl) ?_
      obtain ⟨r19, hg18, h⟩ := ob h
      refine cSi X (hml.trans hl.1.symm) Y (c_fX4_isOf l D g (WM g ad σ) r17 v1 hg18) (gs_X4_127 _) rfl fd_X4_isOf ⟨Nat.le_of_ble_eq_true rfl, Nat.le_of_ble_eq_true rfl⟩ ⟨Nat.le_of_ble_eq_true rfl, Nat.le_of_ble_eq_true rfl⟩ (rest := [.int v4]) rfl (Nat.le_of_ble_eq_true rfl) dX4_odds_70 (fun H locs Y => ?_)
      refine lv_if_eq (tgt := 80) hx hb dX4_odds_73 (by decide) (fun c20 => ?_) (fun c20 => ?_)
      · replace h := ot c20 h
        refine lv_iconst (v := 0) hx hb dX4_odds_80 (by decide) ?_
        refine lv_iadd hx hb dX4_odds_81 ?_
        refine lv_istore (lv' := [(4, .int (v4 + 0)), (0, .ref (ad 0)), (1, .int v1), (2, .int v2), (3, .int v3), (5, .int v5)]) hx hb dX4_odds_82 hl (by decide) rfl (fun ls hl => ?_)
        refine lv_aload_n hx hb dX4_odds_84 rfl (lv_at hl 1 rfl) ?_
        refine lv_dup hx hb dX4_odds_85 rfl ?_
        refine rgM X Y 18 (v := .int (σ 0 18)) tw_487 rfl dX4_odds_86 ?_
        refine lv_iconst (v := 1) hx hb dX4_odds_89 (by decide) ?_
        refine lv_iadd hx hb dX4_odds_90 ?_
        refine rpM X Y 18 (v := (σ 0 18) + 1) tw_487 rfl rfl rfl (stM_18 g ad σ ((σ 0 18) + 1)) dX4_odds_91 (fun H locs Y => ?_)
        refine lv_goto (tgt := 53) hx hb dX4_odds_94 (by decide) ?_
        exact ih (up2 σ 0 18 ((σ 0 18) + 1)) v1 v2 v3 (v4 + 0) v5 _ _ _ Y (lv_sub hl [1, 2, 3, 4, 0, 5] rfl) h
      · replace h := oe c20 h
        refine lv_iconst (v := 1) hx hb dX4_odds_76 (by decide) ?_
        refine lv_goto (tgt := 81) hx hb dX4_odds_77 (by decide) ?_
        refine lv_iadd hx hb dX4_odds_81 ?_
        refine lv_istore (lv' := [(4, .int (v4 + 1)), (0, .ref (ad 0)), (1, .int v1), (2, .int v2), (3, .int v3), (5, .int v5)]) hx hb dX4_odds_82 hl (by decide) rfl (fun ls hl => ?_)
        refine lv_aload_n hx hb dX4_odds_84 rfl (lv_at hl 1 rfl) ?_
        refine lv_dup hx hb dX4_odds_85 rfl ?_
        refine rgM X Y 18 (v := .int (σ 0 18)) tw_487 rfl dX4_odds_86 ?_
        refine lv_iconst (v := 1) hx hb dX4_odds_89 (by decide) ?_
        refine lv_iadd hx hb dX4_odds_90 ?_
        refine rpM X Y 18 (v := (σ 0 18) + 1) tw_487 rfl rfl rfl (stM_18 g ad σ ((σ 0 18) + 1)) dX4_odds_91 (fun H locs Y => ?_)
        refine lv_goto (tgt := 53) hx hb dX4_odds_94 (by decide) ?_
        exact ih (up2 σ 0 18 ((σ 0 18) + 1)) v1 v2 v3 (v4 + 1) v5 _ _ _ Y (lv_sub hl [1, 2, 3, 4, 0, 5] rfl) h
set_option maxHeartbeats 4000000 in
set_option maxRecDepth 100000 in
theorem c_fX4_odds (l : Launch) (D : va_G) (g : Nat → ClassId) (ad : Nat → Nat) (σ : St) (n : Nat) (v1 : Int32) (v2 : Int32) (v3 : Int32) {r0 : Int64} {σ0 : St} (h : fX4_odds n σ v1 v2 v3 = some (r0, σ0)) : ML l yX4_odds kX4_odds 3 71 D g (WM g ad σ) (WM g ad σ0) [.ref (ad 0), .int v1, .int v2, .int v3] r0 := by
  intro sz
  refine Met.of2 (Qc := fun A => QL D g A (WM g ad σ0) r0) (cc := cX4_odds) (maxL := 6) (ret := (some .long)) (own := RX4) (by decide) rfl rfl (Nat.le_of_ble_eq_true rfl) ?_
  intro p e s m below meth c A ls X hr hlk hml Y hl
  have hx := X.1
  have hb := X.2.1
  have hl : lv_has ls 6 [(0, .ref (ad 0)), (1, .int v1), (2, .int v2), (3, .int v3)] := hl
  rw [fX4_odds] at h
  refine lv_aload_n hx hb dX4_odds_0 rfl (lv_at hl 0 rfl) ?_
  refine lv_iload_n hx hb dX4_odds_1 rfl (lv_at hl 1 rfl) ?_
  obtain ⟨r2, hg1, h⟩ := ob h
  refine cVi X (hml.trans hl.1.symm) Y (c_fX4_isPerson l D g ad σ v1 hg1) (lkM g ad σ) rfl (gs_X4_115 _) rfl fd_X4_isPerson ⟨Nat.le_of_ble_eq_true rfl, Nat.le_of_ble_eq_true rfl⟩ ⟨Nat.le_of_ble_eq_true rfl, Nat.le_of_ble_eq_true rfl⟩ (rest := []) rfl (Nat.le_of_ble_eq_true rfl) dX4_odds_2 (fun H locs Y => ?_)
  refine lv_if_eq (tgt := 33) hx hb dX4_odds_5 (by decide) (fun c3 => ?_) (fun c3 => ?_)
  · replace h := ot c3 h
    refine lv_ldc2 (v := (-9223372036854775808)) hx hb X.2.2.1 (X.tb tw_728) dX4_odds_33 ?_
    obtain ⟨rfl, rfl⟩ := os2 h
    exact retL X Y hr hlk dX4_odds_36
  · replace h := oe c3 h
    refine lv_aload_n hx hb dX4_odds_8 rfl (lv_at hl 0 rfl) ?_
    refine lv_iload_n hx hb dX4_odds_9 rfl (lv_at hl 2 rfl) ?_
    obtain ⟨r5, hg4, h⟩ := ob h
    refine cVi X (hml.trans hl.1.symm) Y (c_fX4_isSet l D g ad σ v2 hg4) (lkM g ad σ) rfl (gs_X4_143 _) rfl fd_X4_isSet ⟨Nat.le_of_ble_eq_true rfl, Nat.le_of_ble_eq_true rfl⟩ ⟨Nat.le_of_ble_eq_true rfl, Nat.le_of_ble_eq_true rfl⟩ (rest := []) rfl (Nat.le_of_ble_eq_true rfl) dX4_odds_10 (fun H locs Y => ?_)
    refine lv_if_eq (tgt := 33) hx hb dX4_odds_13 (by decide) (fun c6 => ?_) (fun c6 => ?_)
    · replace h := ot c6 h
      refine lv_ldc2 (v := (-9223372036854775808)) hx hb X.2.2.1 (X.tb tw_728) dX4_odds_33 ?_
      obtain ⟨rfl, rfl⟩ := os2 h
      exact retL X Y hr hlk dX4_odds_36
    · replace h := oe c6 h
      refine lv_iload_n hx hb dX4_odds_16 rfl (lv_at hl 3 rfl) ?_
      refine lv_iconst (v := 0) hx hb dX4_odds_17 (by decide) ?_
      refine lv_iconst (v := 1) hx hb dX4_odds_18 (by decide) ?_
      obtain ⟨r8, hg7, h⟩ := ob h
      refine cSi X (hml.trans hl.1.symm) Y (c_fX4_within l D g (WM g ad σ) v3 0 1 hg7) (gs_X4_55 _) rfl fd_X4_within ⟨Nat.le_of_ble_eq_true rfl, Nat.le_of_ble_eq_true rfl⟩ ⟨Nat.le_of_ble_eq_true rfl, Nat.le_of_ble_eq_true rfl⟩ (rest := []) rfl (Nat.le_of_ble_eq_true rfl) dX4_odds_19 (fun H locs Y => ?_)
      refine lv_if_eq (tgt := 33) hx hb dX4_odds_22 (by decide) (fun c9 => ?_) (fun c9 => ?_)
      · replace h := ot c9 h
        refine lv_ldc2 (v := (-9223372036854775808)) hx hb X.2.2.1 (X.tb tw_728) dX4_odds_33 ?_
        obtain ⟨rfl, rfl⟩ := os2 h
        exact retL X Y hr hlk dX4_odds_36
      · replace h := oe c9 h
        refine lv_iload_n hx hb dX4_odds_25 rfl (lv_at hl 2 rfl) ?_
        refine lv_iload_n hx hb dX4_odds_26 rfl (lv_at hl 1 rfl) ?_
        obtain ⟨r11, hg10, h⟩ := ob h
        refine cSi X (hml.trans hl.1.symm) Y (c_fX4_isOf l D g (WM g ad σ) v2 v1 hg10) (gs_X4_127 _) rfl fd_X4_isOf ⟨Nat.le_of_ble_eq_true rfl, Nat.le_of_ble_eq_true rfl⟩ ⟨Nat.le_of_ble_eq_true rfl, Nat.le_of_ble_eq_true rfl⟩ (rest := []) rfl (Nat.le_of_ble_eq_true rfl) dX4_odds_27 (fun H locs Y => ?_)
        refine lv_if_ne (tgt := 37) hx hb dX4_odds_30 (by decide) (fun c12 => ?_) (fun c12 => ?_)
        · replace h := oe c12 h
          refine lv_iconst (v := 0) hx hb dX4_odds_37 (by decide) ?_
          refine lv_istore (lv' := [(4, .int 0), (0, .ref (ad 0)), (1, .int v1), (2, .int v2), (3, .int v3)]) hx hb dX4_odds_38 hl (by decide) rfl (fun ls hl => ?_)
          refine lv_iconst (v := 1) hx hb dX4_odds_40 (by decide) ?_
          refine lv_aload_n hx hb dX4_odds_41 rfl (lv_at hl 1 rfl) ?_
          refine rgM X Y 5 (v := .int (σ 0 5)) tw_474 rfl dX4_odds_42 ?_
          refine lv_ishl hx hb dX4_odds_45 ?_
          refine lv_istore (lv' := [(5, .int ((1 : Int32) <<< ((σ 0 5) &&& 31))), (4, .int 0), (0, .ref (ad 0)), (1, .int v1), (2, .int v2), (3, .int v3)]) hx hb dX4_odds_46 hl (by decide) rfl (fun ls hl => ?_)
          refine lv_aload_n hx hb dX4_odds_48 rfl (lv_at hl 2 rfl) ?_
          refine lv_iconst (v := 0) hx hb dX4_odds_49 (by decide) ?_
          refine rpM X Y 18 (v := 0) tw_487 rfl rfl rfl (stM_18 g ad σ 0) dX4_odds_50 (fun H locs Y => ?_)
          exact w_fX4_odds_L53 X hr hlk hml n (up2 σ 0 18 0) v1 v2 v3 0 ((1 : Int32) <<< ((σ 0 5) &&& 31)) _ _ _ Y (lv_sub hl [2, 3, 4, 5, 1, 0] rfl) h
        · replace h := ot c12 h
          refine lv_ldc2 (v := (-9223372036854775808)) hx hb X.2.2.1 (X.tb tw_728) dX4_odds_33 ?_
          obtain ⟨rfl, rfl⟩ := os2 h
          exact retL X Y hr hlk dX4_odds_36
set_option maxHeartbeats 4000000 in
set_option maxRecDepth 100000 in
theorem w_fX4_sheet_L57 {p : Program} {l : Launch} {e : Env} {s : State} {m : MethodId} {args : Array Value} {below : List Frame} {meth : Method} {c : Code} {D : va_G} {g : Nat → ClassId} {ad : Nat → Nat} {A : Nat → Prop} {r0 : Int32} {σ0 : St} (X : Cx p s m c args cX4_sheet RX4 kX4_sheet D g) (hr : meth.sig.returnType = (some .int)) (hlk : meth.locks = false) (hml : c.maxLocals = 5) : ∀ (n : Nat), ∀ (σ : St) (v1 : Int32) (v4 : Int32) (H : Heap) (locs : List Loc) (ls : Array Slot), Hp D A s.heap H locs (WM g ad σ) → lv_has ls 5 [(0, .ref (ad 0)), (1, .int v1), (4, .int v4)] → fX4_sheet_L57 n σ v1 v4 = some (r0, σ0) → W p l e (RM 2 42) s m args below meth c H locs 0 0 (MQ below (QI D g A (WM g ad σ0) r0) args s 0 0 A) (F0 m 57 ls []) := by
  have hx := X.1
  have hb := X.2.1
  intro n
  induction n with
  | zero => intro σ v1 v4 H locs ls Y hl h; cases (show none = _ from h)
  | succ n ih =>
    intro σ v1 v4 H locs ls Y hl h
    rw [fX4_sheet_L57] at h
    refine lv_iload hx hb dX4_sheet_57 (lv_at hl 2 rfl) ?_
    refine lv_bipush (v := 60) hx hb dX4_sheet_59 (by decide) ?_
    refine lv_icmp_ge (tgt := 83) hx hb dX4_sheet_61 (by decide) (fun c13 => ?_) (fun c13 => ?_)
    · replace h := ot c13 h
      refine lv_iconst (v := 1) hx hb dX4_sheet_83 (by decide) ?_
      obtain ⟨rfl, rfl⟩ := os2 h
      exact retI X Y hr hlk dX4_sheet_84
    · replace h := oe c13 h
      refine lv_aload_n hx hb dX4_sheet_64 rfl (lv_at hl 0 rfl) ?_
      refine rgM X Y 4 (v := .ref (ad 3)) tw_473 rfl dX4_sheet_65 ?_
      refine lv_bipush (v := 60) hx hb dX4_sheet_68 (by decide) ?_
      refine lv_iload_n hx hb dX4_sheet_70 rfl (lv_at hl 1 rfl) ?_
      refine lv_imul hx hb dX4_sheet_71 ?_
      refine lv_iload hx hb dX4_sheet_72 (lv_at hl 2 rfl) ?_
      refine lv_iadd hx hb dX4_sheet_74 ?_
      refine lv_iconst (v := 0) hx hb dX4_sheet_75 (by decide) ?_
      obtain ⟨hg14, h⟩ := og h
      refine ris X Y (W1 := WM g ad (up2 σ 3 ((((60 : Int32) * v1) + v4).toNatClampNeg) 0)) (lkM_3 g ad σ) hg14 (stM_A3 g ad σ _) dX4_sheet_76 (fun H locs Y => ?_)
      refine lv_iinc (v := v4 + 1) (lv' := [(4, .int (v4 + 1)), (0, .ref (ad 0)), (1, .int v1)]) hx hb dX4_sheet_77 hl (k := 2) rfl rfl (by decide) rfl (fun ls hl => ?_)
      refine lv_goto (tgt := 57) hx hb dX4_sheet_80 (by decide) ?_
      exact ih (up2 σ 3 ((((60 : Int32) * v1) + v4).toNatClampNeg) 0) v1 (v4 + 1) _ _ _ Y (lv_sub hl [1, 2, 0] rfl) h
set_option maxHeartbeats 4000000 in
set_option maxRecDepth 100000 in
theorem c_fX4_sheet (l : Launch) (D : va_G) (g : Nat → ClassId) (ad : Nat → Nat) (σ : St) (n : Nat) (v1 : Int32) (v2 : Int32) (v3 : Int32) {r0 : Int32} {σ0 : St} (h : fX4_sheet n σ v1 v2 v3 = some (r0, σ0)) : MI l yX4_sheet kX4_sheet 2 42 D g (WM g ad σ) (WM g ad σ0) [.ref (ad 0), .int v1, .int v2, .int v3] r0 := by
  intro sz
  refine Met.of2 (Qc := fun A => QI D g A (WM g ad σ0) r0) (cc := cX4_sheet) (maxL := 5) (ret := (some .int)) (own := RX4) (by decide) rfl rfl (Nat.le_of_ble_eq_true rfl) ?_
  intro p e s m below meth c A ls X hr hlk hml Y hl
  have hx := X.1
  have hb := X.2.1
  have hl : lv_has ls 5 [(0, .ref (ad 0)), (1, .int v1), (2, .int v2), (3, .int v3)] := hl
  rw [fX4_sheet] at h
  refine lv_aload_n hx hb dX4_sheet_0 rfl (lv_at hl 0 rfl) ?_
  refine lv_iconst (v := 0) hx hb dX4_sheet_1 (by decide) ?_
  refine rpM X Y 0 (v := 0) tw_469 rfl rfl rfl (stM_0 g ad σ 0) dX4_sheet_2 (fun H locs Y => ?_)
  refine lv_iload_n hx hb dX4_sheet_5 rfl (lv_at hl 1 rfl) ?_
  obtain ⟨r2, hg1, h⟩ := ob h
  refine cSi X (hml.trans hl.1.symm) Y (c_fX4_isSheet l D g (WM g ad (up2 σ 0 0 0)) v1 hg1) (gs_X4_65 _) rfl fd_X4_isSheet ⟨Nat.le_of_ble_eq_true rfl, Nat.le_of_ble_eq_true rfl⟩ ⟨Nat.le_of_ble_eq_true rfl, Nat.le_of_ble_eq_true rfl⟩ (rest := []) rfl (Nat.le_of_ble_eq_true rfl) dX4_sheet_6 (fun H locs Y => ?_)
  refine lv_if_ne (tgt := 14) hx hb dX4_sheet_9 (by decide) (fun c3 => ?_) (fun c3 => ?_)
  · replace h := oe c3 h
    refine lv_iload_n hx hb dX4_sheet_14 rfl (lv_at hl 2 rfl) ?_
    obtain ⟨r5, hg4, h⟩ := ob h
    refine cSi X (hml.trans hl.1.symm) Y (c_fX4_isSort l D g (WM g ad (up2 σ 0 0 0)) v2 hg4) (gs_X4_69 _) rfl fd_X4_isSort ⟨Nat.le_of_ble_eq_true rfl, Nat.le_of_ble_eq_true rfl⟩ ⟨Nat.le_of_ble_eq_true rfl, Nat.le_of_ble_eq_true rfl⟩ (rest := []) rfl (Nat.le_of_ble_eq_true rfl) dX4_sheet_15 (fun H locs Y => ?_)
    refine lv_if_eq (tgt := 27) hx hb dX4_sheet_18 (by decide) (fun c6 => ?_) (fun c6 => ?_)
    · replace h := ot c6 h
      refine lv_bipush (v := (-2)) hx hb dX4_sheet_27 (by decide) ?_
      obtain ⟨rfl, rfl⟩ := os2 h
      exact retI X Y hr hlk dX4_sheet_29
    · replace h := oe c6 h
      refine lv_iload_n hx hb dX4_sheet_21 rfl (lv_at hl 3 rfl) ?_
      refine lv_bipush (v := 60) hx hb dX4_sheet_22 (by decide) ?_
      refine lv_icmp_le (tgt := 30) hx hb dX4_sheet_24 (by decide) (fun c7 => ?_) (fun c7 => ?_)
      · replace h := ot c7 h
        refine lv_iload_n hx hb dX4_sheet_30 rfl (lv_at hl 3 rfl) ?_
        refine lv_if_ge (tgt := 40) hx hb dX4_sheet_31 (by decide) (fun c8 => ?_) (fun c8 => ?_)
        · replace h := ot c8 h
          refine lv_aload_n hx hb dX4_sheet_40 rfl (lv_at hl 0 rfl) ?_
          refine rgM X Y 2 (v := .ref (ad 1)) tw_471 rfl dX4_sheet_41 ?_
          refine lv_iload_n hx hb dX4_sheet_44 rfl (lv_at hl 1 rfl) ?_
          refine lv_iload_n hx hb dX4_sheet_45 rfl (lv_at hl 2 rfl) ?_
          obtain ⟨hg9, h⟩ := og h
          refine ris X Y (W1 := WM g ad (up2 (up2 σ 0 0 0) 1 v1.toNatClampNeg v2)) (lkM_1 g ad (up2 σ 0 0 0)) hg9 (stM_A1 g ad (up2 σ 0 0 0) _) dX4_sheet_46 (fun H locs Y => ?_)
          refine lv_aload_n hx hb dX4_sheet_47 rfl (lv_at hl 0 rfl) ?_
          refine rgM X Y 3 (v := .ref (ad 2)) tw_472 rfl dX4_sheet_48 ?_
          refine lv_iload_n hx hb dX4_sheet_51 rfl (lv_at hl 1 rfl) ?_
          refine lv_iload_n hx hb dX4_sheet_52 rfl (lv_at hl 3 rfl) ?_
          obtain ⟨hg10, h⟩ := og h
          refine ris X Y (W1 := WM g ad (up2 (up2 (up2 σ 0 0 0) 1 v1.toNatClampNeg v2) 2 v1.toNatClampNeg v3)) (lkM_2 g ad (up2 (up2 σ 0 0 0) 1 v1.toNatClampNeg v2)) hg10 (stM_A2 g ad (up2 (up2 σ 0 0 0) 1 v1.toNatClampNeg v2) _) dX4_sheet_53 (fun H locs Y => ?_)
          refine lv_iconst (v := 0) hx hb dX4_sheet_54 (by decide) ?_
          refine lv_istore (lv' := [(4, .int 0), (0, .ref (ad 0)), (1, .int v1), (2, .int v2), (3, .int v3)]) hx hb dX4_sheet_55 hl (by decide) rfl (fun ls hl => ?_)
          exact w_fX4_sheet_L57 X hr hlk hml n (up2 (up2 (up2 σ 0 0 0) 1 v1.toNatClampNeg v2) 2 v1.toNatClampNeg v3) v1 0 _ _ _ Y (lv_sub hl [1, 2, 0] rfl) h
        · replace h := oe c8 h
          refine lv_aload_n hx hb dX4_sheet_34 rfl (lv_at hl 0 rfl) ?_
          refine lv_iconst (v := 4) hx hb dX4_sheet_35 (by decide) ?_
          obtain ⟨r12, σ12, hg11, h⟩ := ob2 h
          refine cVi X (hml.trans hl.1.symm) Y (c_fX4_fails l D g ad (up2 σ 0 0 0) 4 hg11) (lkM g ad (up2 σ 0 0 0)) rfl (gs_X4_76 _) rfl fd_X4_fails ⟨Nat.le_of_ble_eq_true rfl, Nat.le_of_ble_eq_true rfl⟩ ⟨Nat.le_of_ble_eq_true rfl, Nat.le_of_ble_eq_true rfl⟩ (rest := []) rfl (Nat.le_of_ble_eq_true rfl) dX4_sheet_36 (fun H locs Y => ?_)
          obtain ⟨rfl, rfl⟩ := os2 h
          exact retI X Y hr hlk dX4_sheet_39
      · replace h := oe c7 h
        refine lv_bipush (v := (-2)) hx hb dX4_sheet_27 (by decide) ?_
        obtain ⟨rfl, rfl⟩ := os2 h
        exact retI X Y hr hlk dX4_sheet_29
  · replace h := ot c3 h
    refine lv_iconst (v := (-1)) hx hb dX4_sheet_12 (by decide) ?_
    obtain ⟨rfl, rfl⟩ := os2 h
    exact retI X Y hr hlk dX4_sheet_13
set_option maxHeartbeats 4000000 in
set_option maxRecDepth 100000 in
theorem c_fX4_lose (l : Launch) (D : va_G) (g : Nat → ClassId) (ad : Nat → Nat) (σ : St) (v1 : Int32) {r0 : Int32} {σ0 : St} (h : fX4_lose σ v1 = some (r0, σ0)) : MI l yX4_lose kX4_lose 2 42 D g (WM g ad σ) (WM g ad σ0) [.ref (ad 0), .int v1] r0 := by
  intro sz
  refine Met.of2 (Qc := fun A => QI D g A (WM g ad σ0) r0) (cc := cX4_lose) (maxL := 3) (ret := (some .int)) (own := RX4) (by decide) rfl rfl (Nat.le_of_ble_eq_true rfl) ?_
  intro p e s m below meth c A ls X hr hlk hml Y hl
  have hx := X.1
  have hb := X.2.1
  have hl : lv_has ls 3 [(0, .ref (ad 0)), (1, .int v1)] := hl
  rw [fX4_lose] at h
  refine lv_iload_n hx hb dX4_lose_0 rfl (lv_at hl 1 rfl) ?_
  obtain ⟨r2, hg1, h⟩ := ob h
  refine cSi X (hml.trans hl.1.symm) Y (c_fX4_isSheet l D g (WM g ad σ) v1 hg1) (gs_X4_65 _) rfl fd_X4_isSheet ⟨Nat.le_of_ble_eq_true rfl, Nat.le_of_ble_eq_true rfl⟩ ⟨Nat.le_of_ble_eq_true rfl, Nat.le_of_ble_eq_true rfl⟩ (rest := []) rfl (Nat.le_of_ble_eq_true rfl) dX4_lose_1 (fun H locs Y => ?_)
  refine lv_if_ne (tgt := 9) hx hb dX4_lose_4 (by decide) (fun c3 => ?_) (fun c3 => ?_)
  · replace h := oe c3 h
    refine lv_aload_n hx hb dX4_lose_9 rfl (lv_at hl 0 rfl) ?_
    refine rgM X Y 2 (v := .ref (ad 1)) tw_471 rfl dX4_lose_10 ?_
    refine lv_iload_n hx hb dX4_lose_13 rfl (lv_at hl 1 rfl) ?_
    obtain ⟨hg4, h⟩ := og h
    refine ri X Y (lkM_1 g ad σ) hg4 dX4_lose_14 ?_
    refine lv_bipush (v := (-9)) hx hb dX4_lose_15 (by decide) ?_
    refine lv_icmp_ne (tgt := 24) hx hb dX4_lose_17 (by decide) (fun c5 => ?_) (fun c5 => ?_)
    · replace h := oe c5 h
      refine lv_iconst (v := 1) hx hb dX4_lose_24 (by decide) ?_
      refine lv_istore_n (lv' := [(2, .int 1), (0, .ref (ad 0)), (1, .int v1)]) hx hb dX4_lose_25 rfl hl (by decide) rfl (fun ls hl => ?_)
      refine lv_aload_n hx hb dX4_lose_26 rfl (lv_at hl 1 rfl) ?_
      refine rgM X Y 2 (v := .ref (ad 1)) tw_471 rfl dX4_lose_27 ?_
      refine lv_iload_n hx hb dX4_lose_30 rfl (lv_at hl 2 rfl) ?_
      refine lv_bipush (v := (-9)) hx hb dX4_lose_31 (by decide) ?_
      obtain ⟨hg6, h⟩ := og h
      refine ris X Y (W1 := WM g ad (up2 σ 1 v1.toNatClampNeg (-9))) (lkM_1 g ad σ) hg6 (stM_A1 g ad σ _) dX4_lose_33 (fun H locs Y => ?_)
      refine lv_iload_n hx hb dX4_lose_34 rfl (lv_at hl 0 rfl) ?_
      obtain ⟨rfl, rfl⟩ := os2 h
      exact retI X Y hr hlk dX4_lose_35
    · replace h := ot c5 h
      refine lv_iconst (v := 0) hx hb dX4_lose_20 (by decide) ?_
      refine lv_goto (tgt := 25) hx hb dX4_lose_21 (by decide) ?_
      refine lv_istore_n (lv' := [(2, .int 0), (0, .ref (ad 0)), (1, .int v1)]) hx hb dX4_lose_25 rfl hl (by decide) rfl (fun ls hl => ?_)
      refine lv_aload_n hx hb dX4_lose_26 rfl (lv_at hl 1 rfl) ?_
      refine rgM X Y 2 (v := .ref (ad 1)) tw_471 rfl dX4_lose_27 ?_
      refine lv_iload_n hx hb dX4_lose_30 rfl (lv_at hl 2 rfl) ?_
      refine lv_bipush (v := (-9)) hx hb dX4_lose_31 (by decide) ?_
      obtain ⟨hg7, h⟩ := og h
      refine ris X Y (W1 := WM g ad (up2 σ 1 v1.toNatClampNeg (-9))) (lkM_1 g ad σ) hg7 (stM_A1 g ad σ _) dX4_lose_33 (fun H locs Y => ?_)
      refine lv_iload_n hx hb dX4_lose_34 rfl (lv_at hl 0 rfl) ?_
      obtain ⟨rfl, rfl⟩ := os2 h
      exact retI X Y hr hlk dX4_lose_35
  · replace h := ot c3 h
    refine lv_iconst (v := (-1)) hx hb dX4_lose_7 (by decide) ?_
    obtain ⟨rfl, rfl⟩ := os2 h
    exact retI X Y hr hlk dX4_lose_8
set_option maxHeartbeats 4000000 in
set_option maxRecDepth 100000 in
theorem c_fX4_put (l : Launch) (D : va_G) (g : Nat → ClassId) (ad : Nat → Nat) (σ : St) (v1 : Int32) (v2 : Int32) (v3 : Int32) {r0 : Int32} {σ0 : St} (h : fX4_put σ v1 v2 v3 = some (r0, σ0)) : MI l yX4_put kX4_put 2 42 D g (WM g ad σ) (WM g ad σ0) [.ref (ad 0), .int v1, .int v2, .int v3] r0 := by
  intro sz
  refine Met.of2 (Qc := fun A => QI D g A (WM g ad σ0) r0) (cc := cX4_put) (maxL := 4) (ret := (some .int)) (own := RX4) (by decide) rfl rfl (Nat.le_of_ble_eq_true rfl) ?_
  intro p e s m below meth c A ls X hr hlk hml Y hl
  have hx := X.1
  have hb := X.2.1
  have hl : lv_has ls 4 [(0, .ref (ad 0)), (1, .int v1), (2, .int v2), (3, .int v3)] := hl
  rw [fX4_put] at h
  refine lv_aload_n hx hb dX4_put_0 rfl (lv_at hl 0 rfl) ?_
  refine lv_iconst (v := 0) hx hb dX4_put_1 (by decide) ?_
  refine rpM X Y 0 (v := 0) tw_469 rfl rfl rfl (stM_0 g ad σ 0) dX4_put_2 (fun H locs Y => ?_)
  refine lv_iload_n hx hb dX4_put_5 rfl (lv_at hl 1 rfl) ?_
  obtain ⟨r2, hg1, h⟩ := ob h
  refine cSi X (hml.trans hl.1.symm) Y (c_fX4_isSheet l D g (WM g ad (up2 σ 0 0 0)) v1 hg1) (gs_X4_65 _) rfl fd_X4_isSheet ⟨Nat.le_of_ble_eq_true rfl, Nat.le_of_ble_eq_true rfl⟩ ⟨Nat.le_of_ble_eq_true rfl, Nat.le_of_ble_eq_true rfl⟩ (rest := []) rfl (Nat.le_of_ble_eq_true rfl) dX4_put_6 (fun H locs Y => ?_)
  refine lv_if_ne (tgt := 14) hx hb dX4_put_9 (by decide) (fun c3 => ?_) (fun c3 => ?_)
  · replace h := oe c3 h
    refine lv_aload_n hx hb dX4_put_14 rfl (lv_at hl 0 rfl) ?_
    refine rgM X Y 2 (v := .ref (ad 1)) tw_471 rfl dX4_put_15 ?_
    refine lv_iload_n hx hb dX4_put_18 rfl (lv_at hl 1 rfl) ?_
    obtain ⟨hg4, h⟩ := og h
    refine ri X Y (lkM_1 g ad (up2 σ 0 0 0)) hg4 dX4_put_19 ?_
    refine lv_bipush (v := (-9)) hx hb dX4_put_20 (by decide) ?_
    refine lv_icmp_ne (tgt := 31) hx hb dX4_put_22 (by decide) (fun c5 => ?_) (fun c5 => ?_)
    · replace h := oe c5 h
      refine lv_iload_n hx hb dX4_put_31 rfl (lv_at hl 2 rfl) ?_
      refine lv_iconst (v := 0) hx hb dX4_put_32 (by decide) ?_
      refine lv_aload_n hx hb dX4_put_33 rfl (lv_at hl 0 rfl) ?_
      refine rgM X Y 3 (v := .ref (ad 2)) tw_472 rfl dX4_put_34 ?_
      refine lv_iload_n hx hb dX4_put_37 rfl (lv_at hl 1 rfl) ?_
      obtain ⟨hg6, h⟩ := og h
      refine ri X Y (lkM_2 g ad (up2 σ 0 0 0)) hg6 dX4_put_38 ?_
      refine lv_iconst (v := 1) hx hb dX4_put_39 (by decide) ?_
      refine lv_isub hx hb dX4_put_40 ?_
      obtain ⟨r8, hg7, h⟩ := ob h
      refine cSi X (hml.trans hl.1.symm) Y (c_fX4_within l D g (WM g ad (up2 σ 0 0 0)) v2 0 (((up2 σ 0 0 0) 2 v1.toNatClampNeg) - 1) hg7) (gs_X4_55 _) rfl fd_X4_within ⟨Nat.le_of_ble_eq_true rfl, Nat.le_of_ble_eq_true rfl⟩ ⟨Nat.le_of_ble_eq_true rfl, Nat.le_of_ble_eq_true rfl⟩ (rest := []) rfl (Nat.le_of_ble_eq_true rfl) dX4_put_41 (fun H locs Y => ?_)
      refine lv_if_ne (tgt := 53) hx hb dX4_put_44 (by decide) (fun c9 => ?_) (fun c9 => ?_)
      · replace h := oe c9 h
        refine lv_aload_n hx hb dX4_put_53 rfl (lv_at hl 0 rfl) ?_
        refine rgM X Y 4 (v := .ref (ad 3)) tw_473 rfl dX4_put_54 ?_
        refine lv_bipush (v := 60) hx hb dX4_put_57 (by decide) ?_
        refine lv_iload_n hx hb dX4_put_59 rfl (lv_at hl 1 rfl) ?_
        refine lv_imul hx hb dX4_put_60 ?_
        refine lv_iload_n hx hb dX4_put_61 rfl (lv_at hl 2 rfl) ?_
        refine lv_iadd hx hb dX4_put_62 ?_
        refine lv_aload_n hx hb dX4_put_63 rfl (lv_at hl 0 rfl) ?_
        refine rgM X Y 2 (v := .ref (ad 1)) tw_471 rfl dX4_put_64 ?_
        refine lv_iload_n hx hb dX4_put_67 rfl (lv_at hl 1 rfl) ?_
        obtain ⟨hg10, h⟩ := og h
        refine ri X Y (lkM_1 g ad (up2 σ 0 0 0)) hg10 dX4_put_68 ?_
        refine lv_if_ne (tgt := 77) hx hb dX4_put_69 (by decide) (fun c11 => ?_) (fun c11 => ?_)
        · replace h := oe c11 h
          refine lv_aload_n hx hb dX4_put_77 rfl (lv_at hl 0 rfl) ?_
          refine rgM X Y 2 (v := .ref (ad 1)) tw_471 rfl dX4_put_78 ?_
          refine lv_iload_n hx hb dX4_put_81 rfl (lv_at hl 1 rfl) ?_
          obtain ⟨hg12, h⟩ := og h
          refine ri X Y (lkM_1 g ad (up2 σ 0 0 0)) hg12 dX4_put_82 ?_
          refine lv_iconst (v := 1) hx hb dX4_put_83 (by decide) ?_
          refine lv_icmp_ne (tgt := 92) hx hb dX4_put_84 (by decide) (fun c13 => ?_) (fun c13 => ?_)
          · replace h := oe c13 h
            refine lv_iload_n hx hb dX4_put_92 rfl (lv_at hl 3 rfl) ?_
            obtain ⟨hg14, h⟩ := og h
            refine ris X Y (W1 := WM g ad (up2 (up2 σ 0 0 0) 3 ((((60 : Int32) * v1) + v2).toNatClampNeg) v3)) (lkM_3 g ad (up2 σ 0 0 0)) hg14 (stM_A3 g ad (up2 σ 0 0 0) _) dX4_put_93 (fun H locs Y => ?_)
            refine lv_iconst (v := 1) hx hb dX4_put_94 (by decide) ?_
            obtain ⟨rfl, rfl⟩ := os2 h
            exact retI X Y hr hlk dX4_put_95
          · replace h := ot c13 h
            refine lv_iload_n hx hb dX4_put_87 rfl (lv_at hl 3 rfl) ?_
            refine lv_i2s (v := v3.toInt16.toInt32) hx hb dX4_put_88 rfl ?_
            refine lv_goto (tgt := 93) hx hb dX4_put_89 (by decide) ?_
            obtain ⟨hg15, h⟩ := og h
            refine ris X Y (W1 := WM g ad (up2 (up2 σ 0 0 0) 3 ((((60 : Int32) * v1) + v2).toNatClampNeg) v3.toInt16.toInt32)) (lkM_3 g ad (up2 σ 0 0 0)) hg15 (stM_A3 g ad (up2 σ 0 0 0) _) dX4_put_93 (fun H locs Y => ?_)
            refine lv_iconst (v := 1) hx hb dX4_put_94 (by decide) ?_
            obtain ⟨rfl, rfl⟩ := os2 h
            exact retI X Y hr hlk dX4_put_95
        · replace h := ot c11 h
          refine lv_iload_n hx hb dX4_put_72 rfl (lv_at hl 3 rfl) ?_
          refine lv_i2b (v := v3.toInt8.toInt32) hx hb dX4_put_73 rfl ?_
          refine lv_goto (tgt := 93) hx hb dX4_put_74 (by decide) ?_
          obtain ⟨hg16, h⟩ := og h
          refine ris X Y (W1 := WM g ad (up2 (up2 σ 0 0 0) 3 ((((60 : Int32) * v1) + v2).toNatClampNeg) v3.toInt8.toInt32)) (lkM_3 g ad (up2 σ 0 0 0)) hg16 (stM_A3 g ad (up2 σ 0 0 0) _) dX4_put_93 (fun H locs Y => ?_)
          refine lv_iconst (v := 1) hx hb dX4_put_94 (by decide) ?_
          obtain ⟨rfl, rfl⟩ := os2 h
          exact retI X Y hr hlk dX4_put_95
      · replace h := ot c9 h
        refine lv_aload_n hx hb dX4_put_47 rfl (lv_at hl 0 rfl) ?_
        refine lv_iconst (v := 3) hx hb dX4_put_48 (by decide) ?_
        obtain ⟨r18, σ18, hg17, h⟩ := ob2 h
        refine cVi X (hml.trans hl.1.symm) Y (c_fX4_fails l D g ad (up2 σ 0 0 0) 3 hg17) (lkM g ad (up2 σ 0 0 0)) rfl (gs_X4_76 _) rfl fd_X4_fails ⟨Nat.le_of_ble_eq_true rfl, Nat.le_of_ble_eq_true rfl⟩ ⟨Nat.le_of_ble_eq_true rfl, Nat.le_of_ble_eq_true rfl⟩ (rest := []) rfl (Nat.le_of_ble_eq_true rfl) dX4_put_49 (fun H locs Y => ?_)
        obtain ⟨rfl, rfl⟩ := os2 h
        exact retI X Y hr hlk dX4_put_52
    · replace h := ot c5 h
      refine lv_aload_n hx hb dX4_put_25 rfl (lv_at hl 0 rfl) ?_
      refine lv_iconst (v := 1) hx hb dX4_put_26 (by decide) ?_
      obtain ⟨r20, σ20, hg19, h⟩ := ob2 h
      refine cVi X (hml.trans hl.1.symm) Y (c_fX4_fails l D g ad (up2 σ 0 0 0) 1 hg19) (lkM g ad (up2 σ 0 0 0)) rfl (gs_X4_76 _) rfl fd_X4_fails ⟨Nat.le_of_ble_eq_true rfl, Nat.le_of_ble_eq_true rfl⟩ ⟨Nat.le_of_ble_eq_true rfl, Nat.le_of_ble_eq_true rfl⟩ (rest := []) rfl (Nat.le_of_ble_eq_true rfl) dX4_put_27 (fun H locs Y => ?_)
      obtain ⟨rfl, rfl⟩ := os2 h
      exact retI X Y hr hlk dX4_put_30
  · replace h := ot c3 h
    refine lv_iconst (v := (-1)) hx hb dX4_put_12 (by decide) ?_
    obtain ⟨rfl, rfl⟩ := os2 h
    exact retI X Y hr hlk dX4_put_13
set_option maxHeartbeats 4000000 in
set_option maxRecDepth 100000 in
theorem c_fX4_cell (l : Launch) (D : va_G) (g : Nat → ClassId) (ad : Nat → Nat) (σ : St) (v1 : Int32) (v2 : Int32) (v3 : Int32) {r0 : Int64} {σ0 : St} (h : fX4_cell σ v1 v2 v3 = some (r0, σ0)) : ML l yX4_cell kX4_cell 2 42 D g (WM g ad σ) (WM g ad σ0) [.ref (ad 0), .int v1, .int v2, .int v3] r0 := by
  intro sz
  refine Met.of2 (Qc := fun A => QL D g A (WM g ad σ0) r0) (cc := cX4_cell) (maxL := 4) (ret := (some .long)) (own := RX4) (by decide) rfl rfl (Nat.le_of_ble_eq_true rfl) ?_
  intro p e s m below meth c A ls X hr hlk hml Y hl
  have hx := X.1
  have hb := X.2.1
  have hl : lv_has ls 4 [(0, .ref (ad 0)), (1, .int v1), (2, .int v2), (3, .int v3)] := hl
  rw [fX4_cell] at h
  refine lv_aload_n hx hb dX4_cell_0 rfl (lv_at hl 0 rfl) ?_
  refine lv_iconst (v := 0) hx hb dX4_cell_1 (by decide) ?_
  refine rpM X Y 0 (v := 0) tw_469 rfl rfl rfl (stM_0 g ad σ 0) dX4_cell_2 (fun H locs Y => ?_)
  refine lv_iload_n hx hb dX4_cell_5 rfl (lv_at hl 1 rfl) ?_
  obtain ⟨r2, hg1, h⟩ := ob h
  refine cSi X (hml.trans hl.1.symm) Y (c_fX4_isSheet l D g (WM g ad (up2 σ 0 0 0)) v1 hg1) (gs_X4_65 _) rfl fd_X4_isSheet ⟨Nat.le_of_ble_eq_true rfl, Nat.le_of_ble_eq_true rfl⟩ ⟨Nat.le_of_ble_eq_true rfl, Nat.le_of_ble_eq_true rfl⟩ (rest := []) rfl (Nat.le_of_ble_eq_true rfl) dX4_cell_6 (fun H locs Y => ?_)
  refine lv_if_eq (tgt := 19) hx hb dX4_cell_9 (by decide) (fun c3 => ?_) (fun c3 => ?_)
  · replace h := ot c3 h
    refine lv_ldc2 (v := (-9223372036854775808)) hx hb X.2.2.1 (X.tb tw_728) dX4_cell_19 ?_
    obtain ⟨rfl, rfl⟩ := os2 h
    exact retL X Y hr hlk dX4_cell_22
  · replace h := oe c3 h
    refine lv_iload_n hx hb dX4_cell_12 rfl (lv_at hl 3 rfl) ?_
    obtain ⟨r5, hg4, h⟩ := ob h
    refine cSi X (hml.trans hl.1.symm) Y (c_fX4_isSort l D g (WM g ad (up2 σ 0 0 0)) v3 hg4) (gs_X4_69 _) rfl fd_X4_isSort ⟨Nat.le_of_ble_eq_true rfl, Nat.le_of_ble_eq_true rfl⟩ ⟨Nat.le_of_ble_eq_true rfl, Nat.le_of_ble_eq_true rfl⟩ (rest := []) rfl (Nat.le_of_ble_eq_true rfl) dX4_cell_13 (fun H locs Y => ?_)
    refine lv_if_ne (tgt := 23) hx hb dX4_cell_16 (by decide) (fun c6 => ?_) (fun c6 => ?_)
    · replace h := oe c6 h
      refine lv_aload_n hx hb dX4_cell_23 rfl (lv_at hl 0 rfl) ?_
      refine rgM X Y 2 (v := .ref (ad 1)) tw_471 rfl dX4_cell_24 ?_
      refine lv_iload_n hx hb dX4_cell_27 rfl (lv_at hl 1 rfl) ?_
      obtain ⟨hg7, h⟩ := og h
      refine ri X Y (lkM_1 g ad (up2 σ 0 0 0)) hg7 dX4_cell_28 ?_
      refine lv_bipush (v := (-9)) hx hb dX4_cell_29 (by decide) ?_
      refine lv_icmp_eq (tgt := 50) hx hb dX4_cell_31 (by decide) (fun c8 => ?_) (fun c8 => ?_)
      · replace h := ot c8 h
        refine lv_aload_n hx hb dX4_cell_50 rfl (lv_at hl 0 rfl) ?_
        refine rgM X Y 2 (v := .ref (ad 1)) tw_471 rfl dX4_cell_51 ?_
        refine lv_iload_n hx hb dX4_cell_54 rfl (lv_at hl 1 rfl) ?_
        obtain ⟨hg9, h⟩ := og h
        refine ri X Y (lkM_1 g ad (up2 σ 0 0 0)) hg9 dX4_cell_55 ?_
        refine lv_bipush (v := (-9)) hx hb dX4_cell_56 (by decide) ?_
        refine lv_icmp_ne (tgt := 67) hx hb dX4_cell_58 (by decide) (fun c10 => ?_) (fun c10 => ?_)
        · replace h := oe c10 h
          refine lv_iload_n hx hb dX4_cell_67 rfl (lv_at hl 2 rfl) ?_
          refine lv_iconst (v := 0) hx hb dX4_cell_68 (by decide) ?_
          refine lv_aload_n hx hb dX4_cell_69 rfl (lv_at hl 0 rfl) ?_
          refine rgM X Y 3 (v := .ref (ad 2)) tw_472 rfl dX4_cell_70 ?_
          refine lv_iload_n hx hb dX4_cell_73 rfl (lv_at hl 1 rfl) ?_
          obtain ⟨hg11, h⟩ := og h
          refine ri X Y (lkM_2 g ad (up2 σ 0 0 0)) hg11 dX4_cell_74 ?_
          refine lv_iconst (v := 1) hx hb dX4_cell_75 (by decide) ?_
          refine lv_isub hx hb dX4_cell_76 ?_
          obtain ⟨r13, hg12, h⟩ := ob h
          refine cSi X (hml.trans hl.1.symm) Y (c_fX4_within l D g (WM g ad (up2 σ 0 0 0)) v2 0 (((up2 σ 0 0 0) 2 v1.toNatClampNeg) - 1) hg12) (gs_X4_55 _) rfl fd_X4_within ⟨Nat.le_of_ble_eq_true rfl, Nat.le_of_ble_eq_true rfl⟩ ⟨Nat.le_of_ble_eq_true rfl, Nat.le_of_ble_eq_true rfl⟩ (rest := []) rfl (Nat.le_of_ble_eq_true rfl) dX4_cell_77 (fun H locs Y => ?_)
          refine lv_if_ne (tgt := 89) hx hb dX4_cell_80 (by decide) (fun c14 => ?_) (fun c14 => ?_)
          · replace h := oe c14 h
            refine lv_aload_n hx hb dX4_cell_89 rfl (lv_at hl 0 rfl) ?_
            refine rgM X Y 4 (v := .ref (ad 3)) tw_473 rfl dX4_cell_90 ?_
            refine lv_bipush (v := 60) hx hb dX4_cell_93 (by decide) ?_
            refine lv_iload_n hx hb dX4_cell_95 rfl (lv_at hl 1 rfl) ?_
            refine lv_imul hx hb dX4_cell_96 ?_
            refine lv_iload_n hx hb dX4_cell_97 rfl (lv_at hl 2 rfl) ?_
            refine lv_iadd hx hb dX4_cell_98 ?_
            obtain ⟨hg15, h⟩ := og h
            refine ri X Y (lkM_3 g ad (up2 σ 0 0 0)) hg15 dX4_cell_99 ?_
            refine lv_i2l (v := ((up2 σ 0 0 0) 3 (((60 : Int32) * v1) + v2).toNatClampNeg).toInt64) hx hb dX4_cell_100 rfl ?_
            obtain ⟨rfl, rfl⟩ := os2 h
            exact retL X Y hr hlk dX4_cell_101
          · replace h := ot c14 h
            refine lv_aload_n hx hb dX4_cell_83 rfl (lv_at hl 0 rfl) ?_
            refine lv_iconst (v := 3) hx hb dX4_cell_84 (by decide) ?_
            obtain ⟨r17, σ17, hg16, h⟩ := ob2 h
            refine cVl X (hml.trans hl.1.symm) Y (c_fX4_lost l D g ad (up2 σ 0 0 0) 3 hg16) (lkM g ad (up2 σ 0 0 0)) rfl (gs_X4_185 _) rfl fd_X4_lost ⟨Nat.le_of_ble_eq_true rfl, Nat.le_of_ble_eq_true rfl⟩ ⟨Nat.le_of_ble_eq_true rfl, Nat.le_of_ble_eq_true rfl⟩ (rest := []) rfl (Nat.le_of_ble_eq_true rfl) dX4_cell_85 (fun H locs Y => ?_)
            obtain ⟨rfl, rfl⟩ := os2 h
            exact retL X Y hr hlk dX4_cell_88
        · replace h := ot c10 h
          refine lv_aload_n hx hb dX4_cell_61 rfl (lv_at hl 0 rfl) ?_
          refine lv_iconst (v := 1) hx hb dX4_cell_62 (by decide) ?_
          obtain ⟨r19, σ19, hg18, h⟩ := ob2 h
          refine cVl X (hml.trans hl.1.symm) Y (c_fX4_lost l D g ad (up2 σ 0 0 0) 1 hg18) (lkM g ad (up2 σ 0 0 0)) rfl (gs_X4_185 _) rfl fd_X4_lost ⟨Nat.le_of_ble_eq_true rfl, Nat.le_of_ble_eq_true rfl⟩ ⟨Nat.le_of_ble_eq_true rfl, Nat.le_of_ble_eq_true rfl⟩ (rest := []) rfl (Nat.le_of_ble_eq_true rfl) dX4_cell_63 (fun H locs Y => ?_)
          obtain ⟨rfl, rfl⟩ := os2 h
          exact retL X Y hr hlk dX4_cell_66
      · replace h := oe c8 h
        refine lv_aload_n hx hb dX4_cell_34 rfl (lv_at hl 0 rfl) ?_
        refine rgM X Y 2 (v := .ref (ad 1)) tw_471 rfl dX4_cell_35 ?_
        refine lv_iload_n hx hb dX4_cell_38 rfl (lv_at hl 1 rfl) ?_
        obtain ⟨hg20, h⟩ := og h
        refine ri X Y (lkM_1 g ad (up2 σ 0 0 0)) hg20 dX4_cell_39 ?_
        refine lv_iload_n hx hb dX4_cell_40 rfl (lv_at hl 3 rfl) ?_
        refine lv_icmp_eq (tgt := 50) hx hb dX4_cell_41 (by decide) (fun c21 => ?_) (fun c21 => ?_)
        · replace h := ot c21 h
          refine lv_aload_n hx hb dX4_cell_50 rfl (lv_at hl 0 rfl) ?_
          refine rgM X Y 2 (v := .ref (ad 1)) tw_471 rfl dX4_cell_51 ?_
          refine lv_iload_n hx hb dX4_cell_54 rfl (lv_at hl 1 rfl) ?_
          obtain ⟨hg22, h⟩ := og h
          refine ri X Y (lkM_1 g ad (up2 σ 0 0 0)) hg22 dX4_cell_55 ?_
          refine lv_bipush (v := (-9)) hx hb dX4_cell_56 (by decide) ?_
          refine lv_icmp_ne (tgt := 67) hx hb dX4_cell_58 (by decide) (fun c23 => ?_) (fun c23 => ?_)
          · replace h := oe c23 h
            refine lv_iload_n hx hb dX4_cell_67 rfl (lv_at hl 2 rfl) ?_
            refine lv_iconst (v := 0) hx hb dX4_cell_68 (by decide) ?_
            refine lv_aload_n hx hb dX4_cell_69 rfl (lv_at hl 0 rfl) ?_
            refine rgM X Y 3 (v := .ref (ad 2)) tw_472 rfl dX4_cell_70 ?_
            refine lv_iload_n hx hb dX4_cell_73 rfl (lv_at hl 1 rfl) ?_
            obtain ⟨hg24, h⟩ := og h
            refine ri X Y (lkM_2 g ad (up2 σ 0 0 0)) hg24 dX4_cell_74 ?_
            refine lv_iconst (v := 1) hx hb dX4_cell_75 (by decide) ?_
            refine lv_isub hx hb dX4_cell_76 ?_
            obtain ⟨r26, hg25, h⟩ := ob h
            refine cSi X (hml.trans hl.1.symm) Y (c_fX4_within l D g (WM g ad (up2 σ 0 0 0)) v2 0 (((up2 σ 0 0 0) 2 v1.toNatClampNeg) - 1) hg25) (gs_X4_55 _) rfl fd_X4_within ⟨Nat.le_of_ble_eq_true rfl, Nat.le_of_ble_eq_true rfl⟩ ⟨Nat.le_of_ble_eq_true rfl, Nat.le_of_ble_eq_true rfl⟩ (rest := []) rfl (Nat.le_of_ble_eq_true rfl) dX4_cell_77 (fun H locs Y => ?_)
            refine lv_if_ne (tgt := 89) hx hb dX4_cell_80 (by decide) (fun c27 => ?_) (fun c27 => ?_)
            · replace h := oe c27 h
              refine lv_aload_n hx hb dX4_cell_89 rfl (lv_at hl 0 rfl) ?_
              refine rgM X Y 4 (v := .ref (ad 3)) tw_473 rfl dX4_cell_90 ?_
              refine lv_bipush (v := 60) hx hb dX4_cell_93 (by decide) ?_
              refine lv_iload_n hx hb dX4_cell_95 rfl (lv_at hl 1 rfl) ?_
              refine lv_imul hx hb dX4_cell_96 ?_
              refine lv_iload_n hx hb dX4_cell_97 rfl (lv_at hl 2 rfl) ?_
              refine lv_iadd hx hb dX4_cell_98 ?_
              obtain ⟨hg28, h⟩ := og h
              refine ri X Y (lkM_3 g ad (up2 σ 0 0 0)) hg28 dX4_cell_99 ?_
              refine lv_i2l (v := ((up2 σ 0 0 0) 3 (((60 : Int32) * v1) + v2).toNatClampNeg).toInt64) hx hb dX4_cell_100 rfl ?_
              obtain ⟨rfl, rfl⟩ := os2 h
              exact retL X Y hr hlk dX4_cell_101
            · replace h := ot c27 h
              refine lv_aload_n hx hb dX4_cell_83 rfl (lv_at hl 0 rfl) ?_
              refine lv_iconst (v := 3) hx hb dX4_cell_84 (by decide) ?_
              obtain ⟨r30, σ30, hg29, h⟩ := ob2 h
              refine cVl X (hml.trans hl.1.symm) Y (c_fX4_lost l D g ad (up2 σ 0 0 0) 3 hg29) (lkM g ad (up2 σ 0 0 0)) rfl (gs_X4_185 _) rfl fd_X4_lost ⟨Nat.le_of_ble_eq_true rfl, Nat.le_of_ble_eq_true rfl⟩ ⟨Nat.le_of_ble_eq_true rfl, Nat.le_of_ble_eq_true rfl⟩ (rest := []) rfl (Nat.le_of_ble_eq_true rfl) dX4_cell_85 (fun H locs Y => ?_)
              obtain ⟨rfl, rfl⟩ := os2 h
              exact retL X Y hr hlk dX4_cell_88
          · replace h := ot c23 h
            refine lv_aload_n hx hb dX4_cell_61 rfl (lv_at hl 0 rfl) ?_
            refine lv_iconst (v := 1) hx hb dX4_cell_62 (by decide) ?_
            obtain ⟨r32, σ32, hg31, h⟩ := ob2 h
            refine cVl X (hml.trans hl.1.symm) Y (c_fX4_lost l D g ad (up2 σ 0 0 0) 1 hg31) (lkM g ad (up2 σ 0 0 0)) rfl (gs_X4_185 _) rfl fd_X4_lost ⟨Nat.le_of_ble_eq_true rfl, Nat.le_of_ble_eq_true rfl⟩ ⟨Nat.le_of_ble_eq_true rfl, Nat.le_of_ble_eq_true rfl⟩ (rest := []) rfl (Nat.le_of_ble_eq_true rfl) dX4_cell_63 (fun H locs Y => ?_)
            obtain ⟨rfl, rfl⟩ := os2 h
            exact retL X Y hr hlk dX4_cell_66
        · replace h := oe c21 h
          refine lv_aload_n hx hb dX4_cell_44 rfl (lv_at hl 0 rfl) ?_
          refine lv_iconst (v := 2) hx hb dX4_cell_45 (by decide) ?_
          obtain ⟨r34, σ34, hg33, h⟩ := ob2 h
          refine cVl X (hml.trans hl.1.symm) Y (c_fX4_lost l D g ad (up2 σ 0 0 0) 2 hg33) (lkM g ad (up2 σ 0 0 0)) rfl (gs_X4_185 _) rfl fd_X4_lost ⟨Nat.le_of_ble_eq_true rfl, Nat.le_of_ble_eq_true rfl⟩ ⟨Nat.le_of_ble_eq_true rfl, Nat.le_of_ble_eq_true rfl⟩ (rest := []) rfl (Nat.le_of_ble_eq_true rfl) dX4_cell_46 (fun H locs Y => ?_)
          obtain ⟨rfl, rfl⟩ := os2 h
          exact retL X Y hr hlk dX4_cell_49
    · replace h := ot c6 h
      refine lv_ldc2 (v := (-9223372036854775808)) hx hb X.2.2.1 (X.tb tw_728) dX4_cell_19 ?_
      obtain ⟨rfl, rfl⟩ := os2 h
      exact retL X Y hr hlk dX4_cell_22
