set_option maxHeartbeats 4000000 in
set_option maxRecDepth 100000 in
theorem w_fX4_debtOf_L5 {p : Program} {l : Launch} {e : Env} {s : State} {m : MethodId} {args : Array Value} {below : List Frame} {meth : Method} {c : Code} {D : va_G} {g : Nat → ClassId} {ad : Nat → Nat} {A : Nat → Prop} {r0 : Int32} (X : Cx p s m c args cX4_debtOf RX4 kX4_debtOf D g) (hr : meth.sig.returnType = (some .int)) (hlk : meth.locks = false) (hml : c.maxLocals = 6) : ∀ (n : Nat), ∀ (σ : St) (v1 : Int32) (v2 : Int32) (v3 : Int32) (v4 : Int32) (H : Heap) (locs : List Loc) (ls : Array Slot), Hp D A s.heap H locs (WM g ad σ) → lv_has ls 6 [(0, .ref (ad 0)), (1, .int v1), (2, .int v2), (3, .int v3), (4, .int v4)] → fX4_debtOf_L5 n σ v1 v2 v3 v4 = some r0 → W p l e (RM 1 21) s m args below meth c H locs 0 0 (MQ below (QI D g A (WM g ad σ) r0) args s 0 0 A) (F0 m 5 ls []) := by
  have hx := X.1
  have hb := X.2.1
  intro n
  induction n with
  | zero => intro σ v1 v2 v3 v4 H locs ls Y hl h; cases (show none = _ from h)
  | succ n ih =>
    intro σ v1 v2 v3 v4 H locs ls Y hl h
    rw [fX4_debtOf_L5] at h
    refine lv_iload hx hb dX4_debtOf_5 (lv_at hl 4 rfl) ?_
    refine lv_aload_n hx hb dX4_debtOf_7 rfl (lv_at hl 0 rfl) ?_
    refine rgM X Y 5 (v := .int (σ 0 5)) tw_474 rfl dX4_debtOf_8 ?_
    refine lv_icmp_ge (tgt := 84) hx hb dX4_debtOf_11 (by decide) (fun c1 => ?_) (fun c1 => ?_)
    · replace h := ot c1 h
      refine lv_aload_n hx hb dX4_debtOf_84 rfl (lv_at hl 0 rfl) ?_
      refine rgM X Y 8 (v := .ref (ad 4)) tw_477 rfl dX4_debtOf_85 ?_
      refine lv_iload_n hx hb dX4_debtOf_88 rfl (lv_at hl 1 rfl) ?_
      obtain ⟨hg2, h⟩ := og h
      refine ri X Y (lkM_4 g ad σ) hg2 dX4_debtOf_89 ?_
      refine lv_iconst (v := 1) hx hb dX4_debtOf_90 (by decide) ?_
      refine lv_icmp_ne (tgt := 106) hx hb dX4_debtOf_91 (by decide) (fun c3 => ?_) (fun c3 => ?_)
      · replace h := oe c3 h
        refine lv_aload_n hx hb dX4_debtOf_106 rfl (lv_at hl 0 rfl) ?_
        refine rgM X Y 8 (v := .ref (ad 4)) tw_477 rfl dX4_debtOf_107 ?_
        refine lv_iload_n hx hb dX4_debtOf_110 rfl (lv_at hl 1 rfl) ?_
        obtain ⟨hg4, h⟩ := og h
        refine ri X Y (lkM_4 g ad σ) hg4 dX4_debtOf_111 ?_
        refine lv_if_ne (tgt := 119) hx hb dX4_debtOf_112 (by decide) (fun c5 => ?_) (fun c5 => ?_)
        · replace h := oe c5 h
          refine lv_iload_n hx hb dX4_debtOf_119 rfl (lv_at hl 3 rfl) ?_
          refine lv_iconst (v := 2) hx hb dX4_debtOf_120 (by decide) ?_
          refine lv_idiv hx hb dX4_debtOf_121 (by decide) ?_
          obtain rfl := os1 h
          exact retI X Y hr hlk dX4_debtOf_122
        · replace h := ot c5 h
          refine lv_iload_n hx hb dX4_debtOf_115 rfl (lv_at hl 3 rfl) ?_
          refine lv_goto (tgt := 122) hx hb dX4_debtOf_116 (by decide) ?_
          obtain rfl := os1 h
          exact retI X Y hr hlk dX4_debtOf_122
      · replace h := ot c3 h
        refine lv_iload_n hx hb dX4_debtOf_94 rfl (lv_at hl 3 rfl) ?_
        refine lv_if_le (tgt := 104) hx hb dX4_debtOf_95 (by decide) (fun c6 => ?_) (fun c6 => ?_)
        · replace h := ot c6 h
          refine lv_iconst (v := 0) hx hb dX4_debtOf_104 (by decide) ?_
          obtain rfl := os1 h
          exact retI X Y hr hlk dX4_debtOf_105
        · replace h := oe c6 h
          refine lv_iload_n hx hb dX4_debtOf_98 rfl (lv_at hl 3 rfl) ?_
          refine lv_iconst (v := 1) hx hb dX4_debtOf_99 (by decide) ?_
          refine lv_isub hx hb dX4_debtOf_100 ?_
          refine lv_goto (tgt := 105) hx hb dX4_debtOf_101 (by decide) ?_
          obtain rfl := os1 h
          exact retI X Y hr hlk dX4_debtOf_105
    · replace h := oe c1 h
      refine lv_aload_n hx hb dX4_debtOf_14 rfl (lv_at hl 0 rfl) ?_
      refine rgM X Y 18 (v := .int (σ 0 18)) tw_487 rfl dX4_debtOf_15 ?_
      refine lv_iload_n hx hb dX4_debtOf_18 rfl (lv_at hl 1 rfl) ?_
      obtain ⟨r8, hg7, h⟩ := ob h
      refine cSi X (hml.trans hl.1.symm) Y (c_fX4_isOf l D g (WM g ad σ) (σ 0 18) v1 hg7) (gs_X4_127 _) rfl fd_X4_isOf ⟨Nat.le_of_ble_eq_true rfl, Nat.le_of_ble_eq_true rfl⟩ ⟨Nat.le_of_ble_eq_true rfl, Nat.le_of_ble_eq_true rfl⟩ (rest := []) rfl (Nat.le_of_ble_eq_true rfl) dX4_debtOf_19 (fun H locs Y => ?_)
      refine lv_if_ne (tgt := 37) hx hb dX4_debtOf_22 (by decide) (fun c9 => ?_) (fun c9 => ?_)
      · replace h := oe c9 h
        refine lv_iconst (v := 0) hx hb dX4_debtOf_37 (by decide) ?_
        refine lv_goto (tgt := 52) hx hb dX4_debtOf_38 (by decide) ?_
        refine lv_istore (lv' := [(5, .int 0), (0, .ref (ad 0)), (1, .int v1), (2, .int v2), (3, .int v3), (4, .int v4)]) hx hb dX4_debtOf_52 hl (by decide) rfl (fun ls hl => ?_)
        refine lv_iload_n hx hb dX4_debtOf_54 rfl (lv_at hl 4 rfl) ?_
        refine lv_iload_n hx hb dX4_debtOf_55 rfl (lv_at hl 3 rfl) ?_
        refine lv_iload hx hb dX4_debtOf_56 (lv_at hl 5 rfl) ?_
        obtain ⟨r11, hg10, h⟩ := ob h
        refine cSi X (hml.trans hl.1.symm) Y (c_fX4_isOf l D g (WM g ad σ) v2 v4 hg10) (gs_X4_127 _) rfl fd_X4_isOf ⟨Nat.le_of_ble_eq_true rfl, Nat.le_of_ble_eq_true rfl⟩ ⟨Nat.le_of_ble_eq_true rfl, Nat.le_of_ble_eq_true rfl⟩ (rest := [.int v3]) rfl (Nat.le_of_ble_eq_true rfl) dX4_debtOf_58 (fun H locs Y => ?_)
        refine lv_if_eq (tgt := 74) hx hb dX4_debtOf_61 (by decide) (fun c12 => ?_) (fun c12 => ?_)
        · replace h := ot c12 h
          refine lv_iload hx hb dX4_debtOf_74 (lv_at hl 0 rfl) ?_
          refine lv_iadd hx hb dX4_debtOf_76 ?_
          refine lv_istore_n (lv' := [(3, .int (v3 + 0)), (5, .int 0), (0, .ref (ad 0)), (1, .int v1), (2, .int v2), (4, .int v4)]) hx hb dX4_debtOf_77 rfl hl (by decide) rfl (fun ls hl => ?_)
          refine lv_iinc (v := v4 + 1) (lv' := [(4, .int (v4 + 1)), (3, .int (v3 + 0)), (5, .int 0), (0, .ref (ad 0)), (1, .int v1), (2, .int v2)]) hx hb dX4_debtOf_78 hl (k := 5) rfl rfl (by decide) rfl (fun ls hl => ?_)
          refine lv_goto (tgt := 5) hx hb dX4_debtOf_81 (by decide) ?_
          exact ih σ v1 v2 (v3 + 0) (v4 + 1) _ _ _ Y (lv_sub hl [3, 4, 5, 1, 0] rfl) h
        · replace h := oe c12 h
          refine lv_aload_n hx hb dX4_debtOf_64 rfl (lv_at hl 1 rfl) ?_
          refine rgM X Y 7 (v := .int (σ 0 7)) tw_476 rfl dX4_debtOf_65 ?_
          refine lv_iload hx hb dX4_debtOf_68 (lv_at hl 0 rfl) ?_
          refine lv_imul hx hb dX4_debtOf_70 ?_
          refine lv_goto (tgt := 76) hx hb dX4_debtOf_71 (by decide) ?_
          refine lv_iadd hx hb dX4_debtOf_76 ?_
          refine lv_istore_n (lv' := [(3, .int (v3 + ((σ 0 7) * 0))), (5, .int 0), (0, .ref (ad 0)), (1, .int v1), (2, .int v2), (4, .int v4)]) hx hb dX4_debtOf_77 rfl hl (by decide) rfl (fun ls hl => ?_)
          refine lv_iinc (v := v4 + 1) (lv' := [(4, .int (v4 + 1)), (3, .int (v3 + ((σ 0 7) * 0))), (5, .int 0), (0, .ref (ad 0)), (1, .int v1), (2, .int v2)]) hx hb dX4_debtOf_78 hl (k := 5) rfl rfl (by decide) rfl (fun ls hl => ?_)
          refine lv_goto (tgt := 5) hx hb dX4_debtOf_81 (by decide) ?_
          exact ih σ v1 v2 (v3 + ((σ 0 7) * 0)) (v4 + 1) _ _ _ Y (lv_sub hl [3, 4, 5, 1, 0] rfl) h
      · replace h := ot c9 h
        refine lv_aload_n hx hb dX4_debtOf_25 rfl (lv_at hl 0 rfl) ?_
        refine rgM X Y 19 (v := .int (σ 0 19)) tw_488 rfl dX4_debtOf_26 ?_
        refine lv_iload hx hb dX4_debtOf_29 (lv_at hl 4 rfl) ?_
        obtain ⟨r14, hg13, h⟩ := ob h
        refine cSi X (hml.trans hl.1.symm) Y (c_fX4_isOf l D g (WM g ad σ) (σ 0 19) v4 hg13) (gs_X4_127 _) rfl fd_X4_isOf ⟨Nat.le_of_ble_eq_true rfl, Nat.le_of_ble_eq_true rfl⟩ ⟨Nat.le_of_ble_eq_true rfl, Nat.le_of_ble_eq_true rfl⟩ (rest := []) rfl (Nat.le_of_ble_eq_true rfl) dX4_debtOf_31 (fun H locs Y => ?_)
        refine lv_if_eq (tgt := 41) hx hb dX4_debtOf_34 (by decide) (fun c15 => ?_) (fun c15 => ?_)
        · replace h := ot c15 h
          refine lv_aload_n hx hb dX4_debtOf_41 rfl (lv_at hl 0 rfl) ?_
          refine rgM X Y 10 (v := .ref (ad 6)) tw_479 rfl dX4_debtOf_42 ?_
          refine lv_iconst (v := 5) hx hb dX4_debtOf_45 (by decide) ?_
          refine lv_iload_n hx hb dX4_debtOf_46 rfl (lv_at hl 1 rfl) ?_
          refine lv_imul hx hb dX4_debtOf_47 ?_
          refine lv_iload hx hb dX4_debtOf_48 (lv_at hl 4 rfl) ?_
          refine lv_iadd hx hb dX4_debtOf_50 ?_
          obtain ⟨hg16, h⟩ := og h
          refine ri X Y (lkM_6 g ad σ) hg16 dX4_debtOf_51 ?_
          refine lv_istore (lv' := [(5, .int (σ 6 (((5 : Int32) * v1) + v4).toNatClampNeg)), (0, .ref (ad 0)), (1, .int v1), (2, .int v2), (3, .int v3), (4, .int v4)]) hx hb dX4_debtOf_52 hl (by decide) rfl (fun ls hl => ?_)
          refine lv_iload_n hx hb dX4_debtOf_54 rfl (lv_at hl 4 rfl) ?_
          refine lv_iload_n hx hb dX4_debtOf_55 rfl (lv_at hl 3 rfl) ?_
          refine lv_iload hx hb dX4_debtOf_56 (lv_at hl 5 rfl) ?_
          obtain ⟨r18, hg17, h⟩ := ob h
          refine cSi X (hml.trans hl.1.symm) Y (c_fX4_isOf l D g (WM g ad σ) v2 v4 hg17) (gs_X4_127 _) rfl fd_X4_isOf ⟨Nat.le_of_ble_eq_true rfl, Nat.le_of_ble_eq_true rfl⟩ ⟨Nat.le_of_ble_eq_true rfl, Nat.le_of_ble_eq_true rfl⟩ (rest := [.int v3]) rfl (Nat.le_of_ble_eq_true rfl) dX4_debtOf_58 (fun H locs Y => ?_)
          refine lv_if_eq (tgt := 74) hx hb dX4_debtOf_61 (by decide) (fun c19 => ?_) (fun c19 => ?_)
          · replace h := ot c19 h
            refine lv_iload hx hb dX4_debtOf_74 (lv_at hl 0 rfl) ?_
            refine lv_iadd hx hb dX4_debtOf_76 ?_
            refine lv_istore_n (lv' := [(3, .int (v3 + (σ 6 (((5 : Int32) * v1) + v4).toNatClampNeg))), (5, .int (σ 6 (((5 : Int32) * v1) + v4).toNatClampNeg)), (0, .ref (ad 0)), (1, .int v1), (2, .int v2), (4, .int v4)]) hx hb dX4_debtOf_77 rfl hl (by decide) rfl (fun ls hl => ?_)
            refine lv_iinc (v := v4 + 1) (lv' := [(4, .int (v4 + 1)), (3, .int (v3 + (σ 6 (((5 : Int32) * v1) + v4).toNatClampNeg))), (5, .int (σ 6 (((5 : Int32) * v1) + v4).toNatClampNeg)), (0, .ref (ad 0)), (1, .int v1), (2, .int v2)]) hx hb dX4_debtOf_78 hl (k := 5) rfl rfl (by decide) rfl (fun ls hl => ?_)
            refine lv_goto (tgt := 5) hx hb dX4_debtOf_81 (by decide) ?_
            exact ih σ v1 v2 (v3 + (σ 6 (((5 : Int32) * v1) + v4).toNatClampNeg)) (v4 + 1) _ _ _ Y (lv_sub hl [3, 4, 5, 1, 0] rfl) h
          · replace h := oe c19 h
            refine lv_aload_n hx hb dX4_debtOf_64 rfl (lv_at hl 1 rfl) ?_
            refine rgM X Y 7 (v := .int (σ 0 7)) tw_476 rfl dX4_debtOf_65 ?_
            refine lv_iload hx hb dX4_debtOf_68 (lv_at hl 0 rfl) ?_
            refine lv_imul hx hb dX4_debtOf_70 ?_
            refine lv_goto (tgt := 76) hx hb dX4_debtOf_71 (by decide) ?_
            refine lv_iadd hx hb dX4_debtOf_76 ?_
            refine lv_istore_n (lv' := [(3, .int (v3 + ((σ 0 7) * (σ 6 (((5 : Int32) * v1) + v4).toNatClampNeg)))), (5, .int (σ 6 (((5 : Int32) * v1) + v4).toNatClampNeg)), (0, .ref (ad 0)), (1, .int v1), (2, .int v2), (4, .int v4)]) hx hb dX4_debtOf_77 rfl hl (by decide) rfl (fun ls hl => ?_)
            refine lv_iinc (v := v4 + 1) (lv' := [(4, .int (v4 + 1)), (3, .int (v3 + ((σ 0 7) * (σ 6 (((5 : Int32) * v1) + v4).toNatClampNeg)))), (5, .int (σ 6 (((5 : Int32) * v1) + v4).toNatClampNeg)), (0, .ref (ad 0)), (1, .int v1), (2, .int v2)]) hx hb dX4_debtOf_78 hl (k := 5) rfl rfl (by decide) rfl (fun ls hl => ?_)
            refine lv_goto (tgt := 5) hx hb dX4_debtOf_81 (by decide) ?_
            exact ih σ v1 v2 (v3 + ((σ 0 7) * (σ 6 (((5 : Int32) * v1) + v4).toNatClampNeg))) (v4 + 1) _ _ _ Y (lv_sub hl [3, 4, 5, 1, 0] rfl) h
        · replace h := oe c15 h
          refine lv_iconst (v := 0) hx hb dX4_debtOf_37 (by decide) ?_
          refine lv_goto (tgt := 52) hx hb dX4_debtOf_38 (by decide) ?_
          refine lv_istore (lv' := [(5, .int 0), (0, .ref (ad 0)), (1, .int v1), (2, .int v2), (3, .int v3), (4, .int v4)]) hx hb dX4_debtOf_52 hl (by decide) rfl (fun ls hl => ?_)
          refine lv_iload_n hx hb dX4_debtOf_54 rfl (lv_at hl 4 rfl) ?_
          refine lv_iload_n hx hb dX4_debtOf_55 rfl (lv_at hl 3 rfl) ?_
          refine lv_iload hx hb dX4_debtOf_56 (lv_at hl 5 rfl) ?_
          obtain ⟨r21, hg20, h⟩ := ob h
          refine cSi X (hml.trans hl.1.symm) Y (c_fX4_isOf l D g (WM g ad σ) v2 v4 hg20) (gs_X4_127 _) rfl fd_X4_isOf ⟨Nat.le_of_ble_eq_true rfl, Nat.le_of_ble_eq_true rfl⟩ ⟨Nat.le_of_ble_eq_true rfl, Nat.le_of_ble_eq_true rfl⟩ (rest := [.int v3]) rfl (Nat.le_of_ble_eq_true rfl) dX4_debtOf_58 (fun H locs Y => ?_)
          refine lv_if_eq (tgt := 74) hx hb dX4_debtOf_61 (by decide) (fun c22 => ?_) (fun c22 => ?_)
          · replace h := ot c22 h
            refine lv_iload hx hb dX4_debtOf_74 (lv_at hl 0 rfl) ?_
            refine lv_iadd hx hb dX4_debtOf_76 ?_
            refine lv_istore_n (lv' := [(3, .int (v3 + 0)), (5, .int 0), (0, .ref (ad 0)), (1, .int v1), (2, .int v2), (4, .int v4)]) hx hb dX4_debtOf_77 rfl hl (by decide) rfl (fun ls hl => ?_)
            refine lv_iinc (v := v4 + 1) (lv' := [(4, .int (v4 + 1)), (3, .int (v3 + 0)), (5, .int 0), (0, .ref (ad 0)), (1, .int v1), (2, .int v2)]) hx hb dX4_debtOf_78 hl (k := 5) rfl rfl (by decide) rfl (fun ls hl => ?_)
            refine lv_goto (tgt := 5) hx hb dX4_debtOf_81 (by decide) ?_
            exact ih σ v1 v2 (v3 + 0) (v4 + 1) _ _ _ Y (lv_sub hl [3, 4, 5, 1, 0] rfl) h
          · replace h := oe c22 h
            refine lv_aload_n hx hb dX4_debtOf_64 rfl (lv_at hl 1 rfl) ?_
            refine rgM X Y 7 (v := .int (σ 0 7)) tw_476 rfl dX4_debtOf_65 ?_
            refine lv_iload hx hb dX4_debtOf_68 (lv_at hl 0 rfl) ?_
            refine lv_imul hx hb dX4_debtOf_70 ?_
            refine lv_goto (tgt := 76) hx hb dX4_debtOf_71 (by decide) ?_
            refine lv_iadd hx hb dX4_debtOf_76 ?_
            refine lv_istore_n (lv' := [(3, .int (v3 + ((σ 0 7) * 0))), (5, .int 0), (0, .ref (ad 0)), (1, .int v1), (2, .int v2), (4, .int v4)]) hx hb dX4_debtOf_77 rfl hl (by decide) rfl (fun ls hl => ?_)
            refine lv_iinc (v := v4 + 1) (lv' := [(4, .int (v4 + 1)), (3, .int (v3 + ((σ 0 7) * 0))), (5, .int 0), (0, .ref (ad 0)), (1, .int v1), (2, .int v2)]) hx hb dX4_debtOf_78 hl (k := 5) rfl rfl (by decide) rfl (fun ls hl => ?_)
            refine lv_goto (tgt := 5) hx hb dX4_debtOf_81 (by decide) ?_
            exact ih σ v1 v2 (v3 + ((σ 0 7) * 0)) (v4 + 1) _ _ _ Y (lv_sub hl [3, 4, 5, 1, 0] rfl) h
set_option maxHeartbeats 4000000 in
set_option maxRecDepth 100000 in
theorem c_fX4_debtOf (l : Launch) (D : va_G) (g : Nat → ClassId) (ad : Nat → Nat) (σ : St) (n : Nat) (v1 : Int32) (v2 : Int32) {r0 : Int32} (h : fX4_debtOf n σ v1 v2 = some r0) : MI l yX4_debtOf kX4_debtOf 1 21 D g (WM g ad σ) (WM g ad σ) [.ref (ad 0), .int v1, .int v2] r0 := by
  intro sz
  refine Met.of2 (Qc := fun A => QI D g A (WM g ad σ) r0) (cc := cX4_debtOf) (maxL := 6) (ret := (some .int)) (own := RX4) (by decide) rfl rfl (Nat.le_of_ble_eq_true rfl) ?_
  intro p e s m below meth c A ls X hr hlk hml Y hl
  have hx := X.1
  have hb := X.2.1
  have hl : lv_has ls 6 [(0, .ref (ad 0)), (1, .int v1), (2, .int v2)] := hl
  rw [fX4_debtOf] at h
  refine lv_iconst (v := 0) hx hb dX4_debtOf_0 (by decide) ?_
  refine lv_istore_n (lv' := [(3, .int 0), (0, .ref (ad 0)), (1, .int v1), (2, .int v2)]) hx hb dX4_debtOf_1 rfl hl (by decide) rfl (fun ls hl => ?_)
  refine lv_iconst (v := 0) hx hb dX4_debtOf_2 (by decide) ?_
  refine lv_istore (lv' := [(4, .int 0), (3, .int 0), (0, .ref (ad 0)), (1, .int v1), (2, .int v2)]) hx hb dX4_debtOf_3 hl (by decide) rfl (fun ls hl => ?_)
  exact w_fX4_debtOf_L5 X hr hlk hml n σ v1 v2 0 0 _ _ _ Y (lv_sub hl [2, 3, 4, 1, 0] rfl) h
set_option maxHeartbeats 4000000 in
set_option maxRecDepth 100000 in
theorem w_fX4_pullersOf_L7 {p : Program} {l : Launch} {e : Env} {s : State} {m : MethodId} {args : Array Value} {below : List Frame} {meth : Method} {c : Code} {D : va_G} {g : Nat → ClassId} {ad : Nat → Nat} {A : Nat → Prop} {r0 : Int32} (X : Cx p s m c args cX4_pullersOf RX4 kX4_pullersOf D g) (hr : meth.sig.returnType = (some .int)) (hlk : meth.locks = false) (hml : c.maxLocals = 6) : ∀ (n : Nat), ∀ (σ : St) (v1 : Int32) (v2 : Int32) (v3 : Int32) (v4 : Int32) (H : Heap) (locs : List Loc) (ls : Array Slot), Hp D A s.heap H locs (WM g ad σ) → lv_has ls 6 [(0, .ref (ad 0)), (1, .int v1), (2, .int v2), (3, .int v3), (4, .int v4)] → fX4_pullersOf_L7 n σ v1 v2 v3 v4 = some r0 → W p l e (RM 2 46) s m args below meth c H locs 0 0 (MQ below (QI D g A (WM g ad σ) r0) args s 0 0 A) (F0 m 7 ls []) := by
  have hx := X.1
  have hb := X.2.1
  intro n
  induction n with
  | zero => intro σ v1 v2 v3 v4 H locs ls Y hl h; cases (show none = _ from h)
  | succ n ih =>
    intro σ v1 v2 v3 v4 H locs ls Y hl h
    rw [fX4_pullersOf_L7] at h
    refine lv_iload hx hb dX4_pullersOf_7 (lv_at hl 4 rfl) ?_
    refine lv_aload_n hx hb dX4_pullersOf_9 rfl (lv_at hl 0 rfl) ?_
    refine rgM X Y 5 (v := .int (σ 0 5)) tw_474 rfl dX4_pullersOf_10 ?_
    refine lv_icmp_ge (tgt := 72) hx hb dX4_pullersOf_13 (by decide) (fun c1 => ?_) (fun c1 => ?_)
    · replace h := ot c1 h
      refine lv_iload_n hx hb dX4_pullersOf_72 rfl (lv_at hl 3 rfl) ?_
      obtain rfl := os1 h
      exact retI X Y hr hlk dX4_pullersOf_73
    · replace h := oe c1 h
      refine lv_iload_n hx hb dX4_pullersOf_16 rfl (lv_at hl 1 rfl) ?_
      refine lv_iload hx hb dX4_pullersOf_17 (lv_at hl 4 rfl) ?_
      obtain ⟨r3, hg2, h⟩ := ob h
      refine cSi X (hml.trans hl.1.symm) Y (c_fX4_isOf l D g (WM g ad σ) v1 v4 hg2) (gs_X4_127 _) rfl fd_X4_isOf ⟨Nat.le_of_ble_eq_true rfl, Nat.le_of_ble_eq_true rfl⟩ ⟨Nat.le_of_ble_eq_true rfl, Nat.le_of_ble_eq_true rfl⟩ (rest := []) rfl (Nat.le_of_ble_eq_true rfl) dX4_pullersOf_19 (fun H locs Y => ?_)
      refine lv_if_eq (tgt := 35) hx hb dX4_pullersOf_22 (by decide) (fun c4 => ?_) (fun c4 => ?_)
      · replace h := ot c4 h
        refine lv_iconst (v := 0) hx hb dX4_pullersOf_35 (by decide) ?_
        refine lv_istore (lv' := [(5, .int 0), (0, .ref (ad 0)), (1, .int v1), (2, .int v2), (3, .int v3), (4, .int v4)]) hx hb dX4_pullersOf_36 hl (by decide) rfl (fun ls hl => ?_)
        refine lv_iload hx hb dX4_pullersOf_38 (lv_at hl 0 rfl) ?_
        refine lv_iload_n hx hb dX4_pullersOf_40 rfl (lv_at hl 3 rfl) ?_
        refine lv_icmp_le (tgt := 49) hx hb dX4_pullersOf_41 (by decide) (fun c5 => ?_) (fun c5 => ?_)
        · replace h := ot c5 h
          refine lv_iload_n hx hb dX4_pullersOf_49 rfl (lv_at hl 4 rfl) ?_
          refine lv_iload hx hb dX4_pullersOf_50 (lv_at hl 0 rfl) ?_
          refine lv_iload_n hx hb dX4_pullersOf_52 rfl (lv_at hl 3 rfl) ?_
          refine lv_icmp_ne (tgt := 63) hx hb dX4_pullersOf_53 (by decide) (fun c6 => ?_) (fun c6 => ?_)
          · replace h := oe c6 h
            refine lv_iconst (v := 0) hx hb dX4_pullersOf_63 (by decide) ?_
            refine lv_ior hx hb dX4_pullersOf_64 ?_
            refine lv_istore_n (lv' := [(3, .int (v3 ||| 0)), (5, .int 0), (0, .ref (ad 0)), (1, .int v1), (2, .int v2), (4, .int v4)]) hx hb dX4_pullersOf_65 rfl hl (by decide) rfl (fun ls hl => ?_)
            refine lv_iinc (v := v4 + 1) (lv' := [(4, .int (v4 + 1)), (3, .int (v3 ||| 0)), (5, .int 0), (0, .ref (ad 0)), (1, .int v1), (2, .int v2)]) hx hb dX4_pullersOf_66 hl (k := 5) rfl rfl (by decide) rfl (fun ls hl => ?_)
            refine lv_goto (tgt := 7) hx hb dX4_pullersOf_69 (by decide) ?_
            exact ih σ v1 v2 (v3 ||| 0) (v4 + 1) _ _ _ Y (lv_sub hl [3, 4, 5, 1, 0] rfl) h
          · replace h := ot c6 h
            refine lv_iconst (v := 1) hx hb dX4_pullersOf_56 (by decide) ?_
            refine lv_iload hx hb dX4_pullersOf_57 (lv_at hl 5 rfl) ?_
            refine lv_ishl hx hb dX4_pullersOf_59 ?_
            refine lv_goto (tgt := 64) hx hb dX4_pullersOf_60 (by decide) ?_
            refine lv_ior hx hb dX4_pullersOf_64 ?_
            refine lv_istore_n (lv' := [(3, .int (v3 ||| ((1 : Int32) <<< (v4 &&& 31)))), (5, .int 0), (0, .ref (ad 0)), (1, .int v1), (2, .int v2), (4, .int v4)]) hx hb dX4_pullersOf_65 rfl hl (by decide) rfl (fun ls hl => ?_)
            refine lv_iinc (v := v4 + 1) (lv' := [(4, .int (v4 + 1)), (3, .int (v3 ||| ((1 : Int32) <<< (v4 &&& 31)))), (5, .int 0), (0, .ref (ad 0)), (1, .int v1), (2, .int v2)]) hx hb dX4_pullersOf_66 hl (k := 5) rfl rfl (by decide) rfl (fun ls hl => ?_)
            refine lv_goto (tgt := 7) hx hb dX4_pullersOf_69 (by decide) ?_
            exact ih σ v1 v2 (v3 ||| ((1 : Int32) <<< (v4 &&& 31))) (v4 + 1) _ _ _ Y (lv_sub hl [3, 4, 5, 1, 0] rfl) h
        · replace h := oe c5 h
          refine lv_iload hx hb dX4_pullersOf_44 (lv_at hl 0 rfl) ?_
          refine lv_istore_n (lv' := [(2, .int 0), (5, .int 0), (0, .ref (ad 0)), (1, .int v1), (3, .int v3), (4, .int v4)]) hx hb dX4_pullersOf_46 rfl hl (by decide) rfl (fun ls hl => ?_)
          refine lv_iconst (v := 0) hx hb dX4_pullersOf_47 (by decide) ?_
          refine lv_istore_n (lv' := [(3, .int 0), (2, .int 0), (5, .int 0), (0, .ref (ad 0)), (1, .int v1), (4, .int v4)]) hx hb dX4_pullersOf_48 rfl hl (by decide) rfl (fun ls hl => ?_)
          refine lv_iload_n hx hb dX4_pullersOf_49 rfl (lv_at hl 0 rfl) ?_
          refine lv_iload hx hb dX4_pullersOf_50 (lv_at hl 2 rfl) ?_
          refine lv_iload_n hx hb dX4_pullersOf_52 rfl (lv_at hl 1 rfl) ?_
          refine lv_icmp_ne (tgt := 63) hx hb dX4_pullersOf_53 (by decide) (fun c9 => absurd c9 (by decide)) (fun _ => ?_)
          refine lv_iconst (v := 1) hx hb dX4_pullersOf_56 (by decide) ?_
          refine lv_iload hx hb dX4_pullersOf_57 (lv_at hl 5 rfl) ?_
          refine lv_ishl hx hb dX4_pullersOf_59 ?_
          refine lv_goto (tgt := 64) hx hb dX4_pullersOf_60 (by decide) ?_
          refine lv_ior hx hb dX4_pullersOf_64 ?_
          refine lv_istore_n (lv' := [(3, .int ((0 : Int32) ||| ((1 : Int32) <<< (v4 &&& 31)))), (2, .int 0), (5, .int 0), (0, .ref (ad 0)), (1, .int v1), (4, .int v4)]) hx hb dX4_pullersOf_65 rfl hl (by decide) rfl (fun ls hl => ?_)
          refine lv_iinc (v := v4 + 1) (lv' := [(4, .int (v4 + 1)), (3, .int ((0 : Int32) ||| ((1 : Int32) <<< (v4 &&& 31)))), (2, .int 0), (5, .int 0), (0, .ref (ad 0)), (1, .int v1)]) hx hb dX4_pullersOf_66 hl (k := 5) rfl rfl (by decide) rfl (fun ls hl => ?_)
          refine lv_goto (tgt := 7) hx hb dX4_pullersOf_69 (by decide) ?_
          exact ih σ v1 0 ((0 : Int32) ||| ((1 : Int32) <<< (v4 &&& 31))) (v4 + 1) _ _ _ Y (lv_sub hl [4, 5, 2, 1, 0] rfl) h
      · replace h := oe c4 h
        refine lv_aload_n hx hb dX4_pullersOf_25 rfl (lv_at hl 0 rfl) ?_
        refine lv_iload hx hb dX4_pullersOf_26 (lv_at hl 4 rfl) ?_
        refine lv_iload_n hx hb dX4_pullersOf_28 rfl (lv_at hl 1 rfl) ?_
        obtain ⟨r8, hg7, h⟩ := ob h
        refine cVi X (hml.trans hl.1.symm) Y (c_fX4_debtOf l D g ad σ n v4 v1 hg7) (lkM g ad σ) rfl (gs_X4_133 _) rfl fd_X4_debtOf ⟨Nat.le_of_ble_eq_true rfl, Nat.le_of_ble_eq_true rfl⟩ ⟨Nat.le_of_ble_eq_true rfl, Nat.le_of_ble_eq_true rfl⟩ (rest := []) rfl (Nat.le_of_ble_eq_true rfl) dX4_pullersOf_29 (fun H locs Y => ?_)
        refine lv_goto (tgt := 36) hx hb dX4_pullersOf_32 (by decide) ?_
        refine lv_istore (lv' := [(5, .int r8), (0, .ref (ad 0)), (1, .int v1), (2, .int v2), (3, .int v3), (4, .int v4)]) hx hb dX4_pullersOf_36 hl (by decide) rfl (fun ls hl => ?_)
        refine lv_iload hx hb dX4_pullersOf_38 (lv_at hl 0 rfl) ?_
        refine lv_iload_n hx hb dX4_pullersOf_40 rfl (lv_at hl 3 rfl) ?_
        refine lv_icmp_le (tgt := 49) hx hb dX4_pullersOf_41 (by decide) (fun c9 => ?_) (fun c9 => ?_)
        · replace h := ot c9 h
          refine lv_iload_n hx hb dX4_pullersOf_49 rfl (lv_at hl 4 rfl) ?_
          refine lv_iload hx hb dX4_pullersOf_50 (lv_at hl 0 rfl) ?_
          refine lv_iload_n hx hb dX4_pullersOf_52 rfl (lv_at hl 3 rfl) ?_
          refine lv_icmp_ne (tgt := 63) hx hb dX4_pullersOf_53 (by decide) (fun c10 => ?_) (fun c10 => ?_)
          · replace h := oe c10 h
            refine lv_iconst (v := 0) hx hb dX4_pullersOf_63 (by decide) ?_
            refine lv_ior hx hb dX4_pullersOf_64 ?_
            refine lv_istore_n (lv' := [(3, .int (v3 ||| 0)), (5, .int r8), (0, .ref (ad 0)), (1, .int v1), (2, .int v2), (4, .int v4)]) hx hb dX4_pullersOf_65 rfl hl (by decide) rfl (fun ls hl => ?_)
            refine lv_iinc (v := v4 + 1) (lv' := [(4, .int (v4 + 1)), (3, .int (v3 ||| 0)), (5, .int r8), (0, .ref (ad 0)), (1, .int v1), (2, .int v2)]) hx hb dX4_pullersOf_66 hl (k := 5) rfl rfl (by decide) rfl (fun ls hl => ?_)
            refine lv_goto (tgt := 7) hx hb dX4_pullersOf_69 (by decide) ?_
            exact ih σ v1 v2 (v3 ||| 0) (v4 + 1) _ _ _ Y (lv_sub hl [3, 4, 5, 1, 0] rfl) h
          · replace h := ot c10 h
            refine lv_iconst (v := 1) hx hb dX4_pullersOf_56 (by decide) ?_
            refine lv_iload hx hb dX4_pullersOf_57 (lv_at hl 5 rfl) ?_
            refine lv_ishl hx hb dX4_pullersOf_59 ?_
            refine lv_goto (tgt := 64) hx hb dX4_pullersOf_60 (by decide) ?_
            refine lv_ior hx hb dX4_pullersOf_64 ?_
            refine lv_istore_n (lv' := [(3, .int (v3 ||| ((1 : Int32) <<< (v4 &&& 31)))), (5, .int r8), (0, .ref (ad 0)), (1, .int v1), (2, .int v2), (4, .int v4)]) hx hb dX4_pullersOf_65 rfl hl (by decide) rfl (fun ls hl => ?_)
            refine lv_iinc (v := v4 + 1) (lv' := [(4, .int (v4 + 1)), (3, .int (v3 ||| ((1 : Int32) <<< (v4 &&& 31)))), (5, .int r8), (0, .ref (ad 0)), (1, .int v1), (2, .int v2)]) hx hb dX4_pullersOf_66 hl (k := 5) rfl rfl (by decide) rfl (fun ls hl => ?_)
            refine lv_goto (tgt := 7) hx hb dX4_pullersOf_69 (by decide) ?_
            exact ih σ v1 v2 (v3 ||| ((1 : Int32) <<< (v4 &&& 31))) (v4 + 1) _ _ _ Y (lv_sub hl [3, 4, 5, 1, 0] rfl) h
        · replace h := oe c9 h
          refine lv_iload hx hb dX4_pullersOf_44 (lv_at hl 0 rfl) ?_
          refine lv_istore_n (lv' := [(2, .int r8), (5, .int r8), (0, .ref (ad 0)), (1, .int v1), (3, .int v3), (4, .int v4)]) hx hb dX4_pullersOf_46 rfl hl (by decide) rfl (fun ls hl => ?_)
          refine lv_iconst (v := 0) hx hb dX4_pullersOf_47 (by decide) ?_
          refine lv_istore_n (lv' := [(3, .int 0), (2, .int r8), (5, .int r8), (0, .ref (ad 0)), (1, .int v1), (4, .int v4)]) hx hb dX4_pullersOf_48 rfl hl (by decide) rfl (fun ls hl => ?_)
          refine lv_iload_n hx hb dX4_pullersOf_49 rfl (lv_at hl 0 rfl) ?_
          refine lv_iload hx hb dX4_pullersOf_50 (lv_at hl 2 rfl) ?_
          refine lv_iload_n hx hb dX4_pullersOf_52 rfl (lv_at hl 1 rfl) ?_
          refine lv_icmp_ne (tgt := 63) hx hb dX4_pullersOf_53 (by decide) (fun c11 => ?_) (fun c11 => ?_)
          · replace h := oe c11 h
            refine lv_iconst (v := 0) hx hb dX4_pullersOf_63 (by decide) ?_
            refine lv_ior hx hb dX4_pullersOf_64 ?_
            refine lv_istore_n (lv' := [(3, .int ((0 : Int32) ||| 0)), (2, .int r8), (5, .int r8), (0, .ref (ad 0)), (1, .int v1), (4, .int v4)]) hx hb dX4_pullersOf_65 rfl hl (by decide) rfl (fun ls hl => ?_)
            refine lv_iinc (v := v4 + 1) (lv' := [(4, .int (v4 + 1)), (3, .int ((0 : Int32) ||| 0)), (2, .int r8), (5, .int r8), (0, .ref (ad 0)), (1, .int v1)]) hx hb dX4_pullersOf_66 hl (k := 5) rfl rfl (by decide) rfl (fun ls hl => ?_)
            refine lv_goto (tgt := 7) hx hb dX4_pullersOf_69 (by decide) ?_
            exact ih σ v1 r8 ((0 : Int32) ||| 0) (v4 + 1) _ _ _ Y (lv_sub hl [4, 5, 2, 1, 0] rfl) h
          · replace h := ot c11 h
            refine lv_iconst (v := 1) hx hb dX4_pullersOf_56 (by decide) ?_
            refine lv_iload hx hb dX4_pullersOf_57 (lv_at hl 5 rfl) ?_
            refine lv_ishl hx hb dX4_pullersOf_59 ?_
            refine lv_goto (tgt := 64) hx hb dX4_pullersOf_60 (by decide) ?_
            refine lv_ior hx hb dX4_pullersOf_64 ?_
            refine lv_istore_n (lv' := [(3, .int ((0 : Int32) ||| ((1 : Int32) <<< (v4 &&& 31)))), (2, .int r8), (5, .int r8), (0, .ref (ad 0)), (1, .int v1), (4, .int v4)]) hx hb dX4_pullersOf_65 rfl hl (by decide) rfl (fun ls hl => ?_)
            refine lv_iinc (v := v4 + 1) (lv' := [(4, .int (v4 + 1)), (3, .int ((0 : Int32) ||| ((1 : Int32) <<< (v4 &&& 31)))), (2, .int r8), (5, .int r8), (0, .ref (ad 0)), (1, .int v1)]) hx hb dX4_pullersOf_66 hl (k := 5) rfl rfl (by decide) rfl (fun ls hl => ?_)
            refine lv_goto (tgt := 7) hx hb dX4_pullersOf_69 (by decide) ?_
            exact ih σ v1 r8 ((0 : Int32) ||| ((1 : Int32) <<< (v4 &&& 31))) (v4 + 1) _ _ _ Y (lv_sub hl [4, 5, 2, 1, 0] rfl) h
set_option maxHeartbeats 4000000 in
set_option maxRecDepth 100000 in
theorem c_fX4_pullersOf (l : Launch) (D : va_G) (g : Nat → ClassId) (ad : Nat → Nat) (σ : St) (n : Nat) (v1 : Int32) {r0 : Int32} (h : fX4_pullersOf n σ v1 = some r0) : MI l yX4_pullersOf kX4_pullersOf 2 46 D g (WM g ad σ) (WM g ad σ) [.ref (ad 0), .int v1] r0 := by
  intro sz
  refine Met.of2 (Qc := fun A => QI D g A (WM g ad σ) r0) (cc := cX4_pullersOf) (maxL := 6) (ret := (some .int)) (own := RX4) (by decide) rfl rfl (Nat.le_of_ble_eq_true rfl) ?_
  intro p e s m below meth c A ls X hr hlk hml Y hl
  have hx := X.1
  have hb := X.2.1
  have hl : lv_has ls 6 [(0, .ref (ad 0)), (1, .int v1)] := hl
  rw [fX4_pullersOf] at h
  refine lv_iconst (v := 1) hx hb dX4_pullersOf_0 (by decide) ?_
  refine lv_istore_n (lv' := [(2, .int 1), (0, .ref (ad 0)), (1, .int v1)]) hx hb dX4_pullersOf_1 rfl hl (by decide) rfl (fun ls hl => ?_)
  refine lv_iconst (v := 0) hx hb dX4_pullersOf_2 (by decide) ?_
  refine lv_istore_n (lv' := [(3, .int 0), (2, .int 1), (0, .ref (ad 0)), (1, .int v1)]) hx hb dX4_pullersOf_3 rfl hl (by decide) rfl (fun ls hl => ?_)
  refine lv_iconst (v := 0) hx hb dX4_pullersOf_4 (by decide) ?_
  refine lv_istore (lv' := [(4, .int 0), (3, .int 0), (2, .int 1), (0, .ref (ad 0)), (1, .int v1)]) hx hb dX4_pullersOf_5 hl (by decide) rfl (fun ls hl => ?_)
  exact w_fX4_pullersOf_L7 X hr hlk hml n σ v1 1 0 0 _ _ _ Y (lv_sub hl [3, 4, 2, 1, 0] rfl) h
set_option maxHeartbeats 4000000 in
set_option maxRecDepth 100000 in
theorem w_fX4_size_L4 {p : Program} {l : Launch} {e : Env} {s : State} {m : MethodId} {args : Array Value} {below : List Frame} {meth : Method} {c : Code} {D : va_G} {g : Nat → ClassId} {W0 : va_W} {A : Nat → Prop} {r0 : Int32} (X : Cx p s m c args cX4_size RX4 kX4_size D g) (hr : meth.sig.returnType = (some .int)) (hlk : meth.locks = false) (hml : c.maxLocals = 3) : ∀ (n : Nat), ∀ (v1 : Int32) (v2 : Int32) (H : Heap) (locs : List Loc) (ls : Array Slot), Hp D A s.heap H locs (W0) → lv_has ls 3 [(1, .int v1), (2, .int v2)] → fX4_size_L4 n v1 v2 = some r0 → W p l e (RM 0 0) s m args below meth c H locs 0 0 (MQ below (QI D g A (W0) r0) args s 0 0 A) (F0 m 4 ls []) := by
  have hx := X.1
  have hb := X.2.1
  intro n
  induction n with
  | zero => intro v1 v2 H locs ls Y hl h; cases (show none = _ from h)
  | succ n ih =>
    intro v1 v2 H locs ls Y hl h
    rw [fX4_size_L4] at h
    refine lv_iload_n hx hb dX4_size_4 rfl (lv_at hl 1 rfl) ?_
    refine lv_if_le (tgt := 21) hx hb dX4_size_5 (by decide) (fun c1 => ?_) (fun c1 => ?_)
    · replace h := ot c1 h
      refine lv_iload_n hx hb dX4_size_21 rfl (lv_at hl 0 rfl) ?_
      obtain rfl := os1 h
      exact retI X Y hr hlk dX4_size_22
    · replace h := oe c1 h
      refine lv_iload_n hx hb dX4_size_8 rfl (lv_at hl 0 rfl) ?_
      refine lv_iload_n hx hb dX4_size_9 rfl (lv_at hl 1 rfl) ?_
      refine lv_iconst (v := 1) hx hb dX4_size_10 (by decide) ?_
      refine lv_iand hx hb dX4_size_11 ?_
      refine lv_iadd hx hb dX4_size_12 ?_
      refine lv_istore_n (lv' := [(1, .int (v1 + (v2 &&& 1))), (2, .int v2)]) hx hb dX4_size_13 rfl hl (by decide) rfl (fun ls hl => ?_)
      refine lv_iload_n hx hb dX4_size_14 rfl (lv_at hl 1 rfl) ?_
      refine lv_iconst (v := 1) hx hb dX4_size_15 (by decide) ?_
      refine lv_ishr hx hb dX4_size_16 ?_
      refine lv_istore_n (lv' := [(2, .int (v2 >>> (1 &&& 31))), (1, .int (v1 + (v2 &&& 1)))]) hx hb dX4_size_17 rfl hl (by decide) rfl (fun ls hl => ?_)
      refine lv_goto (tgt := 4) hx hb dX4_size_18 (by decide) ?_
      exact ih  (v1 + (v2 &&& 1)) (v2 >>> (1 &&& 31)) _ _ _ Y (lv_sub hl [1, 0] rfl) h
set_option maxHeartbeats 4000000 in
set_option maxRecDepth 100000 in
theorem c_fX4_size (l : Launch) (D : va_G) (g : Nat → ClassId) (W0 : va_W) (n : Nat) (v0 : Int32) {r0 : Int32} (h : fX4_size n v0 = some r0) : MI l yX4_size kX4_size 0 0 D g (W0) (W0) [.int v0] r0 := by
  intro sz
  refine Met.of2 (Qc := fun A => QI D g A (W0) r0) (cc := cX4_size) (maxL := 3) (ret := (some .int)) (own := RX4) (by decide) rfl rfl (Nat.le_of_ble_eq_true rfl) ?_
  intro p e s m below meth c A ls X hr hlk hml Y hl
  have hx := X.1
  have hb := X.2.1
  have hl : lv_has ls 3 [(0, .int v0)] := hl
  rw [fX4_size] at h
  refine lv_iconst (v := 0) hx hb dX4_size_0 (by decide) ?_
  refine lv_istore_n (lv' := [(1, .int 0), (0, .int v0)]) hx hb dX4_size_1 rfl hl (by decide) rfl (fun ls hl => ?_)
  refine lv_iload_n hx hb dX4_size_2 rfl (lv_at hl 1 rfl) ?_
  refine lv_istore_n (lv' := [(2, .int v0), (1, .int 0), (0, .int v0)]) hx hb dX4_size_3 rfl hl (by decide) rfl (fun ls hl => ?_)
  exact w_fX4_size_L4 X hr hlk hml n  0 v0 _ _ _ Y (lv_sub hl [1, 0] rfl) h
set_option maxHeartbeats 4000000 in
set_option maxRecDepth 100000 in
theorem w_fX4_isFair_L33 {p : Program} {l : Launch} {e : Env} {s : State} {m : MethodId} {args : Array Value} {below : List Frame} {meth : Method} {c : Code} {D : va_G} {g : Nat → ClassId} {ad : Nat → Nat} {A : Nat → Prop} {r0 : Int32} (X : Cx p s m c args cX4_isFair RX4 kX4_isFair D g) (hr : meth.sig.returnType = (some .boolean)) (hlk : meth.locks = false) (hml : c.maxLocals = 4) : ∀ (n : Nat), ∀ (σ : St) (v2 : Int32) (v3 : Int32) (H : Heap) (locs : List Loc) (ls : Array Slot), Hp D A s.heap H locs (WM g ad σ) → lv_has ls 4 [(0, .ref (ad 0)), (2, .int v2), (3, .int v3)] → fX4_isFair_L33 n σ v2 v3 = some r0 → W p l e (RM 3 71) s m args below meth c H locs 0 0 (MQ below (QI D g A (WM g ad σ) r0) args s 0 0 A) (F0 m 33 ls []) := by
  have hx := X.1
  have hb := X.2.1
  intro n
  induction n with
  | zero => intro σ v2 v3 H locs ls Y hl h; cases (show none = _ from h)
  | succ n ih =>
    intro σ v2 v3 H locs ls Y hl h
    rw [fX4_isFair_L33] at h
    refine lv_iload_n hx hb dX4_isFair_33 rfl (lv_at hl 2 rfl) ?_
    refine lv_aload_n hx hb dX4_isFair_34 rfl (lv_at hl 0 rfl) ?_
    refine rgM X Y 5 (v := .int (σ 0 5)) tw_474 rfl dX4_isFair_35 ?_
    refine lv_icmp_ge (tgt := 67) hx hb dX4_isFair_38 (by decide) (fun c10 => ?_) (fun c10 => ?_)
    · replace h := ot c10 h
      refine lv_iconst (v := 1) hx hb dX4_isFair_67 (by decide) ?_
      obtain rfl := os1 h
      exact retZ X Y hr hlk rfl dX4_isFair_68
    · replace h := oe c10 h
      refine lv_iload_n hx hb dX4_isFair_41 rfl (lv_at hl 1 rfl) ?_
      refine lv_iload_n hx hb dX4_isFair_42 rfl (lv_at hl 2 rfl) ?_
      obtain ⟨r12, hg11, h⟩ := ob h
      refine cSi X (hml.trans hl.1.symm) Y (c_fX4_isOf l D g (WM g ad σ) v2 v3 hg11) (gs_X4_127 _) rfl fd_X4_isOf ⟨Nat.le_of_ble_eq_true rfl, Nat.le_of_ble_eq_true rfl⟩ ⟨Nat.le_of_ble_eq_true rfl, Nat.le_of_ble_eq_true rfl⟩ (rest := []) rfl (Nat.le_of_ble_eq_true rfl) dX4_isFair_43 (fun H locs Y => ?_)
      refine lv_if_eq (tgt := 61) hx hb dX4_isFair_46 (by decide) (fun c13 => ?_) (fun c13 => ?_)
      · replace h := ot c13 h
        refine lv_iinc (v := v3 + 1) (lv' := [(3, .int (v3 + 1)), (0, .ref (ad 0)), (2, .int v2)]) hx hb dX4_isFair_61 hl (k := 2) rfl rfl (by decide) rfl (fun ls hl => ?_)
        refine lv_goto (tgt := 33) hx hb dX4_isFair_64 (by decide) ?_
        exact ih σ v2 (v3 + 1) _ _ _ Y (lv_sub hl [1, 2, 0] rfl) h
      · replace h := oe c13 h
        refine lv_aload_n hx hb dX4_isFair_49 rfl (lv_at hl 0 rfl) ?_
        refine rgM X Y 9 (v := .ref (ad 5)) tw_478 rfl dX4_isFair_50 ?_
        refine lv_iload_n hx hb dX4_isFair_53 rfl (lv_at hl 2 rfl) ?_
        obtain ⟨hg14, h⟩ := og h
        refine ri X Y (lkM_5 g ad σ) hg14 dX4_isFair_54 ?_
        refine lv_iconst (v := 1) hx hb dX4_isFair_55 (by decide) ?_
        refine lv_icmp_ne (tgt := 61) hx hb dX4_isFair_56 (by decide) (fun c15 => ?_) (fun c15 => ?_)
        · replace h := oe c15 h
          refine lv_iinc (v := v3 + 1) (lv' := [(3, .int (v3 + 1)), (0, .ref (ad 0)), (2, .int v2)]) hx hb dX4_isFair_61 hl (k := 2) rfl rfl (by decide) rfl (fun ls hl => ?_)
          refine lv_goto (tgt := 33) hx hb dX4_isFair_64 (by decide) ?_
          exact ih σ v2 (v3 + 1) _ _ _ Y (lv_sub hl [1, 2, 0] rfl) h
        · replace h := ot c15 h
          refine lv_iconst (v := 0) hx hb dX4_isFair_59 (by decide) ?_
          obtain rfl := os1 h
          exact retZ X Y hr hlk rfl dX4_isFair_60
set_option maxHeartbeats 4000000 in
set_option maxRecDepth 100000 in
theorem c_fX4_isFair (l : Launch) (D : va_G) (g : Nat → ClassId) (ad : Nat → Nat) (σ : St) (n : Nat) (v1 : Int32) {r0 : Int32} (h : fX4_isFair n σ v1 = some r0) : MI l yX4_isFair kX4_isFair 3 71 D g (WM g ad σ) (WM g ad σ) [.ref (ad 0), .int v1] r0 := by
  intro sz
  refine Met.of2 (Qc := fun A => QI D g A (WM g ad σ) r0) (cc := cX4_isFair) (maxL := 4) (ret := (some .boolean)) (own := RX4) (by decide) rfl rfl (Nat.le_of_ble_eq_true rfl) ?_
  intro p e s m below meth c A ls X hr hlk hml Y hl
  have hx := X.1
  have hb := X.2.1
  have hl : lv_has ls 4 [(0, .ref (ad 0)), (1, .int v1)] := hl
  rw [fX4_isFair] at h
  refine lv_aload_n hx hb dX4_isFair_0 rfl (lv_at hl 0 rfl) ?_
  refine lv_iload_n hx hb dX4_isFair_1 rfl (lv_at hl 1 rfl) ?_
  obtain ⟨r2, hg1, h⟩ := ob h
  refine cVi X (hml.trans hl.1.symm) Y (c_fX4_pullersOf l D g ad σ n v1 hg1) (lkM g ad σ) rfl (gs_X4_137 _) rfl fd_X4_pullersOf ⟨Nat.le_of_ble_eq_true rfl, Nat.le_of_ble_eq_true rfl⟩ ⟨Nat.le_of_ble_eq_true rfl, Nat.le_of_ble_eq_true rfl⟩ (rest := []) rfl (Nat.le_of_ble_eq_true rfl) dX4_isFair_2 (fun H locs Y => ?_)
  refine lv_istore_n (lv' := [(2, .int r2), (0, .ref (ad 0)), (1, .int v1)]) hx hb dX4_isFair_5 rfl hl (by decide) rfl (fun ls hl => ?_)
  refine lv_iload_n hx hb dX4_isFair_6 rfl (lv_at hl 2 rfl) ?_
  refine lv_if_eq (tgt := 29) hx hb dX4_isFair_7 (by decide) (fun c3 => ?_) (fun c3 => ?_)
  · replace h := ot c3 h
    refine lv_iconst (v := 0) hx hb dX4_isFair_29 (by decide) ?_
    obtain rfl := os1 h
    exact retZ X Y hr hlk rfl dX4_isFair_30
  · replace h := oe c3 h
    refine lv_iload_n hx hb dX4_isFair_10 rfl (lv_at hl 2 rfl) ?_
    obtain ⟨r5, hg4, h⟩ := ob h
    refine cSi X (hml.trans hl.1.symm) Y (c_fX4_size l D g (WM g ad σ) n v1 hg4) (gs_X4_140 _) rfl fd_X4_size ⟨Nat.le_of_ble_eq_true rfl, Nat.le_of_ble_eq_true rfl⟩ ⟨Nat.le_of_ble_eq_true rfl, Nat.le_of_ble_eq_true rfl⟩ (rest := []) rfl (Nat.le_of_ble_eq_true rfl) dX4_isFair_11 (fun H locs Y => ?_)
    refine lv_aload_n hx hb dX4_isFair_14 rfl (lv_at hl 1 rfl) ?_
    refine rgM X Y 6 (v := .int (σ 0 6)) tw_475 rfl dX4_isFair_15 ?_
    refine lv_icmp_gt (tgt := 29) hx hb dX4_isFair_18 (by decide) (fun c6 => ?_) (fun c6 => ?_)
    · replace h := ot c6 h
      refine lv_iconst (v := 0) hx hb dX4_isFair_29 (by decide) ?_
      obtain rfl := os1 h
      exact retZ X Y hr hlk rfl dX4_isFair_30
    · replace h := oe c6 h
      refine lv_iload_n hx hb dX4_isFair_21 rfl (lv_at hl 0 rfl) ?_
      obtain ⟨r8, hg7, h⟩ := ob h
      refine cSi X (hml.trans hl.1.symm) Y (c_fX4_size l D g (WM g ad σ) n r2 hg7) (gs_X4_140 _) rfl fd_X4_size ⟨Nat.le_of_ble_eq_true rfl, Nat.le_of_ble_eq_true rfl⟩ ⟨Nat.le_of_ble_eq_true rfl, Nat.le_of_ble_eq_true rfl⟩ (rest := []) rfl (Nat.le_of_ble_eq_true rfl) dX4_isFair_22 (fun H locs Y => ?_)
      refine lv_iconst (v := 1) hx hb dX4_isFair_25 (by decide) ?_
      refine lv_icmp_eq (tgt := 31) hx hb dX4_isFair_26 (by decide) (fun c9 => ?_) (fun c9 => ?_)
      · replace h := ot c9 h
        refine lv_iconst (v := 0) hx hb dX4_isFair_31 (by decide) ?_
        refine lv_istore_n (lv' := [(3, .int 0), (2, .int r2), (0, .ref (ad 0)), (1, .int v1)]) hx hb dX4_isFair_32 rfl hl (by decide) rfl (fun ls hl => ?_)
        exact w_fX4_isFair_L33 X hr hlk hml n σ r2 0 _ _ _ Y (lv_sub hl [2, 1, 0] rfl) h
      · replace h := oe c9 h
        refine lv_iconst (v := 0) hx hb dX4_isFair_29 (by decide) ?_
        obtain rfl := os1 h
        exact retZ X Y hr hlk rfl dX4_isFair_30
set_option maxHeartbeats 4000000 in
set_option maxRecDepth 100000 in
theorem c_fX4_debt (l : Launch) (D : va_G) (g : Nat → ClassId) (ad : Nat → Nat) (σ : St) (n : Nat) (v1 : Int32) (v2 : Int32) {r0 : Int32} (h : fX4_debt n σ v1 v2 = some r0) : MI l yX4_debt kX4_debt 2 46 D g (WM g ad σ) (WM g ad σ) [.ref (ad 0), .int v1, .int v2] r0 := by
  intro sz
  refine Met.of2 (Qc := fun A => QI D g A (WM g ad σ) r0) (cc := cX4_debt) (maxL := 3) (ret := (some .int)) (own := RX4) (by decide) rfl rfl (Nat.le_of_ble_eq_true rfl) ?_
  intro p e s m below meth c A ls X hr hlk hml Y hl
  have hx := X.1
  have hb := X.2.1
  have hl : lv_has ls 3 [(0, .ref (ad 0)), (1, .int v1), (2, .int v2)] := hl
  rw [fX4_debt] at h
  refine lv_aload_n hx hb dX4_debt_0 rfl (lv_at hl 0 rfl) ?_
  refine lv_iload_n hx hb dX4_debt_1 rfl (lv_at hl 1 rfl) ?_
  obtain ⟨r2, hg1, h⟩ := ob h
  refine cVi X (hml.trans hl.1.symm) Y (c_fX4_isPerson l D g ad σ v1 hg1) (lkM g ad σ) rfl (gs_X4_115 _) rfl fd_X4_isPerson ⟨Nat.le_of_ble_eq_true rfl, Nat.le_of_ble_eq_true rfl⟩ ⟨Nat.le_of_ble_eq_true rfl, Nat.le_of_ble_eq_true rfl⟩ (rest := []) rfl (Nat.le_of_ble_eq_true rfl) dX4_debt_2 (fun H locs Y => ?_)
  refine lv_if_ne (tgt := 10) hx hb dX4_debt_5 (by decide) (fun c3 => ?_) (fun c3 => ?_)
  · replace h := oe c3 h
    refine lv_aload_n hx hb dX4_debt_10 rfl (lv_at hl 0 rfl) ?_
    refine lv_iload_n hx hb dX4_debt_11 rfl (lv_at hl 2 rfl) ?_
    obtain ⟨r5, hg4, h⟩ := ob h
    refine cVi X (hml.trans hl.1.symm) Y (c_fX4_isSet l D g ad σ v2 hg4) (lkM g ad σ) rfl (gs_X4_143 _) rfl fd_X4_isSet ⟨Nat.le_of_ble_eq_true rfl, Nat.le_of_ble_eq_true rfl⟩ ⟨Nat.le_of_ble_eq_true rfl, Nat.le_of_ble_eq_true rfl⟩ (rest := []) rfl (Nat.le_of_ble_eq_true rfl) dX4_debt_12 (fun H locs Y => ?_)
    refine lv_if_ne (tgt := 21) hx hb dX4_debt_15 (by decide) (fun c6 => ?_) (fun c6 => ?_)
    · replace h := oe c6 h
      refine lv_iload_n hx hb dX4_debt_21 rfl (lv_at hl 2 rfl) ?_
      refine lv_iload_n hx hb dX4_debt_22 rfl (lv_at hl 1 rfl) ?_
      obtain ⟨r8, hg7, h⟩ := ob h
      refine cSi X (hml.trans hl.1.symm) Y (c_fX4_isOf l D g (WM g ad σ) v2 v1 hg7) (gs_X4_127 _) rfl fd_X4_isOf ⟨Nat.le_of_ble_eq_true rfl, Nat.le_of_ble_eq_true rfl⟩ ⟨Nat.le_of_ble_eq_true rfl, Nat.le_of_ble_eq_true rfl⟩ (rest := []) rfl (Nat.le_of_ble_eq_true rfl) dX4_debt_23 (fun H locs Y => ?_)
      refine lv_if_eq (tgt := 38) hx hb dX4_debt_26 (by decide) (fun c9 => ?_) (fun c9 => ?_)
      · replace h := ot c9 h
        refine lv_bipush (v := (-3)) hx hb dX4_debt_38 (by decide) ?_
        obtain rfl := os1 h
        exact retI X Y hr hlk dX4_debt_40
      · replace h := oe c9 h
        refine lv_aload_n hx hb dX4_debt_29 rfl (lv_at hl 0 rfl) ?_
        refine lv_iload_n hx hb dX4_debt_30 rfl (lv_at hl 1 rfl) ?_
        refine lv_iload_n hx hb dX4_debt_31 rfl (lv_at hl 2 rfl) ?_
        obtain ⟨r11, hg10, h⟩ := ob h
        refine cVi X (hml.trans hl.1.symm) Y (c_fX4_debtOf l D g ad σ n v1 v2 hg10) (lkM g ad σ) rfl (gs_X4_133 _) rfl fd_X4_debtOf ⟨Nat.le_of_ble_eq_true rfl, Nat.le_of_ble_eq_true rfl⟩ ⟨Nat.le_of_ble_eq_true rfl, Nat.le_of_ble_eq_true rfl⟩ (rest := []) rfl (Nat.le_of_ble_eq_true rfl) dX4_debt_32 (fun H locs Y => ?_)
        refine lv_goto (tgt := 40) hx hb dX4_debt_35 (by decide) ?_
        obtain rfl := os1 h
        exact retI X Y hr hlk dX4_debt_40
    · replace h := ot c6 h
      refine lv_bipush (v := (-2)) hx hb dX4_debt_18 (by decide) ?_
      obtain rfl := os1 h
      exact retI X Y hr hlk dX4_debt_20
  · replace h := ot c3 h
    refine lv_iconst (v := (-1)) hx hb dX4_debt_8 (by decide) ?_
    obtain rfl := os1 h
    exact retI X Y hr hlk dX4_debt_9
set_option maxHeartbeats 4000000 in
set_option maxRecDepth 100000 in
theorem c_fX4_pullers (l : Launch) (D : va_G) (g : Nat → ClassId) (ad : Nat → Nat) (σ : St) (n : Nat) (v1 : Int32) {r0 : Int32} (h : fX4_pullers n σ v1 = some r0) : MI l yX4_pullers kX4_pullers 3 71 D g (WM g ad σ) (WM g ad σ) [.ref (ad 0), .int v1] r0 := by
  intro sz
  refine Met.of2 (Qc := fun A => QI D g A (WM g ad σ) r0) (cc := cX4_pullers) (maxL := 2) (ret := (some .int)) (own := RX4) (by decide) rfl rfl (Nat.le_of_ble_eq_true rfl) ?_
  intro p e s m below meth c A ls X hr hlk hml Y hl
  have hx := X.1
  have hb := X.2.1
  have hl : lv_has ls 2 [(0, .ref (ad 0)), (1, .int v1)] := hl
  rw [fX4_pullers] at h
  refine lv_aload_n hx hb dX4_pullers_0 rfl (lv_at hl 0 rfl) ?_
  refine rgM X Y 5 (v := .int (σ 0 5)) tw_474 rfl dX4_pullers_1 ?_
  refine lv_if_ne (tgt := 10) hx hb dX4_pullers_4 (by decide) (fun c1 => ?_) (fun c1 => ?_)
  · replace h := oe c1 h
    refine lv_aload_n hx hb dX4_pullers_10 rfl (lv_at hl 0 rfl) ?_
    refine lv_iload_n hx hb dX4_pullers_11 rfl (lv_at hl 1 rfl) ?_
    obtain ⟨r3, hg2, h⟩ := ob h
    refine cVi X (hml.trans hl.1.symm) Y (c_fX4_isSet l D g ad σ v1 hg2) (lkM g ad σ) rfl (gs_X4_143 _) rfl fd_X4_isSet ⟨Nat.le_of_ble_eq_true rfl, Nat.le_of_ble_eq_true rfl⟩ ⟨Nat.le_of_ble_eq_true rfl, Nat.le_of_ble_eq_true rfl⟩ (rest := []) rfl (Nat.le_of_ble_eq_true rfl) dX4_pullers_12 (fun H locs Y => ?_)
    refine lv_if_eq (tgt := 26) hx hb dX4_pullers_15 (by decide) (fun c4 => ?_) (fun c4 => ?_)
    · replace h := ot c4 h
      refine lv_bipush (v := (-2)) hx hb dX4_pullers_26 (by decide) ?_
      obtain rfl := os1 h
      exact retI X Y hr hlk dX4_pullers_28
    · replace h := oe c4 h
      refine lv_aload_n hx hb dX4_pullers_18 rfl (lv_at hl 0 rfl) ?_
      refine lv_iload_n hx hb dX4_pullers_19 rfl (lv_at hl 1 rfl) ?_
      obtain ⟨r6, hg5, h⟩ := ob h
      refine cVi X (hml.trans hl.1.symm) Y (c_fX4_pullersOf l D g ad σ n v1 hg5) (lkM g ad σ) rfl (gs_X4_137 _) rfl fd_X4_pullersOf ⟨Nat.le_of_ble_eq_true rfl, Nat.le_of_ble_eq_true rfl⟩ ⟨Nat.le_of_ble_eq_true rfl, Nat.le_of_ble_eq_true rfl⟩ (rest := []) rfl (Nat.le_of_ble_eq_true rfl) dX4_pullers_20 (fun H locs Y => ?_)
      refine lv_goto (tgt := 28) hx hb dX4_pullers_23 (by decide) ?_
      obtain rfl := os1 h
      exact retI X Y hr hlk dX4_pullers_28
  · replace h := ot c1 h
    refine lv_bipush (v := (-3)) hx hb dX4_pullers_7 (by decide) ?_
    obtain rfl := os1 h
    exact retI X Y hr hlk dX4_pullers_9
set_option maxHeartbeats 4000000 in
set_option maxRecDepth 100000 in
theorem c_fX4_fair (l : Launch) (D : va_G) (g : Nat → ClassId) (ad : Nat → Nat) (σ : St) (n : Nat) (v1 : Int32) {r0 : Int32} (h : fX4_fair n σ v1 = some r0) : MI l yX4_fair kX4_fair 4 94 D g (WM g ad σ) (WM g ad σ) [.ref (ad 0), .int v1] r0 := by
  intro sz
  refine Met.of2 (Qc := fun A => QI D g A (WM g ad σ) r0) (cc := cX4_fair) (maxL := 2) (ret := (some .int)) (own := RX4) (by decide) rfl rfl (Nat.le_of_ble_eq_true rfl) ?_
  intro p e s m below meth c A ls X hr hlk hml Y hl
  have hx := X.1
  have hb := X.2.1
  have hl : lv_has ls 2 [(0, .ref (ad 0)), (1, .int v1)] := hl
  rw [fX4_fair] at h
  refine lv_aload_n hx hb dX4_fair_0 rfl (lv_at hl 0 rfl) ?_
  refine rgM X Y 5 (v := .int (σ 0 5)) tw_474 rfl dX4_fair_1 ?_
  refine lv_if_ne (tgt := 10) hx hb dX4_fair_4 (by decide) (fun c1 => ?_) (fun c1 => ?_)
  · replace h := oe c1 h
    refine lv_aload_n hx hb dX4_fair_10 rfl (lv_at hl 0 rfl) ?_
    refine lv_iload_n hx hb dX4_fair_11 rfl (lv_at hl 1 rfl) ?_
    obtain ⟨r3, hg2, h⟩ := ob h
    refine cVi X (hml.trans hl.1.symm) Y (c_fX4_isSet l D g ad σ v1 hg2) (lkM g ad σ) rfl (gs_X4_143 _) rfl fd_X4_isSet ⟨Nat.le_of_ble_eq_true rfl, Nat.le_of_ble_eq_true rfl⟩ ⟨Nat.le_of_ble_eq_true rfl, Nat.le_of_ble_eq_true rfl⟩ (rest := []) rfl (Nat.le_of_ble_eq_true rfl) dX4_fair_12 (fun H locs Y => ?_)
    refine lv_if_ne (tgt := 23) hx hb dX4_fair_15 (by decide) (fun c4 => ?_) (fun c4 => ?_)
    · replace h := oe c4 h
      refine lv_aload_n hx hb dX4_fair_23 rfl (lv_at hl 0 rfl) ?_
      refine lv_iload_n hx hb dX4_fair_24 rfl (lv_at hl 1 rfl) ?_
      obtain ⟨r6, hg5, h⟩ := ob h
      refine cVi X (hml.trans hl.1.symm) Y (c_fX4_isFair l D g ad σ n v1 hg5) (lkM g ad σ) rfl (gs_X4_146 _) rfl fd_X4_isFair ⟨Nat.le_of_ble_eq_true rfl, Nat.le_of_ble_eq_true rfl⟩ ⟨Nat.le_of_ble_eq_true rfl, Nat.le_of_ble_eq_true rfl⟩ (rest := []) rfl (Nat.le_of_ble_eq_true rfl) dX4_fair_25 (fun H locs Y => ?_)
      refine lv_if_eq (tgt := 35) hx hb dX4_fair_28 (by decide) (fun c7 => ?_) (fun c7 => ?_)
      · replace h := ot c7 h
        refine lv_iconst (v := 0) hx hb dX4_fair_35 (by decide) ?_
        obtain rfl := os1 h
        exact retI X Y hr hlk dX4_fair_36
      · replace h := oe c7 h
        refine lv_iconst (v := 1) hx hb dX4_fair_31 (by decide) ?_
        refine lv_goto (tgt := 36) hx hb dX4_fair_32 (by decide) ?_
        obtain rfl := os1 h
        exact retI X Y hr hlk dX4_fair_36
    · replace h := ot c4 h
      refine lv_bipush (v := (-2)) hx hb dX4_fair_18 (by decide) ?_
      refine lv_goto (tgt := 36) hx hb dX4_fair_20 (by decide) ?_
      obtain rfl := os1 h
      exact retI X Y hr hlk dX4_fair_36
  · replace h := ot c1 h
    refine lv_bipush (v := (-3)) hx hb dX4_fair_7 (by decide) ?_
    obtain rfl := os1 h
    exact retI X Y hr hlk dX4_fair_9
set_option maxHeartbeats 4000000 in
set_option maxRecDepth 100000 in
theorem w_fX4_goLoads_G42 {p : Program} {l : Launch} {e : Env} {s : State} {m : MethodId} {args : Array Value} {below : List Frame} {meth : Method} {c : Code} {D : va_G} {g : Nat → ClassId} {ad : Nat → Nat} {A : Nat → Prop} {r0 : Int32} {σ0 : St} (X : Cx p s m c args cX4_goLoads RX4 kX4_goLoads D g) (hr : meth.sig.returnType = (some .int)) (hlk : meth.locks = false) (hml : c.maxLocals = 7) : ∀ n : Nat, (∀ (σ : St) (v1 : Int32) (v2 : Int32) (v3 : Int32) (H : Heap) (locs : List Loc) (ls : Array Slot), Hp D A s.heap H locs (WM g ad σ) → lv_has ls 7 [(0, .ref (ad 0)), (1, .int v1), (2, .int v2), (3, .int v3)] → fX4_goLoads_G42 n 0 σ v1 v2 v3 0 0 = some (r0, σ0) → W p l e (RM 4 94) s m args below meth c H locs 0 0 (MQ below (QI D g A (WM g ad σ0) r0) args s 0 0 A) (F0 m 42 ls [])) ∧ (∀ (σ : St) (v1 : Int32) (v2 : Int32) (v3 : Int32) (v5 : Int32) (v6 : Int32) (H : Heap) (locs : List Loc) (ls : Array Slot), Hp D A s.heap H locs (WM g ad σ) → lv_has ls 7 [(0, .ref (ad 0)), (1, .int v1), (2, .int v2), (3, .int v3), (5, .int v5), (6, .int v6)] → fX4_goLoads_G42 n 1 σ v1 v2 v3 v5 v6 = some (r0, σ0) → W p l e (RM 4 94) s m args below meth c H locs 0 0 (MQ below (QI D g A (WM g ad σ0) r0) args s 0 0 A) (F0 m 173 ls [])) := by
  have hx := X.1
  have hb := X.2.1
  intro n
  induction n with
  | zero => refine ⟨?_, ?_⟩
            · intro σ v1 v2 v3 H locs ls Y hl h; cases (show none = _ from h)
            · intro σ v1 v2 v3 v5 v6 H locs ls Y hl h; cases (show none = _ from h)
  | succ n ih =>
    refine ⟨?_, ?_⟩
    · intro σ v1 v2 v3 H locs ls Y hl h
      rw [fX4_goLoads_G42] at h
      replace h := ot rfl h
      refine lv_iload_n hx hb dX4_goLoads_42 rfl (lv_at hl 3 rfl) ?_
      refine lv_iload_n hx hb dX4_goLoads_43 rfl (lv_at hl 2 rfl) ?_
      refine lv_icmp_ge (tgt := 219) hx hb dX4_goLoads_44 (by decide) (fun c3 => ?_) (fun c3 => ?_)
      · replace h := ot c3 h
        refine lv_bipush (v := (-9)) hx hb dX4_goLoads_219 (by decide) ?_
        obtain ⟨rfl, rfl⟩ := os2 h
        exact retI X Y hr hlk dX4_goLoads_221
      · replace h := oe c3 h
        refine lv_aload_n hx hb dX4_goLoads_47 rfl (lv_at hl 0 rfl) ?_
        refine rgM X Y 4 (v := .ref (ad 3)) tw_473 rfl dX4_goLoads_48 ?_
        refine lv_iload_n hx hb dX4_goLoads_51 rfl (lv_at hl 1 rfl) ?_
        refine lv_iload_n hx hb dX4_goLoads_52 rfl (lv_at hl 3 rfl) ?_
        refine lv_iadd hx hb dX4_goLoads_53 ?_
        obtain ⟨hg4, h⟩ := og h
        refine ri X Y (lkM_3 g ad σ) hg4 dX4_goLoads_54 ?_
        refine lv_istore (lv' := [(4, .int (σ 3 (v1 + v3).toNatClampNeg)), (0, .ref (ad 0)), (1, .int v1), (2, .int v2), (3, .int v3)]) hx hb dX4_goLoads_55 hl (by decide) rfl (fun ls hl => ?_)
        refine lv_iload hx hb dX4_goLoads_57 (lv_at hl 0 rfl) ?_
        refine lv_if_eq (tgt := 84) hx hb dX4_goLoads_59 (by decide) (fun c5 => ?_) (fun c5 => ?_)
        · replace h := ot c5 h
          refine lv_iload_n hx hb dX4_goLoads_84 rfl (lv_at hl 4 rfl) ?_
          obtain ⟨rfl, rfl⟩ := os2 h
          exact retI X Y hr hlk dX4_goLoads_85
        · replace h := oe c5 h
          refine lv_iload hx hb dX4_goLoads_62 (lv_at hl 0 rfl) ?_
          obtain ⟨r7, hg6, h⟩ := ob h
          refine cSi X (hml.trans hl.1.symm) Y (c_fX4_size l D g (WM g ad σ) n (σ 3 (v1 + v3).toNatClampNeg) hg6) (gs_X4_140 _) rfl fd_X4_size ⟨Nat.le_of_ble_eq_true rfl, Nat.le_of_ble_eq_true rfl⟩ ⟨Nat.le_of_ble_eq_true rfl, Nat.le_of_ble_eq_true rfl⟩ (rest := []) rfl (Nat.le_of_ble_eq_true rfl) dX4_goLoads_64 (fun H locs Y => ?_)
          refine lv_aload_n hx hb dX4_goLoads_67 rfl (lv_at hl 1 rfl) ?_
          refine rgM X Y 6 (v := .int (σ 0 6)) tw_475 rfl dX4_goLoads_68 ?_
          refine lv_icmp_gt (tgt := 84) hx hb dX4_goLoads_71 (by decide) (fun c8 => ?_) (fun c8 => ?_)
          · replace h := ot c8 h
            refine lv_iload_n hx hb dX4_goLoads_84 rfl (lv_at hl 4 rfl) ?_
            obtain ⟨rfl, rfl⟩ := os2 h
            exact retI X Y hr hlk dX4_goLoads_85
          · replace h := oe c8 h
            refine lv_iload hx hb dX4_goLoads_74 (lv_at hl 0 rfl) ?_
            refine lv_aload_n hx hb dX4_goLoads_76 rfl (lv_at hl 1 rfl) ?_
            refine rgM X Y 23 (v := .int (σ 0 23)) tw_492 rfl dX4_goLoads_77 ?_
            refine lv_iand hx hb dX4_goLoads_80 ?_
            refine lv_if_eq (tgt := 86) hx hb dX4_goLoads_81 (by decide) (fun c9 => ?_) (fun c9 => ?_)
            · replace h := ot c9 h
              refine lv_aload_n hx hb dX4_goLoads_86 rfl (lv_at hl 1 rfl) ?_
              refine lv_iload hx hb dX4_goLoads_87 (lv_at hl 0 rfl) ?_
              obtain ⟨r11, hg10, h⟩ := ob h
              refine cVi X (hml.trans hl.1.symm) Y (c_fX4_pullersOf l D g ad σ n (σ 3 (v1 + v3).toNatClampNeg) hg10) (lkM g ad σ) rfl (gs_X4_137 _) rfl fd_X4_pullersOf ⟨Nat.le_of_ble_eq_true rfl, Nat.le_of_ble_eq_true rfl⟩ ⟨Nat.le_of_ble_eq_true rfl, Nat.le_of_ble_eq_true rfl⟩ (rest := []) rfl (Nat.le_of_ble_eq_true rfl) dX4_goLoads_89 (fun H locs Y => ?_)
              refine lv_istore (lv' := [(5, .int r11), (4, .int (σ 3 (v1 + v3).toNatClampNeg)), (0, .ref (ad 0)), (1, .int v1), (2, .int v2), (3, .int v3)]) hx hb dX4_goLoads_92 hl (by decide) rfl (fun ls hl => ?_)
              refine lv_aload_n hx hb dX4_goLoads_94 rfl (lv_at hl 2 rfl) ?_
              refine lv_dup hx hb dX4_goLoads_95 rfl ?_
              refine rgM X Y 23 (v := .int (σ 0 23)) tw_492 rfl dX4_goLoads_96 ?_
              refine lv_iload hx hb dX4_goLoads_99 (lv_at hl 1 rfl) ?_
              refine lv_ior hx hb dX4_goLoads_101 ?_
              refine rpM X Y 23 (v := (σ 0 23) ||| (σ 3 (v1 + v3).toNatClampNeg)) tw_492 rfl rfl rfl (stM_23 g ad σ ((σ 0 23) ||| (σ 3 (v1 + v3).toNatClampNeg))) dX4_goLoads_102 (fun H locs Y => ?_)
              refine lv_aload_n hx hb dX4_goLoads_105 rfl (lv_at hl 2 rfl) ?_
              refine lv_dup hx hb dX4_goLoads_106 rfl ?_
              refine rgM X Y 20 (v := .int ((up2 σ 0 23 ((σ 0 23) ||| (σ 3 (v1 + v3).toNatClampNeg))) 0 20)) tw_489 rfl dX4_goLoads_107 ?_
              refine lv_aload_n hx hb dX4_goLoads_110 rfl (lv_at hl 2 rfl) ?_
              refine lv_iload hx hb dX4_goLoads_111 (lv_at hl 1 rfl) ?_
              obtain ⟨r13, hg12, h⟩ := ob h
              refine cVi X (hml.trans hl.1.symm) Y (c_fX4_isFair l D g ad (up2 σ 0 23 ((σ 0 23) ||| (σ 3 (v1 + v3).toNatClampNeg))) n (σ 3 (v1 + v3).toNatClampNeg) hg12) (lkM g ad (up2 σ 0 23 ((σ 0 23) ||| (σ 3 (v1 + v3).toNatClampNeg)))) rfl (gs_X4_146 _) rfl fd_X4_isFair ⟨Nat.le_of_ble_eq_true rfl, Nat.le_of_ble_eq_true rfl⟩ ⟨Nat.le_of_ble_eq_true rfl, Nat.le_of_ble_eq_true rfl⟩ (rest := [.int ((up2 σ 0 23 ((σ 0 23) ||| (σ 3 (v1 + v3).toNatClampNeg))) 0 20), .ref (ad 0)]) rfl (Nat.le_of_ble_eq_true rfl) dX4_goLoads_113 (fun H locs Y => ?_)
              refine lv_if_eq (tgt := 123) hx hb dX4_goLoads_116 (by decide) (fun c14 => ?_) (fun c14 => ?_)
              · replace h := ot c14 h
                refine lv_iconst (v := 0) hx hb dX4_goLoads_123 (by decide) ?_
                refine lv_iadd hx hb dX4_goLoads_124 ?_
                refine rpM X Y 20 (v := ((up2 σ 0 23 ((σ 0 23) ||| (σ 3 (v1 + v3).toNatClampNeg))) 0 20) + 0) tw_489 rfl rfl rfl (stM_20 g ad (up2 σ 0 23 ((σ 0 23) ||| (σ 3 (v1 + v3).toNatClampNeg))) (((up2 σ 0 23 ((σ 0 23) ||| (σ 3 (v1 + v3).toNatClampNeg))) 0 20) + 0)) dX4_goLoads_125 (fun H locs Y => ?_)
                refine lv_aload_n hx hb dX4_goLoads_128 rfl (lv_at hl 2 rfl) ?_
                refine lv_dup hx hb dX4_goLoads_129 rfl ?_
                refine rgM X Y 21 (v := .int ((up2 (up2 σ 0 23 ((σ 0 23) ||| (σ 3 (v1 + v3).toNatClampNeg))) 0 20 (((up2 σ 0 23 ((σ 0 23) ||| (σ 3 (v1 + v3).toNatClampNeg))) 0 20) + 0)) 0 21)) tw_490 rfl dX4_goLoads_130 ?_
                refine lv_iload hx hb dX4_goLoads_133 (lv_at hl 0 rfl) ?_
                obtain ⟨r16, hg15, h⟩ := ob h
                refine cSi X (hml.trans hl.1.symm) Y (c_fX4_size l D g (WM g ad (up2 (up2 σ 0 23 ((σ 0 23) ||| (σ 3 (v1 + v3).toNatClampNeg))) 0 20 (((up2 σ 0 23 ((σ 0 23) ||| (σ 3 (v1 + v3).toNatClampNeg))) 0 20) + 0))) n r11 hg15) (gs_X4_140 _) rfl fd_X4_size ⟨Nat.le_of_ble_eq_true rfl, Nat.le_of_ble_eq_true rfl⟩ ⟨Nat.le_of_ble_eq_true rfl, Nat.le_of_ble_eq_true rfl⟩ (rest := [.int ((up2 (up2 σ 0 23 ((σ 0 23) ||| (σ 3 (v1 + v3).toNatClampNeg))) 0 20 (((up2 σ 0 23 ((σ 0 23) ||| (σ 3 (v1 + v3).toNatClampNeg))) 0 20) + 0)) 0 21), .ref (ad 0)]) rfl (Nat.le_of_ble_eq_true rfl) dX4_goLoads_135 (fun H locs Y => ?_)
                refine lv_iconst (v := 1) hx hb dX4_goLoads_138 (by decide) ?_
                refine lv_icmp_le (tgt := 146) hx hb dX4_goLoads_139 (by decide) (fun c17 => ?_) (fun c17 => ?_)
                · replace h := ot c17 h
                  refine lv_iconst (v := 0) hx hb dX4_goLoads_146 (by decide) ?_
                  refine lv_iadd hx hb dX4_goLoads_147 ?_
                  refine rpM X Y 21 (v := ((up2 (up2 σ 0 23 ((σ 0 23) ||| (σ 3 (v1 + v3).toNatClampNeg))) 0 20 (((up2 σ 0 23 ((σ 0 23) ||| (σ 3 (v1 + v3).toNatClampNeg))) 0 20) + 0)) 0 21) + 0) tw_490 rfl rfl rfl (stM_21 g ad (up2 (up2 σ 0 23 ((σ 0 23) ||| (σ 3 (v1 + v3).toNatClampNeg))) 0 20 (((up2 σ 0 23 ((σ 0 23) ||| (σ 3 (v1 + v3).toNatClampNeg))) 0 20) + 0)) (((up2 (up2 σ 0 23 ((σ 0 23) ||| (σ 3 (v1 + v3).toNatClampNeg))) 0 20 (((up2 σ 0 23 ((σ 0 23) ||| (σ 3 (v1 + v3).toNatClampNeg))) 0 20) + 0)) 0 21) + 0)) dX4_goLoads_148 (fun H locs Y => ?_)
                  refine lv_aload_n hx hb dX4_goLoads_151 rfl (lv_at hl 2 rfl) ?_
                  refine lv_dup hx hb dX4_goLoads_152 rfl ?_
                  refine rgM X Y 22 (v := .int ((up2 (up2 (up2 σ 0 23 ((σ 0 23) ||| (σ 3 (v1 + v3).toNatClampNeg))) 0 20 (((up2 σ 0 23 ((σ 0 23) ||| (σ 3 (v1 + v3).toNatClampNeg))) 0 20) + 0)) 0 21 (((up2 (up2 σ 0 23 ((σ 0 23) ||| (σ 3 (v1 + v3).toNatClampNeg))) 0 20 (((up2 σ 0 23 ((σ 0 23) ||| (σ 3 (v1 + v3).toNatClampNeg))) 0 20) + 0)) 0 21) + 0)) 0 22)) tw_491 rfl dX4_goLoads_153 ?_
                  refine lv_iload hx hb dX4_goLoads_156 (lv_at hl 0 rfl) ?_
                  refine lv_if_ne (tgt := 165) hx hb dX4_goLoads_158 (by decide) (fun c18 => ?_) (fun c18 => ?_)
                  · replace h := oe c18 h
                    refine lv_iconst (v := 0) hx hb dX4_goLoads_165 (by decide) ?_
                    refine lv_iadd hx hb dX4_goLoads_166 ?_
                    refine rpM X Y 22 (v := ((up2 (up2 (up2 σ 0 23 ((σ 0 23) ||| (σ 3 (v1 + v3).toNatClampNeg))) 0 20 (((up2 σ 0 23 ((σ 0 23) ||| (σ 3 (v1 + v3).toNatClampNeg))) 0 20) + 0)) 0 21 (((up2 (up2 σ 0 23 ((σ 0 23) ||| (σ 3 (v1 + v3).toNatClampNeg))) 0 20 (((up2 σ 0 23 ((σ 0 23) ||| (σ 3 (v1 + v3).toNatClampNeg))) 0 20) + 0)) 0 21) + 0)) 0 22) + 0) tw_491 rfl rfl rfl (stM_22 g ad (up2 (up2 (up2 σ 0 23 ((σ 0 23) ||| (σ 3 (v1 + v3).toNatClampNeg))) 0 20 (((up2 σ 0 23 ((σ 0 23) ||| (σ 3 (v1 + v3).toNatClampNeg))) 0 20) + 0)) 0 21 (((up2 (up2 σ 0 23 ((σ 0 23) ||| (σ 3 (v1 + v3).toNatClampNeg))) 0 20 (((up2 σ 0 23 ((σ 0 23) ||| (σ 3 (v1 + v3).toNatClampNeg))) 0 20) + 0)) 0 21) + 0)) (((up2 (up2 (up2 σ 0 23 ((σ 0 23) ||| (σ 3 (v1 + v3).toNatClampNeg))) 0 20 (((up2 σ 0 23 ((σ 0 23) ||| (σ 3 (v1 + v3).toNatClampNeg))) 0 20) + 0)) 0 21 (((up2 (up2 σ 0 23 ((σ 0 23) ||| (σ 3 (v1 + v3).toNatClampNeg))) 0 20 (((up2 σ 0 23 ((σ 0 23) ||| (σ 3 (v1 + v3).toNatClampNeg))) 0 20) + 0)) 0 21) + 0)) 0 22) + 0)) dX4_goLoads_167 (fun H locs Y => ?_)
                    refine lv_iconst (v := 0) hx hb dX4_goLoads_170 (by decide) ?_
                    refine lv_istore (lv' := [(6, .int 0), (5, .int r11), (4, .int (σ 3 (v1 + v3).toNatClampNeg)), (0, .ref (ad 0)), (1, .int v1), (2, .int v2), (3, .int v3)]) hx hb dX4_goLoads_171 hl (by decide) rfl (fun ls hl => ?_)
                    exact ih.2 (up2 (up2 (up2 (up2 σ 0 23 ((σ 0 23) ||| (σ 3 (v1 + v3).toNatClampNeg))) 0 20 (((up2 σ 0 23 ((σ 0 23) ||| (σ 3 (v1 + v3).toNatClampNeg))) 0 20) + 0)) 0 21 (((up2 (up2 σ 0 23 ((σ 0 23) ||| (σ 3 (v1 + v3).toNatClampNeg))) 0 20 (((up2 σ 0 23 ((σ 0 23) ||| (σ 3 (v1 + v3).toNatClampNeg))) 0 20) + 0)) 0 21) + 0)) 0 22 (((up2 (up2 (up2 σ 0 23 ((σ 0 23) ||| (σ 3 (v1 + v3).toNatClampNeg))) 0 20 (((up2 σ 0 23 ((σ 0 23) ||| (σ 3 (v1 + v3).toNatClampNeg))) 0 20) + 0)) 0 21 (((up2 (up2 σ 0 23 ((σ 0 23) ||| (σ 3 (v1 + v3).toNatClampNeg))) 0 20 (((up2 σ 0 23 ((σ 0 23) ||| (σ 3 (v1 + v3).toNatClampNeg))) 0 20) + 0)) 0 21) + 0)) 0 22) + 0)) v1 v2 v3 r11 0 _ _ _ Y (lv_sub hl [3, 4, 5, 6, 1, 0] rfl) h
                  · replace h := ot c18 h
                    refine lv_iconst (v := 1) hx hb dX4_goLoads_161 (by decide) ?_
                    refine lv_goto (tgt := 166) hx hb dX4_goLoads_162 (by decide) ?_
                    refine lv_iadd hx hb dX4_goLoads_166 ?_
                    refine rpM X Y 22 (v := ((up2 (up2 (up2 σ 0 23 ((σ 0 23) ||| (σ 3 (v1 + v3).toNatClampNeg))) 0 20 (((up2 σ 0 23 ((σ 0 23) ||| (σ 3 (v1 + v3).toNatClampNeg))) 0 20) + 0)) 0 21 (((up2 (up2 σ 0 23 ((σ 0 23) ||| (σ 3 (v1 + v3).toNatClampNeg))) 0 20 (((up2 σ 0 23 ((σ 0 23) ||| (σ 3 (v1 + v3).toNatClampNeg))) 0 20) + 0)) 0 21) + 0)) 0 22) + 1) tw_491 rfl rfl rfl (stM_22 g ad (up2 (up2 (up2 σ 0 23 ((σ 0 23) ||| (σ 3 (v1 + v3).toNatClampNeg))) 0 20 (((up2 σ 0 23 ((σ 0 23) ||| (σ 3 (v1 + v3).toNatClampNeg))) 0 20) + 0)) 0 21 (((up2 (up2 σ 0 23 ((σ 0 23) ||| (σ 3 (v1 + v3).toNatClampNeg))) 0 20 (((up2 σ 0 23 ((σ 0 23) ||| (σ 3 (v1 + v3).toNatClampNeg))) 0 20) + 0)) 0 21) + 0)) (((up2 (up2 (up2 σ 0 23 ((σ 0 23) ||| (σ 3 (v1 + v3).toNatClampNeg))) 0 20 (((up2 σ 0 23 ((σ 0 23) ||| (σ 3 (v1 + v3).toNatClampNeg))) 0 20) + 0)) 0 21 (((up2 (up2 σ 0 23 ((σ 0 23) ||| (σ 3 (v1 + v3).toNatClampNeg))) 0 20 (((up2 σ 0 23 ((σ 0 23) ||| (σ 3 (v1 + v3).toNatClampNeg))) 0 20) + 0)) 0 21) + 0)) 0 22) + 1)) dX4_goLoads_167 (fun H locs Y => ?_)
                    refine lv_iconst (v := 0) hx hb dX4_goLoads_170 (by decide) ?_
                    refine lv_istore (lv' := [(6, .int 0), (5, .int r11), (4, .int (σ 3 (v1 + v3).toNatClampNeg)), (0, .ref (ad 0)), (1, .int v1), (2, .int v2), (3, .int v3)]) hx hb dX4_goLoads_171 hl (by decide) rfl (fun ls hl => ?_)
                    exact ih.2 (up2 (up2 (up2 (up2 σ 0 23 ((σ 0 23) ||| (σ 3 (v1 + v3).toNatClampNeg))) 0 20 (((up2 σ 0 23 ((σ 0 23) ||| (σ 3 (v1 + v3).toNatClampNeg))) 0 20) + 0)) 0 21 (((up2 (up2 σ 0 23 ((σ 0 23) ||| (σ 3 (v1 + v3).toNatClampNeg))) 0 20 (((up2 σ 0 23 ((σ 0 23) ||| (σ 3 (v1 + v3).toNatClampNeg))) 0 20) + 0)) 0 21) + 0)) 0 22 (((up2 (up2 (up2 σ 0 23 ((σ 0 23) ||| (σ 3 (v1 + v3).toNatClampNeg))) 0 20 (((up2 σ 0 23 ((σ 0 23) ||| (σ 3 (v1 + v3).toNatClampNeg))) 0 20) + 0)) 0 21 (((up2 (up2 σ 0 23 ((σ 0 23) ||| (σ 3 (v1 + v3).toNatClampNeg))) 0 20 (((up2 σ 0 23 ((σ 0 23) ||| (σ 3 (v1 + v3).toNatClampNeg))) 0 20) + 0)) 0 21) + 0)) 0 22) + 1)) v1 v2 v3 r11 0 _ _ _ Y (lv_sub hl [3, 4, 5, 6, 1, 0] rfl) h
                · replace h := oe c17 h
                  refine lv_iconst (v := 1) hx hb dX4_goLoads_142 (by decide) ?_
                  refine lv_goto (tgt := 147) hx hb dX4_goLoads_143 (by decide) ?_
                  refine lv_iadd hx hb dX4_goLoads_147 ?_
                  refine rpM X Y 21 (v := ((up2 (up2 σ 0 23 ((σ 0 23) ||| (σ 3 (v1 + v3).toNatClampNeg))) 0 20 (((up2 σ 0 23 ((σ 0 23) ||| (σ 3 (v1 + v3).toNatClampNeg))) 0 20) + 0)) 0 21) + 1) tw_490 rfl rfl rfl (stM_21 g ad (up2 (up2 σ 0 23 ((σ 0 23) ||| (σ 3 (v1 + v3).toNatClampNeg))) 0 20 (((up2 σ 0 23 ((σ 0 23) ||| (σ 3 (v1 + v3).toNatClampNeg))) 0 20) + 0)) (((up2 (up2 σ 0 23 ((σ 0 23) ||| (σ 3 (v1 + v3).toNatClampNeg))) 0 20 (((up2 σ 0 23 ((σ 0 23) ||| (σ 3 (v1 + v3).toNatClampNeg))) 0 20) + 0)) 0 21) + 1)) dX4_goLoads_148 (fun H locs Y => ?_)
                  refine lv_aload_n hx hb dX4_goLoads_151 rfl (lv_at hl 2 rfl) ?_
                  refine lv_dup hx hb dX4_goLoads_152 rfl ?_
                  refine rgM X Y 22 (v := .int ((up2 (up2 (up2 σ 0 23 ((σ 0 23) ||| (σ 3 (v1 + v3).toNatClampNeg))) 0 20 (((up2 σ 0 23 ((σ 0 23) ||| (σ 3 (v1 + v3).toNatClampNeg))) 0 20) + 0)) 0 21 (((up2 (up2 σ 0 23 ((σ 0 23) ||| (σ 3 (v1 + v3).toNatClampNeg))) 0 20 (((up2 σ 0 23 ((σ 0 23) ||| (σ 3 (v1 + v3).toNatClampNeg))) 0 20) + 0)) 0 21) + 1)) 0 22)) tw_491 rfl dX4_goLoads_153 ?_
                  refine lv_iload hx hb dX4_goLoads_156 (lv_at hl 0 rfl) ?_
                  refine lv_if_ne (tgt := 165) hx hb dX4_goLoads_158 (by decide) (fun c19 => ?_) (fun c19 => ?_)
                  · replace h := oe c19 h
                    refine lv_iconst (v := 0) hx hb dX4_goLoads_165 (by decide) ?_
                    refine lv_iadd hx hb dX4_goLoads_166 ?_
                    refine rpM X Y 22 (v := ((up2 (up2 (up2 σ 0 23 ((σ 0 23) ||| (σ 3 (v1 + v3).toNatClampNeg))) 0 20 (((up2 σ 0 23 ((σ 0 23) ||| (σ 3 (v1 + v3).toNatClampNeg))) 0 20) + 0)) 0 21 (((up2 (up2 σ 0 23 ((σ 0 23) ||| (σ 3 (v1 + v3).toNatClampNeg))) 0 20 (((up2 σ 0 23 ((σ 0 23) ||| (σ 3 (v1 + v3).toNatClampNeg))) 0 20) + 0)) 0 21) + 1)) 0 22) + 0) tw_491 rfl rfl rfl (stM_22 g ad (up2 (up2 (up2 σ 0 23 ((σ 0 23) ||| (σ 3 (v1 + v3).toNatClampNeg))) 0 20 (((up2 σ 0 23 ((σ 0 23) ||| (σ 3 (v1 + v3).toNatClampNeg))) 0 20) + 0)) 0 21 (((up2 (up2 σ 0 23 ((σ 0 23) ||| (σ 3 (v1 + v3).toNatClampNeg))) 0 20 (((up2 σ 0 23 ((σ 0 23) ||| (σ 3 (v1 + v3).toNatClampNeg))) 0 20) + 0)) 0 21) + 1)) (((up2 (up2 (up2 σ 0 23 ((σ 0 23) ||| (σ 3 (v1 + v3).toNatClampNeg))) 0 20 (((up2 σ 0 23 ((σ 0 23) ||| (σ 3 (v1 + v3).toNatClampNeg))) 0 20) + 0)) 0 21 (((up2 (up2 σ 0 23 ((σ 0 23) ||| (σ 3 (v1 + v3).toNatClampNeg))) 0 20 (((up2 σ 0 23 ((σ 0 23) ||| (σ 3 (v1 + v3).toNatClampNeg))) 0 20) + 0)) 0 21) + 1)) 0 22) + 0)) dX4_goLoads_167 (fun H locs Y => ?_)
                    refine lv_iconst (v := 0) hx hb dX4_goLoads_170 (by decide) ?_
                    refine lv_istore (lv' := [(6, .int 0), (5, .int r11), (4, .int (σ 3 (v1 + v3).toNatClampNeg)), (0, .ref (ad 0)), (1, .int v1), (2, .int v2), (3, .int v3)]) hx hb dX4_goLoads_171 hl (by decide) rfl (fun ls hl => ?_)
                    exact ih.2 (up2 (up2 (up2 (up2 σ 0 23 ((σ 0 23) ||| (σ 3 (v1 + v3).toNatClampNeg))) 0 20 (((up2 σ 0 23 ((σ 0 23) ||| (σ 3 (v1 + v3).toNatClampNeg))) 0 20) + 0)) 0 21 (((up2 (up2 σ 0 23 ((σ 0 23) ||| (σ 3 (v1 + v3).toNatClampNeg))) 0 20 (((up2 σ 0 23 ((σ 0 23) ||| (σ 3 (v1 + v3).toNatClampNeg))) 0 20) + 0)) 0 21) + 1)) 0 22 (((up2 (up2 (up2 σ 0 23 ((σ 0 23) ||| (σ 3 (v1 + v3).toNatClampNeg))) 0 20 (((up2 σ 0 23 ((σ 0 23) ||| (σ 3 (v1 + v3).toNatClampNeg))) 0 20) + 0)) 0 21 (((up2 (up2 σ 0 23 ((σ 0 23) ||| (σ 3 (v1 + v3).toNatClampNeg))) 0 20 (((up2 σ 0 23 ((σ 0 23) ||| (σ 3 (v1 + v3).toNatClampNeg))) 0 20) + 0)) 0 21) + 1)) 0 22) + 0)) v1 v2 v3 r11 0 _ _ _ Y (lv_sub hl [3, 4, 5, 6, 1, 0] rfl) h
                  · replace h := ot c19 h
                    refine lv_iconst (v := 1) hx hb dX4_goLoads_161 (by decide) ?_
                    refine lv_goto (tgt := 166) hx hb dX4_goLoads_162 (by decide) ?_
                    refine lv_iadd hx hb dX4_goLoads_166 ?_
                    refine rpM X Y 22 (v := ((up2 (up2 (up2 σ 0 23 ((σ 0 23) ||| (σ 3 (v1 + v3).toNatClampNeg))) 0 20 (((up2 σ 0 23 ((σ 0 23) ||| (σ 3 (v1 + v3).toNatClampNeg))) 0 20) + 0)) 0 21 (((up2 (up2 σ 0 23 ((σ 0 23) ||| (σ 3 (v1 + v3).toNatClampNeg))) 0 20 (((up2 σ 0 23 ((σ 0 23) ||| (σ 3 (v1 + v3).toNatClampNeg))) 0 20) + 0)) 0 21) + 1)) 0 22) + 1) tw_491 rfl rfl rfl (stM_22 g ad (up2 (up2 (up2 σ 0 23 ((σ 0 23) ||| (σ 3 (v1 + v3).toNatClampNeg))) 0 20 (((up2 σ 0 23 ((σ 0 23) ||| (σ 3 (v1 + v3).toNatClampNeg))) 0 20) + 0)) 0 21 (((up2 (up2 σ 0 23 ((σ 0 23) ||| (σ 3 (v1 + v3).toNatClampNeg))) 0 20 (((up2 σ 0 23 ((σ 0 23) ||| (σ 3 (v1 + v3).toNatClampNeg))) 0 20) + 0)) 0 21) + 1)) (((up2 (up2 (up2 σ 0 23 ((σ 0 23) ||| (σ 3 (v1 + v3).toNatClampNeg))) 0 20 (((up2 σ 0 23 ((σ 0 23) ||| (σ 3 (v1 + v3).toNatClampNeg))) 0 20) + 0)) 0 21 (((up2 (up2 σ 0 23 ((σ 0 23) ||| (σ 3 (v1 + v3).toNatClampNeg))) 0 20 (((up2 σ 0 23 ((σ 0 23) ||| (σ 3 (v1 + v3).toNatClampNeg))) 0 20) + 0)) 0 21) + 1)) 0 22) + 1)) dX4_goLoads_167 (fun H locs Y => ?_)
                    refine lv_iconst (v := 0) hx hb dX4_goLoads_170 (by decide) ?_
                    refine lv_istore (lv' := [(6, .int 0), (5, .int r11), (4, .int (σ 3 (v1 + v3).toNatClampNeg)), (0, .ref (ad 0)), (1, .int v1), (2, .int v2), (3, .int v3)]) hx hb dX4_goLoads_171 hl (by decide) rfl (fun ls hl => ?_)
                    exact ih.2 (up2 (up2 (up2 (up2 σ 0 23 ((σ 0 23) ||| (σ 3 (v1 + v3).toNatClampNeg))) 0 20 (((up2 σ 0 23 ((σ 0 23) ||| (σ 3 (v1 + v3).toNatClampNeg))) 0 20) + 0)) 0 21 (((up2 (up2 σ 0 23 ((σ 0 23) ||| (σ 3 (v1 + v3).toNatClampNeg))) 0 20 (((up2 σ 0 23 ((σ 0 23) ||| (σ 3 (v1 + v3).toNatClampNeg))) 0 20) + 0)) 0 21) + 1)) 0 22 (((up2 (up2 (up2 σ 0 23 ((σ 0 23) ||| (σ 3 (v1 + v3).toNatClampNeg))) 0 20 (((up2 σ 0 23 ((σ 0 23) ||| (σ 3 (v1 + v3).toNatClampNeg))) 0 20) + 0)) 0 21 (((up2 (up2 σ 0 23 ((σ 0 23) ||| (σ 3 (v1 + v3).toNatClampNeg))) 0 20 (((up2 σ 0 23 ((σ 0 23) ||| (σ 3 (v1 + v3).toNatClampNeg))) 0 20) + 0)) 0 21) + 1)) 0 22) + 1)) v1 v2 v3 r11 0 _ _ _ Y (lv_sub hl [3, 4, 5, 6, 1, 0] rfl) h
              · replace h := oe c14 h
                refine lv_iconst (v := 1) hx hb dX4_goLoads_119 (by decide) ?_
                refine lv_goto (tgt := 124) hx hb dX4_goLoads_120 (by decide) ?_
                refine lv_iadd hx hb dX4_goLoads_124 ?_
                refine rpM X Y 20 (v := ((up2 σ 0 23 ((σ 0 23) ||| (σ 3 (v1 + v3).toNatClampNeg))) 0 20) + 1) tw_489 rfl rfl rfl (stM_20 g ad (up2 σ 0 23 ((σ 0 23) ||| (σ 3 (v1 + v3).toNatClampNeg))) (((up2 σ 0 23 ((σ 0 23) ||| (σ 3 (v1 + v3).toNatClampNeg))) 0 20) + 1)) dX4_goLoads_125 (fun H locs Y => ?_)
                refine lv_aload_n hx hb dX4_goLoads_128 rfl (lv_at hl 2 rfl) ?_
                refine lv_dup hx hb dX4_goLoads_129 rfl ?_
                refine rgM X Y 21 (v := .int ((up2 (up2 σ 0 23 ((σ 0 23) ||| (σ 3 (v1 + v3).toNatClampNeg))) 0 20 (((up2 σ 0 23 ((σ 0 23) ||| (σ 3 (v1 + v3).toNatClampNeg))) 0 20) + 1)) 0 21)) tw_490 rfl dX4_goLoads_130 ?_
                refine lv_iload hx hb dX4_goLoads_133 (lv_at hl 0 rfl) ?_
                obtain ⟨r21, hg20, h⟩ := ob h
                refine cSi X (hml.trans hl.1.symm) Y (c_fX4_size l D g (WM g ad (up2 (up2 σ 0 23 ((σ 0 23) ||| (σ 3 (v1 + v3).toNatClampNeg))) 0 20 (((up2 σ 0 23 ((σ 0 23) ||| (σ 3 (v1 + v3).toNatClampNeg))) 0 20) + 1))) n r11 hg20) (gs_X4_140 _) rfl fd_X4_size ⟨Nat.le_of_ble_eq_true rfl, Nat.le_of_ble_eq_true rfl⟩ ⟨Nat.le_of_ble_eq_true rfl, Nat.le_of_ble_eq_true rfl⟩ (rest := [.int ((up2 (up2 σ 0 23 ((σ 0 23) ||| (σ 3 (v1 + v3).toNatClampNeg))) 0 20 (((up2 σ 0 23 ((σ 0 23) ||| (σ 3 (v1 + v3).toNatClampNeg))) 0 20) + 1)) 0 21), .ref (ad 0)]) rfl (Nat.le_of_ble_eq_true rfl) dX4_goLoads_135 (fun H locs Y => ?_)
                refine lv_iconst (v := 1) hx hb dX4_goLoads_138 (by decide) ?_
                refine lv_icmp_le (tgt := 146) hx hb dX4_goLoads_139 (by decide) (fun c22 => ?_) (fun c22 => ?_)
                · replace h := ot c22 h
                  refine lv_iconst (v := 0) hx hb dX4_goLoads_146 (by decide) ?_
                  refine lv_iadd hx hb dX4_goLoads_147 ?_
                  refine rpM X Y 21 (v := ((up2 (up2 σ 0 23 ((σ 0 23) ||| (σ 3 (v1 + v3).toNatClampNeg))) 0 20 (((up2 σ 0 23 ((σ 0 23) ||| (σ 3 (v1 + v3).toNatClampNeg))) 0 20) + 1)) 0 21) + 0) tw_490 rfl rfl rfl (stM_21 g ad (up2 (up2 σ 0 23 ((σ 0 23) ||| (σ 3 (v1 + v3).toNatClampNeg))) 0 20 (((up2 σ 0 23 ((σ 0 23) ||| (σ 3 (v1 + v3).toNatClampNeg))) 0 20) + 1)) (((up2 (up2 σ 0 23 ((σ 0 23) ||| (σ 3 (v1 + v3).toNatClampNeg))) 0 20 (((up2 σ 0 23 ((σ 0 23) ||| (σ 3 (v1 + v3).toNatClampNeg))) 0 20) + 1)) 0 21) + 0)) dX4_goLoads_148 (fun H locs Y => ?_)
                  refine lv_aload_n hx hb dX4_goLoads_151 rfl (lv_at hl 2 rfl) ?_
                  refine lv_dup hx hb dX4_goLoads_152 rfl ?_
                  refine rgM X Y 22 (v := .int ((up2 (up2 (up2 σ 0 23 ((σ 0 23) ||| (σ 3 (v1 + v3).toNatClampNeg))) 0 20 (((up2 σ 0 23 ((σ 0 23) ||| (σ 3 (v1 + v3).toNatClampNeg))) 0 20) + 1)) 0 21 (((up2 (up2 σ 0 23 ((σ 0 23) ||| (σ 3 (v1 + v3).toNatClampNeg))) 0 20 (((up2 σ 0 23 ((σ 0 23) ||| (σ 3 (v1 + v3).toNatClampNeg))) 0 20) + 1)) 0 21) + 0)) 0 22)) tw_491 rfl dX4_goLoads_153 ?_
                  refine lv_iload hx hb dX4_goLoads_156 (lv_at hl 0 rfl) ?_
                  refine lv_if_ne (tgt := 165) hx hb dX4_goLoads_158 (by decide) (fun c23 => ?_) (fun c23 => ?_)
                  · replace h := oe c23 h
                    refine lv_iconst (v := 0) hx hb dX4_goLoads_165 (by decide) ?_
                    refine lv_iadd hx hb dX4_goLoads_166 ?_
                    refine rpM X Y 22 (v := ((up2 (up2 (up2 σ 0 23 ((σ 0 23) ||| (σ 3 (v1 + v3).toNatClampNeg))) 0 20 (((up2 σ 0 23 ((σ 0 23) ||| (σ 3 (v1 + v3).toNatClampNeg))) 0 20) + 1)) 0 21 (((up2 (up2 σ 0 23 ((σ 0 23) ||| (σ 3 (v1 + v3).toNatClampNeg))) 0 20 (((up2 σ 0 23 ((σ 0 23) ||| (σ 3 (v1 + v3).toNatClampNeg))) 0 20) + 1)) 0 21) + 0)) 0 22) + 0) tw_491 rfl rfl rfl (stM_22 g ad (up2 (up2 (up2 σ 0 23 ((σ 0 23) ||| (σ 3 (v1 + v3).toNatClampNeg))) 0 20 (((up2 σ 0 23 ((σ 0 23) ||| (σ 3 (v1 + v3).toNatClampNeg))) 0 20) + 1)) 0 21 (((up2 (up2 σ 0 23 ((σ 0 23) ||| (σ 3 (v1 + v3).toNatClampNeg))) 0 20 (((up2 σ 0 23 ((σ 0 23) ||| (σ 3 (v1 + v3).toNatClampNeg))) 0 20) + 1)) 0 21) + 0)) (((up2 (up2 (up2 σ 0 23 ((σ 0 23) ||| (σ 3 (v1 + v3).toNatClampNeg))) 0 20 (((up2 σ 0 23 ((σ 0 23) ||| (σ 3 (v1 + v3).toNatClampNeg))) 0 20) + 1)) 0 21 (((up2 (up2 σ 0 23 ((σ 0 23) ||| (σ 3 (v1 + v3).toNatClampNeg))) 0 20 (((up2 σ 0 23 ((σ 0 23) ||| (σ 3 (v1 + v3).toNatClampNeg))) 0 20) + 1)) 0 21) + 0)) 0 22) + 0)) dX4_goLoads_167 (fun H locs Y => ?_)
                    refine lv_iconst (v := 0) hx hb dX4_goLoads_170 (by decide) ?_
                    refine lv_istore (lv' := [(6, .int 0), (5, .int r11), (4, .int (σ 3 (v1 + v3).toNatClampNeg)), (0, .ref (ad 0)), (1, .int v1), (2, .int v2), (3, .int v3)]) hx hb dX4_goLoads_171 hl (by decide) rfl (fun ls hl => ?_)
                    exact ih.2 (up2 (up2 (up2 (up2 σ 0 23 ((σ 0 23) ||| (σ 3 (v1 + v3).toNatClampNeg))) 0 20 (((up2 σ 0 23 ((σ 0 23) ||| (σ 3 (v1 + v3).toNatClampNeg))) 0 20) + 1)) 0 21 (((up2 (up2 σ 0 23 ((σ 0 23) ||| (σ 3 (v1 + v3).toNatClampNeg))) 0 20 (((up2 σ 0 23 ((σ 0 23) ||| (σ 3 (v1 + v3).toNatClampNeg))) 0 20) + 1)) 0 21) + 0)) 0 22 (((up2 (up2 (up2 σ 0 23 ((σ 0 23) ||| (σ 3 (v1 + v3).toNatClampNeg))) 0 20 (((up2 σ 0 23 ((σ 0 23) ||| (σ 3 (v1 + v3).toNatClampNeg))) 0 20) + 1)) 0 21 (((up2 (up2 σ 0 23 ((σ 0 23) ||| (σ 3 (v1 + v3).toNatClampNeg))) 0 20 (((up2 σ 0 23 ((σ 0 23) ||| (σ 3 (v1 + v3).toNatClampNeg))) 0 20) + 1)) 0 21) + 0)) 0 22) + 0)) v1 v2 v3 r11 0 _ _ _ Y (lv_sub hl [3, 4, 5, 6, 1, 0] rfl) h
                  · replace h := ot c23 h
                    refine lv_iconst (v := 1) hx hb dX4_goLoads_161 (by decide) ?_
                    refine lv_goto (tgt := 166) hx hb dX4_goLoads_162 (by decide) ?_
                    refine lv_iadd hx hb dX4_goLoads_166 ?_
                    refine rpM X Y 22 (v := ((up2 (up2 (up2 σ 0 23 ((σ 0 23) ||| (σ 3 (v1 + v3).toNatClampNeg))) 0 20 (((up2 σ 0 23 ((σ 0 23) ||| (σ 3 (v1 + v3).toNatClampNeg))) 0 20) + 1)) 0 21 (((up2 (up2 σ 0 23 ((σ 0 23) ||| (σ 3 (v1 + v3).toNatClampNeg))) 0 20 (((up2 σ 0 23 ((σ 0 23) ||| (σ 3 (v1 + v3).toNatClampNeg))) 0 20) + 1)) 0 21) + 0)) 0 22) + 1) tw_491 rfl rfl rfl (stM_22 g ad (up2 (up2 (up2 σ 0 23 ((σ 0 23) ||| (σ 3 (v1 + v3).toNatClampNeg))) 0 20 (((up2 σ 0 23 ((σ 0 23) ||| (σ 3 (v1 + v3).toNatClampNeg))) 0 20) + 1)) 0 21 (((up2 (up2 σ 0 23 ((σ 0 23) ||| (σ 3 (v1 + v3).toNatClampNeg))) 0 20 (((up2 σ 0 23 ((σ 0 23) ||| (σ 3 (v1 + v3).toNatClampNeg))) 0 20) + 1)) 0 21) + 0)) (((up2 (up2 (up2 σ 0 23 ((σ 0 23) ||| (σ 3 (v1 + v3).toNatClampNeg))) 0 20 (((up2 σ 0 23 ((σ 0 23) ||| (σ 3 (v1 + v3).toNatClampNeg))) 0 20) + 1)) 0 21 (((up2 (up2 σ 0 23 ((σ 0 23) ||| (σ 3 (v1 + v3).toNatClampNeg))) 0 20 (((up2 σ 0 23 ((σ 0 23) ||| (σ 3 (v1 + v3).toNatClampNeg))) 0 20) + 1)) 0 21) + 0)) 0 22) + 1)) dX4_goLoads_167 (fun H locs Y => ?_)
                    refine lv_iconst (v := 0) hx hb dX4_goLoads_170 (by decide) ?_
                    refine lv_istore (lv' := [(6, .int 0), (5, .int r11), (4, .int (σ 3 (v1 + v3).toNatClampNeg)), (0, .ref (ad 0)), (1, .int v1), (2, .int v2), (3, .int v3)]) hx hb dX4_goLoads_171 hl (by decide) rfl (fun ls hl => ?_)
                    exact ih.2 (up2 (up2 (up2 (up2 σ 0 23 ((σ 0 23) ||| (σ 3 (v1 + v3).toNatClampNeg))) 0 20 (((up2 σ 0 23 ((σ 0 23) ||| (σ 3 (v1 + v3).toNatClampNeg))) 0 20) + 1)) 0 21 (((up2 (up2 σ 0 23 ((σ 0 23) ||| (σ 3 (v1 + v3).toNatClampNeg))) 0 20 (((up2 σ 0 23 ((σ 0 23) ||| (σ 3 (v1 + v3).toNatClampNeg))) 0 20) + 1)) 0 21) + 0)) 0 22 (((up2 (up2 (up2 σ 0 23 ((σ 0 23) ||| (σ 3 (v1 + v3).toNatClampNeg))) 0 20 (((up2 σ 0 23 ((σ 0 23) ||| (σ 3 (v1 + v3).toNatClampNeg))) 0 20) + 1)) 0 21 (((up2 (up2 σ 0 23 ((σ 0 23) ||| (σ 3 (v1 + v3).toNatClampNeg))) 0 20 (((up2 σ 0 23 ((σ 0 23) ||| (σ 3 (v1 + v3).toNatClampNeg))) 0 20) + 1)) 0 21) + 0)) 0 22) + 1)) v1 v2 v3 r11 0 _ _ _ Y (lv_sub hl [3, 4, 5, 6, 1, 0] rfl) h
                · replace h := oe c22 h
                  refine lv_iconst (v := 1) hx hb dX4_goLoads_142 (by decide) ?_
                  refine lv_goto (tgt := 147) hx hb dX4_goLoads_143 (by decide) ?_
                  refine lv_iadd hx hb dX4_goLoads_147 ?_
                  refine rpM X Y 21 (v := ((up2 (up2 σ 0 23 ((σ 0 23) ||| (σ 3 (v1 + v3).toNatClampNeg))) 0 20 (((up2 σ 0 23 ((σ 0 23) ||| (σ 3 (v1 + v3).toNatClampNeg))) 0 20) + 1)) 0 21) + 1) tw_490 rfl rfl rfl (stM_21 g ad (up2 (up2 σ 0 23 ((σ 0 23) ||| (σ 3 (v1 + v3).toNatClampNeg))) 0 20 (((up2 σ 0 23 ((σ 0 23) ||| (σ 3 (v1 + v3).toNatClampNeg))) 0 20) + 1)) (((up2 (up2 σ 0 23 ((σ 0 23) ||| (σ 3 (v1 + v3).toNatClampNeg))) 0 20 (((up2 σ 0 23 ((σ 0 23) ||| (σ 3 (v1 + v3).toNatClampNeg))) 0 20) + 1)) 0 21) + 1)) dX4_goLoads_148 (fun H locs Y => ?_)
                  refine lv_aload_n hx hb dX4_goLoads_151 rfl (lv_at hl 2 rfl) ?_
                  refine lv_dup hx hb dX4_goLoads_152 rfl ?_
                  refine rgM X Y 22 (v := .int ((up2 (up2 (up2 σ 0 23 ((σ 0 23) ||| (σ 3 (v1 + v3).toNatClampNeg))) 0 20 (((up2 σ 0 23 ((σ 0 23) ||| (σ 3 (v1 + v3).toNatClampNeg))) 0 20) + 1)) 0 21 (((up2 (up2 σ 0 23 ((σ 0 23) ||| (σ 3 (v1 + v3).toNatClampNeg))) 0 20 (((up2 σ 0 23 ((σ 0 23) ||| (σ 3 (v1 + v3).toNatClampNeg))) 0 20) + 1)) 0 21) + 1)) 0 22)) tw_491 rfl dX4_goLoads_153 ?_
                  refine lv_iload hx hb dX4_goLoads_156 (lv_at hl 0 rfl) ?_
                  refine lv_if_ne (tgt := 165) hx hb dX4_goLoads_158 (by decide) (fun c24 => ?_) (fun c24 => ?_)
                  · replace h := oe c24 h
                    refine lv_iconst (v := 0) hx hb dX4_goLoads_165 (by decide) ?_
                    refine lv_iadd hx hb dX4_goLoads_166 ?_
                    refine rpM X Y 22 (v := ((up2 (up2 (up2 σ 0 23 ((σ 0 23) ||| (σ 3 (v1 + v3).toNatClampNeg))) 0 20 (((up2 σ 0 23 ((σ 0 23) ||| (σ 3 (v1 + v3).toNatClampNeg))) 0 20) + 1)) 0 21 (((up2 (up2 σ 0 23 ((σ 0 23) ||| (σ 3 (v1 + v3).toNatClampNeg))) 0 20 (((up2 σ 0 23 ((σ 0 23) ||| (σ 3 (v1 + v3).toNatClampNeg))) 0 20) + 1)) 0 21) + 1)) 0 22) + 0) tw_491 rfl rfl rfl (stM_22 g ad (up2 (up2 (up2 σ 0 23 ((σ 0 23) ||| (σ 3 (v1 + v3).toNatClampNeg))) 0 20 (((up2 σ 0 23 ((σ 0 23) ||| (σ 3 (v1 + v3).toNatClampNeg))) 0 20) + 1)) 0 21 (((up2 (up2 σ 0 23 ((σ 0 23) ||| (σ 3 (v1 + v3).toNatClampNeg))) 0 20 (((up2 σ 0 23 ((σ 0 23) ||| (σ 3 (v1 + v3).toNatClampNeg))) 0 20) + 1)) 0 21) + 1)) (((up2 (up2 (up2 σ 0 23 ((σ 0 23) ||| (σ 3 (v1 + v3).toNatClampNeg))) 0 20 (((up2 σ 0 23 ((σ 0 23) ||| (σ 3 (v1 + v3).toNatClampNeg))) 0 20) + 1)) 0 21 (((up2 (up2 σ 0 23 ((σ 0 23) ||| (σ 3 (v1 + v3).toNatClampNeg))) 0 20 (((up2 σ 0 23 ((σ 0 23) ||| (σ 3 (v1 + v3).toNatClampNeg))) 0 20) + 1)) 0 21) + 1)) 0 22) + 0)) dX4_goLoads_167 (fun H locs Y => ?_)
                    refine lv_iconst (v := 0) hx hb dX4_goLoads_170 (by decide) ?_
                    refine lv_istore (lv' := [(6, .int 0), (5, .int r11), (4, .int (σ 3 (v1 + v3).toNatClampNeg)), (0, .ref (ad 0)), (1, .int v1), (2, .int v2), (3, .int v3)]) hx hb dX4_goLoads_171 hl (by decide) rfl (fun ls hl => ?_)
                    exact ih.2 (up2 (up2 (up2 (up2 σ 0 23 ((σ 0 23) ||| (σ 3 (v1 + v3).toNatClampNeg))) 0 20 (((up2 σ 0 23 ((σ 0 23) ||| (σ 3 (v1 + v3).toNatClampNeg))) 0 20) + 1)) 0 21 (((up2 (up2 σ 0 23 ((σ 0 23) ||| (σ 3 (v1 + v3).toNatClampNeg))) 0 20 (((up2 σ 0 23 ((σ 0 23) ||| (σ 3 (v1 + v3).toNatClampNeg))) 0 20) + 1)) 0 21) + 1)) 0 22 (((up2 (up2 (up2 σ 0 23 ((σ 0 23) ||| (σ 3 (v1 + v3).toNatClampNeg))) 0 20 (((up2 σ 0 23 ((σ 0 23) ||| (σ 3 (v1 + v3).toNatClampNeg))) 0 20) + 1)) 0 21 (((up2 (up2 σ 0 23 ((σ 0 23) ||| (σ 3 (v1 + v3).toNatClampNeg))) 0 20 (((up2 σ 0 23 ((σ 0 23) ||| (σ 3 (v1 + v3).toNatClampNeg))) 0 20) + 1)) 0 21) + 1)) 0 22) + 0)) v1 v2 v3 r11 0 _ _ _ Y (lv_sub hl [3, 4, 5, 6, 1, 0] rfl) h
                  · replace h := ot c24 h
                    refine lv_iconst (v := 1) hx hb dX4_goLoads_161 (by decide) ?_
                    refine lv_goto (tgt := 166) hx hb dX4_goLoads_162 (by decide) ?_
                    refine lv_iadd hx hb dX4_goLoads_166 ?_
                    refine rpM X Y 22 (v := ((up2 (up2 (up2 σ 0 23 ((σ 0 23) ||| (σ 3 (v1 + v3).toNatClampNeg))) 0 20 (((up2 σ 0 23 ((σ 0 23) ||| (σ 3 (v1 + v3).toNatClampNeg))) 0 20) + 1)) 0 21 (((up2 (up2 σ 0 23 ((σ 0 23) ||| (σ 3 (v1 + v3).toNatClampNeg))) 0 20 (((up2 σ 0 23 ((σ 0 23) ||| (σ 3 (v1 + v3).toNatClampNeg))) 0 20) + 1)) 0 21) + 1)) 0 22) + 1) tw_491 rfl rfl rfl (stM_22 g ad (up2 (up2 (up2 σ 0 23 ((σ 0 23) ||| (σ 3 (v1 + v3).toNatClampNeg))) 0 20 (((up2 σ 0 23 ((σ 0 23) ||| (σ 3 (v1 + v3).toNatClampNeg))) 0 20) + 1)) 0 21 (((up2 (up2 σ 0 23 ((σ 0 23) ||| (σ 3 (v1 + v3).toNatClampNeg))) 0 20 (((up2 σ 0 23 ((σ 0 23) ||| (σ 3 (v1 + v3).toNatClampNeg))) 0 20) + 1)) 0 21) + 1)) (((up2 (up2 (up2 σ 0 23 ((σ 0 23) ||| (σ 3 (v1 + v3).toNatClampNeg))) 0 20 (((up2 σ 0 23 ((σ 0 23) ||| (σ 3 (v1 + v3).toNatClampNeg))) 0 20) + 1)) 0 21 (((up2 (up2 σ 0 23 ((σ 0 23) ||| (σ 3 (v1 + v3).toNatClampNeg))) 0 20 (((up2 σ 0 23 ((σ 0 23) ||| (σ 3 (v1 + v3).toNatClampNeg))) 0 20) + 1)) 0 21) + 1)) 0 22) + 1)) dX4_goLoads_167 (fun H locs Y => ?_)
                    refine lv_iconst (v := 0) hx hb dX4_goLoads_170 (by decide) ?_
                    refine lv_istore (lv' := [(6, .int 0), (5, .int r11), (4, .int (σ 3 (v1 + v3).toNatClampNeg)), (0, .ref (ad 0)), (1, .int v1), (2, .int v2), (3, .int v3)]) hx hb dX4_goLoads_171 hl (by decide) rfl (fun ls hl => ?_)
                    exact ih.2 (up2 (up2 (up2 (up2 σ 0 23 ((σ 0 23) ||| (σ 3 (v1 + v3).toNatClampNeg))) 0 20 (((up2 σ 0 23 ((σ 0 23) ||| (σ 3 (v1 + v3).toNatClampNeg))) 0 20) + 1)) 0 21 (((up2 (up2 σ 0 23 ((σ 0 23) ||| (σ 3 (v1 + v3).toNatClampNeg))) 0 20 (((up2 σ 0 23 ((σ 0 23) ||| (σ 3 (v1 + v3).toNatClampNeg))) 0 20) + 1)) 0 21) + 1)) 0 22 (((up2 (up2 (up2 σ 0 23 ((σ 0 23) ||| (σ 3 (v1 + v3).toNatClampNeg))) 0 20 (((up2 σ 0 23 ((σ 0 23) ||| (σ 3 (v1 + v3).toNatClampNeg))) 0 20) + 1)) 0 21 (((up2 (up2 σ 0 23 ((σ 0 23) ||| (σ 3 (v1 + v3).toNatClampNeg))) 0 20 (((up2 σ 0 23 ((σ 0 23) ||| (σ 3 (v1 + v3).toNatClampNeg))) 0 20) + 1)) 0 21) + 1)) 0 22) + 1)) v1 v2 v3 r11 0 _ _ _ Y (lv_sub hl [3, 4, 5, 6, 1, 0] rfl) h
            · replace h := oe c9 h
              refine lv_iload_n hx hb dX4_goLoads_84 rfl (lv_at hl 4 rfl) ?_
              obtain ⟨rfl, rfl⟩ := os2 h
              exact retI X Y hr hlk dX4_goLoads_85
    · intro σ v1 v2 v3 v5 v6 H locs ls Y hl h
      rw [fX4_goLoads_G42] at h
      replace h := oe (by decide) h
      refine lv_iload hx hb dX4_goLoads_173 (lv_at hl 5 rfl) ?_
      refine lv_aload_n hx hb dX4_goLoads_175 rfl (lv_at hl 0 rfl) ?_
      refine rgM X Y 5 (v := .int (σ 0 5)) tw_474 rfl dX4_goLoads_176 ?_
      refine lv_icmp_ge (tgt := 213) hx hb dX4_goLoads_179 (by decide) (fun c25 => ?_) (fun c25 => ?_)
      · replace h := ot c25 h
        refine lv_iinc (v := v3 + 1) (lv' := [(3, .int (v3 + 1)), (0, .ref (ad 0)), (1, .int v1), (2, .int v2), (5, .int v5), (6, .int v6)]) hx hb dX4_goLoads_213 hl (k := 3) rfl rfl (by decide) rfl (fun ls hl => ?_)
        refine lv_goto (tgt := 42) hx hb dX4_goLoads_216 (by decide) ?_
        exact ih.1 σ v1 v2 (v3 + 1) _ _ _ Y (lv_sub hl [1, 2, 3, 0] rfl) h
      · replace h := oe c25 h
        refine lv_aload_n hx hb dX4_goLoads_182 rfl (lv_at hl 0 rfl) ?_
        refine rgM X Y 24 (v := .ref (ad 10)) tw_493 rfl dX4_goLoads_183 ?_
        refine lv_iload hx hb dX4_goLoads_186 (lv_at hl 5 rfl) ?_
        refine lv_dup2_11 hx hb dX4_goLoads_188 rfl rfl ?_
        obtain ⟨hg26, h⟩ := og h
        refine ri X Y (lkM_10 g ad σ) hg26 dX4_goLoads_189 ?_
        refine lv_iload hx hb dX4_goLoads_190 (lv_at hl 4 rfl) ?_
        refine lv_iload hx hb dX4_goLoads_192 (lv_at hl 5 rfl) ?_
        obtain ⟨r28, hg27, h⟩ := ob h
        refine cSi X (hml.trans hl.1.symm) Y (c_fX4_isOf l D g (WM g ad σ) v5 v6 hg27) (gs_X4_127 _) rfl fd_X4_isOf ⟨Nat.le_of_ble_eq_true rfl, Nat.le_of_ble_eq_true rfl⟩ ⟨Nat.le_of_ble_eq_true rfl, Nat.le_of_ble_eq_true rfl⟩ (rest := [.int (σ 10 v6.toNatClampNeg), .int v6, .ref (ad 10)]) rfl (Nat.le_of_ble_eq_true rfl) dX4_goLoads_194 (fun H locs Y => ?_)
        refine lv_if_eq (tgt := 204) hx hb dX4_goLoads_197 (by decide) (fun c29 => ?_) (fun c29 => ?_)
        · replace h := ot c29 h
          refine lv_iconst (v := 0) hx hb dX4_goLoads_204 (by decide) ?_
          refine lv_iadd hx hb dX4_goLoads_205 ?_
          obtain ⟨hg30, h⟩ := og h
          refine ris X Y (W1 := WM g ad (up2 σ 10 v6.toNatClampNeg ((σ 10 v6.toNatClampNeg) + 0))) (lkM_10 g ad σ) hg30 (stM_A10 g ad σ _) dX4_goLoads_206 (fun H locs Y => ?_)
          refine lv_iinc (v := v6 + 1) (lv' := [(6, .int (v6 + 1)), (0, .ref (ad 0)), (1, .int v1), (2, .int v2), (3, .int v3), (5, .int v5)]) hx hb dX4_goLoads_207 hl (k := 5) rfl rfl (by decide) rfl (fun ls hl => ?_)
          refine lv_goto (tgt := 173) hx hb dX4_goLoads_210 (by decide) ?_
          exact ih.2 (up2 σ 10 v6.toNatClampNeg ((σ 10 v6.toNatClampNeg) + 0)) v1 v2 v3 v5 (v6 + 1) _ _ _ Y (lv_sub hl [1, 2, 3, 4, 5, 0] rfl) h
        · replace h := oe c29 h
          refine lv_iconst (v := 1) hx hb dX4_goLoads_200 (by decide) ?_
          refine lv_goto (tgt := 205) hx hb dX4_goLoads_201 (by decide) ?_
          refine lv_iadd hx hb dX4_goLoads_205 ?_
          obtain ⟨hg31, h⟩ := og h
          refine ris X Y (W1 := WM g ad (up2 σ 10 v6.toNatClampNeg ((σ 10 v6.toNatClampNeg) + 1))) (lkM_10 g ad σ) hg31 (stM_A10 g ad σ _) dX4_goLoads_206 (fun H locs Y => ?_)
          refine lv_iinc (v := v6 + 1) (lv' := [(6, .int (v6 + 1)), (0, .ref (ad 0)), (1, .int v1), (2, .int v2), (3, .int v3), (5, .int v5)]) hx hb dX4_goLoads_207 hl (k := 5) rfl rfl (by decide) rfl (fun ls hl => ?_)
          refine lv_goto (tgt := 173) hx hb dX4_goLoads_210 (by decide) ?_
          exact ih.2 (up2 σ 10 v6.toNatClampNeg ((σ 10 v6.toNatClampNeg) + 1)) v1 v2 v3 v5 (v6 + 1) _ _ _ Y (lv_sub hl [1, 2, 3, 4, 5, 0] rfl) h
set_option maxHeartbeats 4000000 in
set_option maxRecDepth 100000 in
theorem w_fX4_goLoads_L22 {p : Program} {l : Launch} {e : Env} {s : State} {m : MethodId} {args : Array Value} {below : List Frame} {meth : Method} {c : Code} {D : va_G} {g : Nat → ClassId} {ad : Nat → Nat} {A : Nat → Prop} {r0 : Int32} {σ0 : St} (X : Cx p s m c args cX4_goLoads RX4 kX4_goLoads D g) (hr : meth.sig.returnType = (some .int)) (hlk : meth.locks = false) (hml : c.maxLocals = 7) : ∀ (n : Nat), ∀ (σ : St) (v1 : Int32) (v2 : Int32) (v3 : Int32) (H : Heap) (locs : List Loc) (ls : Array Slot), Hp D A s.heap H locs (WM g ad σ) → lv_has ls 7 [(0, .ref (ad 0)), (1, .int v1), (2, .int v2), (3, .int v3)] → fX4_goLoads_L22 n σ v1 v2 v3 = some (r0, σ0) → W p l e (RM 4 94) s m args below meth c H locs 0 0 (MQ below (QI D g A (WM g ad σ0) r0) args s 0 0 A) (F0 m 22 ls []) := by
  have hx := X.1
  have hb := X.2.1
  intro n
  induction n with
  | zero => intro σ v1 v2 v3 H locs ls Y hl h; cases (show none = _ from h)
  | succ n ih =>
    intro σ v1 v2 v3 H locs ls Y hl h
    rw [fX4_goLoads_L22] at h
    refine lv_iload_n hx hb dX4_goLoads_22 rfl (lv_at hl 3 rfl) ?_
    refine lv_iconst (v := 5) hx hb dX4_goLoads_23 (by decide) ?_
    refine lv_icmp_ge (tgt := 40) hx hb dX4_goLoads_24 (by decide) (fun c1 => ?_) (fun c1 => ?_)
    · replace h := ot c1 h
      refine lv_iconst (v := 0) hx hb dX4_goLoads_40 (by decide) ?_
      refine lv_istore_n (lv' := [(3, .int 0), (0, .ref (ad 0)), (1, .int v1), (2, .int v2)]) hx hb dX4_goLoads_41 rfl hl (by decide) rfl (fun ls hl => ?_)
      exact (w_fX4_goLoads_G42 X hr hlk hml n).1 σ v1 v2 0 _ _ _ Y (lv_sub hl [1, 2, 3, 0] rfl) h
    · replace h := oe c1 h
      refine lv_aload_n hx hb dX4_goLoads_27 rfl (lv_at hl 0 rfl) ?_
      refine rgM X Y 24 (v := .ref (ad 10)) tw_493 rfl dX4_goLoads_28 ?_
      refine lv_iload_n hx hb dX4_goLoads_31 rfl (lv_at hl 3 rfl) ?_
      refine lv_iconst (v := 0) hx hb dX4_goLoads_32 (by decide) ?_
      obtain ⟨hg2, h⟩ := og h
      refine ris X Y (W1 := WM g ad (up2 σ 10 v3.toNatClampNeg 0)) (lkM_10 g ad σ) hg2 (stM_A10 g ad σ _) dX4_goLoads_33 (fun H locs Y => ?_)
      refine lv_iinc (v := v3 + 1) (lv' := [(3, .int (v3 + 1)), (0, .ref (ad 0)), (1, .int v1), (2, .int v2)]) hx hb dX4_goLoads_34 hl (k := 3) rfl rfl (by decide) rfl (fun ls hl => ?_)
      refine lv_goto (tgt := 22) hx hb dX4_goLoads_37 (by decide) ?_
      exact ih (up2 σ 10 v3.toNatClampNeg 0) v1 v2 (v3 + 1) _ _ _ Y (lv_sub hl [1, 2, 3, 0] rfl) h
set_option maxHeartbeats 4000000 in
set_option maxRecDepth 100000 in
theorem c_fX4_goLoads (l : Launch) (D : va_G) (g : Nat → ClassId) (ad : Nat → Nat) (σ : St) (n : Nat) (v1 : Int32) (v2 : Int32) {r0 : Int32} {σ0 : St} (h : fX4_goLoads n σ v1 v2 = some (r0, σ0)) : MI l yX4_goLoads kX4_goLoads 4 94 D g (WM g ad σ) (WM g ad σ0) [.ref (ad 0), .int v1, .int v2] r0 := by
  intro sz
  refine Met.of2 (Qc := fun A => QI D g A (WM g ad σ0) r0) (cc := cX4_goLoads) (maxL := 7) (ret := (some .int)) (own := RX4) (by decide) rfl rfl (Nat.le_of_ble_eq_true rfl) ?_
  intro p e s m below meth c A ls X hr hlk hml Y hl
  have hx := X.1
  have hb := X.2.1
  have hl : lv_has ls 7 [(0, .ref (ad 0)), (1, .int v1), (2, .int v2)] := hl
  rw [fX4_goLoads] at h
  refine lv_aload_n hx hb dX4_goLoads_0 rfl (lv_at hl 0 rfl) ?_
  refine lv_iconst (v := 0) hx hb dX4_goLoads_1 (by decide) ?_
  refine rpM X Y 20 (v := 0) tw_489 rfl rfl rfl (stM_20 g ad σ 0) dX4_goLoads_2 (fun H locs Y => ?_)
  refine lv_aload_n hx hb dX4_goLoads_5 rfl (lv_at hl 0 rfl) ?_
  refine lv_iconst (v := 0) hx hb dX4_goLoads_6 (by decide) ?_
  refine rpM X Y 21 (v := 0) tw_490 rfl rfl rfl (stM_21 g ad (up2 σ 0 20 0) 0) dX4_goLoads_7 (fun H locs Y => ?_)
  refine lv_aload_n hx hb dX4_goLoads_10 rfl (lv_at hl 0 rfl) ?_
  refine lv_iconst (v := 0) hx hb dX4_goLoads_11 (by decide) ?_
  refine rpM X Y 22 (v := 0) tw_491 rfl rfl rfl (stM_22 g ad (up2 (up2 σ 0 20 0) 0 21 0) 0) dX4_goLoads_12 (fun H locs Y => ?_)
  refine lv_aload_n hx hb dX4_goLoads_15 rfl (lv_at hl 0 rfl) ?_
  refine lv_iconst (v := 0) hx hb dX4_goLoads_16 (by decide) ?_
  refine rpM X Y 23 (v := 0) tw_492 rfl rfl rfl (stM_23 g ad (up2 (up2 (up2 σ 0 20 0) 0 21 0) 0 22 0) 0) dX4_goLoads_17 (fun H locs Y => ?_)
  refine lv_iconst (v := 0) hx hb dX4_goLoads_20 (by decide) ?_
  refine lv_istore_n (lv' := [(3, .int 0), (0, .ref (ad 0)), (1, .int v1), (2, .int v2)]) hx hb dX4_goLoads_21 rfl hl (by decide) rfl (fun ls hl => ?_)
  exact w_fX4_goLoads_L22 X hr hlk hml n (up2 (up2 (up2 (up2 σ 0 20 0) 0 21 0) 0 22 0) 0 23 0) v1 v2 0 _ _ _ Y (lv_sub hl [1, 2, 3, 0] rfl) h
set_option maxHeartbeats 4000000 in
set_option maxRecDepth 100000 in
theorem c_fX4_tellLoads (l : Launch) (D : va_G) (g : Nat → ClassId) (ad : Nat → Nat) (σ : St) (v1 : Int32) {r0 : Int32} (h : fX4_tellLoads σ v1 = some r0) : MI l yX4_tellLoads kX4_tellLoads 1 21 D g (WM g ad σ) (WM g ad σ) [.ref (ad 0), .int v1] r0 := by
  intro sz
  refine Met.of2 (Qc := fun A => QI D g A (WM g ad σ) r0) (cc := cX4_tellLoads) (maxL := 2) (ret := (some .int)) (own := RX4) (by decide) rfl rfl (Nat.le_of_ble_eq_true rfl) ?_
  intro p e s m below meth c A ls X hr hlk hml Y hl
  have hx := X.1
  have hb := X.2.1
  have hl : lv_has ls 2 [(0, .ref (ad 0)), (1, .int v1)] := hl
  rw [fX4_tellLoads] at h
  refine lv_iload_n hx hb dX4_tellLoads_0 rfl (lv_at hl 1 rfl) ?_
  by_cases c1 : v1 = 0
  · replace h := ot c1 h
    refine lv_tableIn (tgt := 36) (off := 35) hx hb dX4_tellLoads_1 (by rw [c1]; decide) (by rw [c1]; decide) (by rw [c1]; rfl) (by decide) ?_
    refine lv_aload_n hx hb dX4_tellLoads_36 rfl (lv_at hl 0 rfl) ?_
    refine rgM X Y 20 (v := .int (σ 0 20)) tw_489 rfl dX4_tellLoads_37 ?_
    obtain rfl := os1 h
    exact retI X Y hr hlk dX4_tellLoads_40
  · replace h := oe c1 h
    by_cases c2 : v1 = 1
    · replace h := ot c2 h
      refine lv_tableIn (tgt := 56) (off := 55) hx hb dX4_tellLoads_1 (by rw [c2]; decide) (by rw [c2]; decide) (by rw [c2]; rfl) (by decide) ?_
      refine lv_aload_n hx hb dX4_tellLoads_56 rfl (lv_at hl 0 rfl) ?_
      refine lv_iload_n hx hb dX4_tellLoads_57 rfl (lv_at hl 1 rfl) ?_
      refine lv_bipush (v := 10) hx hb dX4_tellLoads_58 (by decide) ?_
      refine lv_isub hx hb dX4_tellLoads_60 ?_
      obtain ⟨r4, hg3, h⟩ := ob h
      refine cVi X (hml.trans hl.1.symm) Y (c_fX4_isPerson l D g ad σ (v1 - 10) hg3) (lkM g ad σ) rfl (gs_X4_115 _) rfl fd_X4_isPerson ⟨Nat.le_of_ble_eq_true rfl, Nat.le_of_ble_eq_true rfl⟩ ⟨Nat.le_of_ble_eq_true rfl, Nat.le_of_ble_eq_true rfl⟩ (rest := []) rfl (Nat.le_of_ble_eq_true rfl) dX4_tellLoads_61 (fun H locs Y => ?_)
      refine lv_if_eq (tgt := 79) hx hb dX4_tellLoads_64 (by decide) (fun c5 => ?_) (fun c5 => ?_)
      · replace h := ot c5 h
        refine lv_bipush (v := (-9)) hx hb dX4_tellLoads_79 (by decide) ?_
        obtain rfl := os1 h
        exact retI X Y hr hlk dX4_tellLoads_81
      · replace h := oe c5 h
        refine lv_aload_n hx hb dX4_tellLoads_67 rfl (lv_at hl 0 rfl) ?_
        refine rgM X Y 24 (v := .ref (ad 10)) tw_493 rfl dX4_tellLoads_68 ?_
        refine lv_iload_n hx hb dX4_tellLoads_71 rfl (lv_at hl 1 rfl) ?_
        refine lv_bipush (v := 10) hx hb dX4_tellLoads_72 (by decide) ?_
        refine lv_isub hx hb dX4_tellLoads_74 ?_
        obtain ⟨hg6, h⟩ := og h
        refine ri X Y (lkM_10 g ad σ) hg6 dX4_tellLoads_75 ?_
        refine lv_goto (tgt := 81) hx hb dX4_tellLoads_76 (by decide) ?_
        obtain rfl := os1 h
        exact retI X Y hr hlk dX4_tellLoads_81
    · replace h := oe c2 h
      by_cases c7 : v1 = 2
      · replace h := ot c7 h
        refine lv_tableIn (tgt := 41) (off := 40) hx hb dX4_tellLoads_1 (by rw [c7]; decide) (by rw [c7]; decide) (by rw [c7]; rfl) (by decide) ?_
        refine lv_aload_n hx hb dX4_tellLoads_41 rfl (lv_at hl 0 rfl) ?_
        refine rgM X Y 23 (v := .int (σ 0 23)) tw_492 rfl dX4_tellLoads_42 ?_
        obtain rfl := os1 h
        exact retI X Y hr hlk dX4_tellLoads_45
      · replace h := oe c7 h
        by_cases c8 : v1 = 3
        · replace h := ot c8 h
          refine lv_tableIn (tgt := 46) (off := 45) hx hb dX4_tellLoads_1 (by rw [c8]; decide) (by rw [c8]; decide) (by rw [c8]; rfl) (by decide) ?_
          refine lv_aload_n hx hb dX4_tellLoads_46 rfl (lv_at hl 0 rfl) ?_
          refine rgM X Y 21 (v := .int (σ 0 21)) tw_490 rfl dX4_tellLoads_47 ?_
          obtain rfl := os1 h
          exact retI X Y hr hlk dX4_tellLoads_50
        · replace h := oe c8 h
          by_cases c9 : v1 = 4
          · replace h := ot c9 h
            refine lv_tableIn (tgt := 51) (off := 50) hx hb dX4_tellLoads_1 (by rw [c9]; decide) (by rw [c9]; decide) (by rw [c9]; rfl) (by decide) ?_
            refine lv_aload_n hx hb dX4_tellLoads_51 rfl (lv_at hl 0 rfl) ?_
            refine rgM X Y 22 (v := .int (σ 0 22)) tw_491 rfl dX4_tellLoads_52 ?_
            obtain rfl := os1 h
            exact retI X Y hr hlk dX4_tellLoads_55
          · replace h := oe c9 h
            refine lv_tableOut (tgt := 56) hx hb dX4_tellLoads_1 (by have q0 := lv_neT c1 (show (0 : Int32).toInt = 0 by decide); have q1 := lv_neT c2 (show (1 : Int32).toInt = 1 by decide); have q2 := lv_neT c7 (show (2 : Int32).toInt = 2 by decide); have q3 := lv_neT c8 (show (3 : Int32).toInt = 3 by decide); have q4 := lv_neT c9 (show (4 : Int32).toInt = 4 by decide); omega) (by decide) ?_
            refine lv_aload_n hx hb dX4_tellLoads_56 rfl (lv_at hl 0 rfl) ?_
            refine lv_iload_n hx hb dX4_tellLoads_57 rfl (lv_at hl 1 rfl) ?_
            refine lv_bipush (v := 10) hx hb dX4_tellLoads_58 (by decide) ?_
            refine lv_isub hx hb dX4_tellLoads_60 ?_
            obtain ⟨r11, hg10, h⟩ := ob h
            refine cVi X (hml.trans hl.1.symm) Y (c_fX4_isPerson l D g ad σ (v1 - 10) hg10) (lkM g ad σ) rfl (gs_X4_115 _) rfl fd_X4_isPerson ⟨Nat.le_of_ble_eq_true rfl, Nat.le_of_ble_eq_true rfl⟩ ⟨Nat.le_of_ble_eq_true rfl, Nat.le_of_ble_eq_true rfl⟩ (rest := []) rfl (Nat.le_of_ble_eq_true rfl) dX4_tellLoads_61 (fun H locs Y => ?_)
            refine lv_if_eq (tgt := 79) hx hb dX4_tellLoads_64 (by decide) (fun c12 => ?_) (fun c12 => ?_)
            · replace h := ot c12 h
              refine lv_bipush (v := (-9)) hx hb dX4_tellLoads_79 (by decide) ?_
              obtain rfl := os1 h
              exact retI X Y hr hlk dX4_tellLoads_81
            · replace h := oe c12 h
              refine lv_aload_n hx hb dX4_tellLoads_67 rfl (lv_at hl 0 rfl) ?_
              refine rgM X Y 24 (v := .ref (ad 10)) tw_493 rfl dX4_tellLoads_68 ?_
              refine lv_iload_n hx hb dX4_tellLoads_71 rfl (lv_at hl 1 rfl) ?_
              refine lv_bipush (v := 10) hx hb dX4_tellLoads_72 (by decide) ?_
              refine lv_isub hx hb dX4_tellLoads_74 ?_
              obtain ⟨hg13, h⟩ := og h
              refine ri X Y (lkM_10 g ad σ) hg13 dX4_tellLoads_75 ?_
              refine lv_goto (tgt := 81) hx hb dX4_tellLoads_76 (by decide) ?_
              obtain rfl := os1 h
              exact retI X Y hr hlk dX4_tellLoads_81
