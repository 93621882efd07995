set_option maxHeartbeats 4000000 in
set_option maxRecDepth 100000 in
theorem w_fX4_loads_L101 {p : Program} {l : Launch} {e : Env} {s : State} {m : MethodId} {args : Array Value} {below : List Frame} {meth : Method} {c : Code} {D : va_G} {g : Nat → ClassId} {ad : Nat → Nat} {A : Nat → Prop} {r0 : Int32} {σ0 : St} (X : Cx p s m c args cX4_loads RX4 kX4_loads D g) (hr : meth.sig.returnType = (some .int)) (hlk : meth.locks = false) (hml : c.maxLocals = 9) : ∀ (n : Nat), ∀ (σ : St) (v4 : Int32) (v5 : Int32) (v7 : Int32) (v8 : Int32) (H : Heap) (locs : List Loc) (ls : Array Slot), Hp D A s.heap H locs (WM g ad σ) → lv_has ls 9 [(0, .ref (ad 0)), (4, .int v4), (5, .int v5), (7, .int v7), (8, .int v8)] → fX4_loads_L101 n σ v4 v5 v7 v8 = some (r0, σ0) → W p l e (RM 5 120) s m args below meth c H locs 0 0 (MQ below (QI D g A (WM g ad σ0) r0) args s 0 0 A) (F0 m 101 ls []) := by
  have hx := X.1
  have hb := X.2.1
  intro n
  induction n with
  | zero => intro σ v4 v5 v7 v8 H locs ls Y hl h; cases (show none = _ from h)
  | succ n ih =>
    intro σ v4 v5 v7 v8 H locs ls Y hl h
    rw [fX4_loads_L101] at h
    refine lv_iload hx hb dX4_loads_101 (lv_at hl 4 rfl) ?_
    refine lv_iload hx hb dX4_loads_103 (lv_at hl 1 rfl) ?_
    refine lv_icmp_ge (tgt := 134) hx hb dX4_loads_105 (by decide) (fun c28 => ?_) (fun c28 => ?_)
    · replace h := ot c28 h
      refine lv_aload_n hx hb dX4_loads_134 rfl (lv_at hl 0 rfl) ?_
      refine lv_iload hx hb dX4_loads_135 (lv_at hl 3 rfl) ?_
      refine lv_iload hx hb dX4_loads_137 (lv_at hl 1 rfl) ?_
      obtain ⟨r30, σ30, hg29, h⟩ := ob2 h
      refine cVi X (hml.trans hl.1.symm) Y (c_fX4_goLoads l D g ad σ n v7 v4 hg29) (lkM g ad σ) rfl (gs_X4_161 _) rfl fd_X4_goLoads ⟨Nat.le_of_ble_eq_true rfl, Nat.le_of_ble_eq_true rfl⟩ ⟨Nat.le_of_ble_eq_true rfl, Nat.le_of_ble_eq_true rfl⟩ (rest := []) rfl (Nat.le_of_ble_eq_true rfl) dX4_loads_139 (fun H locs Y => ?_)
      refine lv_istore (lv' := [(8, .int r30), (0, .ref (ad 0)), (4, .int v4), (5, .int v5), (7, .int v7)]) hx hb dX4_loads_142 hl (by decide) rfl (fun ls hl => ?_)
      refine lv_iload hx hb dX4_loads_144 (lv_at hl 3 rfl) ?_
      refine lv_iconst (v := 1) hx hb dX4_loads_146 (by decide) ?_
      refine lv_icmp_ne (tgt := 153) hx hb dX4_loads_147 (by decide) (fun c31 => ?_) (fun c31 => ?_)
      · replace h := oe c31 h
        refine lv_iload hx hb dX4_loads_153 (lv_at hl 0 rfl) ?_
        refine lv_bipush (v := (-9)) hx hb dX4_loads_155 (by decide) ?_
        refine lv_icmp_ne (tgt := 169) hx hb dX4_loads_157 (by decide) (fun c32 => ?_) (fun c32 => ?_)
        · replace h := oe c32 h
          refine lv_bipush (v := (-100)) hx hb dX4_loads_169 (by decide) ?_
          refine lv_iload hx hb dX4_loads_171 (lv_at hl 0 rfl) ?_
          refine lv_isub hx hb dX4_loads_173 ?_
          obtain ⟨rfl, rfl⟩ := os2 h
          exact retI X Y hr hlk dX4_loads_174
        · replace h := ot c32 h
          refine lv_aload_n hx hb dX4_loads_160 rfl (lv_at hl 1 rfl) ?_
          refine lv_iload hx hb dX4_loads_161 (lv_at hl 3 rfl) ?_
          obtain ⟨r34, hg33, h⟩ := ob h
          refine cVi X (hml.trans hl.1.symm) Y (c_fX4_tellLoads l D g ad σ30 v5 hg33) (lkM g ad σ30) rfl (gs_X4_164 _) rfl fd_X4_tellLoads ⟨Nat.le_of_ble_eq_true rfl, Nat.le_of_ble_eq_true rfl⟩ ⟨Nat.le_of_ble_eq_true rfl, Nat.le_of_ble_eq_true rfl⟩ (rest := []) rfl (Nat.le_of_ble_eq_true rfl) dX4_loads_163 (fun H locs Y => ?_)
          refine lv_goto (tgt := 174) hx hb dX4_loads_166 (by decide) ?_
          obtain ⟨rfl, rfl⟩ := os2 h
          exact retI X Y hr hlk dX4_loads_174
      · replace h := ot c31 h
        refine lv_iload hx hb dX4_loads_150 (lv_at hl 0 rfl) ?_
        obtain ⟨rfl, rfl⟩ := os2 h
        exact retI X Y hr hlk dX4_loads_152
    · replace h := oe c28 h
      refine lv_aload_n hx hb dX4_loads_108 rfl (lv_at hl 0 rfl) ?_
      refine lv_aload_n hx hb dX4_loads_109 rfl (lv_at hl 0 rfl) ?_
      refine rgM X Y 4 (v := .ref (ad 3)) tw_473 rfl dX4_loads_110 ?_
      refine lv_iload hx hb dX4_loads_113 (lv_at hl 3 rfl) ?_
      refine lv_iload hx hb dX4_loads_115 (lv_at hl 4 rfl) ?_
      refine lv_iadd hx hb dX4_loads_117 ?_
      obtain ⟨hg35, h⟩ := og h
      refine ri X Y (lkM_3 g ad σ) hg35 dX4_loads_118 ?_
      obtain ⟨r37, hg36, h⟩ := ob h
      refine cVi X (hml.trans hl.1.symm) Y (c_fX4_isSet l D g ad σ (σ 3 (v7 + v8).toNatClampNeg) hg36) (lkM g ad σ) rfl (gs_X4_143 _) rfl fd_X4_isSet ⟨Nat.le_of_ble_eq_true rfl, Nat.le_of_ble_eq_true rfl⟩ ⟨Nat.le_of_ble_eq_true rfl, Nat.le_of_ble_eq_true rfl⟩ (rest := []) rfl (Nat.le_of_ble_eq_true rfl) dX4_loads_119 (fun H locs Y => ?_)
      refine lv_if_ne (tgt := 128) hx hb dX4_loads_122 (by decide) (fun c38 => ?_) (fun c38 => ?_)
      · replace h := oe c38 h
        refine lv_iinc (v := v8 + 1) (lv' := [(8, .int (v8 + 1)), (0, .ref (ad 0)), (4, .int v4), (5, .int v5), (7, .int v7)]) hx hb dX4_loads_128 hl (k := 4) rfl rfl (by decide) rfl (fun ls hl => ?_)
        refine lv_goto (tgt := 101) hx hb dX4_loads_131 (by decide) ?_
        exact ih σ v4 v5 v7 (v8 + 1) _ _ _ Y (lv_sub hl [1, 2, 3, 4, 0] rfl) h
      · replace h := ot c38 h
        refine lv_bipush (v := (-2)) hx hb dX4_loads_125 (by decide) ?_
        obtain ⟨rfl, rfl⟩ := os2 h
        exact retI X Y hr hlk dX4_loads_127
set_option maxHeartbeats 4000000 in
set_option maxRecDepth 100000 in
theorem c_fX4_loads (l : Launch) (D : va_G) (g : Nat → ClassId) (ad : Nat → Nat) (σ : St) (n : Nat) (v1 : Int32) (v2 : Int32) (v3 : Int32) (v4 : Int32) (v5 : Int32) {r0 : Int32} {σ0 : St} (h : fX4_loads n σ v1 v2 v3 v4 v5 = some (r0, σ0)) : MI l yX4_loads kX4_loads 5 120 D g (WM g ad σ) (WM g ad σ0) [.ref (ad 0), .int v1, .int v2, .int v3, .int v4, .int v5] r0 := by
  intro sz
  refine Met.of2 (Qc := fun A => QI D g A (WM g ad σ0) r0) (cc := cX4_loads) (maxL := 9) (ret := (some .int)) (own := RX4) (by decide) rfl rfl (Nat.le_of_ble_eq_true rfl) ?_
  intro p e s m below meth c A ls X hr hlk hml Y hl
  have hx := X.1
  have hb := X.2.1
  have hl : lv_has ls 9 [(0, .ref (ad 0)), (1, .int v1), (2, .int v2), (3, .int v3), (4, .int v4), (5, .int v5)] := hl
  rw [fX4_loads] at h
  refine lv_aload_n hx hb dX4_loads_0 rfl (lv_at hl 0 rfl) ?_
  refine lv_iconst (v := 0) hx hb dX4_loads_1 (by decide) ?_
  refine rpM X Y 0 (v := 0) tw_469 rfl rfl rfl (stM_0 g ad σ 0) dX4_loads_2 (fun H locs Y => ?_)
  refine lv_iload_n hx hb dX4_loads_5 rfl (lv_at hl 1 rfl) ?_
  obtain ⟨r2, hg1, h⟩ := ob h
  refine cSi X (hml.trans hl.1.symm) Y (c_fX4_isSheet l D g (WM g ad (up2 σ 0 0 0)) v1 hg1) (gs_X4_65 _) rfl fd_X4_isSheet ⟨Nat.le_of_ble_eq_true rfl, Nat.le_of_ble_eq_true rfl⟩ ⟨Nat.le_of_ble_eq_true rfl, Nat.le_of_ble_eq_true rfl⟩ (rest := []) rfl (Nat.le_of_ble_eq_true rfl) dX4_loads_6 (fun H locs Y => ?_)
  refine lv_if_ne (tgt := 14) hx hb dX4_loads_9 (by decide) (fun c3 => ?_) (fun c3 => ?_)
  · replace h := oe c3 h
    refine lv_iload_n hx hb dX4_loads_14 rfl (lv_at hl 2 rfl) ?_
    obtain ⟨r5, hg4, h⟩ := ob h
    refine cSi X (hml.trans hl.1.symm) Y (c_fX4_isSort l D g (WM g ad (up2 σ 0 0 0)) v2 hg4) (gs_X4_69 _) rfl fd_X4_isSort ⟨Nat.le_of_ble_eq_true rfl, Nat.le_of_ble_eq_true rfl⟩ ⟨Nat.le_of_ble_eq_true rfl, Nat.le_of_ble_eq_true rfl⟩ (rest := []) rfl (Nat.le_of_ble_eq_true rfl) dX4_loads_15 (fun H locs Y => ?_)
    refine lv_if_eq (tgt := 54) hx hb dX4_loads_18 (by decide) (fun c6 => ?_) (fun c6 => ?_)
    · replace h := ot c6 h
      refine lv_bipush (v := (-2)) hx hb dX4_loads_54 (by decide) ?_
      obtain ⟨rfl, rfl⟩ := os2 h
      exact retI X Y hr hlk dX4_loads_56
    · replace h := oe c6 h
      refine lv_iload hx hb dX4_loads_21 (lv_at hl 4 rfl) ?_
      refine lv_iconst (v := 0) hx hb dX4_loads_23 (by decide) ?_
      refine lv_bipush (v := 20) hx hb dX4_loads_24 (by decide) ?_
      obtain ⟨r8, hg7, h⟩ := ob h
      refine cSi X (hml.trans hl.1.symm) Y (c_fX4_within l D g (WM g ad (up2 σ 0 0 0)) v4 0 20 hg7) (gs_X4_55 _) rfl fd_X4_within ⟨Nat.le_of_ble_eq_true rfl, Nat.le_of_ble_eq_true rfl⟩ ⟨Nat.le_of_ble_eq_true rfl, Nat.le_of_ble_eq_true rfl⟩ (rest := []) rfl (Nat.le_of_ble_eq_true rfl) dX4_loads_26 (fun H locs Y => ?_)
      refine lv_if_eq (tgt := 54) hx hb dX4_loads_29 (by decide) (fun c9 => ?_) (fun c9 => ?_)
      · replace h := ot c9 h
        refine lv_bipush (v := (-2)) hx hb dX4_loads_54 (by decide) ?_
        obtain ⟨rfl, rfl⟩ := os2 h
        exact retI X Y hr hlk dX4_loads_56
      · replace h := oe c9 h
        refine lv_iload hx hb dX4_loads_32 (lv_at hl 5 rfl) ?_
        refine lv_iconst (v := 0) hx hb dX4_loads_34 (by decide) ?_
        refine lv_iconst (v := 4) hx hb dX4_loads_35 (by decide) ?_
        obtain ⟨r11, hg10, h⟩ := ob h
        refine cSi X (hml.trans hl.1.symm) Y (c_fX4_within l D g (WM g ad (up2 σ 0 0 0)) v5 0 4 hg10) (gs_X4_55 _) rfl fd_X4_within ⟨Nat.le_of_ble_eq_true rfl, Nat.le_of_ble_eq_true rfl⟩ ⟨Nat.le_of_ble_eq_true rfl, Nat.le_of_ble_eq_true rfl⟩ (rest := []) rfl (Nat.le_of_ble_eq_true rfl) dX4_loads_36 (fun H locs Y => ?_)
        refine lv_if_ne (tgt := 57) hx hb dX4_loads_39 (by decide) (fun c12 => ?_) (fun c12 => ?_)
        · replace h := oe c12 h
          refine lv_aload_n hx hb dX4_loads_57 rfl (lv_at hl 0 rfl) ?_
          refine lv_iload_n hx hb dX4_loads_58 rfl (lv_at hl 1 rfl) ?_
          refine lv_iload_n hx hb dX4_loads_59 rfl (lv_at hl 2 rfl) ?_
          refine lv_iload_n hx hb dX4_loads_60 rfl (lv_at hl 3 rfl) ?_
          refine lv_iload hx hb dX4_loads_61 (lv_at hl 4 rfl) ?_
          obtain ⟨r14, hg13, h⟩ := ob h
          refine cVi X (hml.trans hl.1.symm) Y (c_fX4_against l D g ad (up2 σ 0 0 0) v1 v2 v3 v4 hg13) (lkM g ad (up2 σ 0 0 0)) rfl (gs_X4_72 _) rfl fd_X4_against ⟨Nat.le_of_ble_eq_true rfl, Nat.le_of_ble_eq_true rfl⟩ ⟨Nat.le_of_ble_eq_true rfl, Nat.le_of_ble_eq_true rfl⟩ (rest := []) rfl (Nat.le_of_ble_eq_true rfl) dX4_loads_63 (fun H locs Y => ?_)
          refine lv_istore (lv' := [(6, .int r14), (0, .ref (ad 0)), (1, .int v1), (2, .int v2), (3, .int v3), (4, .int v4), (5, .int v5)]) hx hb dX4_loads_66 hl (by decide) rfl (fun ls hl => ?_)
          refine lv_iload hx hb dX4_loads_68 (lv_at hl 0 rfl) ?_
          refine lv_if_eq (tgt := 80) hx hb dX4_loads_70 (by decide) (fun c15 => ?_) (fun c15 => ?_)
          · replace h := ot c15 h
            refine lv_aload_n hx hb dX4_loads_80 rfl (lv_at hl 1 rfl) ?_
            refine rgM X Y 5 (v := .int ((up2 σ 0 0 0) 0 5)) tw_474 rfl dX4_loads_81 ?_
            refine lv_if_ne (tgt := 90) hx hb dX4_loads_84 (by decide) (fun c16 => ?_) (fun c16 => ?_)
            · replace h := oe c16 h
              refine lv_bipush (v := 60) hx hb dX4_loads_90 (by decide) ?_
              refine lv_iload_n hx hb dX4_loads_92 rfl (lv_at hl 2 rfl) ?_
              refine lv_imul hx hb dX4_loads_93 ?_
              refine lv_iload_n hx hb dX4_loads_94 rfl (lv_at hl 4 rfl) ?_
              refine lv_iadd hx hb dX4_loads_95 ?_
              refine lv_istore (lv' := [(7, .int (((60 : Int32) * v1) + v3)), (6, .int r14), (0, .ref (ad 0)), (1, .int v1), (2, .int v2), (3, .int v3), (4, .int v4), (5, .int v5)]) hx hb dX4_loads_96 hl (by decide) rfl (fun ls hl => ?_)
              refine lv_iconst (v := 0) hx hb dX4_loads_98 (by decide) ?_
              refine lv_istore (lv' := [(8, .int 0), (7, .int (((60 : Int32) * v1) + v3)), (6, .int r14), (0, .ref (ad 0)), (1, .int v1), (2, .int v2), (3, .int v3), (4, .int v4), (5, .int v5)]) hx hb dX4_loads_99 hl (by decide) rfl (fun ls hl => ?_)
              exact w_fX4_loads_L101 X hr hlk hml n (up2 σ 0 0 0) v4 v5 (((60 : Int32) * v1) + v3) 0 _ _ _ Y (lv_sub hl [3, 7, 8, 1, 0] rfl) h
            · replace h := ot c16 h
              refine lv_bipush (v := (-3)) hx hb dX4_loads_87 (by decide) ?_
              obtain ⟨rfl, rfl⟩ := os2 h
              exact retI X Y hr hlk dX4_loads_89
          · replace h := oe c15 h
            refine lv_aload_n hx hb dX4_loads_73 rfl (lv_at hl 1 rfl) ?_
            refine lv_iload hx hb dX4_loads_74 (lv_at hl 0 rfl) ?_
            obtain ⟨r18, σ18, hg17, h⟩ := ob2 h
            refine cVi X (hml.trans hl.1.symm) Y (c_fX4_fails l D g ad (up2 σ 0 0 0) r14 hg17) (lkM g ad (up2 σ 0 0 0)) rfl (gs_X4_76 _) rfl fd_X4_fails ⟨Nat.le_of_ble_eq_true rfl, Nat.le_of_ble_eq_true rfl⟩ ⟨Nat.le_of_ble_eq_true rfl, Nat.le_of_ble_eq_true rfl⟩ (rest := []) rfl (Nat.le_of_ble_eq_true rfl) dX4_loads_76 (fun H locs Y => ?_)
            obtain ⟨rfl, rfl⟩ := os2 h
            exact retI X Y hr hlk dX4_loads_79
        · replace h := ot c12 h
          refine lv_iload hx hb dX4_loads_42 (lv_at hl 5 rfl) ?_
          refine lv_bipush (v := 10) hx hb dX4_loads_44 (by decide) ?_
          refine lv_bipush (v := 14) hx hb dX4_loads_46 (by decide) ?_
          obtain ⟨r20, hg19, h⟩ := ob h
          refine cSi X (hml.trans hl.1.symm) Y (c_fX4_within l D g (WM g ad (up2 σ 0 0 0)) v5 10 14 hg19) (gs_X4_55 _) rfl fd_X4_within ⟨Nat.le_of_ble_eq_true rfl, Nat.le_of_ble_eq_true rfl⟩ ⟨Nat.le_of_ble_eq_true rfl, Nat.le_of_ble_eq_true rfl⟩ (rest := []) rfl (Nat.le_of_ble_eq_true rfl) dX4_loads_48 (fun H locs Y => ?_)
          refine lv_if_ne (tgt := 57) hx hb dX4_loads_51 (by decide) (fun c21 => ?_) (fun c21 => ?_)
          · replace h := oe c21 h
            refine lv_aload_n hx hb dX4_loads_57 rfl (lv_at hl 0 rfl) ?_
            refine lv_iload_n hx hb dX4_loads_58 rfl (lv_at hl 1 rfl) ?_
            refine lv_iload_n hx hb dX4_loads_59 rfl (lv_at hl 2 rfl) ?_
            refine lv_iload_n hx hb dX4_loads_60 rfl (lv_at hl 3 rfl) ?_
            refine lv_iload hx hb dX4_loads_61 (lv_at hl 4 rfl) ?_
            obtain ⟨r23, hg22, h⟩ := ob h
            refine cVi X (hml.trans hl.1.symm) Y (c_fX4_against l D g ad (up2 σ 0 0 0) v1 v2 v3 v4 hg22) (lkM g ad (up2 σ 0 0 0)) rfl (gs_X4_72 _) rfl fd_X4_against ⟨Nat.le_of_ble_eq_true rfl, Nat.le_of_ble_eq_true rfl⟩ ⟨Nat.le_of_ble_eq_true rfl, Nat.le_of_ble_eq_true rfl⟩ (rest := []) rfl (Nat.le_of_ble_eq_true rfl) dX4_loads_63 (fun H locs Y => ?_)
            refine lv_istore (lv' := [(6, .int r23), (0, .ref (ad 0)), (1, .int v1), (2, .int v2), (3, .int v3), (4, .int v4), (5, .int v5)]) hx hb dX4_loads_66 hl (by decide) rfl (fun ls hl => ?_)
            refine lv_iload hx hb dX4_loads_68 (lv_at hl 0 rfl) ?_
            refine lv_if_eq (tgt := 80) hx hb dX4_loads_70 (by decide) (fun c24 => ?_) (fun c24 => ?_)
            · replace h := ot c24 h
              refine lv_aload_n hx hb dX4_loads_80 rfl (lv_at hl 1 rfl) ?_
              refine rgM X Y 5 (v := .int ((up2 σ 0 0 0) 0 5)) tw_474 rfl dX4_loads_81 ?_
              refine lv_if_ne (tgt := 90) hx hb dX4_loads_84 (by decide) (fun c25 => ?_) (fun c25 => ?_)
              · replace h := oe c25 h
                refine lv_bipush (v := 60) hx hb dX4_loads_90 (by decide) ?_
                refine lv_iload_n hx hb dX4_loads_92 rfl (lv_at hl 2 rfl) ?_
                refine lv_imul hx hb dX4_loads_93 ?_
                refine lv_iload_n hx hb dX4_loads_94 rfl (lv_at hl 4 rfl) ?_
                refine lv_iadd hx hb dX4_loads_95 ?_
                refine lv_istore (lv' := [(7, .int (((60 : Int32) * v1) + v3)), (6, .int r23), (0, .ref (ad 0)), (1, .int v1), (2, .int v2), (3, .int v3), (4, .int v4), (5, .int v5)]) hx hb dX4_loads_96 hl (by decide) rfl (fun ls hl => ?_)
                refine lv_iconst (v := 0) hx hb dX4_loads_98 (by decide) ?_
                refine lv_istore (lv' := [(8, .int 0), (7, .int (((60 : Int32) * v1) + v3)), (6, .int r23), (0, .ref (ad 0)), (1, .int v1), (2, .int v2), (3, .int v3), (4, .int v4), (5, .int v5)]) hx hb dX4_loads_99 hl (by decide) rfl (fun ls hl => ?_)
                exact w_fX4_loads_L101 X hr hlk hml n (up2 σ 0 0 0) v4 v5 (((60 : Int32) * v1) + v3) 0 _ _ _ Y (lv_sub hl [3, 7, 8, 1, 0] rfl) h
              · replace h := ot c25 h
                refine lv_bipush (v := (-3)) hx hb dX4_loads_87 (by decide) ?_
                obtain ⟨rfl, rfl⟩ := os2 h
                exact retI X Y hr hlk dX4_loads_89
            · replace h := oe c24 h
              refine lv_aload_n hx hb dX4_loads_73 rfl (lv_at hl 1 rfl) ?_
              refine lv_iload hx hb dX4_loads_74 (lv_at hl 0 rfl) ?_
              obtain ⟨r27, σ27, hg26, h⟩ := ob2 h
              refine cVi X (hml.trans hl.1.symm) Y (c_fX4_fails l D g ad (up2 σ 0 0 0) r23 hg26) (lkM g ad (up2 σ 0 0 0)) rfl (gs_X4_76 _) rfl fd_X4_fails ⟨Nat.le_of_ble_eq_true rfl, Nat.le_of_ble_eq_true rfl⟩ ⟨Nat.le_of_ble_eq_true rfl, Nat.le_of_ble_eq_true rfl⟩ (rest := []) rfl (Nat.le_of_ble_eq_true rfl) dX4_loads_76 (fun H locs Y => ?_)
              obtain ⟨rfl, rfl⟩ := os2 h
              exact retI X Y hr hlk dX4_loads_79
          · replace h := ot c21 h
            refine lv_bipush (v := (-2)) hx hb dX4_loads_54 (by decide) ?_
            obtain ⟨rfl, rfl⟩ := os2 h
            exact retI X Y hr hlk dX4_loads_56
  · replace h := ot c3 h
    refine lv_iconst (v := (-1)) hx hb dX4_loads_12 (by decide) ?_
    obtain ⟨rfl, rfl⟩ := os2 h
    exact retI X Y hr hlk dX4_loads_13
set_option maxHeartbeats 4000000 in
set_option maxRecDepth 100000 in
theorem w_fX4_findFewest_G9 {p : Program} {l : Launch} {e : Env} {s : State} {m : MethodId} {args : Array Value} {below : List Frame} {meth : Method} {c : Code} {D : va_G} {g : Nat → ClassId} {ad : Nat → Nat} {A : Nat → Prop} {σ0 : St} (X : Cx p s m c args cX4_findFewest RX4 kX4_findFewest D g) (hr : meth.sig.returnType = none) (hlk : meth.locks = false) (hml : c.maxLocals = 4) : ∀ n : Nat, (∀ (σ : St) (v1 : Int32) (H : Heap) (locs : List Loc) (ls : Array Slot), Hp D A s.heap H locs (WM g ad σ) → lv_has ls 4 [(0, .ref (ad 0)), (1, .int v1)] → fX4_findFewest_G9 n 0 σ v1 0 = some σ0 → W p l e (RM 4 94) s m args below meth c H locs 0 0 (MQ below (QV D g A (WM g ad σ0)) args s 0 0 A) (F0 m 9 ls [])) ∧ (∀ (σ : St) (v1 : Int32) (v2 : Int32) (H : Heap) (locs : List Loc) (ls : Array Slot), Hp D A s.heap H locs (WM g ad σ) → lv_has ls 4 [(0, .ref (ad 0)), (1, .int v1), (2, .int v2)] → fX4_findFewest_G9 n 1 σ v1 v2 = some σ0 → W p l e (RM 4 94) s m args below meth c H locs 0 0 (MQ below (QV D g A (WM g ad σ0)) args s 0 0 A) (F0 m 29 ls [])) := by
  have hx := X.1
  have hb := X.2.1
  intro n
  induction n with
  | zero => refine ⟨?_, ?_⟩
            · intro σ v1 H locs ls Y hl h; cases (show none = _ from h)
            · intro σ v1 v2 H locs ls Y hl h; cases (show none = _ from h)
  | succ n ih =>
    refine ⟨?_, ?_⟩
    · intro σ v1 H locs ls Y hl h
      rw [fX4_findFewest_G9] at h
      replace h := ot rfl h
      refine lv_iload_n hx hb dX4_findFewest_9 rfl (lv_at hl 1 rfl) ?_
      refine lv_iconst (v := 1) hx hb dX4_findFewest_10 (by decide) ?_
      refine lv_aload_n hx hb dX4_findFewest_11 rfl (lv_at hl 0 rfl) ?_
      refine rgM X Y 5 (v := .int (σ 0 5)) tw_474 rfl dX4_findFewest_12 ?_
      refine lv_ishl hx hb dX4_findFewest_15 ?_
      refine lv_icmp_ge (tgt := 111) hx hb dX4_findFewest_16 (by decide) (fun c2 => ?_) (fun c2 => ?_)
      · replace h := ot c2 h
        obtain rfl := os1 h
        exact retV X Y hr hlk dX4_findFewest_111
      · replace h := oe c2 h
        refine lv_aload_n hx hb dX4_findFewest_19 rfl (lv_at hl 0 rfl) ?_
        refine rgM X Y 25 (v := .ref (ad 11)) tw_494 rfl dX4_findFewest_20 ?_
        refine lv_iload_n hx hb dX4_findFewest_23 rfl (lv_at hl 1 rfl) ?_
        refine lv_bipush (v := (-9)) hx hb dX4_findFewest_24 (by decide) ?_
        obtain ⟨hg3, h⟩ := og h
        refine ris X Y (W1 := WM g ad (up2 σ 11 v1.toNatClampNeg (-9))) (lkM_11 g ad σ) hg3 (stM_A11 g ad σ _) dX4_findFewest_26 (fun H locs Y => ?_)
        refine lv_iconst (v := 1) hx hb dX4_findFewest_27 (by decide) ?_
        refine lv_istore_n (lv' := [(2, .int 1), (0, .ref (ad 0)), (1, .int v1)]) hx hb dX4_findFewest_28 rfl hl (by decide) rfl (fun ls hl => ?_)
        exact ih.2 (up2 σ 11 v1.toNatClampNeg (-9)) v1 1 _ _ _ Y (lv_sub hl [1, 2, 0] rfl) h
    · intro σ v1 v2 H locs ls Y hl h
      rw [fX4_findFewest_G9] at h
      replace h := oe (by decide) h
      refine lv_iload_n hx hb dX4_findFewest_29 rfl (lv_at hl 2 rfl) ?_
      refine lv_iload_n hx hb dX4_findFewest_30 rfl (lv_at hl 1 rfl) ?_
      refine lv_icmp_gt (tgt := 105) hx hb dX4_findFewest_31 (by decide) (fun c4 => ?_) (fun c4 => ?_)
      · replace h := ot c4 h
        refine lv_iinc (v := v1 + 1) (lv' := [(1, .int (v1 + 1)), (0, .ref (ad 0)), (2, .int v2)]) hx hb dX4_findFewest_105 hl (k := 1) rfl rfl (by decide) rfl (fun ls hl => ?_)
        refine lv_goto (tgt := 9) hx hb dX4_findFewest_108 (by decide) ?_
        exact ih.1 σ (v1 + 1) _ _ _ Y (lv_sub hl [1, 0] rfl) h
      · replace h := oe c4 h
        refine lv_iload_n hx hb dX4_findFewest_34 rfl (lv_at hl 2 rfl) ?_
        refine lv_iload_n hx hb dX4_findFewest_35 rfl (lv_at hl 1 rfl) ?_
        refine lv_iconst (v := (-1)) hx hb dX4_findFewest_36 (by decide) ?_
        refine lv_ixor hx hb dX4_findFewest_37 ?_
        refine lv_iand hx hb dX4_findFewest_38 ?_
        refine lv_if_ne (tgt := 99) hx hb dX4_findFewest_39 (by decide) (fun c5 => ?_) (fun c5 => ?_)
        · replace h := oe c5 h
          refine lv_iinc (v := v2 + 1) (lv' := [(2, .int (v2 + 1)), (0, .ref (ad 0)), (1, .int v1)]) hx hb dX4_findFewest_99 hl (k := 2) rfl rfl (by decide) rfl (fun ls hl => ?_)
          refine lv_goto (tgt := 29) hx hb dX4_findFewest_102 (by decide) ?_
          exact ih.2 σ v1 (v2 + 1) _ _ _ Y (lv_sub hl [1, 2, 0] rfl) h
        · replace h := ot c5 h
          refine lv_aload_n hx hb dX4_findFewest_42 rfl (lv_at hl 0 rfl) ?_
          refine lv_iload_n hx hb dX4_findFewest_43 rfl (lv_at hl 2 rfl) ?_
          obtain ⟨r7, hg6, h⟩ := ob h
          refine cVi X (hml.trans hl.1.symm) Y (c_fX4_isFair l D g ad σ n v2 hg6) (lkM g ad σ) rfl (gs_X4_146 _) rfl fd_X4_isFair ⟨Nat.le_of_ble_eq_true rfl, Nat.le_of_ble_eq_true rfl⟩ ⟨Nat.le_of_ble_eq_true rfl, Nat.le_of_ble_eq_true rfl⟩ (rest := []) rfl (Nat.le_of_ble_eq_true rfl) dX4_findFewest_44 (fun H locs Y => ?_)
          refine lv_if_eq (tgt := 99) hx hb dX4_findFewest_47 (by decide) (fun c8 => ?_) (fun c8 => ?_)
          · replace h := ot c8 h
            refine lv_iinc (v := v2 + 1) (lv' := [(2, .int (v2 + 1)), (0, .ref (ad 0)), (1, .int v1)]) hx hb dX4_findFewest_99 hl (k := 2) rfl rfl (by decide) rfl (fun ls hl => ?_)
            refine lv_goto (tgt := 29) hx hb dX4_findFewest_102 (by decide) ?_
            exact ih.2 σ v1 (v2 + 1) _ _ _ Y (lv_sub hl [1, 2, 0] rfl) h
          · replace h := oe c8 h
            refine lv_aload_n hx hb dX4_findFewest_50 rfl (lv_at hl 0 rfl) ?_
            refine rgM X Y 25 (v := .ref (ad 11)) tw_494 rfl dX4_findFewest_51 ?_
            refine lv_iload_n hx hb dX4_findFewest_54 rfl (lv_at hl 1 rfl) ?_
            refine lv_iload_n hx hb dX4_findFewest_55 rfl (lv_at hl 2 rfl) ?_
            refine lv_iconst (v := (-1)) hx hb dX4_findFewest_56 (by decide) ?_
            refine lv_ixor hx hb dX4_findFewest_57 ?_
            refine lv_iand hx hb dX4_findFewest_58 ?_
            obtain ⟨hg9, h⟩ := og h
            refine ri X Y (lkM_11 g ad σ) hg9 dX4_findFewest_59 ?_
            refine lv_istore_n (lv' := [(3, .int (σ 11 (v1 &&& (v2 ^^^ (-1))).toNatClampNeg)), (0, .ref (ad 0)), (1, .int v1), (2, .int v2)]) hx hb dX4_findFewest_60 rfl hl (by decide) rfl (fun ls hl => ?_)
            refine lv_iload_n hx hb dX4_findFewest_61 rfl (lv_at hl 0 rfl) ?_
            refine lv_bipush (v := (-9)) hx hb dX4_findFewest_62 (by decide) ?_
            refine lv_icmp_eq (tgt := 99) hx hb dX4_findFewest_64 (by decide) (fun c10 => ?_) (fun c10 => ?_)
            · replace h := ot c10 h
              refine lv_iinc (v := v2 + 1) (lv' := [(2, .int (v2 + 1)), (3, .int (σ 11 (v1 &&& (v2 ^^^ (-1))).toNatClampNeg)), (0, .ref (ad 0)), (1, .int v1)]) hx hb dX4_findFewest_99 hl (k := 3) rfl rfl (by decide) rfl (fun ls hl => ?_)
              refine lv_goto (tgt := 29) hx hb dX4_findFewest_102 (by decide) ?_
              exact ih.2 σ v1 (v2 + 1) _ _ _ Y (lv_sub hl [2, 3, 0] rfl) h
            · replace h := oe c10 h
              refine lv_aload_n hx hb dX4_findFewest_67 rfl (lv_at hl 1 rfl) ?_
              refine rgM X Y 25 (v := .ref (ad 11)) tw_494 rfl dX4_findFewest_68 ?_
              refine lv_iload_n hx hb dX4_findFewest_71 rfl (lv_at hl 2 rfl) ?_
              obtain ⟨hg11, h⟩ := og h
              refine ri X Y (lkM_11 g ad σ) hg11 dX4_findFewest_72 ?_
              refine lv_bipush (v := (-9)) hx hb dX4_findFewest_73 (by decide) ?_
              refine lv_icmp_eq (tgt := 90) hx hb dX4_findFewest_75 (by decide) (fun c12 => ?_) (fun c12 => ?_)
              · replace h := ot c12 h
                refine lv_aload_n hx hb dX4_findFewest_90 rfl (lv_at hl 1 rfl) ?_
                refine rgM X Y 25 (v := .ref (ad 11)) tw_494 rfl dX4_findFewest_91 ?_
                refine lv_iload_n hx hb dX4_findFewest_94 rfl (lv_at hl 2 rfl) ?_
                refine lv_iload_n hx hb dX4_findFewest_95 rfl (lv_at hl 0 rfl) ?_
                refine lv_iconst (v := 1) hx hb dX4_findFewest_96 (by decide) ?_
                refine lv_iadd hx hb dX4_findFewest_97 ?_
                obtain ⟨hg13, h⟩ := og h
                refine ris X Y (W1 := WM g ad (up2 σ 11 v1.toNatClampNeg ((σ 11 (v1 &&& (v2 ^^^ (-1))).toNatClampNeg) + 1))) (lkM_11 g ad σ) hg13 (stM_A11 g ad σ _) dX4_findFewest_98 (fun H locs Y => ?_)
                refine lv_iinc (v := v2 + 1) (lv' := [(2, .int (v2 + 1)), (3, .int (σ 11 (v1 &&& (v2 ^^^ (-1))).toNatClampNeg)), (0, .ref (ad 0)), (1, .int v1)]) hx hb dX4_findFewest_99 hl (k := 3) rfl rfl (by decide) rfl (fun ls hl => ?_)
                refine lv_goto (tgt := 29) hx hb dX4_findFewest_102 (by decide) ?_
                exact ih.2 (up2 σ 11 v1.toNatClampNeg ((σ 11 (v1 &&& (v2 ^^^ (-1))).toNatClampNeg) + 1)) v1 (v2 + 1) _ _ _ Y (lv_sub hl [2, 3, 0] rfl) h
              · replace h := oe c12 h
                refine lv_iload_n hx hb dX4_findFewest_78 rfl (lv_at hl 0 rfl) ?_
                refine lv_iconst (v := 1) hx hb dX4_findFewest_79 (by decide) ?_
                refine lv_iadd hx hb dX4_findFewest_80 ?_
                refine lv_aload_n hx hb dX4_findFewest_81 rfl (lv_at hl 1 rfl) ?_
                refine rgM X Y 25 (v := .ref (ad 11)) tw_494 rfl dX4_findFewest_82 ?_
                refine lv_iload_n hx hb dX4_findFewest_85 rfl (lv_at hl 2 rfl) ?_
                obtain ⟨hg14, h⟩ := og h
                refine ri X Y (lkM_11 g ad σ) hg14 dX4_findFewest_86 ?_
                refine lv_icmp_ge (tgt := 99) hx hb dX4_findFewest_87 (by decide) (fun c15 => ?_) (fun c15 => ?_)
                · replace h := ot c15 h
                  refine lv_iinc (v := v2 + 1) (lv' := [(2, .int (v2 + 1)), (3, .int (σ 11 (v1 &&& (v2 ^^^ (-1))).toNatClampNeg)), (0, .ref (ad 0)), (1, .int v1)]) hx hb dX4_findFewest_99 hl (k := 3) rfl rfl (by decide) rfl (fun ls hl => ?_)
                  refine lv_goto (tgt := 29) hx hb dX4_findFewest_102 (by decide) ?_
                  exact ih.2 σ v1 (v2 + 1) _ _ _ Y (lv_sub hl [2, 3, 0] rfl) h
                · replace h := oe c15 h
                  refine lv_aload_n hx hb dX4_findFewest_90 rfl (lv_at hl 1 rfl) ?_
                  refine rgM X Y 25 (v := .ref (ad 11)) tw_494 rfl dX4_findFewest_91 ?_
                  refine lv_iload_n hx hb dX4_findFewest_94 rfl (lv_at hl 2 rfl) ?_
                  refine lv_iload_n hx hb dX4_findFewest_95 rfl (lv_at hl 0 rfl) ?_
                  refine lv_iconst (v := 1) hx hb dX4_findFewest_96 (by decide) ?_
                  refine lv_iadd hx hb dX4_findFewest_97 ?_
                  obtain ⟨hg16, h⟩ := og h
                  refine ris X Y (W1 := WM g ad (up2 σ 11 v1.toNatClampNeg ((σ 11 (v1 &&& (v2 ^^^ (-1))).toNatClampNeg) + 1))) (lkM_11 g ad σ) hg16 (stM_A11 g ad σ _) dX4_findFewest_98 (fun H locs Y => ?_)
                  refine lv_iinc (v := v2 + 1) (lv' := [(2, .int (v2 + 1)), (3, .int (σ 11 (v1 &&& (v2 ^^^ (-1))).toNatClampNeg)), (0, .ref (ad 0)), (1, .int v1)]) hx hb dX4_findFewest_99 hl (k := 3) rfl rfl (by decide) rfl (fun ls hl => ?_)
                  refine lv_goto (tgt := 29) hx hb dX4_findFewest_102 (by decide) ?_
                  exact ih.2 (up2 σ 11 v1.toNatClampNeg ((σ 11 (v1 &&& (v2 ^^^ (-1))).toNatClampNeg) + 1)) v1 (v2 + 1) _ _ _ Y (lv_sub hl [2, 3, 0] rfl) h
set_option maxHeartbeats 4000000 in
set_option maxRecDepth 100000 in
theorem c_fX4_findFewest (l : Launch) (D : va_G) (g : Nat → ClassId) (ad : Nat → Nat) (σ : St) (n : Nat) {σ0 : St} (h : fX4_findFewest n σ = some σ0) : MV l yX4_findFewest kX4_findFewest 4 94 D g (WM g ad σ) (WM g ad σ0) [.ref (ad 0)] := by
  intro sz
  refine Met.of2 (Qc := fun A => QV D g A (WM g ad σ0)) (cc := cX4_findFewest) (maxL := 4) (ret := none) (own := RX4) (by decide) rfl rfl (Nat.le_of_ble_eq_true rfl) ?_
  intro p e s m below meth c A ls X hr hlk hml Y hl
  have hx := X.1
  have hb := X.2.1
  have hl : lv_has ls 4 [(0, .ref (ad 0))] := hl
  rw [fX4_findFewest] at h
  refine lv_aload_n hx hb dX4_findFewest_0 rfl (lv_at hl 0 rfl) ?_
  refine rgM X Y 25 (v := .ref (ad 11)) tw_494 rfl dX4_findFewest_1 ?_
  refine lv_iconst (v := 0) hx hb dX4_findFewest_4 (by decide) ?_
  refine lv_iconst (v := 0) hx hb dX4_findFewest_5 (by decide) ?_
  obtain ⟨hg1, h⟩ := og h
  refine ris X Y (W1 := WM g ad (up2 σ 11 ((0 : Int32).toNatClampNeg) 0)) (lkM_11 g ad σ) hg1 (stM_A11 g ad σ _) dX4_findFewest_6 (fun H locs Y => ?_)
  refine lv_iconst (v := 1) hx hb dX4_findFewest_7 (by decide) ?_
  refine lv_istore_n (lv' := [(1, .int 1), (0, .ref (ad 0))]) hx hb dX4_findFewest_8 rfl hl (by decide) rfl (fun ls hl => ?_)
  exact (w_fX4_findFewest_G9 X hr hlk hml n).1 (up2 σ 11 ((0 : Int32).toNatClampNeg) 0) 1 _ _ _ Y (lv_sub hl [1, 0] rfl) h
set_option maxHeartbeats 4000000 in
set_option maxRecDepth 100000 in
theorem w_fX4_firstLoad_L2 {p : Program} {l : Launch} {e : Env} {s : State} {m : MethodId} {args : Array Value} {below : List Frame} {meth : Method} {c : Code} {D : va_G} {g : Nat → ClassId} {ad : Nat → Nat} {A : Nat → Prop} {r0 : Int32} (X : Cx p s m c args cX4_firstLoad RX4 kX4_firstLoad D g) (hr : meth.sig.returnType = (some .int)) (hlk : meth.locks = false) (hml : c.maxLocals = 3) : ∀ (n : Nat), ∀ (σ : St) (v1 : Int32) (v2 : Int32) (H : Heap) (locs : List Loc) (ls : Array Slot), Hp D A s.heap H locs (WM g ad σ) → lv_has ls 3 [(0, .ref (ad 0)), (1, .int v1), (2, .int v2)] → fX4_firstLoad_L2 n σ v1 v2 = some r0 → W p l e (RM 4 94) s m args below meth c H locs 0 0 (MQ below (QI D g A (WM g ad σ) r0) args s 0 0 A) (F0 m 2 ls []) := by
  have hx := X.1
  have hb := X.2.1
  intro n
  induction n with
  | zero => intro σ v1 v2 H locs ls Y hl h; cases (show none = _ from h)
  | succ n ih =>
    intro σ v1 v2 H locs ls Y hl h
    rw [fX4_firstLoad_L2] at h
    refine lv_iload_n hx hb dX4_firstLoad_2 rfl (lv_at hl 2 rfl) ?_
    refine lv_iload_n hx hb dX4_firstLoad_3 rfl (lv_at hl 1 rfl) ?_
    refine lv_iconst (v := (-1)) hx hb dX4_firstLoad_4 (by decide) ?_
    refine lv_ixor hx hb dX4_firstLoad_5 ?_
    refine lv_iand hx hb dX4_firstLoad_6 ?_
    refine lv_if_ne (tgt := 39) hx hb dX4_firstLoad_7 (by decide) (fun c1 => ?_) (fun c1 => ?_)
    · replace h := oe c1 h
      refine lv_iinc (v := v2 + 1) (lv' := [(2, .int (v2 + 1)), (0, .ref (ad 0)), (1, .int v1)]) hx hb dX4_firstLoad_39 hl (k := 2) rfl rfl (by decide) rfl (fun ls hl => ?_)
      refine lv_goto (tgt := 2) hx hb dX4_firstLoad_42 (by decide) ?_
      exact ih σ v1 (v2 + 1) _ _ _ Y (lv_sub hl [1, 2, 0] rfl) h
    · replace h := ot c1 h
      refine lv_aload_n hx hb dX4_firstLoad_10 rfl (lv_at hl 0 rfl) ?_
      refine lv_iload_n hx hb dX4_firstLoad_11 rfl (lv_at hl 2 rfl) ?_
      obtain ⟨r3, hg2, h⟩ := ob h
      refine cVi X (hml.trans hl.1.symm) Y (c_fX4_isFair l D g ad σ n v2 hg2) (lkM g ad σ) rfl (gs_X4_146 _) rfl fd_X4_isFair ⟨Nat.le_of_ble_eq_true rfl, Nat.le_of_ble_eq_true rfl⟩ ⟨Nat.le_of_ble_eq_true rfl, Nat.le_of_ble_eq_true rfl⟩ (rest := []) rfl (Nat.le_of_ble_eq_true rfl) dX4_firstLoad_12 (fun H locs Y => ?_)
      refine lv_if_eq (tgt := 39) hx hb dX4_firstLoad_15 (by decide) (fun c4 => ?_) (fun c4 => ?_)
      · replace h := ot c4 h
        refine lv_iinc (v := v2 + 1) (lv' := [(2, .int (v2 + 1)), (0, .ref (ad 0)), (1, .int v1)]) hx hb dX4_firstLoad_39 hl (k := 2) rfl rfl (by decide) rfl (fun ls hl => ?_)
        refine lv_goto (tgt := 2) hx hb dX4_firstLoad_42 (by decide) ?_
        exact ih σ v1 (v2 + 1) _ _ _ Y (lv_sub hl [1, 2, 0] rfl) h
      · replace h := oe c4 h
        refine lv_aload_n hx hb dX4_firstLoad_18 rfl (lv_at hl 0 rfl) ?_
        refine rgM X Y 25 (v := .ref (ad 11)) tw_494 rfl dX4_firstLoad_19 ?_
        refine lv_iload_n hx hb dX4_firstLoad_22 rfl (lv_at hl 1 rfl) ?_
        refine lv_iload_n hx hb dX4_firstLoad_23 rfl (lv_at hl 2 rfl) ?_
        refine lv_iconst (v := (-1)) hx hb dX4_firstLoad_24 (by decide) ?_
        refine lv_ixor hx hb dX4_firstLoad_25 ?_
        refine lv_iand hx hb dX4_firstLoad_26 ?_
        obtain ⟨hg5, h⟩ := og h
        refine ri X Y (lkM_11 g ad σ) hg5 dX4_firstLoad_27 ?_
        refine lv_aload_n hx hb dX4_firstLoad_28 rfl (lv_at hl 0 rfl) ?_
        refine rgM X Y 25 (v := .ref (ad 11)) tw_494 rfl dX4_firstLoad_29 ?_
        refine lv_iload_n hx hb dX4_firstLoad_32 rfl (lv_at hl 1 rfl) ?_
        obtain ⟨hg6, h⟩ := og h
        refine ri X Y (lkM_11 g ad σ) hg6 dX4_firstLoad_33 ?_
        refine lv_iconst (v := 1) hx hb dX4_firstLoad_34 (by decide) ?_
        refine lv_isub hx hb dX4_firstLoad_35 ?_
        refine lv_icmp_eq (tgt := 45) hx hb dX4_firstLoad_36 (by decide) (fun c7 => ?_) (fun c7 => ?_)
        · replace h := ot c7 h
          refine lv_iload_n hx hb dX4_firstLoad_45 rfl (lv_at hl 2 rfl) ?_
          obtain rfl := os1 h
          exact retI X Y hr hlk dX4_firstLoad_46
        · replace h := oe c7 h
          refine lv_iinc (v := v2 + 1) (lv' := [(2, .int (v2 + 1)), (0, .ref (ad 0)), (1, .int v1)]) hx hb dX4_firstLoad_39 hl (k := 2) rfl rfl (by decide) rfl (fun ls hl => ?_)
          refine lv_goto (tgt := 2) hx hb dX4_firstLoad_42 (by decide) ?_
          exact ih σ v1 (v2 + 1) _ _ _ Y (lv_sub hl [1, 2, 0] rfl) h
set_option maxHeartbeats 4000000 in
set_option maxRecDepth 100000 in
theorem c_fX4_firstLoad (l : Launch) (D : va_G) (g : Nat → ClassId) (ad : Nat → Nat) (σ : St) (n : Nat) (v1 : Int32) {r0 : Int32} (h : fX4_firstLoad n σ v1 = some r0) : MI l yX4_firstLoad kX4_firstLoad 4 94 D g (WM g ad σ) (WM g ad σ) [.ref (ad 0), .int v1] r0 := by
  intro sz
  refine Met.of2 (Qc := fun A => QI D g A (WM g ad σ) r0) (cc := cX4_firstLoad) (maxL := 3) (ret := (some .int)) (own := RX4) (by decide) rfl rfl (Nat.le_of_ble_eq_true rfl) ?_
  intro p e s m below meth c A ls X hr hlk hml Y hl
  have hx := X.1
  have hb := X.2.1
  have hl : lv_has ls 3 [(0, .ref (ad 0)), (1, .int v1)] := hl
  rw [fX4_firstLoad] at h
  refine lv_iconst (v := 1) hx hb dX4_firstLoad_0 (by decide) ?_
  refine lv_istore_n (lv' := [(2, .int 1), (0, .ref (ad 0)), (1, .int v1)]) hx hb dX4_firstLoad_1 rfl hl (by decide) rfl (fun ls hl => ?_)
  exact w_fX4_firstLoad_L2 X hr hlk hml n σ v1 1 _ _ _ Y (lv_sub hl [1, 2, 0] rfl) h
set_option maxHeartbeats 4000000 in
set_option maxRecDepth 100000 in
theorem w_fX4_cross_L65 {p : Program} {l : Launch} {e : Env} {s : State} {m : MethodId} {args : Array Value} {below : List Frame} {meth : Method} {c : Code} {D : va_G} {g : Nat → ClassId} {ad : Nat → Nat} {A : Nat → Prop} {r0 : Int32} {σ0 : St} (X : Cx p s m c args cX4_cross RX4 kX4_cross D g) (hr : meth.sig.returnType = (some .int)) (hlk : meth.locks = false) (hml : c.maxLocals = 5) : ∀ (n : Nat), ∀ (σ : St) (v1 : Int32) (v2 : Int32) (v3 : Int32) (v4 : Int32) (H : Heap) (locs : List Loc) (ls : Array Slot), Hp D A s.heap H locs (WM g ad σ) → lv_has ls 5 [(0, .ref (ad 0)), (1, .int v1), (2, .int v2), (3, .int v3), (4, .int v4)] → fX4_cross_L65 n σ v1 v2 v3 v4 = some (r0, σ0) → W p l e (RM 5 117) s m args below meth c H locs 0 0 (MQ below (QI D g A (WM g ad σ0) r0) args s 0 0 A) (F0 m 65 ls []) := by
  have hx := X.1
  have hb := X.2.1
  intro n
  induction n with
  | zero => intro σ v1 v2 v3 v4 H locs ls Y hl h; cases (show none = _ from h)
  | succ n ih =>
    intro σ v1 v2 v3 v4 H locs ls Y hl h
    rw [fX4_cross_L65] at h
    refine lv_iload hx hb dX4_cross_65 (lv_at hl 4 rfl) ?_
    refine lv_iload_n hx hb dX4_cross_67 rfl (lv_at hl 1 rfl) ?_
    refine lv_icmp_gt (tgt := 89) hx hb dX4_cross_68 (by decide) (fun c11 => ?_) (fun c11 => ?_)
    · replace h := ot c11 h
      refine lv_iload_n hx hb dX4_cross_89 rfl (lv_at hl 3 rfl) ?_
      obtain ⟨rfl, rfl⟩ := os2 h
      exact retI X Y hr hlk dX4_cross_90
    · replace h := oe c11 h
      refine lv_aload_n hx hb dX4_cross_71 rfl (lv_at hl 0 rfl) ?_
      refine lv_iload_n hx hb dX4_cross_72 rfl (lv_at hl 2 rfl) ?_
      obtain ⟨r13, hg12, h⟩ := ob h
      refine cVi X (hml.trans hl.1.symm) Y (c_fX4_firstLoad l D g ad σ n v2 hg12) (lkM g ad σ) rfl (gs_X4_170 _) rfl fd_X4_firstLoad ⟨Nat.le_of_ble_eq_true rfl, Nat.le_of_ble_eq_true rfl⟩ ⟨Nat.le_of_ble_eq_true rfl, Nat.le_of_ble_eq_true rfl⟩ (rest := []) rfl (Nat.le_of_ble_eq_true rfl) dX4_cross_73 (fun H locs Y => ?_)
      refine lv_istore_n (lv' := [(3, .int r13), (0, .ref (ad 0)), (1, .int v1), (2, .int v2), (4, .int v4)]) hx hb dX4_cross_76 rfl hl (by decide) rfl (fun ls hl => ?_)
      refine lv_iload_n hx hb dX4_cross_77 rfl (lv_at hl 3 rfl) ?_
      refine lv_iload_n hx hb dX4_cross_78 rfl (lv_at hl 0 rfl) ?_
      refine lv_iconst (v := (-1)) hx hb dX4_cross_79 (by decide) ?_
      refine lv_ixor hx hb dX4_cross_80 ?_
      refine lv_iand hx hb dX4_cross_81 ?_
      refine lv_istore_n (lv' := [(2, .int (v2 &&& (r13 ^^^ (-1)))), (3, .int r13), (0, .ref (ad 0)), (1, .int v1), (4, .int v4)]) hx hb dX4_cross_82 rfl hl (by decide) rfl (fun ls hl => ?_)
      refine lv_iinc (v := v4 + 1) (lv' := [(4, .int (v4 + 1)), (2, .int (v2 &&& (r13 ^^^ (-1)))), (3, .int r13), (0, .ref (ad 0)), (1, .int v1)]) hx hb dX4_cross_83 hl (k := 4) rfl rfl (by decide) rfl (fun ls hl => ?_)
      refine lv_goto (tgt := 65) hx hb dX4_cross_86 (by decide) ?_
      exact ih σ v1 (v2 &&& (r13 ^^^ (-1))) r13 (v4 + 1) _ _ _ Y (lv_sub hl [3, 4, 1, 2, 0] rfl) h
set_option maxHeartbeats 4000000 in
set_option maxRecDepth 100000 in
theorem c_fX4_cross (l : Launch) (D : va_G) (g : Nat → ClassId) (ad : Nat → Nat) (σ : St) (n : Nat) (v1 : Int32) {r0 : Int32} {σ0 : St} (h : fX4_cross n σ v1 = some (r0, σ0)) : MI l yX4_cross kX4_cross 5 117 D g (WM g ad σ) (WM g ad σ0) [.ref (ad 0), .int v1] r0 := by
  intro sz
  refine Met.of2 (Qc := fun A => QI D g A (WM g ad σ0) r0) (cc := cX4_cross) (maxL := 5) (ret := (some .int)) (own := RX4) (by decide) rfl rfl (Nat.le_of_ble_eq_true rfl) ?_
  intro p e s m below meth c A ls X hr hlk hml Y hl
  have hx := X.1
  have hb := X.2.1
  have hl : lv_has ls 5 [(0, .ref (ad 0)), (1, .int v1)] := hl
  rw [fX4_cross] at h
  refine lv_aload_n hx hb dX4_cross_0 rfl (lv_at hl 0 rfl) ?_
  refine rgM X Y 5 (v := .int (σ 0 5)) tw_474 rfl dX4_cross_1 ?_
  refine lv_if_ne (tgt := 10) hx hb dX4_cross_4 (by decide) (fun c1 => ?_) (fun c1 => ?_)
  · replace h := oe c1 h
    refine lv_iload_n hx hb dX4_cross_10 rfl (lv_at hl 1 rfl) ?_
    refine lv_iconst (v := (-1)) hx hb dX4_cross_11 (by decide) ?_
    refine lv_iconst (v := 4) hx hb dX4_cross_12 (by decide) ?_
    obtain ⟨r3, hg2, h⟩ := ob h
    refine cSi X (hml.trans hl.1.symm) Y (c_fX4_within l D g (WM g ad σ) v1 (-1) 4 hg2) (gs_X4_55 _) rfl fd_X4_within ⟨Nat.le_of_ble_eq_true rfl, Nat.le_of_ble_eq_true rfl⟩ ⟨Nat.le_of_ble_eq_true rfl, Nat.le_of_ble_eq_true rfl⟩ (rest := []) rfl (Nat.le_of_ble_eq_true rfl) dX4_cross_13 (fun H locs Y => ?_)
    refine lv_if_ne (tgt := 22) hx hb dX4_cross_16 (by decide) (fun c4 => ?_) (fun c4 => ?_)
    · replace h := oe c4 h
      refine lv_aload_n hx hb dX4_cross_22 rfl (lv_at hl 0 rfl) ?_
      obtain ⟨σ6, hg5, h⟩ := ob h
      refine cVv X (hml.trans hl.1.symm) Y (c_fX4_findFewest l D g ad σ n hg5) (lkM g ad σ) rfl (gs_X4_167 _) rfl fd_X4_findFewest ⟨Nat.le_of_ble_eq_true rfl, Nat.le_of_ble_eq_true rfl⟩ ⟨Nat.le_of_ble_eq_true rfl, Nat.le_of_ble_eq_true rfl⟩ (rest := []) rfl (Nat.le_of_ble_eq_true rfl) dX4_cross_23 (fun H locs Y => ?_)
      refine lv_iconst (v := 1) hx hb dX4_cross_26 (by decide) ?_
      refine lv_aload_n hx hb dX4_cross_27 rfl (lv_at hl 0 rfl) ?_
      refine rgM X Y 5 (v := .int (σ6 0 5)) tw_474 rfl dX4_cross_28 ?_
      refine lv_ishl hx hb dX4_cross_31 ?_
      refine lv_iconst (v := 1) hx hb dX4_cross_32 (by decide) ?_
      refine lv_isub hx hb dX4_cross_33 ?_
      refine lv_istore_n (lv' := [(2, .int (((1 : Int32) <<< ((σ6 0 5) &&& 31)) - 1)), (0, .ref (ad 0)), (1, .int v1)]) hx hb dX4_cross_34 rfl hl (by decide) rfl (fun ls hl => ?_)
      refine lv_iload_n hx hb dX4_cross_35 rfl (lv_at hl 2 rfl) ?_
      refine lv_iconst (v := (-1)) hx hb dX4_cross_36 (by decide) ?_
      refine lv_icmp_ne (tgt := 47) hx hb dX4_cross_37 (by decide) (fun c7 => ?_) (fun c7 => ?_)
      · replace h := oe c7 h
        refine lv_iload_n hx hb dX4_cross_47 rfl (lv_at hl 2 rfl) ?_
        refine lv_aload_n hx hb dX4_cross_48 rfl (lv_at hl 1 rfl) ?_
        refine rgM X Y 25 (v := .ref (ad 11)) tw_494 rfl dX4_cross_49 ?_
        refine lv_iload_n hx hb dX4_cross_52 rfl (lv_at hl 0 rfl) ?_
        obtain ⟨hg8, h⟩ := og h
        refine ri X Y (lkM_11 g ad σ6) hg8 dX4_cross_53 ?_
        refine lv_icmp_lt (tgt := 60) hx hb dX4_cross_54 (by decide) (fun c9 => ?_) (fun c9 => ?_)
        · replace h := ot c9 h
          refine lv_iconst (v := 0) hx hb dX4_cross_60 (by decide) ?_
          refine lv_istore_n (lv' := [(3, .int 0), (2, .int (((1 : Int32) <<< ((σ6 0 5) &&& 31)) - 1)), (0, .ref (ad 0)), (1, .int v1)]) hx hb dX4_cross_61 rfl hl (by decide) rfl (fun ls hl => ?_)
          refine lv_iconst (v := 0) hx hb dX4_cross_62 (by decide) ?_
          refine lv_istore (lv' := [(4, .int 0), (3, .int 0), (2, .int (((1 : Int32) <<< ((σ6 0 5) &&& 31)) - 1)), (0, .ref (ad 0)), (1, .int v1)]) hx hb dX4_cross_63 hl (by decide) rfl (fun ls hl => ?_)
          exact w_fX4_cross_L65 X hr hlk hml n σ6 v1 (((1 : Int32) <<< ((σ6 0 5) &&& 31)) - 1) 0 0 _ _ _ Y (lv_sub hl [3, 4, 2, 1, 0] rfl) h
        · replace h := oe c9 h
          refine lv_bipush (v := (-9)) hx hb dX4_cross_57 (by decide) ?_
          obtain ⟨rfl, rfl⟩ := os2 h
          exact retI X Y hr hlk dX4_cross_59
      · replace h := ot c7 h
        refine lv_aload_n hx hb dX4_cross_40 rfl (lv_at hl 1 rfl) ?_
        refine rgM X Y 25 (v := .ref (ad 11)) tw_494 rfl dX4_cross_41 ?_
        refine lv_iload_n hx hb dX4_cross_44 rfl (lv_at hl 0 rfl) ?_
        obtain ⟨hg10, h⟩ := og h
        refine ri X Y (lkM_11 g ad σ6) hg10 dX4_cross_45 ?_
        obtain ⟨rfl, rfl⟩ := os2 h
        exact retI X Y hr hlk dX4_cross_46
    · replace h := ot c4 h
      refine lv_bipush (v := (-2)) hx hb dX4_cross_19 (by decide) ?_
      obtain ⟨rfl, rfl⟩ := os2 h
      exact retI X Y hr hlk dX4_cross_21
  · replace h := ot c1 h
    refine lv_bipush (v := (-3)) hx hb dX4_cross_7 (by decide) ?_
    obtain ⟨rfl, rfl⟩ := os2 h
    exact retI X Y hr hlk dX4_cross_9
set_option maxHeartbeats 4000000 in
set_option maxRecDepth 100000 in
theorem c_fX4_pullsBy (l : Launch) (D : va_G) (g : Nat → ClassId) (ad : Nat → Nat) (σ : St) (n : Nat) (v1 : Int32) (v2 : Int32) (v3 : Int32) (v4 : Int32) {r0 : Int32} {σ0 : St} (h : fX4_pullsBy n σ v1 v2 v3 v4 = some (r0, σ0)) : MI l yX4_pullsBy kX4_pullsBy 3 71 D g (WM g ad σ) (WM g ad σ0) [.ref (ad 0), .int v1, .int v2, .int v3, .int v4] r0 := by
  intro sz
  refine Met.of2 (Qc := fun A => QI D g A (WM g ad σ0) r0) (cc := cX4_pullsBy) (maxL := 7) (ret := (some .boolean)) (own := RX4) (by decide) rfl rfl (Nat.le_of_ble_eq_true rfl) ?_
  intro p e s m below meth c A ls X hr hlk hml Y hl
  have hx := X.1
  have hb := X.2.1
  have hl : lv_has ls 7 [(0, .ref (ad 0)), (1, .int v1), (2, .int v2), (3, .int v3), (4, .int v4)] := hl
  rw [fX4_pullsBy] at h
  refine lv_aload_n hx hb dX4_pullsBy_0 rfl (lv_at hl 0 rfl) ?_
  refine rgM X Y 10 (v := .ref (ad 6)) tw_479 rfl dX4_pullsBy_1 ?_
  refine lv_iconst (v := 5) hx hb dX4_pullsBy_4 (by decide) ?_
  refine lv_iload_n hx hb dX4_pullsBy_5 rfl (lv_at hl 1 rfl) ?_
  refine lv_imul hx hb dX4_pullsBy_6 ?_
  refine lv_iload_n hx hb dX4_pullsBy_7 rfl (lv_at hl 2 rfl) ?_
  refine lv_iadd hx hb dX4_pullsBy_8 ?_
  obtain ⟨hg1, h⟩ := og h
  refine ri X Y (lkM_6 g ad σ) hg1 dX4_pullsBy_9 ?_
  refine lv_istore (lv' := [(5, .int (σ 6 (((5 : Int32) * v1) + v2).toNatClampNeg)), (0, .ref (ad 0)), (1, .int v1), (2, .int v2), (3, .int v3), (4, .int v4)]) hx hb dX4_pullsBy_10 hl (by decide) rfl (fun ls hl => ?_)
  refine lv_iload hx hb dX4_pullsBy_12 (lv_at hl 0 rfl) ?_
  refine lv_iload_n hx hb dX4_pullsBy_14 rfl (lv_at hl 4 rfl) ?_
  refine lv_iadd hx hb dX4_pullsBy_15 ?_
  refine lv_bipush (v := 9) hx hb dX4_pullsBy_16 (by decide) ?_
  refine lv_icmp_le (tgt := 23) hx hb dX4_pullsBy_18 (by decide) (fun c2 => ?_) (fun c2 => ?_)
  · replace h := ot c2 h
    refine lv_aload_n hx hb dX4_pullsBy_23 rfl (lv_at hl 1 rfl) ?_
    refine rgM X Y 10 (v := .ref (ad 6)) tw_479 rfl dX4_pullsBy_24 ?_
    refine lv_iconst (v := 5) hx hb dX4_pullsBy_27 (by decide) ?_
    refine lv_iload_n hx hb dX4_pullsBy_28 rfl (lv_at hl 2 rfl) ?_
    refine lv_imul hx hb dX4_pullsBy_29 ?_
    refine lv_iload_n hx hb dX4_pullsBy_30 rfl (lv_at hl 3 rfl) ?_
    refine lv_iadd hx hb dX4_pullsBy_31 ?_
    refine lv_iload hx hb dX4_pullsBy_32 (lv_at hl 0 rfl) ?_
    refine lv_iload_n hx hb dX4_pullsBy_34 rfl (lv_at hl 4 rfl) ?_
    refine lv_iadd hx hb dX4_pullsBy_35 ?_
    obtain ⟨hg3, h⟩ := og h
    refine ris X Y (W1 := WM g ad (up2 σ 6 ((((5 : Int32) * v1) + v2).toNatClampNeg) ((σ 6 (((5 : Int32) * v1) + v2).toNatClampNeg) + v3))) (lkM_6 g ad σ) hg3 (stM_A6 g ad σ _) dX4_pullsBy_36 (fun H locs Y => ?_)
    refine lv_aload_n hx hb dX4_pullsBy_37 rfl (lv_at hl 1 rfl) ?_
    refine lv_iload hx hb dX4_pullsBy_38 (lv_at hl 5 rfl) ?_
    obtain ⟨r5, hg4, h⟩ := ob h
    refine cVi X (hml.trans hl.1.symm) Y (c_fX4_pullersOf l D g ad (up2 σ 6 ((((5 : Int32) * v1) + v2).toNatClampNeg) ((σ 6 (((5 : Int32) * v1) + v2).toNatClampNeg) + v3)) n v4 hg4) (lkM g ad (up2 σ 6 ((((5 : Int32) * v1) + v2).toNatClampNeg) ((σ 6 (((5 : Int32) * v1) + v2).toNatClampNeg) + v3))) rfl (gs_X4_137 _) rfl fd_X4_pullersOf ⟨Nat.le_of_ble_eq_true rfl, Nat.le_of_ble_eq_true rfl⟩ ⟨Nat.le_of_ble_eq_true rfl, Nat.le_of_ble_eq_true rfl⟩ (rest := []) rfl (Nat.le_of_ble_eq_true rfl) dX4_pullsBy_40 (fun H locs Y => ?_)
    refine lv_iconst (v := 1) hx hb dX4_pullsBy_43 (by decide) ?_
    refine lv_iload_n hx hb dX4_pullsBy_44 rfl (lv_at hl 2 rfl) ?_
    refine lv_ishl hx hb dX4_pullsBy_45 ?_
    refine lv_icmp_ne (tgt := 53) hx hb dX4_pullsBy_46 (by decide) (fun c6 => ?_) (fun c6 => ?_)
    · replace h := oe c6 h
      refine lv_iconst (v := 0) hx hb dX4_pullsBy_53 (by decide) ?_
      refine lv_istore (lv' := [(6, .int 0), (5, .int (σ 6 (((5 : Int32) * v1) + v2).toNatClampNeg)), (0, .ref (ad 0)), (1, .int v1), (2, .int v2), (3, .int v3), (4, .int v4)]) hx hb dX4_pullsBy_54 hl (by decide) rfl (fun ls hl => ?_)
      refine lv_aload_n hx hb dX4_pullsBy_56 rfl (lv_at hl 2 rfl) ?_
      refine rgM X Y 10 (v := .ref (ad 6)) tw_479 rfl dX4_pullsBy_57 ?_
      refine lv_iconst (v := 5) hx hb dX4_pullsBy_60 (by decide) ?_
      refine lv_iload_n hx hb dX4_pullsBy_61 rfl (lv_at hl 3 rfl) ?_
      refine lv_imul hx hb dX4_pullsBy_62 ?_
      refine lv_iload_n hx hb dX4_pullsBy_63 rfl (lv_at hl 4 rfl) ?_
      refine lv_iadd hx hb dX4_pullsBy_64 ?_
      refine lv_iload hx hb dX4_pullsBy_65 (lv_at hl 1 rfl) ?_
      obtain ⟨hg7, h⟩ := og h
      refine ris X Y (W1 := WM g ad (up2 (up2 σ 6 ((((5 : Int32) * v1) + v2).toNatClampNeg) ((σ 6 (((5 : Int32) * v1) + v2).toNatClampNeg) + v3)) 6 ((((5 : Int32) * v1) + v2).toNatClampNeg) (σ 6 (((5 : Int32) * v1) + v2).toNatClampNeg))) (lkM_6 g ad (up2 σ 6 ((((5 : Int32) * v1) + v2).toNatClampNeg) ((σ 6 (((5 : Int32) * v1) + v2).toNatClampNeg) + v3))) hg7 (stM_A6 g ad (up2 σ 6 ((((5 : Int32) * v1) + v2).toNatClampNeg) ((σ 6 (((5 : Int32) * v1) + v2).toNatClampNeg) + v3)) _) dX4_pullsBy_67 (fun H locs Y => ?_)
      refine lv_iload hx hb dX4_pullsBy_68 (lv_at hl 0 rfl) ?_
      obtain ⟨rfl, rfl⟩ := os2 h
      exact retZ X Y hr hlk rfl dX4_pullsBy_70
    · replace h := ot c6 h
      refine lv_iconst (v := 1) hx hb dX4_pullsBy_49 (by decide) ?_
      refine lv_goto (tgt := 54) hx hb dX4_pullsBy_50 (by decide) ?_
      refine lv_istore (lv' := [(6, .int 1), (5, .int (σ 6 (((5 : Int32) * v1) + v2).toNatClampNeg)), (0, .ref (ad 0)), (1, .int v1), (2, .int v2), (3, .int v3), (4, .int v4)]) hx hb dX4_pullsBy_54 hl (by decide) rfl (fun ls hl => ?_)
      refine lv_aload_n hx hb dX4_pullsBy_56 rfl (lv_at hl 2 rfl) ?_
      refine rgM X Y 10 (v := .ref (ad 6)) tw_479 rfl dX4_pullsBy_57 ?_
      refine lv_iconst (v := 5) hx hb dX4_pullsBy_60 (by decide) ?_
      refine lv_iload_n hx hb dX4_pullsBy_61 rfl (lv_at hl 3 rfl) ?_
      refine lv_imul hx hb dX4_pullsBy_62 ?_
      refine lv_iload_n hx hb dX4_pullsBy_63 rfl (lv_at hl 4 rfl) ?_
      refine lv_iadd hx hb dX4_pullsBy_64 ?_
      refine lv_iload hx hb dX4_pullsBy_65 (lv_at hl 1 rfl) ?_
      obtain ⟨hg8, h⟩ := og h
      refine ris X Y (W1 := WM g ad (up2 (up2 σ 6 ((((5 : Int32) * v1) + v2).toNatClampNeg) ((σ 6 (((5 : Int32) * v1) + v2).toNatClampNeg) + v3)) 6 ((((5 : Int32) * v1) + v2).toNatClampNeg) (σ 6 (((5 : Int32) * v1) + v2).toNatClampNeg))) (lkM_6 g ad (up2 σ 6 ((((5 : Int32) * v1) + v2).toNatClampNeg) ((σ 6 (((5 : Int32) * v1) + v2).toNatClampNeg) + v3))) hg8 (stM_A6 g ad (up2 σ 6 ((((5 : Int32) * v1) + v2).toNatClampNeg) ((σ 6 (((5 : Int32) * v1) + v2).toNatClampNeg) + v3)) _) dX4_pullsBy_67 (fun H locs Y => ?_)
      refine lv_iload hx hb dX4_pullsBy_68 (lv_at hl 0 rfl) ?_
      obtain ⟨rfl, rfl⟩ := os2 h
      exact retZ X Y hr hlk rfl dX4_pullsBy_70
  · replace h := oe c2 h
    refine lv_iconst (v := 0) hx hb dX4_pullsBy_21 (by decide) ?_
    obtain ⟨rfl, rfl⟩ := os2 h
    exact retZ X Y hr hlk rfl dX4_pullsBy_22
set_option maxHeartbeats 4000000 in
set_option maxRecDepth 100000 in
theorem w_fX4_loan_G66 {p : Program} {l : Launch} {e : Env} {s : State} {m : MethodId} {args : Array Value} {below : List Frame} {meth : Method} {c : Code} {D : va_G} {g : Nat → ClassId} {ad : Nat → Nat} {A : Nat → Prop} {r0 : Int32} {σ0 : St} (X : Cx p s m c args cX4_loan RX4 kX4_loan D g) (hr : meth.sig.returnType = (some .int)) (hlk : meth.locks = false) (hml : c.maxLocals = 6) : ∀ n : Nat, (∀ (σ : St) (v1 : Int32) (v2 : Int32) (v3 : Int32) (v4 : Int32) (H : Heap) (locs : List Loc) (ls : Array Slot), Hp D A s.heap H locs (WM g ad σ) → lv_has ls 6 [(0, .ref (ad 0)), (1, .int v1), (2, .int v2), (3, .int v3), (4, .int v4)] → fX4_loan_G66 n 0 σ v1 v2 v3 v4 0 = some (r0, σ0) → W p l e (RM 4 97) s m args below meth c H locs 0 0 (MQ below (QI D g A (WM g ad σ0) r0) args s 0 0 A) (F0 m 66 ls [])) ∧ (∀ (σ : St) (v1 : Int32) (v2 : Int32) (v3 : Int32) (v4 : Int32) (v5 : Int32) (H : Heap) (locs : List Loc) (ls : Array Slot), Hp D A s.heap H locs (WM g ad σ) → lv_has ls 6 [(0, .ref (ad 0)), (1, .int v1), (2, .int v2), (3, .int v3), (4, .int v4), (5, .int v5)] → fX4_loan_G66 n 1 σ v1 v2 v3 v4 v5 = some (r0, σ0) → W p l e (RM 4 97) s m args below meth c H locs 0 0 (MQ below (QI D g A (WM g ad σ0) r0) args s 0 0 A) (F0 m 76 ls [])) := by
  have hx := X.1
  have hb := X.2.1
  intro n
  induction n with
  | zero => refine ⟨?_, ?_⟩
            · intro σ v1 v2 v3 v4 H locs ls Y hl h; cases (show none = _ from h)
            · intro σ v1 v2 v3 v4 v5 H locs ls Y hl h; cases (show none = _ from h)
  | succ n ih =>
    refine ⟨?_, ?_⟩
    · intro σ v1 v2 v3 v4 H locs ls Y hl h
      rw [fX4_loan_G66] at h
      replace h := ot rfl h
      refine lv_iload hx hb dX4_loan_66 (lv_at hl 4 rfl) ?_
      refine lv_bipush (v := 9) hx hb dX4_loan_68 (by decide) ?_
      refine lv_icmp_gt (tgt := 128) hx hb dX4_loan_70 (by decide) (fun c17 => ?_) (fun c17 => ?_)
      · replace h := ot c17 h
        refine lv_bipush (v := (-9)) hx hb dX4_loan_128 (by decide) ?_
        obtain ⟨rfl, rfl⟩ := os2 h
        exact retI X Y hr hlk dX4_loan_130
      · replace h := oe c17 h
        refine lv_iconst (v := 0) hx hb dX4_loan_73 (by decide) ?_
        refine lv_istore (lv' := [(5, .int 0), (0, .ref (ad 0)), (1, .int v1), (2, .int v2), (3, .int v3), (4, .int v4)]) hx hb dX4_loan_74 hl (by decide) rfl (fun ls hl => ?_)
        exact ih.2 σ v1 v2 v3 v4 0 _ _ _ Y (lv_sub hl [1, 2, 3, 4, 5, 0] rfl) h
    · intro σ v1 v2 v3 v4 v5 H locs ls Y hl h
      rw [fX4_loan_G66] at h
      replace h := oe (by decide) h
      refine lv_iload hx hb dX4_loan_76 (lv_at hl 5 rfl) ?_
      refine lv_aload_n hx hb dX4_loan_78 rfl (lv_at hl 0 rfl) ?_
      refine rgM X Y 5 (v := .int (σ 0 5)) tw_474 rfl dX4_loan_79 ?_
      refine lv_icmp_ge (tgt := 122) hx hb dX4_loan_82 (by decide) (fun c18 => ?_) (fun c18 => ?_)
      · replace h := ot c18 h
        refine lv_iinc (v := v4 + 1) (lv' := [(4, .int (v4 + 1)), (0, .ref (ad 0)), (1, .int v1), (2, .int v2), (3, .int v3), (5, .int v5)]) hx hb dX4_loan_122 hl (k := 4) rfl rfl (by decide) rfl (fun ls hl => ?_)
        refine lv_goto (tgt := 66) hx hb dX4_loan_125 (by decide) ?_
        exact ih.1 σ v1 v2 v3 (v4 + 1) _ _ _ Y (lv_sub hl [1, 2, 3, 4, 0] rfl) h
      · replace h := oe c18 h
        refine lv_iload hx hb dX4_loan_85 (lv_at hl 5 rfl) ?_
        refine lv_iload_n hx hb dX4_loan_87 rfl (lv_at hl 1 rfl) ?_
        refine lv_icmp_eq (tgt := 116) hx hb dX4_loan_88 (by decide) (fun c19 => ?_) (fun c19 => ?_)
        · replace h := ot c19 h
          refine lv_iinc (v := v5 + 1) (lv' := [(5, .int (v5 + 1)), (0, .ref (ad 0)), (1, .int v1), (2, .int v2), (3, .int v3), (4, .int v4)]) hx hb dX4_loan_116 hl (k := 5) rfl rfl (by decide) rfl (fun ls hl => ?_)
          refine lv_goto (tgt := 76) hx hb dX4_loan_119 (by decide) ?_
          exact ih.2 σ v1 v2 v3 v4 (v5 + 1) _ _ _ Y (lv_sub hl [1, 2, 3, 4, 5, 0] rfl) h
        · replace h := oe c19 h
          refine lv_aload_n hx hb dX4_loan_91 rfl (lv_at hl 0 rfl) ?_
          refine lv_iload_n hx hb dX4_loan_92 rfl (lv_at hl 1 rfl) ?_
          refine lv_iload hx hb dX4_loan_93 (lv_at hl 5 rfl) ?_
          refine lv_iload hx hb dX4_loan_95 (lv_at hl 4 rfl) ?_
          refine lv_iload_n hx hb dX4_loan_97 rfl (lv_at hl 2 rfl) ?_
          obtain ⟨r21, σ21, hg20, h⟩ := ob2 h
          refine cVi X (hml.trans hl.1.symm) Y (c_fX4_pullsBy l D g ad σ n v1 v5 v4 v2 hg20) (lkM g ad σ) rfl (gs_X4_173 _) rfl fd_X4_pullsBy ⟨Nat.le_of_ble_eq_true rfl, Nat.le_of_ble_eq_true rfl⟩ ⟨Nat.le_of_ble_eq_true rfl, Nat.le_of_ble_eq_true rfl⟩ (rest := []) rfl (Nat.le_of_ble_eq_true rfl) dX4_loan_98 (fun H locs Y => ?_)
          refine lv_if_eq (tgt := 116) hx hb dX4_loan_101 (by decide) (fun c22 => ?_) (fun c22 => ?_)
          · replace h := ot c22 h
            refine lv_iinc (v := v5 + 1) (lv' := [(5, .int (v5 + 1)), (0, .ref (ad 0)), (1, .int v1), (2, .int v2), (3, .int v3), (4, .int v4)]) hx hb dX4_loan_116 hl (k := 5) rfl rfl (by decide) rfl (fun ls hl => ?_)
            refine lv_goto (tgt := 76) hx hb dX4_loan_119 (by decide) ?_
            exact ih.2 σ21 v1 v2 v3 v4 (v5 + 1) _ _ _ Y (lv_sub hl [1, 2, 3, 4, 5, 0] rfl) h
          · replace h := oe c22 h
            refine lv_iload_n hx hb dX4_loan_104 rfl (lv_at hl 3 rfl) ?_
            refine lv_if_ne (tgt := 113) hx hb dX4_loan_105 (by decide) (fun c23 => ?_) (fun c23 => ?_)
            · replace h := oe c23 h
              refine lv_iload hx hb dX4_loan_113 (lv_at hl 5 rfl) ?_
              obtain ⟨rfl, rfl⟩ := os2 h
              exact retI X Y hr hlk dX4_loan_115
            · replace h := ot c23 h
              refine lv_iload hx hb dX4_loan_108 (lv_at hl 4 rfl) ?_
              refine lv_goto (tgt := 115) hx hb dX4_loan_110 (by decide) ?_
              obtain ⟨rfl, rfl⟩ := os2 h
              exact retI X Y hr hlk dX4_loan_115
set_option maxHeartbeats 4000000 in
set_option maxRecDepth 100000 in
theorem c_fX4_loan (l : Launch) (D : va_G) (g : Nat → ClassId) (ad : Nat → Nat) (σ : St) (n : Nat) (v1 : Int32) (v2 : Int32) (v3 : Int32) {r0 : Int32} {σ0 : St} (h : fX4_loan n σ v1 v2 v3 = some (r0, σ0)) : MI l yX4_loan kX4_loan 4 97 D g (WM g ad σ) (WM g ad σ0) [.ref (ad 0), .int v1, .int v2, .int v3] r0 := by
  intro sz
  refine Met.of2 (Qc := fun A => QI D g A (WM g ad σ0) r0) (cc := cX4_loan) (maxL := 6) (ret := (some .int)) (own := RX4) (by decide) rfl rfl (Nat.le_of_ble_eq_true rfl) ?_
  intro p e s m below meth c A ls X hr hlk hml Y hl
  have hx := X.1
  have hb := X.2.1
  have hl : lv_has ls 6 [(0, .ref (ad 0)), (1, .int v1), (2, .int v2), (3, .int v3)] := hl
  rw [fX4_loan] at h
  refine lv_aload_n hx hb dX4_loan_0 rfl (lv_at hl 0 rfl) ?_
  refine lv_iload_n hx hb dX4_loan_1 rfl (lv_at hl 1 rfl) ?_
  obtain ⟨r2, hg1, h⟩ := ob h
  refine cVi X (hml.trans hl.1.symm) Y (c_fX4_isPerson l D g ad σ v1 hg1) (lkM g ad σ) rfl (gs_X4_115 _) rfl fd_X4_isPerson ⟨Nat.le_of_ble_eq_true rfl, Nat.le_of_ble_eq_true rfl⟩ ⟨Nat.le_of_ble_eq_true rfl, Nat.le_of_ble_eq_true rfl⟩ (rest := []) rfl (Nat.le_of_ble_eq_true rfl) dX4_loan_2 (fun H locs Y => ?_)
  refine lv_if_ne (tgt := 10) hx hb dX4_loan_5 (by decide) (fun c3 => ?_) (fun c3 => ?_)
  · replace h := oe c3 h
    refine lv_aload_n hx hb dX4_loan_10 rfl (lv_at hl 0 rfl) ?_
    refine lv_iload_n hx hb dX4_loan_11 rfl (lv_at hl 2 rfl) ?_
    obtain ⟨r5, hg4, h⟩ := ob h
    refine cVi X (hml.trans hl.1.symm) Y (c_fX4_isSet l D g ad σ v2 hg4) (lkM g ad σ) rfl (gs_X4_143 _) rfl fd_X4_isSet ⟨Nat.le_of_ble_eq_true rfl, Nat.le_of_ble_eq_true rfl⟩ ⟨Nat.le_of_ble_eq_true rfl, Nat.le_of_ble_eq_true rfl⟩ (rest := []) rfl (Nat.le_of_ble_eq_true rfl) dX4_loan_12 (fun H locs Y => ?_)
    refine lv_if_eq (tgt := 27) hx hb dX4_loan_15 (by decide) (fun c6 => ?_) (fun c6 => ?_)
    · replace h := ot c6 h
      refine lv_bipush (v := (-2)) hx hb dX4_loan_27 (by decide) ?_
      obtain ⟨rfl, rfl⟩ := os2 h
      exact retI X Y hr hlk dX4_loan_29
    · replace h := oe c6 h
      refine lv_iload_n hx hb dX4_loan_18 rfl (lv_at hl 3 rfl) ?_
      refine lv_iconst (v := 0) hx hb dX4_loan_19 (by decide) ?_
      refine lv_iconst (v := 1) hx hb dX4_loan_20 (by decide) ?_
      obtain ⟨r8, hg7, h⟩ := ob h
      refine cSi X (hml.trans hl.1.symm) Y (c_fX4_within l D g (WM g ad σ) v3 0 1 hg7) (gs_X4_55 _) rfl fd_X4_within ⟨Nat.le_of_ble_eq_true rfl, Nat.le_of_ble_eq_true rfl⟩ ⟨Nat.le_of_ble_eq_true rfl, Nat.le_of_ble_eq_true rfl⟩ (rest := []) rfl (Nat.le_of_ble_eq_true rfl) dX4_loan_21 (fun H locs Y => ?_)
      refine lv_if_ne (tgt := 30) hx hb dX4_loan_24 (by decide) (fun c9 => ?_) (fun c9 => ?_)
      · replace h := oe c9 h
        refine lv_iload_n hx hb dX4_loan_30 rfl (lv_at hl 2 rfl) ?_
        refine lv_iload_n hx hb dX4_loan_31 rfl (lv_at hl 1 rfl) ?_
        obtain ⟨r11, hg10, h⟩ := ob h
        refine cSi X (hml.trans hl.1.symm) Y (c_fX4_isOf l D g (WM g ad σ) v2 v1 hg10) (gs_X4_127 _) rfl fd_X4_isOf ⟨Nat.le_of_ble_eq_true rfl, Nat.le_of_ble_eq_true rfl⟩ ⟨Nat.le_of_ble_eq_true rfl, Nat.le_of_ble_eq_true rfl⟩ (rest := []) rfl (Nat.le_of_ble_eq_true rfl) dX4_loan_32 (fun H locs Y => ?_)
        refine lv_if_ne (tgt := 41) hx hb dX4_loan_35 (by decide) (fun c12 => ?_) (fun c12 => ?_)
        · replace h := oe c12 h
          refine lv_aload_n hx hb dX4_loan_41 rfl (lv_at hl 0 rfl) ?_
          refine lv_iload_n hx hb dX4_loan_42 rfl (lv_at hl 2 rfl) ?_
          obtain ⟨r14, hg13, h⟩ := ob h
          refine cVi X (hml.trans hl.1.symm) Y (c_fX4_pullersOf l D g ad σ n v2 hg13) (lkM g ad σ) rfl (gs_X4_137 _) rfl fd_X4_pullersOf ⟨Nat.le_of_ble_eq_true rfl, Nat.le_of_ble_eq_true rfl⟩ ⟨Nat.le_of_ble_eq_true rfl, Nat.le_of_ble_eq_true rfl⟩ (rest := []) rfl (Nat.le_of_ble_eq_true rfl) dX4_loan_43 (fun H locs Y => ?_)
          refine lv_iconst (v := 1) hx hb dX4_loan_46 (by decide) ?_
          refine lv_iload_n hx hb dX4_loan_47 rfl (lv_at hl 1 rfl) ?_
          refine lv_ishl hx hb dX4_loan_48 ?_
          refine lv_icmp_ne (tgt := 63) hx hb dX4_loan_49 (by decide) (fun c15 => ?_) (fun c15 => ?_)
          · replace h := oe c15 h
            refine lv_iconst (v := 1) hx hb dX4_loan_63 (by decide) ?_
            refine lv_istore (lv' := [(4, .int 1), (0, .ref (ad 0)), (1, .int v1), (2, .int v2), (3, .int v3)]) hx hb dX4_loan_64 hl (by decide) rfl (fun ls hl => ?_)
            exact (w_fX4_loan_G66 X hr hlk hml n).1 σ v1 v2 v3 1 _ _ _ Y (lv_sub hl [1, 2, 3, 4, 0] rfl) h
          · replace h := ot c15 h
            refine lv_iload_n hx hb dX4_loan_52 rfl (lv_at hl 3 rfl) ?_
            refine lv_if_ne (tgt := 60) hx hb dX4_loan_53 (by decide) (fun c16 => ?_) (fun c16 => ?_)
            · replace h := oe c16 h
              refine lv_bipush (v := (-9)) hx hb dX4_loan_60 (by decide) ?_
              obtain ⟨rfl, rfl⟩ := os2 h
              exact retI X Y hr hlk dX4_loan_62
            · replace h := ot c16 h
              refine lv_iconst (v := 0) hx hb dX4_loan_56 (by decide) ?_
              refine lv_goto (tgt := 62) hx hb dX4_loan_57 (by decide) ?_
              obtain ⟨rfl, rfl⟩ := os2 h
              exact retI X Y hr hlk dX4_loan_62
        · replace h := ot c12 h
          refine lv_bipush (v := (-3)) hx hb dX4_loan_38 (by decide) ?_
          obtain ⟨rfl, rfl⟩ := os2 h
          exact retI X Y hr hlk dX4_loan_40
      · replace h := ot c9 h
        refine lv_bipush (v := (-2)) hx hb dX4_loan_27 (by decide) ?_
        obtain ⟨rfl, rfl⟩ := os2 h
        exact retI X Y hr hlk dX4_loan_29
  · replace h := ot c3 h
    refine lv_iconst (v := (-1)) hx hb dX4_loan_8 (by decide) ?_
    obtain ⟨rfl, rfl⟩ := os2 h
    exact retI X Y hr hlk dX4_loan_9
set_option maxHeartbeats 4000000 in
set_option maxRecDepth 100000 in
theorem w_fX4_forgave_L26 {p : Program} {l : Launch} {e : Env} {s : State} {m : MethodId} {args : Array Value} {below : List Frame} {meth : Method} {c : Code} {D : va_G} {g : Nat → ClassId} {ad : Nat → Nat} {A : Nat → Prop} {r0 : Int32} {σ0 : St} (X : Cx p s m c args cX4_forgave RX4 kX4_forgave D g) (hr : meth.sig.returnType = (some .int)) (hlk : meth.locks = false) (hml : c.maxLocals = 4) : ∀ (n : Nat), ∀ (σ : St) (v1 : Int32) (v2 : Int32) (v3 : Int32) (H : Heap) (locs : List Loc) (ls : Array Slot), Hp D A s.heap H locs (WM g ad σ) → lv_has ls 4 [(0, .ref (ad 0)), (1, .int v1), (2, .int v2), (3, .int v3)] → fX4_forgave_L26 n σ v1 v2 v3 = some (r0, σ0) → W p l e (RM 3 71) s m args below meth c H locs 0 0 (MQ below (QI D g A (WM g ad σ0) r0) args s 0 0 A) (F0 m 26 ls []) := by
  have hx := X.1
  have hb := X.2.1
  intro n
  induction n with
  | zero => intro σ v1 v2 v3 H locs ls Y hl h; cases (show none = _ from h)
  | succ n ih =>
    intro σ v1 v2 v3 H locs ls Y hl h
    rw [fX4_forgave_L26] at h
    refine lv_iload_n hx hb dX4_forgave_26 rfl (lv_at hl 3 rfl) ?_
    refine lv_iload_n hx hb dX4_forgave_27 rfl (lv_at hl 1 rfl) ?_
    refine lv_icmp_gt (tgt := 81) hx hb dX4_forgave_28 (by decide) (fun c5 => ?_) (fun c5 => ?_)
    · replace h := ot c5 h
      refine lv_aload_n hx hb dX4_forgave_81 rfl (lv_at hl 0 rfl) ?_
      refine lv_iconst (v := 0) hx hb dX4_forgave_82 (by decide) ?_
      refine rpM X Y 19 (v := 0) tw_488 rfl rfl rfl (stM_19 g ad σ 0) dX4_forgave_83 (fun H locs Y => ?_)
      refine lv_iload_n hx hb dX4_forgave_86 rfl (lv_at hl 2 rfl) ?_
      obtain ⟨rfl, rfl⟩ := os2 h
      exact retI X Y hr hlk dX4_forgave_87
    · replace h := oe c5 h
      refine lv_iload_n hx hb dX4_forgave_31 rfl (lv_at hl 3 rfl) ?_
      refine lv_iload_n hx hb dX4_forgave_32 rfl (lv_at hl 1 rfl) ?_
      refine lv_iconst (v := (-1)) hx hb dX4_forgave_33 (by decide) ?_
      refine lv_ixor hx hb dX4_forgave_34 ?_
      refine lv_iand hx hb dX4_forgave_35 ?_
      refine lv_if_ne (tgt := 75) hx hb dX4_forgave_36 (by decide) (fun c6 => ?_) (fun c6 => ?_)
      · replace h := oe c6 h
        refine lv_iinc (v := v3 + 1) (lv' := [(3, .int (v3 + 1)), (0, .ref (ad 0)), (1, .int v1), (2, .int v2)]) hx hb dX4_forgave_75 hl (k := 3) rfl rfl (by decide) rfl (fun ls hl => ?_)
        refine lv_goto (tgt := 26) hx hb dX4_forgave_78 (by decide) ?_
        exact ih σ v1 v2 (v3 + 1) _ _ _ Y (lv_sub hl [1, 2, 3, 0] rfl) h
      · replace h := ot c6 h
        refine lv_iload_n hx hb dX4_forgave_39 rfl (lv_at hl 2 rfl) ?_
        refine lv_bipush (v := (-9)) hx hb dX4_forgave_40 (by decide) ?_
        refine lv_icmp_eq (tgt := 56) hx hb dX4_forgave_42 (by decide) (fun c7 => ?_) (fun c7 => ?_)
        · replace h := ot c7 h
          refine lv_aload_n hx hb dX4_forgave_56 rfl (lv_at hl 0 rfl) ?_
          refine lv_iload_n hx hb dX4_forgave_57 rfl (lv_at hl 3 rfl) ?_
          refine rpM X Y 19 (v := v3) tw_488 rfl rfl rfl (stM_19 g ad σ v3) dX4_forgave_58 (fun H locs Y => ?_)
          refine lv_aload_n hx hb dX4_forgave_61 rfl (lv_at hl 0 rfl) ?_
          refine lv_iload_n hx hb dX4_forgave_62 rfl (lv_at hl 1 rfl) ?_
          obtain ⟨r9, hg8, h⟩ := ob h
          refine cVi X (hml.trans hl.1.symm) Y (c_fX4_pullersOf l D g ad (up2 σ 0 19 v3) n v1 hg8) (lkM g ad (up2 σ 0 19 v3)) rfl (gs_X4_137 _) rfl fd_X4_pullersOf ⟨Nat.le_of_ble_eq_true rfl, Nat.le_of_ble_eq_true rfl⟩ ⟨Nat.le_of_ble_eq_true rfl, Nat.le_of_ble_eq_true rfl⟩ (rest := []) rfl (Nat.le_of_ble_eq_true rfl) dX4_forgave_63 (fun H locs Y => ?_)
          refine lv_if_ne (tgt := 73) hx hb dX4_forgave_66 (by decide) (fun c10 => ?_) (fun c10 => ?_)
          · replace h := oe c10 h
            refine lv_iload_n hx hb dX4_forgave_73 rfl (lv_at hl 2 rfl) ?_
            refine lv_istore_n (lv' := [(2, .int v2), (0, .ref (ad 0)), (1, .int v1), (3, .int v3)]) hx hb dX4_forgave_74 rfl hl (by decide) rfl (fun ls hl => ?_)
            refine lv_iinc (v := v3 + 1) (lv' := [(3, .int (v3 + 1)), (2, .int v2), (0, .ref (ad 0)), (1, .int v1)]) hx hb dX4_forgave_75 hl (k := 3) rfl rfl (by decide) rfl (fun ls hl => ?_)
            refine lv_goto (tgt := 26) hx hb dX4_forgave_78 (by decide) ?_
            exact ih (up2 σ 0 19 v3) v1 v2 (v3 + 1) _ _ _ Y (lv_sub hl [2, 3, 1, 0] rfl) h
          · replace h := ot c10 h
            refine lv_iload_n hx hb dX4_forgave_69 rfl (lv_at hl 3 rfl) ?_
            refine lv_goto (tgt := 74) hx hb dX4_forgave_70 (by decide) ?_
            refine lv_istore_n (lv' := [(2, .int v3), (0, .ref (ad 0)), (1, .int v1), (3, .int v3)]) hx hb dX4_forgave_74 rfl hl (by decide) rfl (fun ls hl => ?_)
            refine lv_iinc (v := v3 + 1) (lv' := [(3, .int (v3 + 1)), (2, .int v3), (0, .ref (ad 0)), (1, .int v1)]) hx hb dX4_forgave_75 hl (k := 3) rfl rfl (by decide) rfl (fun ls hl => ?_)
            refine lv_goto (tgt := 26) hx hb dX4_forgave_78 (by decide) ?_
            exact ih (up2 σ 0 19 v3) v1 v3 (v3 + 1) _ _ _ Y (lv_sub hl [2, 3, 1, 0] rfl) h
        · replace h := oe c7 h
          refine lv_iload_n hx hb dX4_forgave_45 rfl (lv_at hl 3 rfl) ?_
          obtain ⟨r12, hg11, h⟩ := ob h
          refine cSi X (hml.trans hl.1.symm) Y (c_fX4_size l D g (WM g ad σ) n v3 hg11) (gs_X4_140 _) rfl fd_X4_size ⟨Nat.le_of_ble_eq_true rfl, Nat.le_of_ble_eq_true rfl⟩ ⟨Nat.le_of_ble_eq_true rfl, Nat.le_of_ble_eq_true rfl⟩ (rest := []) rfl (Nat.le_of_ble_eq_true rfl) dX4_forgave_46 (fun H locs Y => ?_)
          refine lv_iload_n hx hb dX4_forgave_49 rfl (lv_at hl 2 rfl) ?_
          obtain ⟨r14, hg13, h⟩ := ob h
          refine cSi X (hml.trans hl.1.symm) Y (c_fX4_size l D g (WM g ad σ) n v2 hg13) (gs_X4_140 _) rfl fd_X4_size ⟨Nat.le_of_ble_eq_true rfl, Nat.le_of_ble_eq_true rfl⟩ ⟨Nat.le_of_ble_eq_true rfl, Nat.le_of_ble_eq_true rfl⟩ (rest := [.int r12]) rfl (Nat.le_of_ble_eq_true rfl) dX4_forgave_50 (fun H locs Y => ?_)
          refine lv_icmp_ge (tgt := 75) hx hb dX4_forgave_53 (by decide) (fun c15 => ?_) (fun c15 => ?_)
          · replace h := ot c15 h
            refine lv_iinc (v := v3 + 1) (lv' := [(3, .int (v3 + 1)), (0, .ref (ad 0)), (1, .int v1), (2, .int v2)]) hx hb dX4_forgave_75 hl (k := 3) rfl rfl (by decide) rfl (fun ls hl => ?_)
            refine lv_goto (tgt := 26) hx hb dX4_forgave_78 (by decide) ?_
            exact ih σ v1 v2 (v3 + 1) _ _ _ Y (lv_sub hl [1, 2, 3, 0] rfl) h
          · replace h := oe c15 h
            refine lv_aload_n hx hb dX4_forgave_56 rfl (lv_at hl 0 rfl) ?_
            refine lv_iload_n hx hb dX4_forgave_57 rfl (lv_at hl 3 rfl) ?_
            refine rpM X Y 19 (v := v3) tw_488 rfl rfl rfl (stM_19 g ad σ v3) dX4_forgave_58 (fun H locs Y => ?_)
            refine lv_aload_n hx hb dX4_forgave_61 rfl (lv_at hl 0 rfl) ?_
            refine lv_iload_n hx hb dX4_forgave_62 rfl (lv_at hl 1 rfl) ?_
            obtain ⟨r17, hg16, h⟩ := ob h
            refine cVi X (hml.trans hl.1.symm) Y (c_fX4_pullersOf l D g ad (up2 σ 0 19 v3) n v1 hg16) (lkM g ad (up2 σ 0 19 v3)) rfl (gs_X4_137 _) rfl fd_X4_pullersOf ⟨Nat.le_of_ble_eq_true rfl, Nat.le_of_ble_eq_true rfl⟩ ⟨Nat.le_of_ble_eq_true rfl, Nat.le_of_ble_eq_true rfl⟩ (rest := []) rfl (Nat.le_of_ble_eq_true rfl) dX4_forgave_63 (fun H locs Y => ?_)
            refine lv_if_ne (tgt := 73) hx hb dX4_forgave_66 (by decide) (fun c18 => ?_) (fun c18 => ?_)
            · replace h := oe c18 h
              refine lv_iload_n hx hb dX4_forgave_73 rfl (lv_at hl 2 rfl) ?_
              refine lv_istore_n (lv' := [(2, .int v2), (0, .ref (ad 0)), (1, .int v1), (3, .int v3)]) hx hb dX4_forgave_74 rfl hl (by decide) rfl (fun ls hl => ?_)
              refine lv_iinc (v := v3 + 1) (lv' := [(3, .int (v3 + 1)), (2, .int v2), (0, .ref (ad 0)), (1, .int v1)]) hx hb dX4_forgave_75 hl (k := 3) rfl rfl (by decide) rfl (fun ls hl => ?_)
              refine lv_goto (tgt := 26) hx hb dX4_forgave_78 (by decide) ?_
              exact ih (up2 σ 0 19 v3) v1 v2 (v3 + 1) _ _ _ Y (lv_sub hl [2, 3, 1, 0] rfl) h
            · replace h := ot c18 h
              refine lv_iload_n hx hb dX4_forgave_69 rfl (lv_at hl 3 rfl) ?_
              refine lv_goto (tgt := 74) hx hb dX4_forgave_70 (by decide) ?_
              refine lv_istore_n (lv' := [(2, .int v3), (0, .ref (ad 0)), (1, .int v1), (3, .int v3)]) hx hb dX4_forgave_74 rfl hl (by decide) rfl (fun ls hl => ?_)
              refine lv_iinc (v := v3 + 1) (lv' := [(3, .int (v3 + 1)), (2, .int v3), (0, .ref (ad 0)), (1, .int v1)]) hx hb dX4_forgave_75 hl (k := 3) rfl rfl (by decide) rfl (fun ls hl => ?_)
              refine lv_goto (tgt := 26) hx hb dX4_forgave_78 (by decide) ?_
              exact ih (up2 σ 0 19 v3) v1 v3 (v3 + 1) _ _ _ Y (lv_sub hl [2, 3, 1, 0] rfl) h
set_option maxHeartbeats 4000000 in
set_option maxRecDepth 100000 in
theorem c_fX4_forgave (l : Launch) (D : va_G) (g : Nat → ClassId) (ad : Nat → Nat) (σ : St) (n : Nat) (v1 : Int32) {r0 : Int32} {σ0 : St} (h : fX4_forgave n σ v1 = some (r0, σ0)) : MI l yX4_forgave kX4_forgave 3 71 D g (WM g ad σ) (WM g ad σ0) [.ref (ad 0), .int v1] r0 := by
  intro sz
  refine Met.of2 (Qc := fun A => QI D g A (WM g ad σ0) r0) (cc := cX4_forgave) (maxL := 4) (ret := (some .int)) (own := RX4) (by decide) rfl rfl (Nat.le_of_ble_eq_true rfl) ?_
  intro p e s m below meth c A ls X hr hlk hml Y hl
  have hx := X.1
  have hb := X.2.1
  have hl : lv_has ls 4 [(0, .ref (ad 0)), (1, .int v1)] := hl
  rw [fX4_forgave] at h
  refine lv_aload_n hx hb dX4_forgave_0 rfl (lv_at hl 0 rfl) ?_
  refine rgM X Y 5 (v := .int (σ 0 5)) tw_474 rfl dX4_forgave_1 ?_
  refine lv_if_ne (tgt := 10) hx hb dX4_forgave_4 (by decide) (fun c1 => ?_) (fun c1 => ?_)
  · replace h := oe c1 h
    refine lv_aload_n hx hb dX4_forgave_10 rfl (lv_at hl 0 rfl) ?_
    refine lv_iload_n hx hb dX4_forgave_11 rfl (lv_at hl 1 rfl) ?_
    obtain ⟨r3, hg2, h⟩ := ob h
    refine cVi X (hml.trans hl.1.symm) Y (c_fX4_isSet l D g ad σ v1 hg2) (lkM g ad σ) rfl (gs_X4_143 _) rfl fd_X4_isSet ⟨Nat.le_of_ble_eq_true rfl, Nat.le_of_ble_eq_true rfl⟩ ⟨Nat.le_of_ble_eq_true rfl, Nat.le_of_ble_eq_true rfl⟩ (rest := []) rfl (Nat.le_of_ble_eq_true rfl) dX4_forgave_12 (fun H locs Y => ?_)
    refine lv_if_ne (tgt := 21) hx hb dX4_forgave_15 (by decide) (fun c4 => ?_) (fun c4 => ?_)
    · replace h := oe c4 h
      refine lv_bipush (v := (-9)) hx hb dX4_forgave_21 (by decide) ?_
      refine lv_istore_n (lv' := [(2, .int (-9)), (0, .ref (ad 0)), (1, .int v1)]) hx hb dX4_forgave_23 rfl hl (by decide) rfl (fun ls hl => ?_)
      refine lv_iconst (v := 0) hx hb dX4_forgave_24 (by decide) ?_
      refine lv_istore_n (lv' := [(3, .int 0), (2, .int (-9)), (0, .ref (ad 0)), (1, .int v1)]) hx hb dX4_forgave_25 rfl hl (by decide) rfl (fun ls hl => ?_)
      exact w_fX4_forgave_L26 X hr hlk hml n σ v1 (-9) 0 _ _ _ Y (lv_sub hl [2, 3, 1, 0] rfl) h
    · replace h := ot c4 h
      refine lv_bipush (v := (-2)) hx hb dX4_forgave_18 (by decide) ?_
      obtain ⟨rfl, rfl⟩ := os2 h
      exact retI X Y hr hlk dX4_forgave_20
  · replace h := ot c1 h
    refine lv_bipush (v := (-3)) hx hb dX4_forgave_7 (by decide) ?_
    obtain ⟨rfl, rfl⟩ := os2 h
    exact retI X Y hr hlk dX4_forgave_9
set_option maxHeartbeats 4000000 in
set_option maxRecDepth 100000 in
theorem c_fX4_reading (l : Launch) (D : va_G) (g : Nat → ClassId) (ad : Nat → Nat) (σ : St) (v1 : Int32) (v2 : Int32) {r0 : Int32} {σ0 : St} (h : fX4_reading σ v1 v2 = some (r0, σ0)) : MI l yX4_reading kX4_reading 1 21 D g (WM g ad σ) (WM g ad σ0) [.ref (ad 0), .int v1, .int v2] r0 := by
  intro sz
  refine Met.of2 (Qc := fun A => QI D g A (WM g ad σ0) r0) (cc := cX4_reading) (maxL := 3) (ret := (some .int)) (own := RX4) (by decide) rfl rfl (Nat.le_of_ble_eq_true rfl) ?_
  intro p e s m below meth c A ls X hr hlk hml Y hl
  have hx := X.1
  have hb := X.2.1
  have hl : lv_has ls 3 [(0, .ref (ad 0)), (1, .int v1), (2, .int v2)] := hl
  rw [fX4_reading] at h
  refine lv_aload_n hx hb dX4_reading_0 rfl (lv_at hl 0 rfl) ?_
  refine rgM X Y 5 (v := .int (σ 0 5)) tw_474 rfl dX4_reading_1 ?_
  refine lv_if_ne (tgt := 10) hx hb dX4_reading_4 (by decide) (fun c1 => ?_) (fun c1 => ?_)
  · replace h := oe c1 h
    refine lv_aload_n hx hb dX4_reading_10 rfl (lv_at hl 0 rfl) ?_
    refine lv_iload_n hx hb dX4_reading_11 rfl (lv_at hl 1 rfl) ?_
    obtain ⟨r3, hg2, h⟩ := ob h
    refine cVi X (hml.trans hl.1.symm) Y (c_fX4_isSet l D g ad σ v1 hg2) (lkM g ad σ) rfl (gs_X4_143 _) rfl fd_X4_isSet ⟨Nat.le_of_ble_eq_true rfl, Nat.le_of_ble_eq_true rfl⟩ ⟨Nat.le_of_ble_eq_true rfl, Nat.le_of_ble_eq_true rfl⟩ (rest := []) rfl (Nat.le_of_ble_eq_true rfl) dX4_reading_12 (fun H locs Y => ?_)
    refine lv_if_eq (tgt := 30) hx hb dX4_reading_15 (by decide) (fun c4 => ?_) (fun c4 => ?_)
    · replace h := ot c4 h
      refine lv_bipush (v := (-2)) hx hb dX4_reading_30 (by decide) ?_
      obtain ⟨rfl, rfl⟩ := os2 h
      exact retI X Y hr hlk dX4_reading_32
    · replace h := oe c4 h
      refine lv_iload_n hx hb dX4_reading_18 rfl (lv_at hl 2 rfl) ?_
      refine lv_if_lt (tgt := 30) hx hb dX4_reading_19 (by decide) (fun c5 => ?_) (fun c5 => ?_)
      · replace h := ot c5 h
        refine lv_bipush (v := (-2)) hx hb dX4_reading_30 (by decide) ?_
        obtain ⟨rfl, rfl⟩ := os2 h
        exact retI X Y hr hlk dX4_reading_32
      · replace h := oe c5 h
        refine lv_iload_n hx hb dX4_reading_22 rfl (lv_at hl 2 rfl) ?_
        refine lv_iload_n hx hb dX4_reading_23 rfl (lv_at hl 1 rfl) ?_
        refine lv_iconst (v := (-1)) hx hb dX4_reading_24 (by decide) ?_
        refine lv_ixor hx hb dX4_reading_25 ?_
        refine lv_iand hx hb dX4_reading_26 ?_
        refine lv_if_eq (tgt := 33) hx hb dX4_reading_27 (by decide) (fun c6 => ?_) (fun c6 => ?_)
        · replace h := ot c6 h
          refine lv_aload_n hx hb dX4_reading_33 rfl (lv_at hl 0 rfl) ?_
          refine rgM X Y 26 (v := .int (σ 0 26)) tw_495 rfl dX4_reading_34 ?_
          refine lv_bipush (v := 8) hx hb dX4_reading_37 (by decide) ?_
          refine lv_icmp_ne (tgt := 45) hx hb dX4_reading_39 (by decide) (fun c7 => ?_) (fun c7 => ?_)
          · replace h := oe c7 h
            refine lv_aload_n hx hb dX4_reading_45 rfl (lv_at hl 0 rfl) ?_
            refine rgM X Y 27 (v := .ref (ad 12)) tw_496 rfl dX4_reading_46 ?_
            refine lv_aload_n hx hb dX4_reading_49 rfl (lv_at hl 0 rfl) ?_
            refine rgM X Y 26 (v := .int (σ 0 26)) tw_495 rfl dX4_reading_50 ?_
            refine lv_iload_n hx hb dX4_reading_53 rfl (lv_at hl 1 rfl) ?_
            obtain ⟨hg8, h⟩ := og h
            refine ris X Y (W1 := WM g ad (up2 σ 12 ((σ 0 26).toNatClampNeg) v1)) (lkM_12 g ad σ) hg8 (stM_A12 g ad σ _) dX4_reading_54 (fun H locs Y => ?_)
            refine lv_aload_n hx hb dX4_reading_55 rfl (lv_at hl 0 rfl) ?_
            refine rgM X Y 28 (v := .ref (ad 13)) tw_497 rfl dX4_reading_56 ?_
            refine lv_aload_n hx hb dX4_reading_59 rfl (lv_at hl 0 rfl) ?_
            refine rgM X Y 26 (v := .int ((up2 σ 12 ((σ 0 26).toNatClampNeg) v1) 0 26)) tw_495 rfl dX4_reading_60 ?_
            refine lv_iload_n hx hb dX4_reading_63 rfl (lv_at hl 2 rfl) ?_
            obtain ⟨hg9, h⟩ := og h
            refine ris X Y (W1 := WM g ad (up2 (up2 σ 12 ((σ 0 26).toNatClampNeg) v1) 13 (((up2 σ 12 ((σ 0 26).toNatClampNeg) v1) 0 26).toNatClampNeg) v2)) (lkM_13 g ad (up2 σ 12 ((σ 0 26).toNatClampNeg) v1)) hg9 (stM_A13 g ad (up2 σ 12 ((σ 0 26).toNatClampNeg) v1) _) dX4_reading_64 (fun H locs Y => ?_)
            refine lv_aload_n hx hb dX4_reading_65 rfl (lv_at hl 0 rfl) ?_
            refine lv_dup hx hb dX4_reading_66 rfl ?_
            refine rgM X Y 26 (v := .int ((up2 (up2 σ 12 ((σ 0 26).toNatClampNeg) v1) 13 (((up2 σ 12 ((σ 0 26).toNatClampNeg) v1) 0 26).toNatClampNeg) v2) 0 26)) tw_495 rfl dX4_reading_67 ?_
            refine lv_iconst (v := 1) hx hb dX4_reading_70 (by decide) ?_
            refine lv_iadd hx hb dX4_reading_71 ?_
            refine rpM X Y 26 (v := ((up2 (up2 σ 12 ((σ 0 26).toNatClampNeg) v1) 13 (((up2 σ 12 ((σ 0 26).toNatClampNeg) v1) 0 26).toNatClampNeg) v2) 0 26) + 1) tw_495 rfl rfl rfl (stM_26 g ad (up2 (up2 σ 12 ((σ 0 26).toNatClampNeg) v1) 13 (((up2 σ 12 ((σ 0 26).toNatClampNeg) v1) 0 26).toNatClampNeg) v2) (((up2 (up2 σ 12 ((σ 0 26).toNatClampNeg) v1) 13 (((up2 σ 12 ((σ 0 26).toNatClampNeg) v1) 0 26).toNatClampNeg) v2) 0 26) + 1)) dX4_reading_72 (fun H locs Y => ?_)
            refine lv_aload_n hx hb dX4_reading_75 rfl (lv_at hl 0 rfl) ?_
            refine rgM X Y 26 (v := .int ((up2 (up2 (up2 σ 12 ((σ 0 26).toNatClampNeg) v1) 13 (((up2 σ 12 ((σ 0 26).toNatClampNeg) v1) 0 26).toNatClampNeg) v2) 0 26 (((up2 (up2 σ 12 ((σ 0 26).toNatClampNeg) v1) 13 (((up2 σ 12 ((σ 0 26).toNatClampNeg) v1) 0 26).toNatClampNeg) v2) 0 26) + 1)) 0 26)) tw_495 rfl dX4_reading_76 ?_
            refine lv_iconst (v := 1) hx hb dX4_reading_79 (by decide) ?_
            refine lv_isub hx hb dX4_reading_80 ?_
            obtain ⟨rfl, rfl⟩ := os2 h
            exact retI X Y hr hlk dX4_reading_81
          · replace h := ot c7 h
            refine lv_bipush (v := (-4)) hx hb dX4_reading_42 (by decide) ?_
            obtain ⟨rfl, rfl⟩ := os2 h
            exact retI X Y hr hlk dX4_reading_44
        · replace h := oe c6 h
          refine lv_bipush (v := (-2)) hx hb dX4_reading_30 (by decide) ?_
          obtain ⟨rfl, rfl⟩ := os2 h
          exact retI X Y hr hlk dX4_reading_32
  · replace h := ot c1 h
    refine lv_bipush (v := (-3)) hx hb dX4_reading_7 (by decide) ?_
    obtain ⟨rfl, rfl⟩ := os2 h
    exact retI X Y hr hlk dX4_reading_9
set_option maxHeartbeats 4000000 in
set_option maxRecDepth 100000 in
theorem c_fX4_back (l : Launch) (D : va_G) (g : Nat → ClassId) (ad : Nat → Nat) (σ : St) (v1 : Int32) {r0 : Int32} {σ0 : St} (h : fX4_back σ v1 = some (r0, σ0)) : MI l yX4_back kX4_back 1 22 D g (WM g ad σ) (WM g ad σ0) [.ref (ad 0), .int v1] r0 := by
  intro sz
  refine Met.of2 (Qc := fun A => QI D g A (WM g ad σ0) r0) (cc := cX4_back) (maxL := 2) (ret := (some .int)) (own := RX4) (by decide) rfl rfl (Nat.le_of_ble_eq_true rfl) ?_
  intro p e s m below meth c A ls X hr hlk hml Y hl
  have hx := X.1
  have hb := X.2.1
  have hl : lv_has ls 2 [(0, .ref (ad 0)), (1, .int v1)] := hl
  rw [fX4_back] at h
  refine lv_iload_n hx hb dX4_back_0 rfl (lv_at hl 1 rfl) ?_
  refine lv_iconst (v := 0) hx hb dX4_back_1 (by decide) ?_
  refine lv_aload_n hx hb dX4_back_2 rfl (lv_at hl 0 rfl) ?_
  refine rgM X Y 26 (v := .int (σ 0 26)) tw_495 rfl dX4_back_3 ?_
  obtain ⟨r2, hg1, h⟩ := ob h
  refine cSi X (hml.trans hl.1.symm) Y (c_fX4_within l D g (WM g ad σ) v1 0 (σ 0 26) hg1) (gs_X4_55 _) rfl fd_X4_within ⟨Nat.le_of_ble_eq_true rfl, Nat.le_of_ble_eq_true rfl⟩ ⟨Nat.le_of_ble_eq_true rfl, Nat.le_of_ble_eq_true rfl⟩ (rest := []) rfl (Nat.le_of_ble_eq_true rfl) dX4_back_6 (fun H locs Y => ?_)
  refine lv_if_ne (tgt := 15) hx hb dX4_back_9 (by decide) (fun c3 => ?_) (fun c3 => ?_)
  · replace h := oe c3 h
    refine lv_aload_n hx hb dX4_back_15 rfl (lv_at hl 0 rfl) ?_
    refine lv_dup hx hb dX4_back_16 rfl ?_
    refine rgM X Y 26 (v := .int (σ 0 26)) tw_495 rfl dX4_back_17 ?_
    refine lv_iload_n hx hb dX4_back_20 rfl (lv_at hl 1 rfl) ?_
    refine lv_isub hx hb dX4_back_21 ?_
    refine rpM X Y 26 (v := (σ 0 26) - v1) tw_495 rfl rfl rfl (stM_26 g ad σ ((σ 0 26) - v1)) dX4_back_22 (fun H locs Y => ?_)
    refine lv_aload_n hx hb dX4_back_25 rfl (lv_at hl 0 rfl) ?_
    refine rgM X Y 26 (v := .int ((up2 σ 0 26 ((σ 0 26) - v1)) 0 26)) tw_495 rfl dX4_back_26 ?_
    obtain ⟨rfl, rfl⟩ := os2 h
    exact retI X Y hr hlk dX4_back_29
  · replace h := ot c3 h
    refine lv_bipush (v := (-2)) hx hb dX4_back_12 (by decide) ?_
    obtain ⟨rfl, rfl⟩ := os2 h
    exact retI X Y hr hlk dX4_back_14
set_option maxHeartbeats 4000000 in
set_option maxRecDepth 100000 in
theorem w_fX4_areSo_L2 {p : Program} {l : Launch} {e : Env} {s : State} {m : MethodId} {args : Array Value} {below : List Frame} {meth : Method} {c : Code} {D : va_G} {g : Nat → ClassId} {ad : Nat → Nat} {A : Nat → Prop} {r0 : Int32} (X : Cx p s m c args cX4_areSo RX4 kX4_areSo D g) (hr : meth.sig.returnType = (some .boolean)) (hlk : meth.locks = false) (hml : c.maxLocals = 2) : ∀ (n : Nat), ∀ (σ : St) (v1 : Int32) (H : Heap) (locs : List Loc) (ls : Array Slot), Hp D A s.heap H locs (WM g ad σ) → lv_has ls 2 [(0, .ref (ad 0)), (1, .int v1)] → fX4_areSo_L2 n σ v1 = some r0 → W p l e (RM 3 71) s m args below meth c H locs 0 0 (MQ below (QI D g A (WM g ad σ) r0) args s 0 0 A) (F0 m 2 ls []) := by
  have hx := X.1
  have hb := X.2.1
  intro n
  induction n with
  | zero => intro σ v1 H locs ls Y hl h; cases (show none = _ from h)
  | succ n ih =>
    intro σ v1 H locs ls Y hl h
    rw [fX4_areSo_L2] at h
    refine lv_iload_n hx hb dX4_areSo_2 rfl (lv_at hl 1 rfl) ?_
    refine lv_aload_n hx hb dX4_areSo_3 rfl (lv_at hl 0 rfl) ?_
    refine rgM X Y 26 (v := .int (σ 0 26)) tw_495 rfl dX4_areSo_4 ?_
    refine lv_icmp_ge (tgt := 37) hx hb dX4_areSo_7 (by decide) (fun c1 => ?_) (fun c1 => ?_)
    · replace h := ot c1 h
      refine lv_iconst (v := 1) hx hb dX4_areSo_37 (by decide) ?_
      obtain rfl := os1 h
      exact retZ X Y hr hlk rfl dX4_areSo_38
    · replace h := oe c1 h
      refine lv_aload_n hx hb dX4_areSo_10 rfl (lv_at hl 0 rfl) ?_
      refine lv_aload_n hx hb dX4_areSo_11 rfl (lv_at hl 0 rfl) ?_
      refine rgM X Y 27 (v := .ref (ad 12)) tw_496 rfl dX4_areSo_12 ?_
      refine lv_iload_n hx hb dX4_areSo_15 rfl (lv_at hl 1 rfl) ?_
      obtain ⟨hg2, h⟩ := og h
      refine ri X Y (lkM_12 g ad σ) hg2 dX4_areSo_16 ?_
      obtain ⟨r4, hg3, h⟩ := ob h
      refine cVi X (hml.trans hl.1.symm) Y (c_fX4_pullersOf l D g ad σ n (σ 12 v1.toNatClampNeg) hg3) (lkM g ad σ) rfl (gs_X4_137 _) rfl fd_X4_pullersOf ⟨Nat.le_of_ble_eq_true rfl, Nat.le_of_ble_eq_true rfl⟩ ⟨Nat.le_of_ble_eq_true rfl, Nat.le_of_ble_eq_true rfl⟩ (rest := []) rfl (Nat.le_of_ble_eq_true rfl) dX4_areSo_17 (fun H locs Y => ?_)
      refine lv_aload_n hx hb dX4_areSo_20 rfl (lv_at hl 0 rfl) ?_
      refine rgM X Y 28 (v := .ref (ad 13)) tw_497 rfl dX4_areSo_21 ?_
      refine lv_iload_n hx hb dX4_areSo_24 rfl (lv_at hl 1 rfl) ?_
      obtain ⟨hg5, h⟩ := og h
      refine ri X Y (lkM_13 g ad σ) hg5 dX4_areSo_25 ?_
      refine lv_icmp_eq (tgt := 31) hx hb dX4_areSo_26 (by decide) (fun c6 => ?_) (fun c6 => ?_)
      · replace h := ot c6 h
        refine lv_iinc (v := v1 + 1) (lv' := [(1, .int (v1 + 1)), (0, .ref (ad 0))]) hx hb dX4_areSo_31 hl (k := 1) rfl rfl (by decide) rfl (fun ls hl => ?_)
        refine lv_goto (tgt := 2) hx hb dX4_areSo_34 (by decide) ?_
        exact ih σ (v1 + 1) _ _ _ Y (lv_sub hl [1, 0] rfl) h
      · replace h := oe c6 h
        refine lv_iconst (v := 0) hx hb dX4_areSo_29 (by decide) ?_
        obtain rfl := os1 h
        exact retZ X Y hr hlk rfl dX4_areSo_30
set_option maxHeartbeats 4000000 in
set_option maxRecDepth 100000 in
theorem c_fX4_areSo (l : Launch) (D : va_G) (g : Nat → ClassId) (ad : Nat → Nat) (σ : St) (n : Nat) {r0 : Int32} (h : fX4_areSo n σ = some r0) : MI l yX4_areSo kX4_areSo 3 71 D g (WM g ad σ) (WM g ad σ) [.ref (ad 0)] r0 := by
  intro sz
  refine Met.of2 (Qc := fun A => QI D g A (WM g ad σ) r0) (cc := cX4_areSo) (maxL := 2) (ret := (some .boolean)) (own := RX4) (by decide) rfl rfl (Nat.le_of_ble_eq_true rfl) ?_
  intro p e s m below meth c A ls X hr hlk hml Y hl
  have hx := X.1
  have hb := X.2.1
  have hl : lv_has ls 2 [(0, .ref (ad 0))] := hl
  rw [fX4_areSo] at h
  refine lv_iconst (v := 0) hx hb dX4_areSo_0 (by decide) ?_
  refine lv_istore_n (lv' := [(1, .int 0), (0, .ref (ad 0))]) hx hb dX4_areSo_1 rfl hl (by decide) rfl (fun ls hl => ?_)
  exact w_fX4_areSo_L2 X hr hlk hml n σ 0 _ _ _ Y (lv_sub hl [1, 0] rfl) h
