set_option maxHeartbeats 4000000 in
set_option maxRecDepth 100000 in
theorem w_fX4_copy_L166 {p : Program} {l : Launch} {e : Env} {s : State} {m : MethodId} {args : Array Value} {below : List Frame} {meth : Method} {c : Code} {D : va_G} {g : Nat → ClassId} {ad : Nat → Nat} {A : Nat → Prop} {r0 : Int32} {σ0 : St} (X : Cx p s m c args cX4_copy RX4 kX4_copy D g) (hr : meth.sig.returnType = (some .int)) (hlk : meth.locks = false) (hml : c.maxLocals = 10) : ∀ (n : Nat), ∀ (σ : St) (v1 : Int32) (v2 : Int32) (v3 : Int32) (v4 : Int32) (v5 : Int32) (v7 : Int32) (v8 : Int32) (H : Heap) (locs : List Loc) (ls : Array Slot), Hp D A s.heap H locs (WM g ad σ) → lv_has ls 10 [(0, .ref (ad 0)), (1, .int v1), (2, .int v2), (3, .int v3), (4, .int v4), (5, .int v5), (7, .int v7), (8, .int v8)] → fX4_copy_L166 n σ v1 v2 v3 v4 v5 v7 v8 = some (r0, σ0) → W p l e (RM 2 42) s m args below meth c H locs 0 0 (MQ below (QI D g A (WM g ad σ0) r0) args s 0 0 A) (F0 m 166 ls []) := by
  have hx := X.1
  have hb := X.2.1
  intro n
  induction n with
  | zero => intro σ v1 v2 v3 v4 v5 v7 v8 H locs ls Y hl h; cases (show none = _ from h)
  | succ n ih =>
    intro σ v1 v2 v3 v4 v5 v7 v8 H locs ls Y hl h
    rw [fX4_copy_L166] at h
    refine lv_iload hx hb dX4_copy_166 (lv_at hl 7 rfl) ?_
    refine lv_iload hx hb dX4_copy_168 (lv_at hl 5 rfl) ?_
    refine lv_icmp_ge (tgt := 227) hx hb dX4_copy_170 (by decide) (fun c46 => ?_) (fun c46 => ?_)
    · replace h := ot c46 h
      refine lv_iload hx hb dX4_copy_227 (lv_at hl 5 rfl) ?_
      obtain ⟨rfl, rfl⟩ := os2 h
      exact retI X Y hr hlk dX4_copy_229
    · replace h := oe c46 h
      refine lv_iload hx hb dX4_copy_173 (lv_at hl 6 rfl) ?_
      refine lv_if_eq (tgt := 188) hx hb dX4_copy_175 (by decide) (fun c47 => ?_) (fun c47 => ?_)
      · replace h := ot c47 h
        refine lv_iload hx hb dX4_copy_188 (lv_at hl 7 rfl) ?_
        refine lv_istore (lv' := [(9, .int v8), (0, .ref (ad 0)), (1, .int v1), (2, .int v2), (3, .int v3), (4, .int v4), (5, .int v5), (7, .int v7), (8, .int v8)]) hx hb dX4_copy_190 hl (by decide) rfl (fun ls hl => ?_)
        refine lv_aload_n hx hb dX4_copy_192 rfl (lv_at hl 1 rfl) ?_
        refine rgM X Y 4 (v := .ref (ad 3)) tw_473 rfl dX4_copy_193 ?_
        refine lv_bipush (v := 60) hx hb dX4_copy_196 (by decide) ?_
        refine lv_iload_n hx hb dX4_copy_198 rfl (lv_at hl 4 rfl) ?_
        refine lv_imul hx hb dX4_copy_199 ?_
        refine lv_iload hx hb dX4_copy_200 (lv_at hl 5 rfl) ?_
        refine lv_iadd hx hb dX4_copy_202 ?_
        refine lv_iload hx hb dX4_copy_203 (lv_at hl 0 rfl) ?_
        refine lv_iadd hx hb dX4_copy_205 ?_
        refine lv_aload_n hx hb dX4_copy_206 rfl (lv_at hl 1 rfl) ?_
        refine rgM X Y 4 (v := .ref (ad 3)) tw_473 rfl dX4_copy_207 ?_
        refine lv_bipush (v := 60) hx hb dX4_copy_210 (by decide) ?_
        refine lv_iload_n hx hb dX4_copy_212 rfl (lv_at hl 2 rfl) ?_
        refine lv_imul hx hb dX4_copy_213 ?_
        refine lv_iload_n hx hb dX4_copy_214 rfl (lv_at hl 3 rfl) ?_
        refine lv_iadd hx hb dX4_copy_215 ?_
        refine lv_iload hx hb dX4_copy_216 (lv_at hl 0 rfl) ?_
        refine lv_iadd hx hb dX4_copy_218 ?_
        obtain ⟨hg48, h⟩ := og h
        refine ri X Y (lkM_3 g ad σ) hg48 dX4_copy_219 ?_
        obtain ⟨hg49, h⟩ := og h
        refine ris X Y (W1 := WM g ad (up2 σ 3 (((((60 : Int32) * v3) + v4) + v8).toNatClampNeg) (σ 3 ((((60 : Int32) * v1) + v2) + v8).toNatClampNeg))) (lkM_3 g ad σ) hg49 (stM_A3 g ad σ _) dX4_copy_220 (fun H locs Y => ?_)
        refine lv_iinc (v := v8 + 1) (lv' := [(8, .int (v8 + 1)), (9, .int v8), (0, .ref (ad 0)), (1, .int v1), (2, .int v2), (3, .int v3), (4, .int v4), (5, .int v5), (7, .int v7)]) hx hb dX4_copy_221 hl (k := 8) rfl rfl (by decide) rfl (fun ls hl => ?_)
        refine lv_goto (tgt := 166) hx hb dX4_copy_224 (by decide) ?_
        exact ih (up2 σ 3 (((((60 : Int32) * v3) + v4) + v8).toNatClampNeg) (σ 3 ((((60 : Int32) * v1) + v2) + v8).toNatClampNeg)) v1 v2 v3 v4 v5 v7 (v8 + 1) _ _ _ Y (lv_sub hl [2, 3, 4, 5, 6, 7, 8, 0] rfl) h
      · replace h := oe c47 h
        refine lv_iload hx hb dX4_copy_178 (lv_at hl 5 rfl) ?_
        refine lv_iconst (v := 1) hx hb dX4_copy_180 (by decide) ?_
        refine lv_isub hx hb dX4_copy_181 ?_
        refine lv_iload hx hb dX4_copy_182 (lv_at hl 7 rfl) ?_
        refine lv_isub hx hb dX4_copy_184 ?_
        refine lv_goto (tgt := 190) hx hb dX4_copy_185 (by decide) ?_
        refine lv_istore (lv' := [(9, .int ((v5 - 1) - v8)), (0, .ref (ad 0)), (1, .int v1), (2, .int v2), (3, .int v3), (4, .int v4), (5, .int v5), (7, .int v7), (8, .int v8)]) hx hb dX4_copy_190 hl (by decide) rfl (fun ls hl => ?_)
        refine lv_aload_n hx hb dX4_copy_192 rfl (lv_at hl 1 rfl) ?_
        refine rgM X Y 4 (v := .ref (ad 3)) tw_473 rfl dX4_copy_193 ?_
        refine lv_bipush (v := 60) hx hb dX4_copy_196 (by decide) ?_
        refine lv_iload_n hx hb dX4_copy_198 rfl (lv_at hl 4 rfl) ?_
        refine lv_imul hx hb dX4_copy_199 ?_
        refine lv_iload hx hb dX4_copy_200 (lv_at hl 5 rfl) ?_
        refine lv_iadd hx hb dX4_copy_202 ?_
        refine lv_iload hx hb dX4_copy_203 (lv_at hl 0 rfl) ?_
        refine lv_iadd hx hb dX4_copy_205 ?_
        refine lv_aload_n hx hb dX4_copy_206 rfl (lv_at hl 1 rfl) ?_
        refine rgM X Y 4 (v := .ref (ad 3)) tw_473 rfl dX4_copy_207 ?_
        refine lv_bipush (v := 60) hx hb dX4_copy_210 (by decide) ?_
        refine lv_iload_n hx hb dX4_copy_212 rfl (lv_at hl 2 rfl) ?_
        refine lv_imul hx hb dX4_copy_213 ?_
        refine lv_iload_n hx hb dX4_copy_214 rfl (lv_at hl 3 rfl) ?_
        refine lv_iadd hx hb dX4_copy_215 ?_
        refine lv_iload hx hb dX4_copy_216 (lv_at hl 0 rfl) ?_
        refine lv_iadd hx hb dX4_copy_218 ?_
        obtain ⟨hg50, h⟩ := og h
        refine ri X Y (lkM_3 g ad σ) hg50 dX4_copy_219 ?_
        obtain ⟨hg51, h⟩ := og h
        refine ris X Y (W1 := WM g ad (up2 σ 3 (((((60 : Int32) * v3) + v4) + ((v5 - 1) - v8)).toNatClampNeg) (σ 3 ((((60 : Int32) * v1) + v2) + ((v5 - 1) - v8)).toNatClampNeg))) (lkM_3 g ad σ) hg51 (stM_A3 g ad σ _) dX4_copy_220 (fun H locs Y => ?_)
        refine lv_iinc (v := v8 + 1) (lv' := [(8, .int (v8 + 1)), (9, .int ((v5 - 1) - v8)), (0, .ref (ad 0)), (1, .int v1), (2, .int v2), (3, .int v3), (4, .int v4), (5, .int v5), (7, .int v7)]) hx hb dX4_copy_221 hl (k := 8) rfl rfl (by decide) rfl (fun ls hl => ?_)
        refine lv_goto (tgt := 166) hx hb dX4_copy_224 (by decide) ?_
        exact ih (up2 σ 3 (((((60 : Int32) * v3) + v4) + ((v5 - 1) - v8)).toNatClampNeg) (σ 3 ((((60 : Int32) * v1) + v2) + ((v5 - 1) - v8)).toNatClampNeg)) v1 v2 v3 v4 v5 v7 (v8 + 1) _ _ _ Y (lv_sub hl [2, 3, 4, 5, 6, 7, 8, 0] rfl) h
set_option maxHeartbeats 4000000 in
set_option maxRecDepth 100000 in
theorem c_fX4_copy (l : Launch) (D : va_G) (g : Nat → ClassId) (ad : Nat → Nat) (σ : St) (n : Nat) (v1 : Int32) (v2 : Int32) (v3 : Int32) (v4 : Int32) (v5 : Int32) {r0 : Int32} {σ0 : St} (h : fX4_copy n σ v1 v2 v3 v4 v5 = some (r0, σ0)) : MI l yX4_copy kX4_copy 2 42 D g (WM g ad σ) (WM g ad σ0) [.ref (ad 0), .int v1, .int v2, .int v3, .int v4, .int v5] r0 := by
  intro sz
  refine Met.of2 (Qc := fun A => QI D g A (WM g ad σ0) r0) (cc := cX4_copy) (maxL := 10) (ret := (some .int)) (own := RX4) (by decide) rfl rfl (Nat.le_of_ble_eq_true rfl) ?_
  intro p e s m below meth c A ls X hr hlk hml Y hl
  have hx := X.1
  have hb := X.2.1
  have hl : lv_has ls 10 [(0, .ref (ad 0)), (1, .int v1), (2, .int v2), (3, .int v3), (4, .int v4), (5, .int v5)] := hl
  rw [fX4_copy] at h
  refine lv_aload_n hx hb dX4_copy_0 rfl (lv_at hl 0 rfl) ?_
  refine lv_iconst (v := 0) hx hb dX4_copy_1 (by decide) ?_
  refine rpM X Y 0 (v := 0) tw_469 rfl rfl rfl (stM_0 g ad σ 0) dX4_copy_2 (fun H locs Y => ?_)
  refine lv_iload_n hx hb dX4_copy_5 rfl (lv_at hl 1 rfl) ?_
  obtain ⟨r2, hg1, h⟩ := ob h
  refine cSi X (hml.trans hl.1.symm) Y (c_fX4_isSheet l D g (WM g ad (up2 σ 0 0 0)) v1 hg1) (gs_X4_65 _) rfl fd_X4_isSheet ⟨Nat.le_of_ble_eq_true rfl, Nat.le_of_ble_eq_true rfl⟩ ⟨Nat.le_of_ble_eq_true rfl, Nat.le_of_ble_eq_true rfl⟩ (rest := []) rfl (Nat.le_of_ble_eq_true rfl) dX4_copy_6 (fun H locs Y => ?_)
  refine lv_if_eq (tgt := 19) hx hb dX4_copy_9 (by decide) (fun c3 => ?_) (fun c3 => ?_)
  · replace h := ot c3 h
    refine lv_iconst (v := (-1)) hx hb dX4_copy_19 (by decide) ?_
    obtain ⟨rfl, rfl⟩ := os2 h
    exact retI X Y hr hlk dX4_copy_20
  · replace h := oe c3 h
    refine lv_iload_n hx hb dX4_copy_12 rfl (lv_at hl 3 rfl) ?_
    obtain ⟨r5, hg4, h⟩ := ob h
    refine cSi X (hml.trans hl.1.symm) Y (c_fX4_isSheet l D g (WM g ad (up2 σ 0 0 0)) v3 hg4) (gs_X4_65 _) rfl fd_X4_isSheet ⟨Nat.le_of_ble_eq_true rfl, Nat.le_of_ble_eq_true rfl⟩ ⟨Nat.le_of_ble_eq_true rfl, Nat.le_of_ble_eq_true rfl⟩ (rest := []) rfl (Nat.le_of_ble_eq_true rfl) dX4_copy_13 (fun H locs Y => ?_)
    refine lv_if_ne (tgt := 21) hx hb dX4_copy_16 (by decide) (fun c6 => ?_) (fun c6 => ?_)
    · replace h := oe c6 h
      refine lv_aload_n hx hb dX4_copy_21 rfl (lv_at hl 0 rfl) ?_
      refine rgM X Y 2 (v := .ref (ad 1)) tw_471 rfl dX4_copy_22 ?_
      refine lv_iload_n hx hb dX4_copy_25 rfl (lv_at hl 1 rfl) ?_
      obtain ⟨hg7, h⟩ := og h
      refine ri X Y (lkM_1 g ad (up2 σ 0 0 0)) hg7 dX4_copy_26 ?_
      refine lv_bipush (v := (-9)) hx hb dX4_copy_27 (by decide) ?_
      refine lv_icmp_eq (tgt := 43) hx hb dX4_copy_29 (by decide) (fun c8 => ?_) (fun c8 => ?_)
      · replace h := ot c8 h
        refine lv_aload_n hx hb dX4_copy_43 rfl (lv_at hl 0 rfl) ?_
        refine lv_iconst (v := 1) hx hb dX4_copy_44 (by decide) ?_
        obtain ⟨r10, σ10, hg9, h⟩ := ob2 h
        refine cVi X (hml.trans hl.1.symm) Y (c_fX4_fails l D g ad (up2 σ 0 0 0) 1 hg9) (lkM g ad (up2 σ 0 0 0)) rfl (gs_X4_76 _) rfl fd_X4_fails ⟨Nat.le_of_ble_eq_true rfl, Nat.le_of_ble_eq_true rfl⟩ ⟨Nat.le_of_ble_eq_true rfl, Nat.le_of_ble_eq_true rfl⟩ (rest := []) rfl (Nat.le_of_ble_eq_true rfl) dX4_copy_45 (fun H locs Y => ?_)
        obtain ⟨rfl, rfl⟩ := os2 h
        exact retI X Y hr hlk dX4_copy_48
      · replace h := oe c8 h
        refine lv_aload_n hx hb dX4_copy_32 rfl (lv_at hl 0 rfl) ?_
        refine rgM X Y 2 (v := .ref (ad 1)) tw_471 rfl dX4_copy_33 ?_
        refine lv_iload_n hx hb dX4_copy_36 rfl (lv_at hl 3 rfl) ?_
        obtain ⟨hg11, h⟩ := og h
        refine ri X Y (lkM_1 g ad (up2 σ 0 0 0)) hg11 dX4_copy_37 ?_
        refine lv_bipush (v := (-9)) hx hb dX4_copy_38 (by decide) ?_
        refine lv_icmp_ne (tgt := 49) hx hb dX4_copy_40 (by decide) (fun c12 => ?_) (fun c12 => ?_)
        · replace h := oe c12 h
          refine lv_aload_n hx hb dX4_copy_49 rfl (lv_at hl 0 rfl) ?_
          refine rgM X Y 2 (v := .ref (ad 1)) tw_471 rfl dX4_copy_50 ?_
          refine lv_iload_n hx hb dX4_copy_53 rfl (lv_at hl 1 rfl) ?_
          obtain ⟨hg13, h⟩ := og h
          refine ri X Y (lkM_1 g ad (up2 σ 0 0 0)) hg13 dX4_copy_54 ?_
          refine lv_aload_n hx hb dX4_copy_55 rfl (lv_at hl 0 rfl) ?_
          refine rgM X Y 2 (v := .ref (ad 1)) tw_471 rfl dX4_copy_56 ?_
          refine lv_iload_n hx hb dX4_copy_59 rfl (lv_at hl 3 rfl) ?_
          obtain ⟨hg14, h⟩ := og h
          refine ri X Y (lkM_1 g ad (up2 σ 0 0 0)) hg14 dX4_copy_60 ?_
          refine lv_icmp_eq (tgt := 70) hx hb dX4_copy_61 (by decide) (fun c15 => ?_) (fun c15 => ?_)
          · replace h := ot c15 h
            refine lv_iload_n hx hb dX4_copy_70 rfl (lv_at hl 2 rfl) ?_
            refine lv_if_lt (tgt := 109) hx hb dX4_copy_71 (by decide) (fun c16 => ?_) (fun c16 => ?_)
            · replace h := ot c16 h
              refine lv_iconst (v := 0) hx hb dX4_copy_109 (by decide) ?_
              refine lv_istore (lv' := [(6, .int 0), (0, .ref (ad 0)), (1, .int v1), (2, .int v2), (3, .int v3), (4, .int v4), (5, .int v5)]) hx hb dX4_copy_110 hl (by decide) rfl (fun ls hl => ?_)
              refine lv_iload hx hb dX4_copy_112 (lv_at hl 0 rfl) ?_
              refine lv_if_eq (tgt := 144) hx hb dX4_copy_114 (by decide) (fun _ => ?_) (fun c9 => absurd c9 (by decide))
              refine lv_aload_n hx hb dX4_copy_144 rfl (lv_at hl 1 rfl) ?_
              refine lv_iconst (v := 3) hx hb dX4_copy_145 (by decide) ?_
              obtain ⟨r18, σ18, hg17, h⟩ := ob2 h
              refine cVi X (hml.trans hl.1.symm) Y (c_fX4_fails l D g ad (up2 σ 0 0 0) 3 hg17) (lkM g ad (up2 σ 0 0 0)) rfl (gs_X4_76 _) rfl fd_X4_fails ⟨Nat.le_of_ble_eq_true rfl, Nat.le_of_ble_eq_true rfl⟩ ⟨Nat.le_of_ble_eq_true rfl, Nat.le_of_ble_eq_true rfl⟩ (rest := []) rfl (Nat.le_of_ble_eq_true rfl) dX4_copy_146 (fun H locs Y => ?_)
              obtain ⟨rfl, rfl⟩ := os2 h
              exact retI X Y hr hlk dX4_copy_149
            · replace h := oe c16 h
              refine lv_iload hx hb dX4_copy_74 (lv_at hl 4 rfl) ?_
              refine lv_if_lt (tgt := 109) hx hb dX4_copy_76 (by decide) (fun c19 => ?_) (fun c19 => ?_)
              · replace h := ot c19 h
                refine lv_iconst (v := 0) hx hb dX4_copy_109 (by decide) ?_
                refine lv_istore (lv' := [(6, .int 0), (0, .ref (ad 0)), (1, .int v1), (2, .int v2), (3, .int v3), (4, .int v4), (5, .int v5)]) hx hb dX4_copy_110 hl (by decide) rfl (fun ls hl => ?_)
                refine lv_iload hx hb dX4_copy_112 (lv_at hl 0 rfl) ?_
                refine lv_if_eq (tgt := 144) hx hb dX4_copy_114 (by decide) (fun _ => ?_) (fun c9 => absurd c9 (by decide))
                refine lv_aload_n hx hb dX4_copy_144 rfl (lv_at hl 1 rfl) ?_
                refine lv_iconst (v := 3) hx hb dX4_copy_145 (by decide) ?_
                obtain ⟨r21, σ21, hg20, h⟩ := ob2 h
                refine cVi X (hml.trans hl.1.symm) Y (c_fX4_fails l D g ad (up2 σ 0 0 0) 3 hg20) (lkM g ad (up2 σ 0 0 0)) rfl (gs_X4_76 _) rfl fd_X4_fails ⟨Nat.le_of_ble_eq_true rfl, Nat.le_of_ble_eq_true rfl⟩ ⟨Nat.le_of_ble_eq_true rfl, Nat.le_of_ble_eq_true rfl⟩ (rest := []) rfl (Nat.le_of_ble_eq_true rfl) dX4_copy_146 (fun H locs Y => ?_)
                obtain ⟨rfl, rfl⟩ := os2 h
                exact retI X Y hr hlk dX4_copy_149
              · replace h := oe c19 h
                refine lv_iload hx hb dX4_copy_79 (lv_at hl 5 rfl) ?_
                refine lv_if_lt (tgt := 109) hx hb dX4_copy_81 (by decide) (fun c22 => ?_) (fun c22 => ?_)
                · replace h := ot c22 h
                  refine lv_iconst (v := 0) hx hb dX4_copy_109 (by decide) ?_
                  refine lv_istore (lv' := [(6, .int 0), (0, .ref (ad 0)), (1, .int v1), (2, .int v2), (3, .int v3), (4, .int v4), (5, .int v5)]) hx hb dX4_copy_110 hl (by decide) rfl (fun ls hl => ?_)
                  refine lv_iload hx hb dX4_copy_112 (lv_at hl 0 rfl) ?_
                  refine lv_if_eq (tgt := 144) hx hb dX4_copy_114 (by decide) (fun _ => ?_) (fun c9 => absurd c9 (by decide))
                  refine lv_aload_n hx hb dX4_copy_144 rfl (lv_at hl 1 rfl) ?_
                  refine lv_iconst (v := 3) hx hb dX4_copy_145 (by decide) ?_
                  obtain ⟨r24, σ24, hg23, h⟩ := ob2 h
                  refine cVi X (hml.trans hl.1.symm) Y (c_fX4_fails l D g ad (up2 σ 0 0 0) 3 hg23) (lkM g ad (up2 σ 0 0 0)) rfl (gs_X4_76 _) rfl fd_X4_fails ⟨Nat.le_of_ble_eq_true rfl, Nat.le_of_ble_eq_true rfl⟩ ⟨Nat.le_of_ble_eq_true rfl, Nat.le_of_ble_eq_true rfl⟩ (rest := []) rfl (Nat.le_of_ble_eq_true rfl) dX4_copy_146 (fun H locs Y => ?_)
                  obtain ⟨rfl, rfl⟩ := os2 h
                  exact retI X Y hr hlk dX4_copy_149
                · replace h := oe c22 h
                  refine lv_iload_n hx hb dX4_copy_84 rfl (lv_at hl 2 rfl) ?_
                  refine lv_aload_n hx hb dX4_copy_85 rfl (lv_at hl 0 rfl) ?_
                  refine rgM X Y 3 (v := .ref (ad 2)) tw_472 rfl dX4_copy_86 ?_
                  refine lv_iload_n hx hb dX4_copy_89 rfl (lv_at hl 1 rfl) ?_
                  obtain ⟨hg25, h⟩ := og h
                  refine ri X Y (lkM_2 g ad (up2 σ 0 0 0)) hg25 dX4_copy_90 ?_
                  refine lv_icmp_gt (tgt := 109) hx hb dX4_copy_91 (by decide) (fun c26 => ?_) (fun c26 => ?_)
                  · replace h := ot c26 h
                    refine lv_iconst (v := 0) hx hb dX4_copy_109 (by decide) ?_
                    refine lv_istore (lv' := [(6, .int 0), (0, .ref (ad 0)), (1, .int v1), (2, .int v2), (3, .int v3), (4, .int v4), (5, .int v5)]) hx hb dX4_copy_110 hl (by decide) rfl (fun ls hl => ?_)
                    refine lv_iload hx hb dX4_copy_112 (lv_at hl 0 rfl) ?_
                    refine lv_if_eq (tgt := 144) hx hb dX4_copy_114 (by decide) (fun _ => ?_) (fun c9 => absurd c9 (by decide))
                    refine lv_aload_n hx hb dX4_copy_144 rfl (lv_at hl 1 rfl) ?_
                    refine lv_iconst (v := 3) hx hb dX4_copy_145 (by decide) ?_
                    obtain ⟨r28, σ28, hg27, h⟩ := ob2 h
                    refine cVi X (hml.trans hl.1.symm) Y (c_fX4_fails l D g ad (up2 σ 0 0 0) 3 hg27) (lkM g ad (up2 σ 0 0 0)) rfl (gs_X4_76 _) rfl fd_X4_fails ⟨Nat.le_of_ble_eq_true rfl, Nat.le_of_ble_eq_true rfl⟩ ⟨Nat.le_of_ble_eq_true rfl, Nat.le_of_ble_eq_true rfl⟩ (rest := []) rfl (Nat.le_of_ble_eq_true rfl) dX4_copy_146 (fun H locs Y => ?_)
                    obtain ⟨rfl, rfl⟩ := os2 h
                    exact retI X Y hr hlk dX4_copy_149
                  · replace h := oe c26 h
                    refine lv_iload hx hb dX4_copy_94 (lv_at hl 4 rfl) ?_
                    refine lv_aload_n hx hb dX4_copy_96 rfl (lv_at hl 0 rfl) ?_
                    refine rgM X Y 3 (v := .ref (ad 2)) tw_472 rfl dX4_copy_97 ?_
                    refine lv_iload_n hx hb dX4_copy_100 rfl (lv_at hl 3 rfl) ?_
                    obtain ⟨hg29, h⟩ := og h
                    refine ri X Y (lkM_2 g ad (up2 σ 0 0 0)) hg29 dX4_copy_101 ?_
                    refine lv_icmp_gt (tgt := 109) hx hb dX4_copy_102 (by decide) (fun c30 => ?_) (fun c30 => ?_)
                    · replace h := ot c30 h
                      refine lv_iconst (v := 0) hx hb dX4_copy_109 (by decide) ?_
                      refine lv_istore (lv' := [(6, .int 0), (0, .ref (ad 0)), (1, .int v1), (2, .int v2), (3, .int v3), (4, .int v4), (5, .int v5)]) hx hb dX4_copy_110 hl (by decide) rfl (fun ls hl => ?_)
                      refine lv_iload hx hb dX4_copy_112 (lv_at hl 0 rfl) ?_
                      refine lv_if_eq (tgt := 144) hx hb dX4_copy_114 (by decide) (fun _ => ?_) (fun c9 => absurd c9 (by decide))
                      refine lv_aload_n hx hb dX4_copy_144 rfl (lv_at hl 1 rfl) ?_
                      refine lv_iconst (v := 3) hx hb dX4_copy_145 (by decide) ?_
                      obtain ⟨r32, σ32, hg31, h⟩ := ob2 h
                      refine cVi X (hml.trans hl.1.symm) Y (c_fX4_fails l D g ad (up2 σ 0 0 0) 3 hg31) (lkM g ad (up2 σ 0 0 0)) rfl (gs_X4_76 _) rfl fd_X4_fails ⟨Nat.le_of_ble_eq_true rfl, Nat.le_of_ble_eq_true rfl⟩ ⟨Nat.le_of_ble_eq_true rfl, Nat.le_of_ble_eq_true rfl⟩ (rest := []) rfl (Nat.le_of_ble_eq_true rfl) dX4_copy_146 (fun H locs Y => ?_)
                      obtain ⟨rfl, rfl⟩ := os2 h
                      exact retI X Y hr hlk dX4_copy_149
                    · replace h := oe c30 h
                      refine lv_iconst (v := 1) hx hb dX4_copy_105 (by decide) ?_
                      refine lv_goto (tgt := 110) hx hb dX4_copy_106 (by decide) ?_
                      refine lv_istore (lv' := [(6, .int 1), (0, .ref (ad 0)), (1, .int v1), (2, .int v2), (3, .int v3), (4, .int v4), (5, .int v5)]) hx hb dX4_copy_110 hl (by decide) rfl (fun ls hl => ?_)
                      refine lv_iload hx hb dX4_copy_112 (lv_at hl 0 rfl) ?_
                      refine lv_if_eq (tgt := 144) hx hb dX4_copy_114 (by decide) (fun c9 => absurd c9 (by decide)) (fun _ => ?_)
                      refine lv_iload hx hb dX4_copy_117 (lv_at hl 6 rfl) ?_
                      refine lv_aload_n hx hb dX4_copy_119 rfl (lv_at hl 1 rfl) ?_
                      refine rgM X Y 3 (v := .ref (ad 2)) tw_472 rfl dX4_copy_120 ?_
                      refine lv_iload_n hx hb dX4_copy_123 rfl (lv_at hl 2 rfl) ?_
                      obtain ⟨hg33, h⟩ := og h
                      refine ri X Y (lkM_2 g ad (up2 σ 0 0 0)) hg33 dX4_copy_124 ?_
                      refine lv_iload_n hx hb dX4_copy_125 rfl (lv_at hl 3 rfl) ?_
                      refine lv_isub hx hb dX4_copy_126 ?_
                      refine lv_icmp_gt (tgt := 144) hx hb dX4_copy_127 (by decide) (fun c34 => ?_) (fun c34 => ?_)
                      · replace h := ot c34 h
                        refine lv_aload_n hx hb dX4_copy_144 rfl (lv_at hl 1 rfl) ?_
                        refine lv_iconst (v := 3) hx hb dX4_copy_145 (by decide) ?_
                        obtain ⟨r36, σ36, hg35, h⟩ := ob2 h
                        refine cVi X (hml.trans hl.1.symm) Y (c_fX4_fails l D g ad (up2 σ 0 0 0) 3 hg35) (lkM g ad (up2 σ 0 0 0)) rfl (gs_X4_76 _) rfl fd_X4_fails ⟨Nat.le_of_ble_eq_true rfl, Nat.le_of_ble_eq_true rfl⟩ ⟨Nat.le_of_ble_eq_true rfl, Nat.le_of_ble_eq_true rfl⟩ (rest := []) rfl (Nat.le_of_ble_eq_true rfl) dX4_copy_146 (fun H locs Y => ?_)
                        obtain ⟨rfl, rfl⟩ := os2 h
                        exact retI X Y hr hlk dX4_copy_149
                      · replace h := oe c34 h
                        refine lv_iload hx hb dX4_copy_130 (lv_at hl 6 rfl) ?_
                        refine lv_aload_n hx hb dX4_copy_132 rfl (lv_at hl 1 rfl) ?_
                        refine rgM X Y 3 (v := .ref (ad 2)) tw_472 rfl dX4_copy_133 ?_
                        refine lv_iload_n hx hb dX4_copy_136 rfl (lv_at hl 4 rfl) ?_
                        obtain ⟨hg37, h⟩ := og h
                        refine ri X Y (lkM_2 g ad (up2 σ 0 0 0)) hg37 dX4_copy_137 ?_
                        refine lv_iload hx hb dX4_copy_138 (lv_at hl 5 rfl) ?_
                        refine lv_isub hx hb dX4_copy_140 ?_
                        refine lv_icmp_le (tgt := 150) hx hb dX4_copy_141 (by decide) (fun c38 => ?_) (fun c38 => ?_)
                        · replace h := ot c38 h
                          refine lv_iload_n hx hb dX4_copy_150 rfl (lv_at hl 3 rfl) ?_
                          refine lv_iload hx hb dX4_copy_151 (lv_at hl 5 rfl) ?_
                          refine lv_icmp_ge (tgt := 160) hx hb dX4_copy_153 (by decide) (fun c39 => ?_) (fun c39 => ?_)
                          · replace h := ot c39 h
                            refine lv_iconst (v := 0) hx hb dX4_copy_160 (by decide) ?_
                            refine lv_istore (lv' := [(7, .int 0), (6, .int 1), (0, .ref (ad 0)), (1, .int v1), (2, .int v2), (3, .int v3), (4, .int v4), (5, .int v5)]) hx hb dX4_copy_161 hl (by decide) rfl (fun ls hl => ?_)
                            refine lv_iconst (v := 0) hx hb dX4_copy_163 (by decide) ?_
                            refine lv_istore (lv' := [(8, .int 0), (7, .int 0), (6, .int 1), (0, .ref (ad 0)), (1, .int v1), (2, .int v2), (3, .int v3), (4, .int v4), (5, .int v5)]) hx hb dX4_copy_164 hl (by decide) rfl (fun ls hl => ?_)
                            exact w_fX4_copy_L166 X hr hlk hml n (up2 σ 0 0 0) v1 v2 v3 v4 v5 0 0 _ _ _ Y (lv_sub hl [3, 4, 5, 6, 7, 8, 1, 0] rfl) h
                          · replace h := oe c39 h
                            refine lv_iconst (v := 1) hx hb dX4_copy_156 (by decide) ?_
                            refine lv_goto (tgt := 161) hx hb dX4_copy_157 (by decide) ?_
                            refine lv_istore (lv' := [(7, .int 1), (6, .int 1), (0, .ref (ad 0)), (1, .int v1), (2, .int v2), (3, .int v3), (4, .int v4), (5, .int v5)]) hx hb dX4_copy_161 hl (by decide) rfl (fun ls hl => ?_)
                            refine lv_iconst (v := 0) hx hb dX4_copy_163 (by decide) ?_
                            refine lv_istore (lv' := [(8, .int 0), (7, .int 1), (6, .int 1), (0, .ref (ad 0)), (1, .int v1), (2, .int v2), (3, .int v3), (4, .int v4), (5, .int v5)]) hx hb dX4_copy_164 hl (by decide) rfl (fun ls hl => ?_)
                            exact w_fX4_copy_L166 X hr hlk hml n (up2 σ 0 0 0) v1 v2 v3 v4 v5 1 0 _ _ _ Y (lv_sub hl [3, 4, 5, 6, 7, 8, 1, 0] rfl) h
                        · replace h := oe c38 h
                          refine lv_aload_n hx hb dX4_copy_144 rfl (lv_at hl 1 rfl) ?_
                          refine lv_iconst (v := 3) hx hb dX4_copy_145 (by decide) ?_
                          obtain ⟨r41, σ41, hg40, h⟩ := ob2 h
                          refine cVi X (hml.trans hl.1.symm) Y (c_fX4_fails l D g ad (up2 σ 0 0 0) 3 hg40) (lkM g ad (up2 σ 0 0 0)) rfl (gs_X4_76 _) rfl fd_X4_fails ⟨Nat.le_of_ble_eq_true rfl, Nat.le_of_ble_eq_true rfl⟩ ⟨Nat.le_of_ble_eq_true rfl, Nat.le_of_ble_eq_true rfl⟩ (rest := []) rfl (Nat.le_of_ble_eq_true rfl) dX4_copy_146 (fun H locs Y => ?_)
                          obtain ⟨rfl, rfl⟩ := os2 h
                          exact retI X Y hr hlk dX4_copy_149
          · replace h := oe c15 h
            refine lv_aload_n hx hb dX4_copy_64 rfl (lv_at hl 0 rfl) ?_
            refine lv_iconst (v := 2) hx hb dX4_copy_65 (by decide) ?_
            obtain ⟨r43, σ43, hg42, h⟩ := ob2 h
            refine cVi X (hml.trans hl.1.symm) Y (c_fX4_fails l D g ad (up2 σ 0 0 0) 2 hg42) (lkM g ad (up2 σ 0 0 0)) rfl (gs_X4_76 _) rfl fd_X4_fails ⟨Nat.le_of_ble_eq_true rfl, Nat.le_of_ble_eq_true rfl⟩ ⟨Nat.le_of_ble_eq_true rfl, Nat.le_of_ble_eq_true rfl⟩ (rest := []) rfl (Nat.le_of_ble_eq_true rfl) dX4_copy_66 (fun H locs Y => ?_)
            obtain ⟨rfl, rfl⟩ := os2 h
            exact retI X Y hr hlk dX4_copy_69
        · replace h := ot c12 h
          refine lv_aload_n hx hb dX4_copy_43 rfl (lv_at hl 0 rfl) ?_
          refine lv_iconst (v := 1) hx hb dX4_copy_44 (by decide) ?_
          obtain ⟨r45, σ45, hg44, h⟩ := ob2 h
          refine cVi X (hml.trans hl.1.symm) Y (c_fX4_fails l D g ad (up2 σ 0 0 0) 1 hg44) (lkM g ad (up2 σ 0 0 0)) rfl (gs_X4_76 _) rfl fd_X4_fails ⟨Nat.le_of_ble_eq_true rfl, Nat.le_of_ble_eq_true rfl⟩ ⟨Nat.le_of_ble_eq_true rfl, Nat.le_of_ble_eq_true rfl⟩ (rest := []) rfl (Nat.le_of_ble_eq_true rfl) dX4_copy_45 (fun H locs Y => ?_)
          obtain ⟨rfl, rfl⟩ := os2 h
          exact retI X Y hr hlk dX4_copy_48
    · replace h := ot c6 h
      refine lv_iconst (v := (-1)) hx hb dX4_copy_19 (by decide) ?_
      obtain ⟨rfl, rfl⟩ := os2 h
      exact retI X Y hr hlk dX4_copy_20
set_option maxHeartbeats 4000000 in
set_option maxRecDepth 100000 in
theorem c_fX4_begins (l : Launch) (D : va_G) (g : Nat → ClassId) (ad : Nat → Nat) (σ : St) (v1 : Int32) {σ0 : St} (h : fX4_begins σ v1 = some σ0) : MV l yX4_begins kX4_begins 0 0 D g (WM g ad σ) (WM g ad σ0) [.ref (ad 0), .int v1] := by
  intro sz
  refine Met.of2 (Qc := fun A => QV D g A (WM g ad σ0)) (cc := cX4_begins) (maxL := 2) (ret := none) (own := RX4) (by decide) rfl rfl (Nat.le_of_ble_eq_true rfl) ?_
  intro p e s m below meth c A ls X hr hlk hml Y hl
  have hx := X.1
  have hb := X.2.1
  have hl : lv_has ls 2 [(0, .ref (ad 0)), (1, .int v1)] := hl
  rw [fX4_begins] at h
  refine lv_aload_n hx hb dX4_begins_0 rfl (lv_at hl 0 rfl) ?_
  refine lv_bipush (v := 31) hx hb dX4_begins_1 (by decide) ?_
  refine lv_aload_n hx hb dX4_begins_3 rfl (lv_at hl 0 rfl) ?_
  refine rgM X Y 1 (v := .int (σ 0 1)) tw_470 rfl dX4_begins_4 ?_
  refine lv_imul hx hb dX4_begins_7 ?_
  refine lv_iload_n hx hb dX4_begins_8 rfl (lv_at hl 1 rfl) ?_
  refine lv_iadd hx hb dX4_begins_9 ?_
  refine rpM X Y 1 (v := ((31 : Int32) * (σ 0 1)) + v1) tw_470 rfl rfl rfl (stM_1 g ad σ (((31 : Int32) * (σ 0 1)) + v1)) dX4_begins_10 (fun H locs Y => ?_)
  obtain rfl := os1 h
  exact retV X Y hr hlk dX4_begins_13
set_option maxHeartbeats 4000000 in
set_option maxRecDepth 100000 in
theorem c_fX4_tell (l : Launch) (D : va_G) (g : Nat → ClassId) (ad : Nat → Nat) (σ : St) (n : Nat) (v1 : Int32) {r0 : Int32} {σ0 : St} (h : fX4_tell n σ v1 = some (r0, σ0)) : MI l yX4_tell kX4_tell 1 23 D g (WM g ad σ) (WM g ad σ0) [.ref (ad 0), .int v1] r0 := by
  intro sz
  refine Met.of2 (Qc := fun A => QI D g A (WM g ad σ0) r0) (cc := cX4_tell) (maxL := 3) (ret := (some .int)) (own := RX4) (by decide) rfl rfl (Nat.le_of_ble_eq_true rfl) ?_
  intro p e s m below meth c A ls X hr hlk hml Y hl
  have hx := X.1
  have hb := X.2.1
  have hl : lv_has ls 3 [(0, .ref (ad 0)), (1, .int v1)] := hl
  rw [fX4_tell] at h
  refine lv_aload_n hx hb dX4_tell_0 rfl (lv_at hl 0 rfl) ?_
  refine lv_iload_n hx hb dX4_tell_1 rfl (lv_at hl 1 rfl) ?_
  obtain ⟨r2, hg1, h⟩ := ob h
  refine cVi X (hml.trans hl.1.symm) Y (c_fX4_isPerson l D g ad σ v1 hg1) (lkM g ad σ) rfl (gs_X4_115 _) rfl fd_X4_isPerson ⟨Nat.le_of_ble_eq_true rfl, Nat.le_of_ble_eq_true rfl⟩ ⟨Nat.le_of_ble_eq_true rfl, Nat.le_of_ble_eq_true rfl⟩ (rest := []) rfl (Nat.le_of_ble_eq_true rfl) dX4_tell_2 (fun H locs Y => ?_)
  refine lv_if_ne (tgt := 10) hx hb dX4_tell_5 (by decide) (fun c3 => ?_) (fun c3 => ?_)
  · replace h := oe c3 h
    refine lv_aload_n hx hb dX4_tell_10 rfl (lv_at hl 0 rfl) ?_
    refine lv_iload_n hx hb dX4_tell_11 rfl (lv_at hl 1 rfl) ?_
    obtain ⟨r5, hg4, h⟩ := ob h
    refine cVi X (hml.trans hl.1.symm) Y (c_fX4_allOf l D g ad σ n v1 hg4) (lkM g ad σ) rfl (gs_X4_118 _) rfl fd_X4_allOf ⟨Nat.le_of_ble_eq_true rfl, Nat.le_of_ble_eq_true rfl⟩ ⟨Nat.le_of_ble_eq_true rfl, Nat.le_of_ble_eq_true rfl⟩ (rest := []) rfl (Nat.le_of_ble_eq_true rfl) dX4_tell_12 (fun H locs Y => ?_)
    refine lv_istore_n (lv' := [(2, .int r5), (0, .ref (ad 0)), (1, .int v1)]) hx hb dX4_tell_15 rfl hl (by decide) rfl (fun ls hl => ?_)
    refine lv_aload_n hx hb dX4_tell_16 rfl (lv_at hl 1 rfl) ?_
    refine rgM X Y 8 (v := .ref (ad 4)) tw_477 rfl dX4_tell_17 ?_
    refine lv_iload_n hx hb dX4_tell_20 rfl (lv_at hl 2 rfl) ?_
    obtain ⟨hg6, h⟩ := og h
    refine ri X Y (lkM_4 g ad σ) hg6 dX4_tell_21 ?_
    by_cases c7 : σ 4 v1.toNatClampNeg = 1
    · replace h := ot c7 h
      refine lv_lookup (tgt := 48) (off := 26) hx hb dX4_tell_22 (by decide) (by rw [c7]; decide) (by decide) ?_
      refine lv_aload_n hx hb dX4_tell_48 rfl (lv_at hl 1 rfl) ?_
      refine lv_iconst (v := 2) hx hb dX4_tell_49 (by decide) ?_
      obtain ⟨σ9, hg8, h⟩ := ob h
      refine cVv X (hml.trans hl.1.symm) Y (c_fX4_begins l D g ad σ 2 hg8) (lkM g ad σ) rfl (gs_X4_192 _) rfl fd_X4_begins ⟨Nat.le_of_ble_eq_true rfl, Nat.le_of_ble_eq_true rfl⟩ ⟨Nat.le_of_ble_eq_true rfl, Nat.le_of_ble_eq_true rfl⟩ (rest := []) rfl (Nat.le_of_ble_eq_true rfl) dX4_tell_50 (fun H locs Y => ?_)
      refine lv_aload_n hx hb dX4_tell_53 rfl (lv_at hl 1 rfl) ?_
      refine lv_iconst (v := 1) hx hb dX4_tell_54 (by decide) ?_
      obtain ⟨σ11, hg10, h⟩ := ob h
      refine cVv X (hml.trans hl.1.symm) Y (c_fX4_begins l D g ad σ9 1 hg10) (lkM g ad σ9) rfl (gs_X4_192 _) rfl fd_X4_begins ⟨Nat.le_of_ble_eq_true rfl, Nat.le_of_ble_eq_true rfl⟩ ⟨Nat.le_of_ble_eq_true rfl, Nat.le_of_ble_eq_true rfl⟩ (rest := []) rfl (Nat.le_of_ble_eq_true rfl) dX4_tell_55 (fun H locs Y => ?_)
      refine lv_iload_n hx hb dX4_tell_58 rfl (lv_at hl 0 rfl) ?_
      refine lv_bipush (v := 100) hx hb dX4_tell_59 (by decide) ?_
      refine lv_iadd hx hb dX4_tell_61 ?_
      obtain ⟨rfl, rfl⟩ := os2 h
      exact retI X Y hr hlk dX4_tell_62
    · replace h := oe c7 h
      by_cases c12 : σ 4 v1.toNatClampNeg = 2
      · replace h := ot c12 h
        refine lv_lookup (tgt := 63) (off := 41) hx hb dX4_tell_22 (by decide) (by rw [c12]; decide) (by decide) ?_
        refine lv_aload_n hx hb dX4_tell_63 rfl (lv_at hl 1 rfl) ?_
        refine lv_iconst (v := 3) hx hb dX4_tell_64 (by decide) ?_
        obtain ⟨σ14, hg13, h⟩ := ob h
        refine cVv X (hml.trans hl.1.symm) Y (c_fX4_begins l D g ad σ 3 hg13) (lkM g ad σ) rfl (gs_X4_192 _) rfl fd_X4_begins ⟨Nat.le_of_ble_eq_true rfl, Nat.le_of_ble_eq_true rfl⟩ ⟨Nat.le_of_ble_eq_true rfl, Nat.le_of_ble_eq_true rfl⟩ (rest := []) rfl (Nat.le_of_ble_eq_true rfl) dX4_tell_65 (fun H locs Y => ?_)
        refine lv_aload_n hx hb dX4_tell_68 rfl (lv_at hl 1 rfl) ?_
        refine lv_iconst (v := 2) hx hb dX4_tell_69 (by decide) ?_
        obtain ⟨σ16, hg15, h⟩ := ob h
        refine cVv X (hml.trans hl.1.symm) Y (c_fX4_begins l D g ad σ14 2 hg15) (lkM g ad σ14) rfl (gs_X4_192 _) rfl fd_X4_begins ⟨Nat.le_of_ble_eq_true rfl, Nat.le_of_ble_eq_true rfl⟩ ⟨Nat.le_of_ble_eq_true rfl, Nat.le_of_ble_eq_true rfl⟩ (rest := []) rfl (Nat.le_of_ble_eq_true rfl) dX4_tell_70 (fun H locs Y => ?_)
        refine lv_aload_n hx hb dX4_tell_73 rfl (lv_at hl 1 rfl) ?_
        refine lv_iconst (v := 1) hx hb dX4_tell_74 (by decide) ?_
        obtain ⟨σ18, hg17, h⟩ := ob h
        refine cVv X (hml.trans hl.1.symm) Y (c_fX4_begins l D g ad σ16 1 hg17) (lkM g ad σ16) rfl (gs_X4_192 _) rfl fd_X4_begins ⟨Nat.le_of_ble_eq_true rfl, Nat.le_of_ble_eq_true rfl⟩ ⟨Nat.le_of_ble_eq_true rfl, Nat.le_of_ble_eq_true rfl⟩ (rest := []) rfl (Nat.le_of_ble_eq_true rfl) dX4_tell_75 (fun H locs Y => ?_)
        refine lv_aload_n hx hb dX4_tell_78 rfl (lv_at hl 1 rfl) ?_
        refine lv_iconst (v := 1) hx hb dX4_tell_79 (by decide) ?_
        obtain ⟨σ20, hg19, h⟩ := ob h
        refine cVv X (hml.trans hl.1.symm) Y (c_fX4_begins l D g ad σ18 1 hg19) (lkM g ad σ18) rfl (gs_X4_192 _) rfl fd_X4_begins ⟨Nat.le_of_ble_eq_true rfl, Nat.le_of_ble_eq_true rfl⟩ ⟨Nat.le_of_ble_eq_true rfl, Nat.le_of_ble_eq_true rfl⟩ (rest := []) rfl (Nat.le_of_ble_eq_true rfl) dX4_tell_80 (fun H locs Y => ?_)
        refine lv_iconst (v := 2) hx hb dX4_tell_83 (by decide) ?_
        refine lv_iload_n hx hb dX4_tell_84 rfl (lv_at hl 0 rfl) ?_
        refine lv_imul hx hb dX4_tell_85 ?_
        refine lv_bipush (v := 100) hx hb dX4_tell_86 (by decide) ?_
        refine lv_iadd hx hb dX4_tell_88 ?_
        obtain ⟨rfl, rfl⟩ := os2 h
        exact retI X Y hr hlk dX4_tell_89
      · replace h := oe c12 h
        refine lv_lookup (tgt := 90) (off := 68) hx hb dX4_tell_22 (by decide) (by rw [lv_osw c7 (show (1 : Int32).toInt = 1 by decide), lv_osw c12 (show (2 : Int32).toInt = 2 by decide)]; rfl) (by decide) ?_
        refine lv_aload_n hx hb dX4_tell_90 rfl (lv_at hl 1 rfl) ?_
        refine lv_iconst (v := 1) hx hb dX4_tell_91 (by decide) ?_
        obtain ⟨σ22, hg21, h⟩ := ob h
        refine cVv X (hml.trans hl.1.symm) Y (c_fX4_begins l D g ad σ 1 hg21) (lkM g ad σ) rfl (gs_X4_192 _) rfl fd_X4_begins ⟨Nat.le_of_ble_eq_true rfl, Nat.le_of_ble_eq_true rfl⟩ ⟨Nat.le_of_ble_eq_true rfl, Nat.le_of_ble_eq_true rfl⟩ (rest := []) rfl (Nat.le_of_ble_eq_true rfl) dX4_tell_92 (fun H locs Y => ?_)
        refine lv_iload_n hx hb dX4_tell_95 rfl (lv_at hl 0 rfl) ?_
        obtain ⟨rfl, rfl⟩ := os2 h
        exact retI X Y hr hlk dX4_tell_96
  · replace h := ot c3 h
    refine lv_iconst (v := (-1)) hx hb dX4_tell_8 (by decide) ?_
    obtain ⟨rfl, rfl⟩ := os2 h
    exact retI X Y hr hlk dX4_tell_9
set_option maxHeartbeats 4000000 in
set_option maxRecDepth 100000 in
theorem c_fX4_hail (l : Launch) (D : va_G) (g : Nat → ClassId) (ad : Nat → Nat) (σ : St) (v1 : Int32) {r0 : Int32} {σ0 : St} (h : fX4_hail σ v1 = some (r0, σ0)) : MI l yX4_hail kX4_hail 1 21 D g (WM g ad σ) (WM g ad σ0) [.ref (ad 0), .int v1] r0 := by
  intro sz
  refine Met.of2 (Qc := fun A => QI D g A (WM g ad σ0) r0) (cc := cX4_hail) (maxL := 2) (ret := (some .int)) (own := RX4) (by decide) rfl rfl (Nat.le_of_ble_eq_true rfl) ?_
  intro p e s m below meth c A ls X hr hlk hml Y hl
  have hx := X.1
  have hb := X.2.1
  have hl : lv_has ls 2 [(0, .ref (ad 0)), (1, .int v1)] := hl
  rw [fX4_hail] at h
  refine lv_aload_n hx hb dX4_hail_0 rfl (lv_at hl 0 rfl) ?_
  refine lv_iload_n hx hb dX4_hail_1 rfl (lv_at hl 1 rfl) ?_
  obtain ⟨r2, hg1, h⟩ := ob h
  refine cVi X (hml.trans hl.1.symm) Y (c_fX4_isPerson l D g ad σ v1 hg1) (lkM g ad σ) rfl (gs_X4_115 _) rfl fd_X4_isPerson ⟨Nat.le_of_ble_eq_true rfl, Nat.le_of_ble_eq_true rfl⟩ ⟨Nat.le_of_ble_eq_true rfl, Nat.le_of_ble_eq_true rfl⟩ (rest := []) rfl (Nat.le_of_ble_eq_true rfl) dX4_hail_2 (fun H locs Y => ?_)
  refine lv_if_ne (tgt := 10) hx hb dX4_hail_5 (by decide) (fun c3 => ?_) (fun c3 => ?_)
  · replace h := oe c3 h
    refine lv_aload_n hx hb dX4_hail_10 rfl (lv_at hl 0 rfl) ?_
    refine lv_aload_n hx hb dX4_hail_11 rfl (lv_at hl 0 rfl) ?_
    refine rgM X Y 8 (v := .ref (ad 4)) tw_477 rfl dX4_hail_12 ?_
    refine lv_iload_n hx hb dX4_hail_15 rfl (lv_at hl 1 rfl) ?_
    obtain ⟨hg4, h⟩ := og h
    refine ri X Y (lkM_4 g ad σ) hg4 dX4_hail_16 ?_
    refine lv_iconst (v := 2) hx hb dX4_hail_17 (by decide) ?_
    refine lv_icmp_ne (tgt := 25) hx hb dX4_hail_18 (by decide) (fun c5 => ?_) (fun c5 => ?_)
    · replace h := oe c5 h
      refine lv_iconst (v := 4) hx hb dX4_hail_25 (by decide) ?_
      obtain ⟨σ7, hg6, h⟩ := ob h
      refine cVv X (hml.trans hl.1.symm) Y (c_fX4_begins l D g ad σ 4 hg6) (lkM g ad σ) rfl (gs_X4_192 _) rfl fd_X4_begins ⟨Nat.le_of_ble_eq_true rfl, Nat.le_of_ble_eq_true rfl⟩ ⟨Nat.le_of_ble_eq_true rfl, Nat.le_of_ble_eq_true rfl⟩ (rest := []) rfl (Nat.le_of_ble_eq_true rfl) dX4_hail_26 (fun H locs Y => ?_)
      refine lv_aload_n hx hb dX4_hail_29 rfl (lv_at hl 0 rfl) ?_
      refine rgM X Y 8 (v := .ref (ad 4)) tw_477 rfl dX4_hail_30 ?_
      refine lv_iload_n hx hb dX4_hail_33 rfl (lv_at hl 1 rfl) ?_
      obtain ⟨hg8, h⟩ := og h
      refine ri X Y (lkM_4 g ad σ7) hg8 dX4_hail_34 ?_
      refine lv_iconst (v := 2) hx hb dX4_hail_35 (by decide) ?_
      refine lv_icmp_ne (tgt := 44) hx hb dX4_hail_36 (by decide) (fun c9 => ?_) (fun c9 => ?_)
      · replace h := oe c9 h
        refine lv_iload_n hx hb dX4_hail_44 rfl (lv_at hl 1 rfl) ?_
        obtain ⟨rfl, rfl⟩ := os2 h
        exact retI X Y hr hlk dX4_hail_45
      · replace h := ot c9 h
        refine lv_bipush (v := 40) hx hb dX4_hail_39 (by decide) ?_
        refine lv_goto (tgt := 45) hx hb dX4_hail_41 (by decide) ?_
        obtain ⟨rfl, rfl⟩ := os2 h
        exact retI X Y hr hlk dX4_hail_45
    · replace h := ot c5 h
      refine lv_iconst (v := 5) hx hb dX4_hail_21 (by decide) ?_
      refine lv_goto (tgt := 26) hx hb dX4_hail_22 (by decide) ?_
      obtain ⟨σ11, hg10, h⟩ := ob h
      refine cVv X (hml.trans hl.1.symm) Y (c_fX4_begins l D g ad σ 5 hg10) (lkM g ad σ) rfl (gs_X4_192 _) rfl fd_X4_begins ⟨Nat.le_of_ble_eq_true rfl, Nat.le_of_ble_eq_true rfl⟩ ⟨Nat.le_of_ble_eq_true rfl, Nat.le_of_ble_eq_true rfl⟩ (rest := []) rfl (Nat.le_of_ble_eq_true rfl) dX4_hail_26 (fun H locs Y => ?_)
      refine lv_aload_n hx hb dX4_hail_29 rfl (lv_at hl 0 rfl) ?_
      refine rgM X Y 8 (v := .ref (ad 4)) tw_477 rfl dX4_hail_30 ?_
      refine lv_iload_n hx hb dX4_hail_33 rfl (lv_at hl 1 rfl) ?_
      obtain ⟨hg12, h⟩ := og h
      refine ri X Y (lkM_4 g ad σ11) hg12 dX4_hail_34 ?_
      refine lv_iconst (v := 2) hx hb dX4_hail_35 (by decide) ?_
      refine lv_icmp_ne (tgt := 44) hx hb dX4_hail_36 (by decide) (fun c13 => ?_) (fun c13 => ?_)
      · replace h := oe c13 h
        refine lv_iload_n hx hb dX4_hail_44 rfl (lv_at hl 1 rfl) ?_
        obtain ⟨rfl, rfl⟩ := os2 h
        exact retI X Y hr hlk dX4_hail_45
      · replace h := ot c13 h
        refine lv_bipush (v := 40) hx hb dX4_hail_39 (by decide) ?_
        refine lv_goto (tgt := 45) hx hb dX4_hail_41 (by decide) ?_
        obtain ⟨rfl, rfl⟩ := os2 h
        exact retI X Y hr hlk dX4_hail_45
  · replace h := ot c3 h
    refine lv_iconst (v := (-1)) hx hb dX4_hail_8 (by decide) ?_
    obtain ⟨rfl, rfl⟩ := os2 h
    exact retI X Y hr hlk dX4_hail_9
set_option maxHeartbeats 4000000 in
set_option maxRecDepth 100000 in
theorem c_fX4_as (l : Launch) (D : va_G) (g : Nat → ClassId) (ad : Nat → Nat) (σ : St) (v1 : Int32) (v2 : Int32) {r0 : Int32} {σ0 : St} (h : fX4_as σ v1 v2 = some (r0, σ0)) : MI l yX4_as kX4_as 1 22 D g (WM g ad σ) (WM g ad σ0) [.ref (ad 0), .int v1, .int v2] r0 := by
  intro sz
  refine Met.of2 (Qc := fun A => QI D g A (WM g ad σ0) r0) (cc := cX4_as) (maxL := 3) (ret := (some .int)) (own := RX4) (by decide) rfl rfl (Nat.le_of_ble_eq_true rfl) ?_
  intro p e s m below meth c A ls X hr hlk hml Y hl
  have hx := X.1
  have hb := X.2.1
  have hl : lv_has ls 3 [(0, .ref (ad 0)), (1, .int v1), (2, .int v2)] := hl
  rw [fX4_as] at h
  refine lv_aload_n hx hb dX4_as_0 rfl (lv_at hl 0 rfl) ?_
  refine lv_iconst (v := 0) hx hb dX4_as_1 (by decide) ?_
  refine rpM X Y 0 (v := 0) tw_469 rfl rfl rfl (stM_0 g ad σ 0) dX4_as_2 (fun H locs Y => ?_)
  refine lv_aload_n hx hb dX4_as_5 rfl (lv_at hl 0 rfl) ?_
  refine lv_iload_n hx hb dX4_as_6 rfl (lv_at hl 1 rfl) ?_
  obtain ⟨r2, hg1, h⟩ := ob h
  refine cVi X (hml.trans hl.1.symm) Y (c_fX4_isPerson l D g ad (up2 σ 0 0 0) v1 hg1) (lkM g ad (up2 σ 0 0 0)) rfl (gs_X4_115 _) rfl fd_X4_isPerson ⟨Nat.le_of_ble_eq_true rfl, Nat.le_of_ble_eq_true rfl⟩ ⟨Nat.le_of_ble_eq_true rfl, Nat.le_of_ble_eq_true rfl⟩ (rest := []) rfl (Nat.le_of_ble_eq_true rfl) dX4_as_7 (fun H locs Y => ?_)
  refine lv_if_ne (tgt := 15) hx hb dX4_as_10 (by decide) (fun c3 => ?_) (fun c3 => ?_)
  · replace h := oe c3 h
    refine lv_iload_n hx hb dX4_as_15 rfl (lv_at hl 2 rfl) ?_
    refine lv_iconst (v := 0) hx hb dX4_as_16 (by decide) ?_
    refine lv_iconst (v := 2) hx hb dX4_as_17 (by decide) ?_
    obtain ⟨r5, hg4, h⟩ := ob h
    refine cSi X (hml.trans hl.1.symm) Y (c_fX4_within l D g (WM g ad (up2 σ 0 0 0)) v2 0 2 hg4) (gs_X4_55 _) rfl fd_X4_within ⟨Nat.le_of_ble_eq_true rfl, Nat.le_of_ble_eq_true rfl⟩ ⟨Nat.le_of_ble_eq_true rfl, Nat.le_of_ble_eq_true rfl⟩ (rest := []) rfl (Nat.le_of_ble_eq_true rfl) dX4_as_18 (fun H locs Y => ?_)
    refine lv_if_ne (tgt := 27) hx hb dX4_as_21 (by decide) (fun c6 => ?_) (fun c6 => ?_)
    · replace h := oe c6 h
      refine lv_aload_n hx hb dX4_as_27 rfl (lv_at hl 0 rfl) ?_
      refine rgM X Y 8 (v := .ref (ad 4)) tw_477 rfl dX4_as_28 ?_
      refine lv_iload_n hx hb dX4_as_31 rfl (lv_at hl 1 rfl) ?_
      obtain ⟨hg7, h⟩ := og h
      refine ri X Y (lkM_4 g ad (up2 σ 0 0 0)) hg7 dX4_as_32 ?_
      refine lv_iload_n hx hb dX4_as_33 rfl (lv_at hl 2 rfl) ?_
      refine lv_icmp_lt (tgt := 41) hx hb dX4_as_34 (by decide) (fun c8 => ?_) (fun c8 => ?_)
      · replace h := ot c8 h
        refine lv_aload_n hx hb dX4_as_41 rfl (lv_at hl 0 rfl) ?_
        refine lv_iconst (v := 2) hx hb dX4_as_42 (by decide) ?_
        obtain ⟨r10, σ10, hg9, h⟩ := ob2 h
        refine cVi X (hml.trans hl.1.symm) Y (c_fX4_fails l D g ad (up2 σ 0 0 0) 2 hg9) (lkM g ad (up2 σ 0 0 0)) rfl (gs_X4_76 _) rfl fd_X4_fails ⟨Nat.le_of_ble_eq_true rfl, Nat.le_of_ble_eq_true rfl⟩ ⟨Nat.le_of_ble_eq_true rfl, Nat.le_of_ble_eq_true rfl⟩ (rest := []) rfl (Nat.le_of_ble_eq_true rfl) dX4_as_43 (fun H locs Y => ?_)
        obtain ⟨rfl, rfl⟩ := os2 h
        exact retI X Y hr hlk dX4_as_46
      · replace h := oe c8 h
        refine lv_iconst (v := 1) hx hb dX4_as_37 (by decide) ?_
        refine lv_goto (tgt := 46) hx hb dX4_as_38 (by decide) ?_
        obtain ⟨rfl, rfl⟩ := os2 h
        exact retI X Y hr hlk dX4_as_46
    · replace h := ot c6 h
      refine lv_bipush (v := (-2)) hx hb dX4_as_24 (by decide) ?_
      obtain ⟨rfl, rfl⟩ := os2 h
      exact retI X Y hr hlk dX4_as_26
  · replace h := ot c3 h
    refine lv_iconst (v := (-1)) hx hb dX4_as_13 (by decide) ?_
    obtain ⟨rfl, rfl⟩ := os2 h
    exact retI X Y hr hlk dX4_as_14
set_option maxHeartbeats 4000000 in
set_option maxRecDepth 100000 in
theorem c_fX4_trace (l : Launch) (D : va_G) (g : Nat → ClassId) (ad : Nat → Nat) (σ : St) {r0 : Int32} (h : fX4_trace σ = some r0) : MI l yX4_trace kX4_trace 0 0 D g (WM g ad σ) (WM g ad σ) [.ref (ad 0)] r0 := by
  intro sz
  refine Met.of2 (Qc := fun A => QI D g A (WM g ad σ) r0) (cc := cX4_trace) (maxL := 1) (ret := (some .int)) (own := RX4) (by decide) rfl rfl (Nat.le_of_ble_eq_true rfl) ?_
  intro p e s m below meth c A ls X hr hlk hml Y hl
  have hx := X.1
  have hb := X.2.1
  have hl : lv_has ls 1 [(0, .ref (ad 0))] := hl
  rw [fX4_trace] at h
  refine lv_aload_n hx hb dX4_trace_0 rfl (lv_at hl 0 rfl) ?_
  refine rgM X Y 1 (v := .int (σ 0 1)) tw_470 rfl dX4_trace_1 ?_
  obtain rfl := os1 h
  exact retI X Y hr hlk dX4_trace_4
set_option maxHeartbeats 4000000 in
set_option maxRecDepth 100000 in
theorem c_fX4_fault (l : Launch) (D : va_G) (g : Nat → ClassId) (ad : Nat → Nat) (σ : St) {r0 : Int32} (h : fX4_fault σ = some r0) : MI l yX4_fault kX4_fault 0 0 D g (WM g ad σ) (WM g ad σ) [.ref (ad 0)] r0 := by
  intro sz
  refine Met.of2 (Qc := fun A => QI D g A (WM g ad σ) r0) (cc := cX4_fault) (maxL := 1) (ret := (some .int)) (own := RX4) (by decide) rfl rfl (Nat.le_of_ble_eq_true rfl) ?_
  intro p e s m below meth c A ls X hr hlk hml Y hl
  have hx := X.1
  have hb := X.2.1
  have hl : lv_has ls 1 [(0, .ref (ad 0))] := hl
  rw [fX4_fault] at h
  refine lv_aload_n hx hb dX4_fault_0 rfl (lv_at hl 0 rfl) ?_
  refine rgM X Y 0 (v := .int (σ 0 0)) tw_469 rfl dX4_fault_1 ?_
  obtain rfl := os1 h
  exact retI X Y hr hlk dX4_fault_4
set_option maxHeartbeats 4000000 in
set_option maxRecDepth 100000 in
theorem c_fX4_many (l : Launch) (D : va_G) (g : Nat → ClassId) (ad : Nat → Nat) (σ : St) (v1 : Int32) {r0 : Int32} (h : fX4_many σ v1 = some r0) : MI l yX4_many kX4_many 0 0 D g (WM g ad σ) (WM g ad σ) [.ref (ad 0), .int v1] r0 := by
  intro sz
  refine Met.of2 (Qc := fun A => QI D g A (WM g ad σ) r0) (cc := cX4_many) (maxL := 2) (ret := (some .int)) (own := RX4) (by decide) rfl rfl (Nat.le_of_ble_eq_true rfl) ?_
  intro p e s m below meth c A ls X hr hlk hml Y hl
  have hx := X.1
  have hb := X.2.1
  have hl : lv_has ls 2 [(0, .ref (ad 0)), (1, .int v1)] := hl
  rw [fX4_many] at h
  refine lv_iload_n hx hb dX4_many_0 rfl (lv_at hl 1 rfl) ?_
  refine lv_if_ne (tgt := 11) hx hb dX4_many_1 (by decide) (fun c1 => ?_) (fun c1 => ?_)
  · replace h := oe c1 h
    refine lv_iload_n hx hb dX4_many_11 rfl (lv_at hl 1 rfl) ?_
    refine lv_iconst (v := 1) hx hb dX4_many_12 (by decide) ?_
    refine lv_icmp_ne (tgt := 23) hx hb dX4_many_13 (by decide) (fun c2 => ?_) (fun c2 => ?_)
    · replace h := oe c2 h
      refine lv_iload_n hx hb dX4_many_23 rfl (lv_at hl 1 rfl) ?_
      refine lv_iconst (v := 2) hx hb dX4_many_24 (by decide) ?_
      refine lv_icmp_ne (tgt := 35) hx hb dX4_many_25 (by decide) (fun c3 => ?_) (fun c3 => ?_)
      · replace h := oe c3 h
        refine lv_iload_n hx hb dX4_many_35 rfl (lv_at hl 1 rfl) ?_
        refine lv_iconst (v := 3) hx hb dX4_many_36 (by decide) ?_
        refine lv_icmp_ne (tgt := 47) hx hb dX4_many_37 (by decide) (fun c4 => ?_) (fun c4 => ?_)
        · replace h := oe c4 h
          refine lv_bipush (v := (-2)) hx hb dX4_many_47 (by decide) ?_
          obtain rfl := os1 h
          exact retI X Y hr hlk dX4_many_49
        · replace h := ot c4 h
          refine lv_aload_n hx hb dX4_many_40 rfl (lv_at hl 0 rfl) ?_
          refine rgM X Y 26 (v := .int (σ 0 26)) tw_495 rfl dX4_many_41 ?_
          refine lv_goto (tgt := 49) hx hb dX4_many_44 (by decide) ?_
          obtain rfl := os1 h
          exact retI X Y hr hlk dX4_many_49
      · replace h := ot c3 h
        refine lv_aload_n hx hb dX4_many_28 rfl (lv_at hl 0 rfl) ?_
        refine rgM X Y 7 (v := .int (σ 0 7)) tw_476 rfl dX4_many_29 ?_
        refine lv_goto (tgt := 49) hx hb dX4_many_32 (by decide) ?_
        obtain rfl := os1 h
        exact retI X Y hr hlk dX4_many_49
    · replace h := ot c2 h
      refine lv_aload_n hx hb dX4_many_16 rfl (lv_at hl 0 rfl) ?_
      refine rgM X Y 6 (v := .int (σ 0 6)) tw_475 rfl dX4_many_17 ?_
      refine lv_goto (tgt := 49) hx hb dX4_many_20 (by decide) ?_
      obtain rfl := os1 h
      exact retI X Y hr hlk dX4_many_49
  · replace h := ot c1 h
    refine lv_aload_n hx hb dX4_many_4 rfl (lv_at hl 0 rfl) ?_
    refine rgM X Y 5 (v := .int (σ 0 5)) tw_474 rfl dX4_many_5 ?_
    refine lv_goto (tgt := 49) hx hb dX4_many_8 (by decide) ?_
    obtain rfl := os1 h
    exact retI X Y hr hlk dX4_many_49
