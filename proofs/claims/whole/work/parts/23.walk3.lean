set_option maxHeartbeats 4000000 in
set_option maxRecDepth 100000 in
theorem c_fX3_loads (l : Launch) (D : va_G) (g : Nat → ClassId) (ad : Nat → Nat) (σ : St) (n : Nat) (v1 : Int32) (v2 : Int32) (v3 : Int32) (v4 : Int32) (v5 : Int32) {r0 : Int32} {σ0 : St} (h : fX3_loads n σ v1 v2 v3 v4 v5 = some (r0, σ0)) : MI l yX3_loads kX3_loads 6 145 D g (WC g ad σ) (WC g ad σ0) [.ref (ad 0), .int v1, .int v2, .int v3, .int v4, .int v5] r0 := by
  intro sz
  refine Met.of2 (Qc := fun A => QI D g A (WC g ad σ0) r0) (cc := cX3_loads) (maxL := 9) (ret := (some .int)) (own := RX3) (by decide) rfl rfl (Nat.le_of_ble_eq_true rfl) ?_
  intro p e s m below meth c A ls X hr hlk hml Y hl
  have hx := X.1
  have hb := X.2.1
  have hl : lv_has ls 9 [(0, .ref (ad 0)), (1, .int v1), (2, .int v2), (3, .int v3), (4, .int v4), (5, .int v5)] := hl
  rw [fX3_loads] at h
  refine lv_aload_n hx hb dX3_loads_0 rfl (lv_at hl 0 rfl) ?_
  refine lv_iconst (v := 0) hx hb dX3_loads_1 (by decide) ?_
  refine rpX X Y 3 (v := 0) tw_131 rfl rfl rfl (stX_3 g ad σ 0) dX3_loads_2 (fun H locs Y => ?_)
  refine lv_iload_n hx hb dX3_loads_5 rfl (lv_at hl 1 rfl) ?_
  obtain ⟨r2, hg1, h⟩ := ob h
  refine cSi X (hml.trans hl.1.symm) Y (c_fX3_isSheet l D g (WC g ad (up2 σ 0 3 0)) v1 hg1) (gs_X3_29 _) rfl fd_X3_isSheet ⟨Nat.le_of_ble_eq_true rfl, Nat.le_of_ble_eq_true rfl⟩ ⟨Nat.le_of_ble_eq_true rfl, Nat.le_of_ble_eq_true rfl⟩ (rest := []) rfl (Nat.le_of_ble_eq_true rfl) dX3_loads_6 (fun H locs Y => ?_)
  refine lv_if_ne (tgt := 14) hx hb dX3_loads_9 (by decide) (fun c3 => ?_) (fun c3 => ?_)
  · replace h := oe c3 h
    refine lv_iload_n hx hb dX3_loads_14 rfl (lv_at hl 2 rfl) ?_
    obtain ⟨r5, hg4, h⟩ := ob h
    refine cSi X (hml.trans hl.1.symm) Y (c_fX3_isLane l D g (WC g ad (up2 σ 0 3 0)) v2 hg4) (gs_X3_33 _) rfl fd_X3_isLane ⟨Nat.le_of_ble_eq_true rfl, Nat.le_of_ble_eq_true rfl⟩ ⟨Nat.le_of_ble_eq_true rfl, Nat.le_of_ble_eq_true rfl⟩ (rest := []) rfl (Nat.le_of_ble_eq_true rfl) dX3_loads_15 (fun H locs Y => ?_)
    refine lv_if_eq (tgt := 41) hx hb dX3_loads_18 (by decide) (fun c6 => ?_) (fun c6 => ?_)
    · replace h := ot c6 h
      refine lv_bipush (v := (-2)) hx hb dX3_loads_41 (by decide) ?_
      obtain ⟨rfl, rfl⟩ := os2 h
      exact retI X Y hr hlk dX3_loads_43
    · replace h := oe c6 h
      refine lv_iload hx hb dX3_loads_21 (lv_at hl 4 rfl) ?_
      refine lv_if_lt (tgt := 41) hx hb dX3_loads_23 (by decide) (fun c7 => ?_) (fun c7 => ?_)
      · replace h := ot c7 h
        refine lv_bipush (v := (-2)) hx hb dX3_loads_41 (by decide) ?_
        obtain ⟨rfl, rfl⟩ := os2 h
        exact retI X Y hr hlk dX3_loads_43
      · replace h := oe c7 h
        refine lv_iload hx hb dX3_loads_26 (lv_at hl 4 rfl) ?_
        refine lv_bipush (v := 20) hx hb dX3_loads_28 (by decide) ?_
        refine lv_icmp_gt (tgt := 41) hx hb dX3_loads_30 (by decide) (fun c8 => ?_) (fun c8 => ?_)
        · replace h := ot c8 h
          refine lv_bipush (v := (-2)) hx hb dX3_loads_41 (by decide) ?_
          obtain ⟨rfl, rfl⟩ := os2 h
          exact retI X Y hr hlk dX3_loads_43
        · replace h := oe c8 h
          refine lv_iload hx hb dX3_loads_33 (lv_at hl 5 rfl) ?_
          obtain ⟨r10, hg9, h⟩ := ob h
          refine cSi X (hml.trans hl.1.symm) Y (c_fX3_isLoadsQuestion l D g (WC g ad (up2 σ 0 3 0)) v5 hg9) (gs_X3_107 _) rfl fd_X3_isLoadsQuestion ⟨Nat.le_of_ble_eq_true rfl, Nat.le_of_ble_eq_true rfl⟩ ⟨Nat.le_of_ble_eq_true rfl, Nat.le_of_ble_eq_true rfl⟩ (rest := []) rfl (Nat.le_of_ble_eq_true rfl) dX3_loads_35 (fun H locs Y => ?_)
          refine lv_if_ne (tgt := 44) hx hb dX3_loads_38 (by decide) (fun c11 => ?_) (fun c11 => ?_)
          · replace h := oe c11 h
            refine lv_aload_n hx hb dX3_loads_44 rfl (lv_at hl 0 rfl) ?_
            refine rgX X Y 0 (v := .ref (ad 1)) tw_128 rfl dX3_loads_45 ?_
            refine lv_iload_n hx hb dX3_loads_48 rfl (lv_at hl 1 rfl) ?_
            obtain ⟨hg12, h⟩ := og h
            refine raS X Y hg12 dX3_loads_49 ?_
            refine lv_astore (lv' := [(6, .ref (ad (2 + v1.toNatClampNeg))), (0, .ref (ad 0)), (1, .int v1), (2, .int v2), (3, .int v3), (4, .int v4), (5, .int v5)]) hx hb dX3_loads_50 hl (by decide) rfl (fun ls hl => ?_)
            refine lv_aload hx hb dX3_loads_52 (lv_at hl 0 rfl) ?_
            refine lv_iload_n hx hb dX3_loads_54 rfl (lv_at hl 3 rfl) ?_
            obtain ⟨r14, hg13, h⟩ := ob h
            refine cVi X (hml.trans hl.1.symm) Y (c_fX1_faultAs l D g ad (up2 σ 0 3 0) v1.toNatClampNeg (clt hg12) v2 hg13) (lkS g ad (up2 σ 0 3 0) (clt hg12)) rfl (gs_X3_36 _) rfl fd_X1_faultAs ⟨Nat.le_of_ble_eq_true rfl, Nat.le_of_ble_eq_true rfl⟩ ⟨Nat.le_of_ble_eq_true rfl, Nat.le_of_ble_eq_true rfl⟩ (rest := []) rfl (Nat.le_of_ble_eq_true rfl) dX3_loads_55 (fun H locs Y => ?_)
            refine lv_istore (lv' := [(7, .int r14), (6, .ref (ad (2 + v1.toNatClampNeg))), (0, .ref (ad 0)), (1, .int v1), (2, .int v2), (3, .int v3), (4, .int v4), (5, .int v5)]) hx hb dX3_loads_58 hl (by decide) rfl (fun ls hl => ?_)
            refine lv_iload hx hb dX3_loads_60 (lv_at hl 0 rfl) ?_
            refine lv_if_ne (tgt := 79) hx hb dX3_loads_62 (by decide) (fun c15 => ?_) (fun c15 => ?_)
            · replace h := oe c15 h
              refine lv_iload hx hb dX3_loads_79 (lv_at hl 0 rfl) ?_
              refine lv_if_eq (tgt := 91) hx hb dX3_loads_81 (by decide) (fun c16 => ?_) (fun c16 => ?_)
              · replace h := ot c16 h
                refine lv_aload_n hx hb dX3_loads_91 rfl (lv_at hl 2 rfl) ?_
                refine rgX X Y 1 (v := .ref (ad 10)) tw_129 rfl dX3_loads_92 ?_
                obtain ⟨r18, hg17, h⟩ := ob h
                refine cVi X (hml.trans hl.1.symm) Y (c_fX0_isThere l D g ad (up2 σ 0 3 0) hg17) (lkR g ad (up2 σ 0 3 0)) rfl (gs_X3_80 _) rfl fd_X0_isThere ⟨Nat.le_of_ble_eq_true rfl, Nat.le_of_ble_eq_true rfl⟩ ⟨Nat.le_of_ble_eq_true rfl, Nat.le_of_ble_eq_true rfl⟩ (rest := []) rfl (Nat.le_of_ble_eq_true rfl) dX3_loads_95 (fun H locs Y => ?_)
                refine lv_if_ne (tgt := 104) hx hb dX3_loads_98 (by decide) (fun c19 => ?_) (fun c19 => ?_)
                · replace h := oe c19 h
                  refine lv_aload_n hx hb dX3_loads_104 rfl (lv_at hl 2 rfl) ?_
                  refine rgX X Y 1 (v := .ref (ad 10)) tw_129 rfl dX3_loads_105 ?_
                  refine lv_aload hx hb dX3_loads_108 (lv_at hl 1 rfl) ?_
                  refine lv_iload_n hx hb dX3_loads_110 rfl (lv_at hl 5 rfl) ?_
                  refine lv_iload hx hb dX3_loads_111 (lv_at hl 6 rfl) ?_
                  obtain ⟨r21, hg20, h⟩ := ob h
                  refine cVi X (hml.trans hl.1.symm) Y (c_fX0_areLoads l D g ad (up2 σ 0 3 0) n v1.toNatClampNeg (clt hg12) v3 v4 hg20) (lkR g ad (up2 σ 0 3 0)) rfl (gs_X3_110 _) rfl fd_X0_areLoads ⟨Nat.le_of_ble_eq_true rfl, Nat.le_of_ble_eq_true rfl⟩ ⟨Nat.le_of_ble_eq_true rfl, Nat.le_of_ble_eq_true rfl⟩ (rest := []) rfl (Nat.le_of_ble_eq_true rfl) dX3_loads_113 (fun H locs Y => ?_)
                  refine lv_if_ne (tgt := 122) hx hb dX3_loads_116 (by decide) (fun c22 => ?_) (fun c22 => ?_)
                  · replace h := oe c22 h
                    refine lv_aload_n hx hb dX3_loads_122 rfl (lv_at hl 2 rfl) ?_
                    refine rgX X Y 1 (v := .ref (ad 10)) tw_129 rfl dX3_loads_123 ?_
                    refine lv_aload hx hb dX3_loads_126 (lv_at hl 1 rfl) ?_
                    refine lv_iload_n hx hb dX3_loads_128 rfl (lv_at hl 5 rfl) ?_
                    refine lv_iload hx hb dX3_loads_129 (lv_at hl 6 rfl) ?_
                    obtain ⟨r24, hg23, h⟩ := ob h
                    refine cVi X (hml.trans hl.1.symm) Y (c_fX0_firstWrong l D g ad (up2 σ 0 3 0) n v1.toNatClampNeg (clt hg12) v3 v4 hg23) (lkR g ad (up2 σ 0 3 0)) rfl (gs_X3_114 _) rfl fd_X0_firstWrong ⟨Nat.le_of_ble_eq_true rfl, Nat.le_of_ble_eq_true rfl⟩ ⟨Nat.le_of_ble_eq_true rfl, Nat.le_of_ble_eq_true rfl⟩ (rest := []) rfl (Nat.le_of_ble_eq_true rfl) dX3_loads_131 (fun H locs Y => ?_)
                    refine lv_istore (lv' := [(8, .int r24), (7, .int r14), (6, .ref (ad (2 + v1.toNatClampNeg))), (0, .ref (ad 0)), (1, .int v1), (2, .int v2), (3, .int v3), (4, .int v4), (5, .int v5)]) hx hb dX3_loads_134 hl (by decide) rfl (fun ls hl => ?_)
                    refine lv_iload hx hb dX3_loads_136 (lv_at hl 8 rfl) ?_
                    refine lv_iconst (v := 1) hx hb dX3_loads_138 (by decide) ?_
                    refine lv_icmp_ne (tgt := 145) hx hb dX3_loads_139 (by decide) (fun c25 => ?_) (fun c25 => ?_)
                    · replace h := oe c25 h
                      refine lv_iload hx hb dX3_loads_145 (lv_at hl 0 rfl) ?_
                      refine lv_bipush (v := (-9)) hx hb dX3_loads_147 (by decide) ?_
                      refine lv_icmp_eq (tgt := 158) hx hb dX3_loads_149 (by decide) (fun c26 => ?_) (fun c26 => ?_)
                      · replace h := ot c26 h
                        refine lv_aload_n hx hb dX3_loads_158 rfl (lv_at hl 3 rfl) ?_
                        refine lv_aload hx hb dX3_loads_159 (lv_at hl 2 rfl) ?_
                        refine lv_iload_n hx hb dX3_loads_161 rfl (lv_at hl 6 rfl) ?_
                        refine lv_iload hx hb dX3_loads_162 (lv_at hl 7 rfl) ?_
                        refine lv_iload hx hb dX3_loads_164 (lv_at hl 8 rfl) ?_
                        obtain ⟨r28, hg27, h⟩ := ob h
                        refine cVi X (hml.trans hl.1.symm) Y (c_fX3_ofLoads l D g ad (up2 σ 0 3 0) n v1.toNatClampNeg (clt hg12) v3 v4 v5 hg27) (lkX g ad (up2 σ 0 3 0)) rfl (gs_X3_117 _) rfl fd_X3_ofLoads ⟨Nat.le_of_ble_eq_true rfl, Nat.le_of_ble_eq_true rfl⟩ ⟨Nat.le_of_ble_eq_true rfl, Nat.le_of_ble_eq_true rfl⟩ (rest := []) rfl (Nat.le_of_ble_eq_true rfl) dX3_loads_166 (fun H locs Y => ?_)
                        obtain ⟨rfl, rfl⟩ := os2 h
                        exact retI X Y hr hlk dX3_loads_169
                      · replace h := oe c26 h
                        refine lv_bipush (v := (-100)) hx hb dX3_loads_152 (by decide) ?_
                        refine lv_iload hx hb dX3_loads_154 (lv_at hl 0 rfl) ?_
                        refine lv_isub hx hb dX3_loads_156 ?_
                        obtain ⟨rfl, rfl⟩ := os2 h
                        exact retI X Y hr hlk dX3_loads_157
                    · replace h := ot c25 h
                      refine lv_iload hx hb dX3_loads_142 (lv_at hl 0 rfl) ?_
                      obtain ⟨rfl, rfl⟩ := os2 h
                      exact retI X Y hr hlk dX3_loads_144
                  · replace h := ot c22 h
                    refine lv_bipush (v := (-2)) hx hb dX3_loads_119 (by decide) ?_
                    obtain ⟨rfl, rfl⟩ := os2 h
                    exact retI X Y hr hlk dX3_loads_121
                · replace h := ot c19 h
                  refine lv_bipush (v := (-3)) hx hb dX3_loads_101 (by decide) ?_
                  obtain ⟨rfl, rfl⟩ := os2 h
                  exact retI X Y hr hlk dX3_loads_103
              · replace h := oe c16 h
                refine lv_aload_n hx hb dX3_loads_84 rfl (lv_at hl 2 rfl) ?_
                refine lv_iload hx hb dX3_loads_85 (lv_at hl 0 rfl) ?_
                obtain ⟨r30, σ30, hg29, h⟩ := ob2 h
                refine cVi X (hml.trans hl.1.symm) Y (c_fX3_faulted l D g ad (up2 σ 0 3 0) r14 hg29) (lkX g ad (up2 σ 0 3 0)) rfl (gs_X3_44 _) rfl fd_X3_faulted ⟨Nat.le_of_ble_eq_true rfl, Nat.le_of_ble_eq_true rfl⟩ ⟨Nat.le_of_ble_eq_true rfl, Nat.le_of_ble_eq_true rfl⟩ (rest := []) rfl (Nat.le_of_ble_eq_true rfl) dX3_loads_87 (fun H locs Y => ?_)
                obtain ⟨rfl, rfl⟩ := os2 h
                exact retI X Y hr hlk dX3_loads_90
            · replace h := ot c15 h
              refine lv_aload hx hb dX3_loads_65 (lv_at hl 1 rfl) ?_
              refine lv_iload_n hx hb dX3_loads_67 rfl (lv_at hl 5 rfl) ?_
              refine lv_iload hx hb dX3_loads_68 (lv_at hl 6 rfl) ?_
              obtain ⟨r32, hg31, h⟩ := ob h
              refine cVi X (hml.trans hl.1.symm) Y (c_fX1_hasCells l D g ad (up2 σ 0 3 0) v1.toNatClampNeg (clt hg12) v3 v4 hg31) (lkS g ad (up2 σ 0 3 0) (clt hg12)) rfl (gs_X3_40 _) rfl fd_X1_hasCells ⟨Nat.le_of_ble_eq_true rfl, Nat.le_of_ble_eq_true rfl⟩ ⟨Nat.le_of_ble_eq_true rfl, Nat.le_of_ble_eq_true rfl⟩ (rest := []) rfl (Nat.le_of_ble_eq_true rfl) dX3_loads_70 (fun H locs Y => ?_)
              refine lv_if_ne (tgt := 79) hx hb dX3_loads_73 (by decide) (fun c33 => ?_) (fun c33 => ?_)
              · replace h := oe c33 h
                refine lv_iload hx hb dX3_loads_79 (lv_at hl 0 rfl) ?_
                refine lv_if_eq (tgt := 91) hx hb dX3_loads_81 (by decide) (fun c34 => ?_) (fun c34 => ?_)
                · replace h := ot c34 h
                  refine lv_aload_n hx hb dX3_loads_91 rfl (lv_at hl 2 rfl) ?_
                  refine rgX X Y 1 (v := .ref (ad 10)) tw_129 rfl dX3_loads_92 ?_
                  obtain ⟨r36, hg35, h⟩ := ob h
                  refine cVi X (hml.trans hl.1.symm) Y (c_fX0_isThere l D g ad (up2 σ 0 3 0) hg35) (lkR g ad (up2 σ 0 3 0)) rfl (gs_X3_80 _) rfl fd_X0_isThere ⟨Nat.le_of_ble_eq_true rfl, Nat.le_of_ble_eq_true rfl⟩ ⟨Nat.le_of_ble_eq_true rfl, Nat.le_of_ble_eq_true rfl⟩ (rest := []) rfl (Nat.le_of_ble_eq_true rfl) dX3_loads_95 (fun H locs Y => ?_)
                  refine lv_if_ne (tgt := 104) hx hb dX3_loads_98 (by decide) (fun c37 => ?_) (fun c37 => ?_)
                  · replace h := oe c37 h
                    refine lv_aload_n hx hb dX3_loads_104 rfl (lv_at hl 2 rfl) ?_
                    refine rgX X Y 1 (v := .ref (ad 10)) tw_129 rfl dX3_loads_105 ?_
                    refine lv_aload hx hb dX3_loads_108 (lv_at hl 1 rfl) ?_
                    refine lv_iload_n hx hb dX3_loads_110 rfl (lv_at hl 5 rfl) ?_
                    refine lv_iload hx hb dX3_loads_111 (lv_at hl 6 rfl) ?_
                    obtain ⟨r39, hg38, h⟩ := ob h
                    refine cVi X (hml.trans hl.1.symm) Y (c_fX0_areLoads l D g ad (up2 σ 0 3 0) n v1.toNatClampNeg (clt hg12) v3 v4 hg38) (lkR g ad (up2 σ 0 3 0)) rfl (gs_X3_110 _) rfl fd_X0_areLoads ⟨Nat.le_of_ble_eq_true rfl, Nat.le_of_ble_eq_true rfl⟩ ⟨Nat.le_of_ble_eq_true rfl, Nat.le_of_ble_eq_true rfl⟩ (rest := []) rfl (Nat.le_of_ble_eq_true rfl) dX3_loads_113 (fun H locs Y => ?_)
                    refine lv_if_ne (tgt := 122) hx hb dX3_loads_116 (by decide) (fun c40 => ?_) (fun c40 => ?_)
                    · replace h := oe c40 h
                      refine lv_aload_n hx hb dX3_loads_122 rfl (lv_at hl 2 rfl) ?_
                      refine rgX X Y 1 (v := .ref (ad 10)) tw_129 rfl dX3_loads_123 ?_
                      refine lv_aload hx hb dX3_loads_126 (lv_at hl 1 rfl) ?_
                      refine lv_iload_n hx hb dX3_loads_128 rfl (lv_at hl 5 rfl) ?_
                      refine lv_iload hx hb dX3_loads_129 (lv_at hl 6 rfl) ?_
                      obtain ⟨r42, hg41, h⟩ := ob h
                      refine cVi X (hml.trans hl.1.symm) Y (c_fX0_firstWrong l D g ad (up2 σ 0 3 0) n v1.toNatClampNeg (clt hg12) v3 v4 hg41) (lkR g ad (up2 σ 0 3 0)) rfl (gs_X3_114 _) rfl fd_X0_firstWrong ⟨Nat.le_of_ble_eq_true rfl, Nat.le_of_ble_eq_true rfl⟩ ⟨Nat.le_of_ble_eq_true rfl, Nat.le_of_ble_eq_true rfl⟩ (rest := []) rfl (Nat.le_of_ble_eq_true rfl) dX3_loads_131 (fun H locs Y => ?_)
                      refine lv_istore (lv' := [(8, .int r42), (7, .int r14), (6, .ref (ad (2 + v1.toNatClampNeg))), (0, .ref (ad 0)), (1, .int v1), (2, .int v2), (3, .int v3), (4, .int v4), (5, .int v5)]) hx hb dX3_loads_134 hl (by decide) rfl (fun ls hl => ?_)
                      refine lv_iload hx hb dX3_loads_136 (lv_at hl 8 rfl) ?_
                      refine lv_iconst (v := 1) hx hb dX3_loads_138 (by decide) ?_
                      refine lv_icmp_ne (tgt := 145) hx hb dX3_loads_139 (by decide) (fun c43 => ?_) (fun c43 => ?_)
                      · replace h := oe c43 h
                        refine lv_iload hx hb dX3_loads_145 (lv_at hl 0 rfl) ?_
                        refine lv_bipush (v := (-9)) hx hb dX3_loads_147 (by decide) ?_
                        refine lv_icmp_eq (tgt := 158) hx hb dX3_loads_149 (by decide) (fun c44 => ?_) (fun c44 => ?_)
                        · replace h := ot c44 h
                          refine lv_aload_n hx hb dX3_loads_158 rfl (lv_at hl 3 rfl) ?_
                          refine lv_aload hx hb dX3_loads_159 (lv_at hl 2 rfl) ?_
                          refine lv_iload_n hx hb dX3_loads_161 rfl (lv_at hl 6 rfl) ?_
                          refine lv_iload hx hb dX3_loads_162 (lv_at hl 7 rfl) ?_
                          refine lv_iload hx hb dX3_loads_164 (lv_at hl 8 rfl) ?_
                          obtain ⟨r46, hg45, h⟩ := ob h
                          refine cVi X (hml.trans hl.1.symm) Y (c_fX3_ofLoads l D g ad (up2 σ 0 3 0) n v1.toNatClampNeg (clt hg12) v3 v4 v5 hg45) (lkX g ad (up2 σ 0 3 0)) rfl (gs_X3_117 _) rfl fd_X3_ofLoads ⟨Nat.le_of_ble_eq_true rfl, Nat.le_of_ble_eq_true rfl⟩ ⟨Nat.le_of_ble_eq_true rfl, Nat.le_of_ble_eq_true rfl⟩ (rest := []) rfl (Nat.le_of_ble_eq_true rfl) dX3_loads_166 (fun H locs Y => ?_)
                          obtain ⟨rfl, rfl⟩ := os2 h
                          exact retI X Y hr hlk dX3_loads_169
                        · replace h := oe c44 h
                          refine lv_bipush (v := (-100)) hx hb dX3_loads_152 (by decide) ?_
                          refine lv_iload hx hb dX3_loads_154 (lv_at hl 0 rfl) ?_
                          refine lv_isub hx hb dX3_loads_156 ?_
                          obtain ⟨rfl, rfl⟩ := os2 h
                          exact retI X Y hr hlk dX3_loads_157
                      · replace h := ot c43 h
                        refine lv_iload hx hb dX3_loads_142 (lv_at hl 0 rfl) ?_
                        obtain ⟨rfl, rfl⟩ := os2 h
                        exact retI X Y hr hlk dX3_loads_144
                    · replace h := ot c40 h
                      refine lv_bipush (v := (-2)) hx hb dX3_loads_119 (by decide) ?_
                      obtain ⟨rfl, rfl⟩ := os2 h
                      exact retI X Y hr hlk dX3_loads_121
                  · replace h := ot c37 h
                    refine lv_bipush (v := (-3)) hx hb dX3_loads_101 (by decide) ?_
                    obtain ⟨rfl, rfl⟩ := os2 h
                    exact retI X Y hr hlk dX3_loads_103
                · replace h := oe c34 h
                  refine lv_aload_n hx hb dX3_loads_84 rfl (lv_at hl 2 rfl) ?_
                  refine lv_iload hx hb dX3_loads_85 (lv_at hl 0 rfl) ?_
                  obtain ⟨r48, σ48, hg47, h⟩ := ob2 h
                  refine cVi X (hml.trans hl.1.symm) Y (c_fX3_faulted l D g ad (up2 σ 0 3 0) r14 hg47) (lkX g ad (up2 σ 0 3 0)) rfl (gs_X3_44 _) rfl fd_X3_faulted ⟨Nat.le_of_ble_eq_true rfl, Nat.le_of_ble_eq_true rfl⟩ ⟨Nat.le_of_ble_eq_true rfl, Nat.le_of_ble_eq_true rfl⟩ (rest := []) rfl (Nat.le_of_ble_eq_true rfl) dX3_loads_87 (fun H locs Y => ?_)
                  obtain ⟨rfl, rfl⟩ := os2 h
                  exact retI X Y hr hlk dX3_loads_90
              · replace h := ot c33 h
                refine lv_iconst (v := 3) hx hb dX3_loads_76 (by decide) ?_
                refine lv_istore (lv' := [(7, .int 3), (6, .ref (ad (2 + v1.toNatClampNeg))), (0, .ref (ad 0)), (1, .int v1), (2, .int v2), (3, .int v3), (4, .int v4), (5, .int v5)]) hx hb dX3_loads_77 hl (by decide) rfl (fun ls hl => ?_)
                refine lv_iload hx hb dX3_loads_79 (lv_at hl 0 rfl) ?_
                refine lv_if_eq (tgt := 91) hx hb dX3_loads_81 (by decide) (fun c9 => absurd c9 (by decide)) (fun _ => ?_)
                refine lv_aload_n hx hb dX3_loads_84 rfl (lv_at hl 2 rfl) ?_
                refine lv_iload hx hb dX3_loads_85 (lv_at hl 0 rfl) ?_
                obtain ⟨r50, σ50, hg49, h⟩ := ob2 h
                refine cVi X (hml.trans hl.1.symm) Y (c_fX3_faulted l D g ad (up2 σ 0 3 0) 3 hg49) (lkX g ad (up2 σ 0 3 0)) rfl (gs_X3_44 _) rfl fd_X3_faulted ⟨Nat.le_of_ble_eq_true rfl, Nat.le_of_ble_eq_true rfl⟩ ⟨Nat.le_of_ble_eq_true rfl, Nat.le_of_ble_eq_true rfl⟩ (rest := []) rfl (Nat.le_of_ble_eq_true rfl) dX3_loads_87 (fun H locs Y => ?_)
                obtain ⟨rfl, rfl⟩ := os2 h
                exact retI X Y hr hlk dX3_loads_90
          · replace h := ot c11 h
            refine lv_bipush (v := (-2)) hx hb dX3_loads_41 (by decide) ?_
            obtain ⟨rfl, rfl⟩ := os2 h
            exact retI X Y hr hlk dX3_loads_43
  · replace h := ot c3 h
    refine lv_iconst (v := (-1)) hx hb dX3_loads_12 (by decide) ?_
    obtain ⟨rfl, rfl⟩ := os2 h
    exact retI X Y hr hlk dX3_loads_13
set_option maxHeartbeats 4000000 in
set_option maxRecDepth 100000 in
theorem c_fX3_cross (l : Launch) (D : va_G) (g : Nat → ClassId) (ad : Nat → Nat) (σ : St) (n : Nat) (v1 : Int32) {r0 : Int32} {σ0 : St} (h : fX3_cross n σ v1 = some (r0, σ0)) : MI l yX3_cross kX3_cross 5 120 D g (WC g ad σ) (WC g ad σ0) [.ref (ad 0), .int v1] r0 := by
  intro sz
  refine Met.of2 (Qc := fun A => QI D g A (WC g ad σ0) r0) (cc := cX3_cross) (maxL := 3) (ret := (some .int)) (own := RX3) (by decide) rfl rfl (Nat.le_of_ble_eq_true rfl) ?_
  intro p e s m below meth c A ls X hr hlk hml Y hl
  have hx := X.1
  have hb := X.2.1
  have hl : lv_has ls 3 [(0, .ref (ad 0)), (1, .int v1)] := hl
  rw [fX3_cross] at h
  refine lv_aload_n hx hb dX3_cross_0 rfl (lv_at hl 0 rfl) ?_
  refine rgX X Y 1 (v := .ref (ad 10)) tw_129 rfl dX3_cross_1 ?_
  obtain ⟨r2, hg1, h⟩ := ob h
  refine cVi X (hml.trans hl.1.symm) Y (c_fX0_isThere l D g ad σ hg1) (lkR g ad σ) rfl (gs_X3_80 _) rfl fd_X0_isThere ⟨Nat.le_of_ble_eq_true rfl, Nat.le_of_ble_eq_true rfl⟩ ⟨Nat.le_of_ble_eq_true rfl, Nat.le_of_ble_eq_true rfl⟩ (rest := []) rfl (Nat.le_of_ble_eq_true rfl) dX3_cross_4 (fun H locs Y => ?_)
  refine lv_if_ne (tgt := 13) hx hb dX3_cross_7 (by decide) (fun c3 => ?_) (fun c3 => ?_)
  · replace h := oe c3 h
    refine lv_iload_n hx hb dX3_cross_13 rfl (lv_at hl 1 rfl) ?_
    refine lv_iconst (v := (-1)) hx hb dX3_cross_14 (by decide) ?_
    refine lv_icmp_lt (tgt := 23) hx hb dX3_cross_15 (by decide) (fun c4 => ?_) (fun c4 => ?_)
    · replace h := ot c4 h
      refine lv_bipush (v := (-2)) hx hb dX3_cross_23 (by decide) ?_
      obtain ⟨rfl, rfl⟩ := os2 h
      exact retI X Y hr hlk dX3_cross_25
    · replace h := oe c4 h
      refine lv_iload_n hx hb dX3_cross_18 rfl (lv_at hl 1 rfl) ?_
      refine lv_iconst (v := 5) hx hb dX3_cross_19 (by decide) ?_
      refine lv_icmp_lt (tgt := 26) hx hb dX3_cross_20 (by decide) (fun c5 => ?_) (fun c5 => ?_)
      · replace h := ot c5 h
        refine lv_aload_n hx hb dX3_cross_26 rfl (lv_at hl 0 rfl) ?_
        refine rgX X Y 1 (v := .ref (ad 10)) tw_129 rfl dX3_cross_27 ?_
        obtain ⟨σ7, hg6, h⟩ := ob h
        refine cVv X (hml.trans hl.1.symm) Y (c_fX0_findFewest l D g ad σ n hg6) (lkR g ad σ) rfl (gs_X3_121 _) rfl fd_X0_findFewest ⟨Nat.le_of_ble_eq_true rfl, Nat.le_of_ble_eq_true rfl⟩ ⟨Nat.le_of_ble_eq_true rfl, Nat.le_of_ble_eq_true rfl⟩ (rest := []) rfl (Nat.le_of_ble_eq_true rfl) dX3_cross_30 (fun H locs Y => ?_)
        refine lv_aload_n hx hb dX3_cross_33 rfl (lv_at hl 0 rfl) ?_
        refine rgX X Y 1 (v := .ref (ad 10)) tw_129 rfl dX3_cross_34 ?_
        refine rgR X Y 9 (v := .ref (ad 20)) tw_76 rfl dX3_cross_37 ?_
        refine lv_aload_n hx hb dX3_cross_40 rfl (lv_at hl 0 rfl) ?_
        refine rgX X Y 1 (v := .ref (ad 10)) tw_129 rfl dX3_cross_41 ?_
        obtain ⟨r9, hg8, h⟩ := ob h
        refine cVi X (hml.trans hl.1.symm) Y (c_fX0_everybody l D g ad σ7 hg8) (lkR g ad σ7) rfl (gs_X3_127 _) rfl fd_X0_everybody ⟨Nat.le_of_ble_eq_true rfl, Nat.le_of_ble_eq_true rfl⟩ ⟨Nat.le_of_ble_eq_true rfl, Nat.le_of_ble_eq_true rfl⟩ (rest := [.ref (ad 20)]) rfl (Nat.le_of_ble_eq_true rfl) dX3_cross_44 (fun H locs Y => ?_)
        obtain ⟨hg10, h⟩ := og h
        refine ri X Y (lkC_20 g ad σ7) hg10 dX3_cross_47 ?_
        refine lv_istore_n (lv' := [(2, .int (σ7 20 r9.toNatClampNeg)), (0, .ref (ad 0)), (1, .int v1)]) hx hb dX3_cross_48 rfl hl (by decide) rfl (fun ls hl => ?_)
        refine lv_iload_n hx hb dX3_cross_49 rfl (lv_at hl 0 rfl) ?_
        refine lv_bipush (v := (-9)) hx hb dX3_cross_50 (by decide) ?_
        refine lv_icmp_ne (tgt := 58) hx hb dX3_cross_52 (by decide) (fun c11 => ?_) (fun c11 => ?_)
        · replace h := oe c11 h
          refine lv_iload_n hx hb dX3_cross_58 rfl (lv_at hl 2 rfl) ?_
          refine lv_iconst (v := (-1)) hx hb dX3_cross_59 (by decide) ?_
          refine lv_icmp_ne (tgt := 65) hx hb dX3_cross_60 (by decide) (fun c12 => ?_) (fun c12 => ?_)
          · replace h := oe c12 h
            refine lv_iload_n hx hb dX3_cross_65 rfl (lv_at hl 2 rfl) ?_
            refine lv_iload_n hx hb dX3_cross_66 rfl (lv_at hl 0 rfl) ?_
            refine lv_icmp_ge (tgt := 81) hx hb dX3_cross_67 (by decide) (fun c13 => ?_) (fun c13 => ?_)
            · replace h := ot c13 h
              refine lv_bipush (v := (-9)) hx hb dX3_cross_81 (by decide) ?_
              obtain ⟨rfl, rfl⟩ := os2 h
              exact retI X Y hr hlk dX3_cross_83
            · replace h := oe c13 h
              refine lv_aload_n hx hb dX3_cross_70 rfl (lv_at hl 1 rfl) ?_
              refine rgX X Y 1 (v := .ref (ad 10)) tw_129 rfl dX3_cross_71 ?_
              refine lv_iload_n hx hb dX3_cross_74 rfl (lv_at hl 2 rfl) ?_
              obtain ⟨r15, hg14, h⟩ := ob h
              refine cVi X (hml.trans hl.1.symm) Y (c_fX0_loadOfCross l D g ad σ7 n v1 hg14) (lkR g ad σ7) rfl (gs_X3_131 _) rfl fd_X0_loadOfCross ⟨Nat.le_of_ble_eq_true rfl, Nat.le_of_ble_eq_true rfl⟩ ⟨Nat.le_of_ble_eq_true rfl, Nat.le_of_ble_eq_true rfl⟩ (rest := []) rfl (Nat.le_of_ble_eq_true rfl) dX3_cross_75 (fun H locs Y => ?_)
              refine lv_goto (tgt := 83) hx hb dX3_cross_78 (by decide) ?_
              obtain ⟨rfl, rfl⟩ := os2 h
              exact retI X Y hr hlk dX3_cross_83
          · replace h := ot c12 h
            refine lv_iload_n hx hb dX3_cross_63 rfl (lv_at hl 0 rfl) ?_
            obtain ⟨rfl, rfl⟩ := os2 h
            exact retI X Y hr hlk dX3_cross_64
        · replace h := ot c11 h
          refine lv_bipush (v := (-9)) hx hb dX3_cross_55 (by decide) ?_
          obtain ⟨rfl, rfl⟩ := os2 h
          exact retI X Y hr hlk dX3_cross_57
      · replace h := oe c5 h
        refine lv_bipush (v := (-2)) hx hb dX3_cross_23 (by decide) ?_
        obtain ⟨rfl, rfl⟩ := os2 h
        exact retI X Y hr hlk dX3_cross_25
  · replace h := ot c3 h
    refine lv_bipush (v := (-3)) hx hb dX3_cross_10 (by decide) ?_
    obtain ⟨rfl, rfl⟩ := os2 h
    exact retI X Y hr hlk dX3_cross_12
set_option maxHeartbeats 4000000 in
set_option maxRecDepth 100000 in
theorem w_fX3_loan_L58 {p : Program} {l : Launch} {e : Env} {s : State} {m : MethodId} {args : Array Value} {below : List Frame} {meth : Method} {c : Code} {D : va_G} {g : Nat → ClassId} {ad : Nat → Nat} {A : Nat → Prop} {r0 : Int32} {σ0 : St} (X : Cx p s m c args cX3_loan RX3 kX3_loan D g) (hr : meth.sig.returnType = (some .int)) (hlk : meth.locks = false) (hml : c.maxLocals = 7) : ∀ (n : Nat), ∀ (σ : St) (v1 : Int32) (v2 : Int32) (v3 : Int32) (v5 : Int32) (H : Heap) (locs : List Loc) (ls : Array Slot), Hp D A s.heap H locs (WC g ad σ) → lv_has ls 7 [(0, .ref (ad 0)), (1, .int v1), (2, .int v2), (3, .int v3), (5, .int v5)] → fX3_loan_L58 n σ v1 v2 v3 v5 = some (r0, σ0) → W p l e (RM 4 100) s m args below meth c H locs 0 0 (MQ below (QI D g A (WC g ad σ0) r0) args s 0 0 A) (F0 m 58 ls []) := by
  have hx := X.1
  have hb := X.2.1
  intro n
  induction n with
  | zero => intro σ v1 v2 v3 v5 H locs ls Y hl h; cases (show none = _ from h)
  | succ n ih =>
    intro σ v1 v2 v3 v5 H locs ls Y hl h
    rw [fX3_loan_L58] at h
    refine lv_iload hx hb dX3_loan_58 (lv_at hl 4 rfl) ?_
    refine lv_bipush (v := 9) hx hb dX3_loan_60 (by decide) ?_
    refine lv_icmp_gt (tgt := 103) hx hb dX3_loan_62 (by decide) (fun c24 => ?_) (fun c24 => ?_)
    · replace h := ot c24 h
      refine lv_bipush (v := (-9)) hx hb dX3_loan_103 (by decide) ?_
      obtain ⟨rfl, rfl⟩ := os2 h
      exact retI X Y hr hlk dX3_loan_105
    · replace h := oe c24 h
      refine lv_aload_n hx hb dX3_loan_65 rfl (lv_at hl 0 rfl) ?_
      refine rgX X Y 1 (v := .ref (ad 10)) tw_129 rfl dX3_loan_66 ?_
      refine lv_iload_n hx hb dX3_loan_69 rfl (lv_at hl 1 rfl) ?_
      refine lv_iload_n hx hb dX3_loan_70 rfl (lv_at hl 2 rfl) ?_
      refine lv_iload hx hb dX3_loan_71 (lv_at hl 4 rfl) ?_
      obtain ⟨r26, σ26, hg25, h⟩ := ob2 h
      refine cVi X (hml.trans hl.1.symm) Y (c_fX0_lenderOf l D g ad σ n v1 v2 v5 hg25) (lkR g ad σ) rfl (gs_X3_134 _) rfl fd_X0_lenderOf ⟨Nat.le_of_ble_eq_true rfl, Nat.le_of_ble_eq_true rfl⟩ ⟨Nat.le_of_ble_eq_true rfl, Nat.le_of_ble_eq_true rfl⟩ (rest := []) rfl (Nat.le_of_ble_eq_true rfl) dX3_loan_73 (fun H locs Y => ?_)
      refine lv_istore (lv' := [(6, .int r26), (0, .ref (ad 0)), (1, .int v1), (2, .int v2), (3, .int v3), (5, .int v5)]) hx hb dX3_loan_76 hl (by decide) rfl (fun ls hl => ?_)
      refine lv_iload hx hb dX3_loan_78 (lv_at hl 0 rfl) ?_
      refine lv_bipush (v := (-9)) hx hb dX3_loan_80 (by decide) ?_
      refine lv_icmp_eq (tgt := 97) hx hb dX3_loan_82 (by decide) (fun c27 => ?_) (fun c27 => ?_)
      · replace h := ot c27 h
        refine lv_iinc (v := v5 + 1) (lv' := [(5, .int (v5 + 1)), (6, .int r26), (0, .ref (ad 0)), (1, .int v1), (2, .int v2), (3, .int v3)]) hx hb dX3_loan_97 hl (k := 5) rfl rfl (by decide) rfl (fun ls hl => ?_)
        refine lv_goto (tgt := 58) hx hb dX3_loan_100 (by decide) ?_
        exact ih σ26 v1 v2 v3 (v5 + 1) _ _ _ Y (lv_sub hl [2, 3, 4, 5, 0] rfl) h
      · replace h := oe c27 h
        refine lv_iload_n hx hb dX3_loan_85 rfl (lv_at hl 4 rfl) ?_
        refine lv_if_ne (tgt := 94) hx hb dX3_loan_86 (by decide) (fun c28 => ?_) (fun c28 => ?_)
        · replace h := oe c28 h
          refine lv_iload hx hb dX3_loan_94 (lv_at hl 0 rfl) ?_
          obtain ⟨rfl, rfl⟩ := os2 h
          exact retI X Y hr hlk dX3_loan_96
        · replace h := ot c28 h
          refine lv_iload hx hb dX3_loan_89 (lv_at hl 5 rfl) ?_
          refine lv_goto (tgt := 96) hx hb dX3_loan_91 (by decide) ?_
          obtain ⟨rfl, rfl⟩ := os2 h
          exact retI X Y hr hlk dX3_loan_96
set_option maxHeartbeats 4000000 in
set_option maxRecDepth 100000 in
theorem c_fX3_loan (l : Launch) (D : va_G) (g : Nat → ClassId) (ad : Nat → Nat) (σ : St) (n : Nat) (v1 : Int32) (v2 : Int32) (v3 : Int32) {r0 : Int32} {σ0 : St} (h : fX3_loan n σ v1 v2 v3 = some (r0, σ0)) : MI l yX3_loan kX3_loan 4 100 D g (WC g ad σ) (WC g ad σ0) [.ref (ad 0), .int v1, .int v2, .int v3] r0 := by
  intro sz
  refine Met.of2 (Qc := fun A => QI D g A (WC g ad σ0) r0) (cc := cX3_loan) (maxL := 7) (ret := (some .int)) (own := RX3) (by decide) rfl rfl (Nat.le_of_ble_eq_true rfl) ?_
  intro p e s m below meth c A ls X hr hlk hml Y hl
  have hx := X.1
  have hb := X.2.1
  have hl : lv_has ls 7 [(0, .ref (ad 0)), (1, .int v1), (2, .int v2), (3, .int v3)] := hl
  rw [fX3_loan] at h
  refine lv_aload_n hx hb dX3_loan_0 rfl (lv_at hl 0 rfl) ?_
  refine lv_iload_n hx hb dX3_loan_1 rfl (lv_at hl 1 rfl) ?_
  refine lv_iload_n hx hb dX3_loan_2 rfl (lv_at hl 2 rfl) ?_
  refine lv_iload_n hx hb dX3_loan_3 rfl (lv_at hl 3 rfl) ?_
  refine lv_if_eq (tgt := 12) hx hb dX3_loan_4 (by decide) (fun c1 => ?_) (fun c1 => ?_)
  · replace h := ot c1 h
    refine lv_iconst (v := 1) hx hb dX3_loan_12 (by decide) ?_
    refine lv_goto (tgt := 17) hx hb dX3_loan_13 (by decide) ?_
    obtain ⟨r3, hg2, h⟩ := ob h
    refine cVi X (hml.trans hl.1.symm) Y (c_fX3_refusalOfOneIn l D g ad σ v1 v2 1 hg2) (lkX g ad σ) rfl (gs_X3_90 _) rfl fd_X3_refusalOfOneIn ⟨Nat.le_of_ble_eq_true rfl, Nat.le_of_ble_eq_true rfl⟩ ⟨Nat.le_of_ble_eq_true rfl, Nat.le_of_ble_eq_true rfl⟩ (rest := []) rfl (Nat.le_of_ble_eq_true rfl) dX3_loan_17 (fun H locs Y => ?_)
    refine lv_istore (lv' := [(4, .int r3), (0, .ref (ad 0)), (1, .int v1), (2, .int v2), (3, .int v3)]) hx hb dX3_loan_20 hl (by decide) rfl (fun ls hl => ?_)
    refine lv_iload hx hb dX3_loan_22 (lv_at hl 0 rfl) ?_
    refine lv_if_eq (tgt := 30) hx hb dX3_loan_24 (by decide) (fun c4 => ?_) (fun c4 => ?_)
    · replace h := ot c4 h
      refine lv_aload_n hx hb dX3_loan_30 rfl (lv_at hl 1 rfl) ?_
      refine rgX X Y 1 (v := .ref (ad 10)) tw_129 rfl dX3_loan_31 ?_
      refine lv_iload_n hx hb dX3_loan_34 rfl (lv_at hl 3 rfl) ?_
      obtain ⟨r6, hg5, h⟩ := ob h
      refine cVi X (hml.trans hl.1.symm) Y (c_fX0_pullersOf l D g ad σ n v2 hg5) (lkR g ad σ) rfl (gs_X3_101 _) rfl fd_X0_pullersOf ⟨Nat.le_of_ble_eq_true rfl, Nat.le_of_ble_eq_true rfl⟩ ⟨Nat.le_of_ble_eq_true rfl, Nat.le_of_ble_eq_true rfl⟩ (rest := []) rfl (Nat.le_of_ble_eq_true rfl) dX3_loan_35 (fun H locs Y => ?_)
      refine lv_iconst (v := 1) hx hb dX3_loan_38 (by decide) ?_
      refine lv_iload_n hx hb dX3_loan_39 rfl (lv_at hl 2 rfl) ?_
      refine lv_ishl hx hb dX3_loan_40 ?_
      refine lv_icmp_ne (tgt := 55) hx hb dX3_loan_41 (by decide) (fun c7 => ?_) (fun c7 => ?_)
      · replace h := oe c7 h
        refine lv_iconst (v := 1) hx hb dX3_loan_55 (by decide) ?_
        refine lv_istore (lv' := [(5, .int 1), (4, .int r3), (0, .ref (ad 0)), (1, .int v1), (2, .int v2), (3, .int v3)]) hx hb dX3_loan_56 hl (by decide) rfl (fun ls hl => ?_)
        exact w_fX3_loan_L58 X hr hlk hml n σ v1 v2 v3 1 _ _ _ Y (lv_sub hl [2, 3, 4, 5, 0] rfl) h
      · replace h := ot c7 h
        refine lv_iload_n hx hb dX3_loan_44 rfl (lv_at hl 4 rfl) ?_
        refine lv_if_ne (tgt := 52) hx hb dX3_loan_45 (by decide) (fun c8 => ?_) (fun c8 => ?_)
        · replace h := oe c8 h
          refine lv_bipush (v := (-9)) hx hb dX3_loan_52 (by decide) ?_
          obtain ⟨rfl, rfl⟩ := os2 h
          exact retI X Y hr hlk dX3_loan_54
        · replace h := ot c8 h
          refine lv_iconst (v := 0) hx hb dX3_loan_48 (by decide) ?_
          refine lv_goto (tgt := 54) hx hb dX3_loan_49 (by decide) ?_
          obtain ⟨rfl, rfl⟩ := os2 h
          exact retI X Y hr hlk dX3_loan_54
    · replace h := oe c4 h
      refine lv_iload hx hb dX3_loan_27 (lv_at hl 0 rfl) ?_
      obtain ⟨rfl, rfl⟩ := os2 h
      exact retI X Y hr hlk dX3_loan_29
  · replace h := oe c1 h
    refine lv_iload_n hx hb dX3_loan_7 rfl (lv_at hl 3 rfl) ?_
    refine lv_iconst (v := 1) hx hb dX3_loan_8 (by decide) ?_
    refine lv_icmp_ne (tgt := 16) hx hb dX3_loan_9 (by decide) (fun c9 => ?_) (fun c9 => ?_)
    · replace h := oe c9 h
      refine lv_iconst (v := 0) hx hb dX3_loan_16 (by decide) ?_
      obtain ⟨r11, hg10, h⟩ := ob h
      refine cVi X (hml.trans hl.1.symm) Y (c_fX3_refusalOfOneIn l D g ad σ v1 v2 0 hg10) (lkX g ad σ) rfl (gs_X3_90 _) rfl fd_X3_refusalOfOneIn ⟨Nat.le_of_ble_eq_true rfl, Nat.le_of_ble_eq_true rfl⟩ ⟨Nat.le_of_ble_eq_true rfl, Nat.le_of_ble_eq_true rfl⟩ (rest := []) rfl (Nat.le_of_ble_eq_true rfl) dX3_loan_17 (fun H locs Y => ?_)
      refine lv_istore (lv' := [(4, .int r11), (0, .ref (ad 0)), (1, .int v1), (2, .int v2), (3, .int v3)]) hx hb dX3_loan_20 hl (by decide) rfl (fun ls hl => ?_)
      refine lv_iload hx hb dX3_loan_22 (lv_at hl 0 rfl) ?_
      refine lv_if_eq (tgt := 30) hx hb dX3_loan_24 (by decide) (fun c12 => ?_) (fun c12 => ?_)
      · replace h := ot c12 h
        refine lv_aload_n hx hb dX3_loan_30 rfl (lv_at hl 1 rfl) ?_
        refine rgX X Y 1 (v := .ref (ad 10)) tw_129 rfl dX3_loan_31 ?_
        refine lv_iload_n hx hb dX3_loan_34 rfl (lv_at hl 3 rfl) ?_
        obtain ⟨r14, hg13, h⟩ := ob h
        refine cVi X (hml.trans hl.1.symm) Y (c_fX0_pullersOf l D g ad σ n v2 hg13) (lkR g ad σ) rfl (gs_X3_101 _) rfl fd_X0_pullersOf ⟨Nat.le_of_ble_eq_true rfl, Nat.le_of_ble_eq_true rfl⟩ ⟨Nat.le_of_ble_eq_true rfl, Nat.le_of_ble_eq_true rfl⟩ (rest := []) rfl (Nat.le_of_ble_eq_true rfl) dX3_loan_35 (fun H locs Y => ?_)
        refine lv_iconst (v := 1) hx hb dX3_loan_38 (by decide) ?_
        refine lv_iload_n hx hb dX3_loan_39 rfl (lv_at hl 2 rfl) ?_
        refine lv_ishl hx hb dX3_loan_40 ?_
        refine lv_icmp_ne (tgt := 55) hx hb dX3_loan_41 (by decide) (fun c15 => ?_) (fun c15 => ?_)
        · replace h := oe c15 h
          refine lv_iconst (v := 1) hx hb dX3_loan_55 (by decide) ?_
          refine lv_istore (lv' := [(5, .int 1), (4, .int r11), (0, .ref (ad 0)), (1, .int v1), (2, .int v2), (3, .int v3)]) hx hb dX3_loan_56 hl (by decide) rfl (fun ls hl => ?_)
          exact w_fX3_loan_L58 X hr hlk hml n σ v1 v2 v3 1 _ _ _ Y (lv_sub hl [2, 3, 4, 5, 0] rfl) h
        · replace h := ot c15 h
          refine lv_iload_n hx hb dX3_loan_44 rfl (lv_at hl 4 rfl) ?_
          refine lv_if_ne (tgt := 52) hx hb dX3_loan_45 (by decide) (fun c16 => ?_) (fun c16 => ?_)
          · replace h := oe c16 h
            refine lv_bipush (v := (-9)) hx hb dX3_loan_52 (by decide) ?_
            obtain ⟨rfl, rfl⟩ := os2 h
            exact retI X Y hr hlk dX3_loan_54
          · replace h := ot c16 h
            refine lv_iconst (v := 0) hx hb dX3_loan_48 (by decide) ?_
            refine lv_goto (tgt := 54) hx hb dX3_loan_49 (by decide) ?_
            obtain ⟨rfl, rfl⟩ := os2 h
            exact retI X Y hr hlk dX3_loan_54
      · replace h := oe c12 h
        refine lv_iload hx hb dX3_loan_27 (lv_at hl 0 rfl) ?_
        obtain ⟨rfl, rfl⟩ := os2 h
        exact retI X Y hr hlk dX3_loan_29
    · replace h := ot c9 h
      refine lv_iconst (v := 1) hx hb dX3_loan_12 (by decide) ?_
      refine lv_goto (tgt := 17) hx hb dX3_loan_13 (by decide) ?_
      obtain ⟨r18, hg17, h⟩ := ob h
      refine cVi X (hml.trans hl.1.symm) Y (c_fX3_refusalOfOneIn l D g ad σ v1 v2 1 hg17) (lkX g ad σ) rfl (gs_X3_90 _) rfl fd_X3_refusalOfOneIn ⟨Nat.le_of_ble_eq_true rfl, Nat.le_of_ble_eq_true rfl⟩ ⟨Nat.le_of_ble_eq_true rfl, Nat.le_of_ble_eq_true rfl⟩ (rest := []) rfl (Nat.le_of_ble_eq_true rfl) dX3_loan_17 (fun H locs Y => ?_)
      refine lv_istore (lv' := [(4, .int r18), (0, .ref (ad 0)), (1, .int v1), (2, .int v2), (3, .int v3)]) hx hb dX3_loan_20 hl (by decide) rfl (fun ls hl => ?_)
      refine lv_iload hx hb dX3_loan_22 (lv_at hl 0 rfl) ?_
      refine lv_if_eq (tgt := 30) hx hb dX3_loan_24 (by decide) (fun c19 => ?_) (fun c19 => ?_)
      · replace h := ot c19 h
        refine lv_aload_n hx hb dX3_loan_30 rfl (lv_at hl 1 rfl) ?_
        refine rgX X Y 1 (v := .ref (ad 10)) tw_129 rfl dX3_loan_31 ?_
        refine lv_iload_n hx hb dX3_loan_34 rfl (lv_at hl 3 rfl) ?_
        obtain ⟨r21, hg20, h⟩ := ob h
        refine cVi X (hml.trans hl.1.symm) Y (c_fX0_pullersOf l D g ad σ n v2 hg20) (lkR g ad σ) rfl (gs_X3_101 _) rfl fd_X0_pullersOf ⟨Nat.le_of_ble_eq_true rfl, Nat.le_of_ble_eq_true rfl⟩ ⟨Nat.le_of_ble_eq_true rfl, Nat.le_of_ble_eq_true rfl⟩ (rest := []) rfl (Nat.le_of_ble_eq_true rfl) dX3_loan_35 (fun H locs Y => ?_)
        refine lv_iconst (v := 1) hx hb dX3_loan_38 (by decide) ?_
        refine lv_iload_n hx hb dX3_loan_39 rfl (lv_at hl 2 rfl) ?_
        refine lv_ishl hx hb dX3_loan_40 ?_
        refine lv_icmp_ne (tgt := 55) hx hb dX3_loan_41 (by decide) (fun c22 => ?_) (fun c22 => ?_)
        · replace h := oe c22 h
          refine lv_iconst (v := 1) hx hb dX3_loan_55 (by decide) ?_
          refine lv_istore (lv' := [(5, .int 1), (4, .int r18), (0, .ref (ad 0)), (1, .int v1), (2, .int v2), (3, .int v3)]) hx hb dX3_loan_56 hl (by decide) rfl (fun ls hl => ?_)
          exact w_fX3_loan_L58 X hr hlk hml n σ v1 v2 v3 1 _ _ _ Y (lv_sub hl [2, 3, 4, 5, 0] rfl) h
        · replace h := ot c22 h
          refine lv_iload_n hx hb dX3_loan_44 rfl (lv_at hl 4 rfl) ?_
          refine lv_if_ne (tgt := 52) hx hb dX3_loan_45 (by decide) (fun c23 => ?_) (fun c23 => ?_)
          · replace h := oe c23 h
            refine lv_bipush (v := (-9)) hx hb dX3_loan_52 (by decide) ?_
            obtain ⟨rfl, rfl⟩ := os2 h
            exact retI X Y hr hlk dX3_loan_54
          · replace h := ot c23 h
            refine lv_iconst (v := 0) hx hb dX3_loan_48 (by decide) ?_
            refine lv_goto (tgt := 54) hx hb dX3_loan_49 (by decide) ?_
            obtain ⟨rfl, rfl⟩ := os2 h
            exact retI X Y hr hlk dX3_loan_54
      · replace h := oe c19 h
        refine lv_iload hx hb dX3_loan_27 (lv_at hl 0 rfl) ?_
        obtain ⟨rfl, rfl⟩ := os2 h
        exact retI X Y hr hlk dX3_loan_29
set_option maxHeartbeats 4000000 in
set_option maxRecDepth 100000 in
theorem w_fX3_forgave_L18 {p : Program} {l : Launch} {e : Env} {s : State} {m : MethodId} {args : Array Value} {below : List Frame} {meth : Method} {c : Code} {D : va_G} {g : Nat → ClassId} {ad : Nat → Nat} {A : Nat → Prop} {r0 : Int32} (X : Cx p s m c args cX3_forgave RX3 kX3_forgave D g) (hr : meth.sig.returnType = (some .int)) (hlk : meth.locks = false) (hml : c.maxLocals = 6) : ∀ (n : Nat), ∀ (σ : St) (v1 : Int32) (v3 : Int32) (v4 : Int32) (H : Heap) (locs : List Loc) (ls : Array Slot), Hp D A s.heap H locs (WC g ad σ) → lv_has ls 6 [(0, .ref (ad 0)), (1, .int v1), (3, .int v3), (4, .int v4)] → fX3_forgave_L18 n σ v1 v3 v4 = some r0 → W p l e (RM 3 62) s m args below meth c H locs 0 0 (MQ below (QI D g A (WC g ad σ) r0) args s 0 0 A) (F0 m 18 ls []) := by
  have hx := X.1
  have hb := X.2.1
  intro n
  induction n with
  | zero => intro σ v1 v3 v4 H locs ls Y hl h; cases (show none = _ from h)
  | succ n ih =>
    intro σ v1 v3 v4 H locs ls Y hl h
    rw [fX3_forgave_L18] at h
    refine lv_iload hx hb dX3_forgave_18 (lv_at hl 3 rfl) ?_
    refine lv_iload_n hx hb dX3_forgave_20 rfl (lv_at hl 1 rfl) ?_
    refine lv_icmp_gt (tgt := 86) hx hb dX3_forgave_21 (by decide) (fun c4 => ?_) (fun c4 => ?_)
    · replace h := ot c4 h
      refine lv_iload_n hx hb dX3_forgave_86 rfl (lv_at hl 2 rfl) ?_
      obtain rfl := os1 h
      exact retI X Y hr hlk dX3_forgave_87
    · replace h := oe c4 h
      refine lv_iload_n hx hb dX3_forgave_24 rfl (lv_at hl 2 rfl) ?_
      refine lv_bipush (v := (-9)) hx hb dX3_forgave_25 (by decide) ?_
      refine lv_icmp_eq (tgt := 42) hx hb dX3_forgave_27 (by decide) (fun c5 => ?_) (fun c5 => ?_)
      · replace h := ot c5 h
        refine lv_iconst (v := 1) hx hb dX3_forgave_42 (by decide) ?_
        refine lv_goto (tgt := 47) hx hb dX3_forgave_43 (by decide) ?_
        refine lv_istore (lv' := [(5, .int 1), (0, .ref (ad 0)), (1, .int v1), (3, .int v3), (4, .int v4)]) hx hb dX3_forgave_47 hl (by decide) rfl (fun ls hl => ?_)
        refine lv_iload hx hb dX3_forgave_49 (lv_at hl 4 rfl) ?_
        refine lv_iload_n hx hb dX3_forgave_51 rfl (lv_at hl 2 rfl) ?_
        refine lv_iconst (v := (-1)) hx hb dX3_forgave_52 (by decide) ?_
        refine lv_ixor hx hb dX3_forgave_53 ?_
        refine lv_iand hx hb dX3_forgave_54 ?_
        refine lv_if_ne (tgt := 80) hx hb dX3_forgave_55 (by decide) (fun c6 => ?_) (fun c6 => ?_)
        · replace h := oe c6 h
          refine lv_iinc (v := v4 + 1) (lv' := [(4, .int (v4 + 1)), (5, .int 1), (0, .ref (ad 0)), (1, .int v1), (3, .int v3)]) hx hb dX3_forgave_80 hl (k := 4) rfl rfl (by decide) rfl (fun ls hl => ?_)
          refine lv_goto (tgt := 18) hx hb dX3_forgave_83 (by decide) ?_
          exact ih σ v1 v3 (v4 + 1) _ _ _ Y (lv_sub hl [2, 3, 4, 0] rfl) h
        · replace h := ot c6 h
          refine lv_iload hx hb dX3_forgave_58 (lv_at hl 0 rfl) ?_
          refine lv_if_eq (tgt := 80) hx hb dX3_forgave_60 (by decide) (fun c9 => absurd c9 (by decide)) (fun _ => ?_)
          refine lv_aload_n hx hb dX3_forgave_63 rfl (lv_at hl 1 rfl) ?_
          refine rgX X Y 1 (v := .ref (ad 10)) tw_129 rfl dX3_forgave_64 ?_
          refine lv_iload_n hx hb dX3_forgave_67 rfl (lv_at hl 2 rfl) ?_
          refine lv_iload hx hb dX3_forgave_68 (lv_at hl 4 rfl) ?_
          refine lv_iconst (v := 0) hx hb dX3_forgave_70 (by decide) ?_
          obtain ⟨r8, hg7, h⟩ := ob h
          refine cVi X (hml.trans hl.1.symm) Y (c_fX0_pullersIf l D g ad σ n v1 v4 0 hg7) (lkR g ad σ) rfl (gs_X3_142 _) rfl fd_X0_pullersIf ⟨Nat.le_of_ble_eq_true rfl, Nat.le_of_ble_eq_true rfl⟩ ⟨Nat.le_of_ble_eq_true rfl, Nat.le_of_ble_eq_true rfl⟩ (rest := []) rfl (Nat.le_of_ble_eq_true rfl) dX3_forgave_71 (fun H locs Y => ?_)
          refine lv_if_ne (tgt := 80) hx hb dX3_forgave_74 (by decide) (fun c9 => ?_) (fun c9 => ?_)
          · replace h := oe c9 h
            refine lv_iinc (v := v4 + 1) (lv' := [(4, .int (v4 + 1)), (5, .int 1), (0, .ref (ad 0)), (1, .int v1), (3, .int v3)]) hx hb dX3_forgave_80 hl (k := 4) rfl rfl (by decide) rfl (fun ls hl => ?_)
            refine lv_goto (tgt := 18) hx hb dX3_forgave_83 (by decide) ?_
            exact ih σ v1 v3 (v4 + 1) _ _ _ Y (lv_sub hl [2, 3, 4, 0] rfl) h
          · replace h := ot c9 h
            refine lv_iload hx hb dX3_forgave_77 (lv_at hl 4 rfl) ?_
            refine lv_istore_n (lv' := [(3, .int v4), (5, .int 1), (0, .ref (ad 0)), (1, .int v1), (4, .int v4)]) hx hb dX3_forgave_79 rfl hl (by decide) rfl (fun ls hl => ?_)
            refine lv_iinc (v := v4 + 1) (lv' := [(4, .int (v4 + 1)), (3, .int v4), (5, .int 1), (0, .ref (ad 0)), (1, .int v1)]) hx hb dX3_forgave_80 hl (k := 4) rfl rfl (by decide) rfl (fun ls hl => ?_)
            refine lv_goto (tgt := 18) hx hb dX3_forgave_83 (by decide) ?_
            exact ih σ v1 v4 (v4 + 1) _ _ _ Y (lv_sub hl [3, 4, 1, 0] rfl) h
      · replace h := oe c5 h
        refine lv_iload hx hb dX3_forgave_30 (lv_at hl 3 rfl) ?_
        obtain ⟨r11, hg10, h⟩ := ob h
        refine cSi X (hml.trans hl.1.symm) Y (c_fJ6_bitCount l D g (WC g ad σ) v4 hg10) (gs_X3_137 _) rfl fd_J6_bitCount_0f7a4 ⟨Nat.le_of_ble_eq_true rfl, Nat.le_of_ble_eq_true rfl⟩ ⟨Nat.le_of_ble_eq_true rfl, Nat.le_of_ble_eq_true rfl⟩ (rest := []) rfl (Nat.le_of_ble_eq_true rfl) dX3_forgave_32 (fun H locs Y => ?_)
        refine lv_iload_n hx hb dX3_forgave_35 rfl (lv_at hl 2 rfl) ?_
        obtain ⟨r13, hg12, h⟩ := ob h
        refine cSi X (hml.trans hl.1.symm) Y (c_fJ6_bitCount l D g (WC g ad σ) v3 hg12) (gs_X3_137 _) rfl fd_J6_bitCount_0f7a4 ⟨Nat.le_of_ble_eq_true rfl, Nat.le_of_ble_eq_true rfl⟩ ⟨Nat.le_of_ble_eq_true rfl, Nat.le_of_ble_eq_true rfl⟩ (rest := [.int r11]) rfl (Nat.le_of_ble_eq_true rfl) dX3_forgave_36 (fun H locs Y => ?_)
        refine lv_icmp_ge (tgt := 46) hx hb dX3_forgave_39 (by decide) (fun c14 => ?_) (fun c14 => ?_)
        · replace h := ot c14 h
          refine lv_iconst (v := 0) hx hb dX3_forgave_46 (by decide) ?_
          refine lv_istore (lv' := [(5, .int 0), (0, .ref (ad 0)), (1, .int v1), (3, .int v3), (4, .int v4)]) hx hb dX3_forgave_47 hl (by decide) rfl (fun ls hl => ?_)
          refine lv_iload hx hb dX3_forgave_49 (lv_at hl 4 rfl) ?_
          refine lv_iload_n hx hb dX3_forgave_51 rfl (lv_at hl 2 rfl) ?_
          refine lv_iconst (v := (-1)) hx hb dX3_forgave_52 (by decide) ?_
          refine lv_ixor hx hb dX3_forgave_53 ?_
          refine lv_iand hx hb dX3_forgave_54 ?_
          refine lv_if_ne (tgt := 80) hx hb dX3_forgave_55 (by decide) (fun c15 => ?_) (fun c15 => ?_)
          · replace h := oe c15 h
            refine lv_iinc (v := v4 + 1) (lv' := [(4, .int (v4 + 1)), (5, .int 0), (0, .ref (ad 0)), (1, .int v1), (3, .int v3)]) hx hb dX3_forgave_80 hl (k := 4) rfl rfl (by decide) rfl (fun ls hl => ?_)
            refine lv_goto (tgt := 18) hx hb dX3_forgave_83 (by decide) ?_
            exact ih σ v1 v3 (v4 + 1) _ _ _ Y (lv_sub hl [2, 3, 4, 0] rfl) h
          · replace h := ot c15 h
            refine lv_iload hx hb dX3_forgave_58 (lv_at hl 0 rfl) ?_
            refine lv_if_eq (tgt := 80) hx hb dX3_forgave_60 (by decide) (fun _ => ?_) (fun c9 => absurd c9 (by decide))
            refine lv_iinc (v := v4 + 1) (lv' := [(4, .int (v4 + 1)), (5, .int 0), (0, .ref (ad 0)), (1, .int v1), (3, .int v3)]) hx hb dX3_forgave_80 hl (k := 4) rfl rfl (by decide) rfl (fun ls hl => ?_)
            refine lv_goto (tgt := 18) hx hb dX3_forgave_83 (by decide) ?_
            exact ih σ v1 v3 (v4 + 1) _ _ _ Y (lv_sub hl [2, 3, 4, 0] rfl) h
        · replace h := oe c14 h
          refine lv_iconst (v := 1) hx hb dX3_forgave_42 (by decide) ?_
          refine lv_goto (tgt := 47) hx hb dX3_forgave_43 (by decide) ?_
          refine lv_istore (lv' := [(5, .int 1), (0, .ref (ad 0)), (1, .int v1), (3, .int v3), (4, .int v4)]) hx hb dX3_forgave_47 hl (by decide) rfl (fun ls hl => ?_)
          refine lv_iload hx hb dX3_forgave_49 (lv_at hl 4 rfl) ?_
          refine lv_iload_n hx hb dX3_forgave_51 rfl (lv_at hl 2 rfl) ?_
          refine lv_iconst (v := (-1)) hx hb dX3_forgave_52 (by decide) ?_
          refine lv_ixor hx hb dX3_forgave_53 ?_
          refine lv_iand hx hb dX3_forgave_54 ?_
          refine lv_if_ne (tgt := 80) hx hb dX3_forgave_55 (by decide) (fun c16 => ?_) (fun c16 => ?_)
          · replace h := oe c16 h
            refine lv_iinc (v := v4 + 1) (lv' := [(4, .int (v4 + 1)), (5, .int 1), (0, .ref (ad 0)), (1, .int v1), (3, .int v3)]) hx hb dX3_forgave_80 hl (k := 4) rfl rfl (by decide) rfl (fun ls hl => ?_)
            refine lv_goto (tgt := 18) hx hb dX3_forgave_83 (by decide) ?_
            exact ih σ v1 v3 (v4 + 1) _ _ _ Y (lv_sub hl [2, 3, 4, 0] rfl) h
          · replace h := ot c16 h
            refine lv_iload hx hb dX3_forgave_58 (lv_at hl 0 rfl) ?_
            refine lv_if_eq (tgt := 80) hx hb dX3_forgave_60 (by decide) (fun c9 => absurd c9 (by decide)) (fun _ => ?_)
            refine lv_aload_n hx hb dX3_forgave_63 rfl (lv_at hl 1 rfl) ?_
            refine rgX X Y 1 (v := .ref (ad 10)) tw_129 rfl dX3_forgave_64 ?_
            refine lv_iload_n hx hb dX3_forgave_67 rfl (lv_at hl 2 rfl) ?_
            refine lv_iload hx hb dX3_forgave_68 (lv_at hl 4 rfl) ?_
            refine lv_iconst (v := 0) hx hb dX3_forgave_70 (by decide) ?_
            obtain ⟨r18, hg17, h⟩ := ob h
            refine cVi X (hml.trans hl.1.symm) Y (c_fX0_pullersIf l D g ad σ n v1 v4 0 hg17) (lkR g ad σ) rfl (gs_X3_142 _) rfl fd_X0_pullersIf ⟨Nat.le_of_ble_eq_true rfl, Nat.le_of_ble_eq_true rfl⟩ ⟨Nat.le_of_ble_eq_true rfl, Nat.le_of_ble_eq_true rfl⟩ (rest := []) rfl (Nat.le_of_ble_eq_true rfl) dX3_forgave_71 (fun H locs Y => ?_)
            refine lv_if_ne (tgt := 80) hx hb dX3_forgave_74 (by decide) (fun c19 => ?_) (fun c19 => ?_)
            · replace h := oe c19 h
              refine lv_iinc (v := v4 + 1) (lv' := [(4, .int (v4 + 1)), (5, .int 1), (0, .ref (ad 0)), (1, .int v1), (3, .int v3)]) hx hb dX3_forgave_80 hl (k := 4) rfl rfl (by decide) rfl (fun ls hl => ?_)
              refine lv_goto (tgt := 18) hx hb dX3_forgave_83 (by decide) ?_
              exact ih σ v1 v3 (v4 + 1) _ _ _ Y (lv_sub hl [2, 3, 4, 0] rfl) h
            · replace h := ot c19 h
              refine lv_iload hx hb dX3_forgave_77 (lv_at hl 4 rfl) ?_
              refine lv_istore_n (lv' := [(3, .int v4), (5, .int 1), (0, .ref (ad 0)), (1, .int v1), (4, .int v4)]) hx hb dX3_forgave_79 rfl hl (by decide) rfl (fun ls hl => ?_)
              refine lv_iinc (v := v4 + 1) (lv' := [(4, .int (v4 + 1)), (3, .int v4), (5, .int 1), (0, .ref (ad 0)), (1, .int v1)]) hx hb dX3_forgave_80 hl (k := 4) rfl rfl (by decide) rfl (fun ls hl => ?_)
              refine lv_goto (tgt := 18) hx hb dX3_forgave_83 (by decide) ?_
              exact ih σ v1 v4 (v4 + 1) _ _ _ Y (lv_sub hl [3, 4, 1, 0] rfl) h
set_option maxHeartbeats 4000000 in
set_option maxRecDepth 100000 in
theorem c_fX3_forgave (l : Launch) (D : va_G) (g : Nat → ClassId) (ad : Nat → Nat) (σ : St) (n : Nat) (v1 : Int32) {r0 : Int32} (h : fX3_forgave n σ v1 = some r0) : MI l yX3_forgave kX3_forgave 3 62 D g (WC g ad σ) (WC g ad σ) [.ref (ad 0), .int v1] r0 := by
  intro sz
  refine Met.of2 (Qc := fun A => QI D g A (WC g ad σ) r0) (cc := cX3_forgave) (maxL := 6) (ret := (some .int)) (own := RX3) (by decide) rfl rfl (Nat.le_of_ble_eq_true rfl) ?_
  intro p e s m below meth c A ls X hr hlk hml Y hl
  have hx := X.1
  have hb := X.2.1
  have hl : lv_has ls 6 [(0, .ref (ad 0)), (1, .int v1)] := hl
  rw [fX3_forgave] at h
  refine lv_aload_n hx hb dX3_forgave_0 rfl (lv_at hl 0 rfl) ?_
  refine lv_iload_n hx hb dX3_forgave_1 rfl (lv_at hl 1 rfl) ?_
  obtain ⟨r2, hg1, h⟩ := ob h
  refine cVi X (hml.trans hl.1.symm) Y (c_fX3_refusalOfLoad l D g ad σ v1 hg1) (lkX g ad σ) rfl (gs_X3_98 _) rfl fd_X3_refusalOfLoad ⟨Nat.le_of_ble_eq_true rfl, Nat.le_of_ble_eq_true rfl⟩ ⟨Nat.le_of_ble_eq_true rfl, Nat.le_of_ble_eq_true rfl⟩ (rest := []) rfl (Nat.le_of_ble_eq_true rfl) dX3_forgave_2 (fun H locs Y => ?_)
  refine lv_istore_n (lv' := [(2, .int r2), (0, .ref (ad 0)), (1, .int v1)]) hx hb dX3_forgave_5 rfl hl (by decide) rfl (fun ls hl => ?_)
  refine lv_iload_n hx hb dX3_forgave_6 rfl (lv_at hl 0 rfl) ?_
  refine lv_if_eq (tgt := 12) hx hb dX3_forgave_7 (by decide) (fun c3 => ?_) (fun c3 => ?_)
  · replace h := ot c3 h
    refine lv_bipush (v := (-9)) hx hb dX3_forgave_12 (by decide) ?_
    refine lv_istore_n (lv' := [(3, .int (-9)), (2, .int r2), (0, .ref (ad 0)), (1, .int v1)]) hx hb dX3_forgave_14 rfl hl (by decide) rfl (fun ls hl => ?_)
    refine lv_iconst (v := 0) hx hb dX3_forgave_15 (by decide) ?_
    refine lv_istore (lv' := [(4, .int 0), (3, .int (-9)), (2, .int r2), (0, .ref (ad 0)), (1, .int v1)]) hx hb dX3_forgave_16 hl (by decide) rfl (fun ls hl => ?_)
    exact w_fX3_forgave_L18 X hr hlk hml n σ v1 (-9) 0 _ _ _ Y (lv_sub hl [3, 4, 1, 0] rfl) h
  · replace h := oe c3 h
    refine lv_iload_n hx hb dX3_forgave_10 rfl (lv_at hl 0 rfl) ?_
    obtain rfl := os1 h
    exact retI X Y hr hlk dX3_forgave_11
set_option maxHeartbeats 4000000 in
set_option maxRecDepth 100000 in
theorem c_fX3_reading (l : Launch) (D : va_G) (g : Nat → ClassId) (ad : Nat → Nat) (σ : St) (v1 : Int32) (v2 : Int32) {r0 : Int32} {σ0 : St} (h : fX3_reading σ v1 v2 = some (r0, σ0)) : MI l yX3_reading kX3_reading 3 62 D g (WC g ad σ) (WC g ad σ0) [.ref (ad 0), .int v1, .int v2] r0 := by
  intro sz
  refine Met.of2 (Qc := fun A => QI D g A (WC g ad σ0) r0) (cc := cX3_reading) (maxL := 5) (ret := (some .int)) (own := RX3) (by decide) rfl rfl (Nat.le_of_ble_eq_true rfl) ?_
  intro p e s m below meth c A ls X hr hlk hml Y hl
  have hx := X.1
  have hb := X.2.1
  have hl : lv_has ls 5 [(0, .ref (ad 0)), (1, .int v1), (2, .int v2)] := hl
  rw [fX3_reading] at h
  refine lv_aload_n hx hb dX3_reading_0 rfl (lv_at hl 0 rfl) ?_
  refine lv_iload_n hx hb dX3_reading_1 rfl (lv_at hl 1 rfl) ?_
  obtain ⟨r2, hg1, h⟩ := ob h
  refine cVi X (hml.trans hl.1.symm) Y (c_fX3_refusalOfLoad l D g ad σ v1 hg1) (lkX g ad σ) rfl (gs_X3_98 _) rfl fd_X3_refusalOfLoad ⟨Nat.le_of_ble_eq_true rfl, Nat.le_of_ble_eq_true rfl⟩ ⟨Nat.le_of_ble_eq_true rfl, Nat.le_of_ble_eq_true rfl⟩ (rest := []) rfl (Nat.le_of_ble_eq_true rfl) dX3_reading_2 (fun H locs Y => ?_)
  refine lv_istore_n (lv' := [(3, .int r2), (0, .ref (ad 0)), (1, .int v1), (2, .int v2)]) hx hb dX3_reading_5 rfl hl (by decide) rfl (fun ls hl => ?_)
  refine lv_iload_n hx hb dX3_reading_6 rfl (lv_at hl 0 rfl) ?_
  refine lv_if_eq (tgt := 12) hx hb dX3_reading_7 (by decide) (fun c3 => ?_) (fun c3 => ?_)
  · replace h := ot c3 h
    refine lv_iload_n hx hb dX3_reading_12 rfl (lv_at hl 3 rfl) ?_
    refine lv_iload_n hx hb dX3_reading_13 rfl (lv_at hl 2 rfl) ?_
    refine lv_iconst (v := (-1)) hx hb dX3_reading_14 (by decide) ?_
    refine lv_ixor hx hb dX3_reading_15 ?_
    refine lv_iand hx hb dX3_reading_16 ?_
    refine lv_if_eq (tgt := 23) hx hb dX3_reading_17 (by decide) (fun c4 => ?_) (fun c4 => ?_)
    · replace h := ot c4 h
      refine lv_aload_n hx hb dX3_reading_23 rfl (lv_at hl 1 rfl) ?_
      refine rgX X Y 1 (v := .ref (ad 10)) tw_129 rfl dX3_reading_24 ?_
      refine rgR X Y 6 (v := .int (σ 10 6)) tw_70 rfl dX3_reading_27 ?_
      refine lv_istore (lv' := [(4, .int (σ 10 6)), (3, .int r2), (0, .ref (ad 0)), (1, .int v1), (2, .int v2)]) hx hb dX3_reading_30 hl (by decide) rfl (fun ls hl => ?_)
      refine lv_iload hx hb dX3_reading_32 (lv_at hl 0 rfl) ?_
      refine lv_bipush (v := 8) hx hb dX3_reading_34 (by decide) ?_
      refine lv_icmp_lt (tgt := 42) hx hb dX3_reading_36 (by decide) (fun c5 => ?_) (fun c5 => ?_)
      · replace h := ot c5 h
        refine lv_aload_n hx hb dX3_reading_42 rfl (lv_at hl 2 rfl) ?_
        refine rgX X Y 1 (v := .ref (ad 10)) tw_129 rfl dX3_reading_43 ?_
        refine rgR X Y 7 (v := .ref (ad 18)) tw_72 rfl dX3_reading_46 ?_
        refine lv_iload hx hb dX3_reading_49 (lv_at hl 0 rfl) ?_
        refine lv_iload_n hx hb dX3_reading_51 rfl (lv_at hl 3 rfl) ?_
        obtain ⟨hg6, h⟩ := og h
        refine ris X Y (W1 := WC g ad (up2 σ 18 ((σ 10 6).toNatClampNeg) v1)) (lkC_18 g ad σ) hg6 (stC_18 g ad σ _) dX3_reading_52 (fun H locs Y => ?_)
        refine lv_aload_n hx hb dX3_reading_53 rfl (lv_at hl 2 rfl) ?_
        refine rgX X Y 1 (v := .ref (ad 10)) tw_129 rfl dX3_reading_54 ?_
        refine rgR X Y 8 (v := .ref (ad 19)) tw_74 rfl dX3_reading_57 ?_
        refine lv_iload hx hb dX3_reading_60 (lv_at hl 0 rfl) ?_
        refine lv_iload_n hx hb dX3_reading_62 rfl (lv_at hl 4 rfl) ?_
        obtain ⟨hg7, h⟩ := og h
        refine ris X Y (W1 := WC g ad (up2 (up2 σ 18 ((σ 10 6).toNatClampNeg) v1) 19 ((σ 10 6).toNatClampNeg) v2)) (lkC_19 g ad (up2 σ 18 ((σ 10 6).toNatClampNeg) v1)) hg7 (stC_19 g ad (up2 σ 18 ((σ 10 6).toNatClampNeg) v1) _) dX3_reading_63 (fun H locs Y => ?_)
        refine lv_aload_n hx hb dX3_reading_64 rfl (lv_at hl 2 rfl) ?_
        refine rgX X Y 1 (v := .ref (ad 10)) tw_129 rfl dX3_reading_65 ?_
        refine lv_iload hx hb dX3_reading_68 (lv_at hl 0 rfl) ?_
        refine lv_iconst (v := 1) hx hb dX3_reading_70 (by decide) ?_
        refine lv_iadd hx hb dX3_reading_71 ?_
        refine rpR X Y 6 (v := (σ 10 6) + 1) tw_70 rfl rfl rfl (stR_6 g ad (up2 (up2 σ 18 ((σ 10 6).toNatClampNeg) v1) 19 ((σ 10 6).toNatClampNeg) v2) ((σ 10 6) + 1)) dX3_reading_72 (fun H locs Y => ?_)
        refine lv_iload hx hb dX3_reading_75 (lv_at hl 0 rfl) ?_
        obtain ⟨rfl, rfl⟩ := os2 h
        exact retI X Y hr hlk dX3_reading_77
      · replace h := oe c5 h
        refine lv_bipush (v := (-4)) hx hb dX3_reading_39 (by decide) ?_
        obtain ⟨rfl, rfl⟩ := os2 h
        exact retI X Y hr hlk dX3_reading_41
    · replace h := oe c4 h
      refine lv_bipush (v := (-2)) hx hb dX3_reading_20 (by decide) ?_
      obtain ⟨rfl, rfl⟩ := os2 h
      exact retI X Y hr hlk dX3_reading_22
  · replace h := oe c3 h
    refine lv_iload_n hx hb dX3_reading_10 rfl (lv_at hl 0 rfl) ?_
    obtain ⟨rfl, rfl⟩ := os2 h
    exact retI X Y hr hlk dX3_reading_11
set_option maxHeartbeats 4000000 in
set_option maxRecDepth 100000 in
theorem c_fX3_back (l : Launch) (D : va_G) (g : Nat → ClassId) (ad : Nat → Nat) (σ : St) (v1 : Int32) {r0 : Int32} {σ0 : St} (h : fX3_back σ v1 = some (r0, σ0)) : MI l yX3_back kX3_back 0 0 D g (WC g ad σ) (WC g ad σ0) [.ref (ad 0), .int v1] r0 := by
  intro sz
  refine Met.of2 (Qc := fun A => QI D g A (WC g ad σ0) r0) (cc := cX3_back) (maxL := 2) (ret := (some .int)) (own := RX3) (by decide) rfl rfl (Nat.le_of_ble_eq_true rfl) ?_
  intro p e s m below meth c A ls X hr hlk hml Y hl
  have hx := X.1
  have hb := X.2.1
  have hl : lv_has ls 2 [(0, .ref (ad 0)), (1, .int v1)] := hl
  rw [fX3_back] at h
  refine lv_iload_n hx hb dX3_back_0 rfl (lv_at hl 1 rfl) ?_
  refine lv_if_lt (tgt := 15) hx hb dX3_back_1 (by decide) (fun c1 => ?_) (fun c1 => ?_)
  · replace h := ot c1 h
    refine lv_bipush (v := (-2)) hx hb dX3_back_15 (by decide) ?_
    obtain ⟨rfl, rfl⟩ := os2 h
    exact retI X Y hr hlk dX3_back_17
  · replace h := oe c1 h
    refine lv_iload_n hx hb dX3_back_4 rfl (lv_at hl 1 rfl) ?_
    refine lv_aload_n hx hb dX3_back_5 rfl (lv_at hl 0 rfl) ?_
    refine rgX X Y 1 (v := .ref (ad 10)) tw_129 rfl dX3_back_6 ?_
    refine rgR X Y 6 (v := .int (σ 10 6)) tw_70 rfl dX3_back_9 ?_
    refine lv_icmp_le (tgt := 18) hx hb dX3_back_12 (by decide) (fun c2 => ?_) (fun c2 => ?_)
    · replace h := ot c2 h
      refine lv_aload_n hx hb dX3_back_18 rfl (lv_at hl 0 rfl) ?_
      refine rgX X Y 1 (v := .ref (ad 10)) tw_129 rfl dX3_back_19 ?_
      refine lv_dup hx hb dX3_back_22 rfl ?_
      refine rgR X Y 6 (v := .int (σ 10 6)) tw_70 rfl dX3_back_23 ?_
      refine lv_iload_n hx hb dX3_back_26 rfl (lv_at hl 1 rfl) ?_
      refine lv_isub hx hb dX3_back_27 ?_
      refine rpR X Y 6 (v := (σ 10 6) - v1) tw_70 rfl rfl rfl (stR_6 g ad σ ((σ 10 6) - v1)) dX3_back_28 (fun H locs Y => ?_)
      refine lv_aload_n hx hb dX3_back_31 rfl (lv_at hl 0 rfl) ?_
      refine rgX X Y 1 (v := .ref (ad 10)) tw_129 rfl dX3_back_32 ?_
      refine rgR X Y 6 (v := .int ((up2 σ 10 6 ((σ 10 6) - v1)) 10 6)) tw_70 rfl dX3_back_35 ?_
      obtain ⟨rfl, rfl⟩ := os2 h
      exact retI X Y hr hlk dX3_back_38
    · replace h := oe c2 h
      refine lv_bipush (v := (-2)) hx hb dX3_back_15 (by decide) ?_
      obtain ⟨rfl, rfl⟩ := os2 h
      exact retI X Y hr hlk dX3_back_17
set_option maxHeartbeats 4000000 in
set_option maxRecDepth 100000 in
theorem c_fX3_notes (l : Launch) (D : va_G) (g : Nat → ClassId) (ad : Nat → Nat) (σ : St) (n : Nat) (v1 : Int32) (v2 : Int32) {r0 : Int32} {σ0 : St} (h : fX3_notes n σ v1 v2 = some (r0, σ0)) : MI l yX3_notes kX3_notes 5 120 D g (WC g ad σ) (WC g ad σ0) [.ref (ad 0), .int v1, .int v2] r0 := by
  intro sz
  refine Met.of2 (Qc := fun A => QI D g A (WC g ad σ0) r0) (cc := cX3_notes) (maxL := 3) (ret := (some .int)) (own := RX3) (by decide) rfl rfl (Nat.le_of_ble_eq_true rfl) ?_
  intro p e s m below meth c A ls X hr hlk hml Y hl
  have hx := X.1
  have hb := X.2.1
  have hl : lv_has ls 3 [(0, .ref (ad 0)), (1, .int v1), (2, .int v2)] := hl
  rw [fX3_notes] at h
  refine lv_aload_n hx hb dX3_notes_0 rfl (lv_at hl 0 rfl) ?_
  refine rgX X Y 1 (v := .ref (ad 10)) tw_129 rfl dX3_notes_1 ?_
  refine lv_iload_n hx hb dX3_notes_4 rfl (lv_at hl 1 rfl) ?_
  refine lv_iload_n hx hb dX3_notes_5 rfl (lv_at hl 2 rfl) ?_
  obtain ⟨r2, hg1, h⟩ := ob h
  refine cVi X (hml.trans hl.1.symm) Y (c_fX0_isPair l D g ad σ v1 v2 hg1) (lkR g ad σ) rfl (gs_X3_77 _) rfl fd_X0_isPair ⟨Nat.le_of_ble_eq_true rfl, Nat.le_of_ble_eq_true rfl⟩ ⟨Nat.le_of_ble_eq_true rfl, Nat.le_of_ble_eq_true rfl⟩ (rest := []) rfl (Nat.le_of_ble_eq_true rfl) dX3_notes_6 (fun H locs Y => ?_)
  refine lv_if_ne (tgt := 14) hx hb dX3_notes_9 (by decide) (fun c3 => ?_) (fun c3 => ?_)
  · replace h := oe c3 h
    refine lv_aload_n hx hb dX3_notes_14 rfl (lv_at hl 0 rfl) ?_
    refine rgX X Y 1 (v := .ref (ad 10)) tw_129 rfl dX3_notes_15 ?_
    refine lv_iload_n hx hb dX3_notes_18 rfl (lv_at hl 1 rfl) ?_
    refine lv_iload_n hx hb dX3_notes_19 rfl (lv_at hl 2 rfl) ?_
    obtain ⟨r5, σ5, hg4, h⟩ := ob2 h
    refine cVi X (hml.trans hl.1.symm) Y (c_fX0_notesThatFit l D g ad σ n v1 v2 hg4) (lkR g ad σ) rfl (gs_X3_154 _) rfl fd_X0_notesThatFit ⟨Nat.le_of_ble_eq_true rfl, Nat.le_of_ble_eq_true rfl⟩ ⟨Nat.le_of_ble_eq_true rfl, Nat.le_of_ble_eq_true rfl⟩ (rest := []) rfl (Nat.le_of_ble_eq_true rfl) dX3_notes_20 (fun H locs Y => ?_)
    obtain ⟨rfl, rfl⟩ := os2 h
    exact retI X Y hr hlk dX3_notes_23
  · replace h := ot c3 h
    refine lv_iconst (v := (-1)) hx hb dX3_notes_12 (by decide) ?_
    obtain ⟨rfl, rfl⟩ := os2 h
    exact retI X Y hr hlk dX3_notes_13
set_option maxHeartbeats 4000000 in
set_option maxRecDepth 100000 in
theorem c_fX3_kinds (l : Launch) (D : va_G) (g : Nat → ClassId) (ad : Nat → Nat) (σ : St) (n : Nat) (v1 : Int32) {r0 : Int32} {σ0 : St} (h : fX3_kinds n σ v1 = some (r0, σ0)) : MI l yX3_kinds kX3_kinds 5 119 D g (WC g ad σ) (WC g ad σ0) [.ref (ad 0), .int v1] r0 := by
  intro sz
  refine Met.of2 (Qc := fun A => QI D g A (WC g ad σ0) r0) (cc := cX3_kinds) (maxL := 2) (ret := (some .int)) (own := RX3) (by decide) rfl rfl (Nat.le_of_ble_eq_true rfl) ?_
  intro p e s m below meth c A ls X hr hlk hml Y hl
  have hx := X.1
  have hb := X.2.1
  have hl : lv_has ls 2 [(0, .ref (ad 0)), (1, .int v1)] := hl
  rw [fX3_kinds] at h
  refine lv_aload_n hx hb dX3_kinds_0 rfl (lv_at hl 0 rfl) ?_
  refine rgX X Y 1 (v := .ref (ad 10)) tw_129 rfl dX3_kinds_1 ?_
  refine lv_iload_n hx hb dX3_kinds_4 rfl (lv_at hl 1 rfl) ?_
  obtain ⟨r2, hg1, h⟩ := ob h
  refine cVi X (hml.trans hl.1.symm) Y (c_fX0_isPerson l D g ad σ v1 hg1) (lkR g ad σ) rfl (gs_X3_60 _) rfl fd_X0_isPerson ⟨Nat.le_of_ble_eq_true rfl, Nat.le_of_ble_eq_true rfl⟩ ⟨Nat.le_of_ble_eq_true rfl, Nat.le_of_ble_eq_true rfl⟩ (rest := []) rfl (Nat.le_of_ble_eq_true rfl) dX3_kinds_5 (fun H locs Y => ?_)
  refine lv_if_ne (tgt := 13) hx hb dX3_kinds_8 (by decide) (fun c3 => ?_) (fun c3 => ?_)
  · replace h := oe c3 h
    refine lv_aload_n hx hb dX3_kinds_13 rfl (lv_at hl 0 rfl) ?_
    refine rgX X Y 1 (v := .ref (ad 10)) tw_129 rfl dX3_kinds_14 ?_
    refine lv_iload_n hx hb dX3_kinds_17 rfl (lv_at hl 1 rfl) ?_
    obtain ⟨r5, σ5, hg4, h⟩ := ob2 h
    refine cVi X (hml.trans hl.1.symm) Y (c_fX0_kindsThatFit l D g ad σ n v1 hg4) (lkR g ad σ) rfl (gs_X3_158 _) rfl fd_X0_kindsThatFit ⟨Nat.le_of_ble_eq_true rfl, Nat.le_of_ble_eq_true rfl⟩ ⟨Nat.le_of_ble_eq_true rfl, Nat.le_of_ble_eq_true rfl⟩ (rest := []) rfl (Nat.le_of_ble_eq_true rfl) dX3_kinds_18 (fun H locs Y => ?_)
    obtain ⟨rfl, rfl⟩ := os2 h
    exact retI X Y hr hlk dX3_kinds_21
  · replace h := ot c3 h
    refine lv_iconst (v := (-1)) hx hb dX3_kinds_11 (by decide) ?_
    obtain ⟨rfl, rfl⟩ := os2 h
    exact retI X Y hr hlk dX3_kinds_12
set_option maxHeartbeats 4000000 in
set_option maxRecDepth 100000 in
theorem c_fX3_often (l : Launch) (D : va_G) (g : Nat → ClassId) (ad : Nat → Nat) (σ : St) (n : Nat) {r0 : Int32} {σ0 : St} (h : fX3_often n σ = some (r0, σ0)) : MI l yX3_often kX3_often 5 118 D g (WC g ad σ) (WC g ad σ0) [.ref (ad 0)] r0 := by
  intro sz
  refine Met.of2 (Qc := fun A => QI D g A (WC g ad σ0) r0) (cc := cX3_often) (maxL := 1) (ret := (some .int)) (own := RX3) (by decide) rfl rfl (Nat.le_of_ble_eq_true rfl) ?_
  intro p e s m below meth c A ls X hr hlk hml Y hl
  have hx := X.1
  have hb := X.2.1
  have hl : lv_has ls 1 [(0, .ref (ad 0))] := hl
  rw [fX3_often] at h
  refine lv_aload_n hx hb dX3_often_0 rfl (lv_at hl 0 rfl) ?_
  refine rgX X Y 1 (v := .ref (ad 10)) tw_129 rfl dX3_often_1 ?_
  obtain ⟨r2, hg1, h⟩ := ob h
  refine cVi X (hml.trans hl.1.symm) Y (c_fX0_isThere l D g ad σ hg1) (lkR g ad σ) rfl (gs_X3_80 _) rfl fd_X0_isThere ⟨Nat.le_of_ble_eq_true rfl, Nat.le_of_ble_eq_true rfl⟩ ⟨Nat.le_of_ble_eq_true rfl, Nat.le_of_ble_eq_true rfl⟩ (rest := []) rfl (Nat.le_of_ble_eq_true rfl) dX3_often_4 (fun H locs Y => ?_)
  refine lv_if_ne (tgt := 13) hx hb dX3_often_7 (by decide) (fun c3 => ?_) (fun c3 => ?_)
  · replace h := oe c3 h
    refine lv_aload_n hx hb dX3_often_13 rfl (lv_at hl 0 rfl) ?_
    refine rgX X Y 1 (v := .ref (ad 10)) tw_129 rfl dX3_often_14 ?_
    obtain ⟨r5, σ5, hg4, h⟩ := ob2 h
    refine cVi X (hml.trans hl.1.symm) Y (c_fX0_timesThatFit l D g ad σ n hg4) (lkR g ad σ) rfl (gs_X3_161 _) rfl fd_X0_timesThatFit ⟨Nat.le_of_ble_eq_true rfl, Nat.le_of_ble_eq_true rfl⟩ ⟨Nat.le_of_ble_eq_true rfl, Nat.le_of_ble_eq_true rfl⟩ (rest := []) rfl (Nat.le_of_ble_eq_true rfl) dX3_often_17 (fun H locs Y => ?_)
    obtain ⟨rfl, rfl⟩ := os2 h
    exact retI X Y hr hlk dX3_often_20
  · replace h := ot c3 h
    refine lv_bipush (v := (-3)) hx hb dX3_often_10 (by decide) ?_
    obtain ⟨rfl, rfl⟩ := os2 h
    exact retI X Y hr hlk dX3_often_12
set_option maxHeartbeats 4000000 in
set_option maxRecDepth 100000 in
theorem w_fX3_odds_L52 {p : Program} {l : Launch} {e : Env} {s : State} {m : MethodId} {args : Array Value} {below : List Frame} {meth : Method} {c : Code} {D : va_G} {g : Nat → ClassId} {ad : Nat → Nat} {A : Nat → Prop} {r0 : Int64} (X : Cx p s m c args cX3_odds RX3 kX3_odds D g) (hr : meth.sig.returnType = (some .long)) (hlk : meth.locks = false) (hml : c.maxLocals = 7) : ∀ (n : Nat), ∀ (σ : St) (v3 : Int32) (v4 : Int32) (v5 : Int32) (v6 : Int32) (H : Heap) (locs : List Loc) (ls : Array Slot), Hp D A s.heap H locs (WC g ad σ) → lv_has ls 7 [(0, .ref (ad 0)), (3, .int v3), (4, .int v4), (5, .int v5), (6, .int v6)] → fX3_odds_L52 n σ v3 v4 v5 v6 = some r0 → W p l e (RM 3 78) s m args below meth c H locs 0 0 (MQ below (QL D g A (WC g ad σ) r0) args s 0 0 A) (F0 m 52 ls []) := by
  have hx := X.1
  have hb := X.2.1
  intro n
  induction n with
  | zero => intro σ v3 v4 v5 v6 H locs ls Y hl h; cases (show none = _ from h)
  | succ n ih =>
    intro σ v3 v4 v5 v6 H locs ls Y hl h
    rw [fX3_odds_L52] at h
    refine lv_iload hx hb dX3_odds_52 (lv_at hl 4 rfl) ?_
    refine lv_aload_n hx hb dX3_odds_54 rfl (lv_at hl 0 rfl) ?_
    refine rgX X Y 1 (v := .ref (ad 10)) tw_129 rfl dX3_odds_55 ?_
    refine rgR X Y 0 (v := .int (σ 10 0)) tw_58 rfl dX3_odds_58 ?_
    refine lv_icmp_ge (tgt := 89) hx hb dX3_odds_61 (by decide) (fun c18 => ?_) (fun c18 => ?_)
    · replace h := ot c18 h
      refine lv_iload_n hx hb dX3_odds_89 rfl (lv_at hl 1 rfl) ?_
      refine lv_if_ne (tgt := 99) hx hb dX3_odds_90 (by decide) (fun c19 => ?_) (fun c19 => ?_)
      · replace h := oe c19 h
        refine lv_iload hx hb dX3_odds_99 (lv_at hl 3 rfl) ?_
        refine lv_i2l (v := v5.toInt64) hx hb dX3_odds_101 rfl ?_
        obtain rfl := os1 h
        exact retL X Y hr hlk dX3_odds_102
      · replace h := ot c19 h
        refine lv_iload hx hb dX3_odds_93 (lv_at hl 2 rfl) ?_
        refine lv_i2l (v := v4.toInt64) hx hb dX3_odds_95 rfl ?_
        refine lv_goto (tgt := 102) hx hb dX3_odds_96 (by decide) ?_
        obtain rfl := os1 h
        exact retL X Y hr hlk dX3_odds_102
    · replace h := oe c18 h
      refine lv_iload hx hb dX3_odds_64 (lv_at hl 2 rfl) ?_
      refine lv_iconst (v := 2) hx hb dX3_odds_66 (by decide) ?_
      refine lv_irem hx hb dX3_odds_67 (by decide) ?_
      refine lv_if_ne (tgt := 83) hx hb dX3_odds_68 (by decide) (fun c20 => ?_) (fun c20 => ?_)
      · replace h := oe c20 h
        refine lv_iinc (v := v6 + 1) (lv' := [(6, .int (v6 + 1)), (0, .ref (ad 0)), (3, .int v3), (4, .int v4), (5, .int v5)]) hx hb dX3_odds_83 hl (k := 4) rfl rfl (by decide) rfl (fun ls hl => ?_)
        refine lv_goto (tgt := 52) hx hb dX3_odds_86 (by decide) ?_
        exact ih σ v3 v4 v5 (v6 + 1) _ _ _ Y (lv_sub hl [1, 2, 3, 4, 0] rfl) h
      · replace h := ot c20 h
        refine lv_iload hx hb dX3_odds_71 (lv_at hl 2 rfl) ?_
        refine lv_iconst (v := 2) hx hb dX3_odds_73 (by decide) ?_
        refine lv_idiv hx hb dX3_odds_74 (by decide) ?_
        refine lv_istore (lv' := [(4, .int (v4 / 2)), (0, .ref (ad 0)), (3, .int v3), (5, .int v5), (6, .int v6)]) hx hb dX3_odds_75 hl (by decide) rfl (fun ls hl => ?_)
        refine lv_iload hx hb dX3_odds_77 (lv_at hl 3 rfl) ?_
        refine lv_iconst (v := 2) hx hb dX3_odds_79 (by decide) ?_
        refine lv_idiv hx hb dX3_odds_80 (by decide) ?_
        refine lv_istore (lv' := [(5, .int (v5 / 2)), (4, .int (v4 / 2)), (0, .ref (ad 0)), (3, .int v3), (6, .int v6)]) hx hb dX3_odds_81 hl (by decide) rfl (fun ls hl => ?_)
        refine lv_iinc (v := v6 + 1) (lv' := [(6, .int (v6 + 1)), (5, .int (v5 / 2)), (4, .int (v4 / 2)), (0, .ref (ad 0)), (3, .int v3)]) hx hb dX3_odds_83 hl (k := 4) rfl rfl (by decide) rfl (fun ls hl => ?_)
        refine lv_goto (tgt := 52) hx hb dX3_odds_86 (by decide) ?_
        exact ih σ v3 (v4 / 2) (v5 / 2) (v6 + 1) _ _ _ Y (lv_sub hl [3, 4, 2, 1, 0] rfl) h
set_option maxHeartbeats 4000000 in
set_option maxRecDepth 100000 in
theorem c_fX3_odds (l : Launch) (D : va_G) (g : Nat → ClassId) (ad : Nat → Nat) (σ : St) (n : Nat) (v1 : Int32) (v2 : Int32) (v3 : Int32) {r0 : Int64} (h : fX3_odds n σ v1 v2 v3 = some r0) : ML l yX3_odds kX3_odds 3 78 D g (WC g ad σ) (WC g ad σ) [.ref (ad 0), .int v1, .int v2, .int v3] r0 := by
  intro sz
  refine Met.of2 (Qc := fun A => QL D g A (WC g ad σ) r0) (cc := cX3_odds) (maxL := 7) (ret := (some .long)) (own := RX3) (by decide) rfl rfl (Nat.le_of_ble_eq_true rfl) ?_
  intro p e s m below meth c A ls X hr hlk hml Y hl
  have hx := X.1
  have hb := X.2.1
  have hl : lv_has ls 7 [(0, .ref (ad 0)), (1, .int v1), (2, .int v2), (3, .int v3)] := hl
  rw [fX3_odds] at h
  refine lv_aload_n hx hb dX3_odds_0 rfl (lv_at hl 0 rfl) ?_
  refine lv_iload_n hx hb dX3_odds_1 rfl (lv_at hl 1 rfl) ?_
  refine lv_iload_n hx hb dX3_odds_2 rfl (lv_at hl 2 rfl) ?_
  refine lv_iload_n hx hb dX3_odds_3 rfl (lv_at hl 3 rfl) ?_
  refine lv_if_eq (tgt := 12) hx hb dX3_odds_4 (by decide) (fun c1 => ?_) (fun c1 => ?_)
  · replace h := ot c1 h
    refine lv_iconst (v := 1) hx hb dX3_odds_12 (by decide) ?_
    refine lv_goto (tgt := 17) hx hb dX3_odds_13 (by decide) ?_
    obtain ⟨r3, hg2, h⟩ := ob h
    refine cVi X (hml.trans hl.1.symm) Y (c_fX3_refusalOfOneIn l D g ad σ v1 v2 1 hg2) (lkX g ad σ) rfl (gs_X3_90 _) rfl fd_X3_refusalOfOneIn ⟨Nat.le_of_ble_eq_true rfl, Nat.le_of_ble_eq_true rfl⟩ ⟨Nat.le_of_ble_eq_true rfl, Nat.le_of_ble_eq_true rfl⟩ (rest := []) rfl (Nat.le_of_ble_eq_true rfl) dX3_odds_17 (fun H locs Y => ?_)
    refine lv_if_eq (tgt := 27) hx hb dX3_odds_20 (by decide) (fun c4 => ?_) (fun c4 => ?_)
    · replace h := ot c4 h
      refine lv_aload_n hx hb dX3_odds_27 rfl (lv_at hl 0 rfl) ?_
      refine rgX X Y 1 (v := .ref (ad 10)) tw_129 rfl dX3_odds_28 ?_
      refine lv_iload_n hx hb dX3_odds_31 rfl (lv_at hl 1 rfl) ?_
      refine lv_iload_n hx hb dX3_odds_32 rfl (lv_at hl 2 rfl) ?_
      obtain ⟨r6, hg5, h⟩ := ob h
      refine cVi X (hml.trans hl.1.symm) Y (c_fX0_wetSetsWithPuller l D g ad σ n v1 v2 hg5) (lkR g ad σ) rfl (gs_X3_166 _) rfl fd_X0_wetSetsWithPuller ⟨Nat.le_of_ble_eq_true rfl, Nat.le_of_ble_eq_true rfl⟩ ⟨Nat.le_of_ble_eq_true rfl, Nat.le_of_ble_eq_true rfl⟩ (rest := []) rfl (Nat.le_of_ble_eq_true rfl) dX3_odds_33 (fun H locs Y => ?_)
      refine lv_istore (lv' := [(4, .int r6), (0, .ref (ad 0)), (1, .int v1), (2, .int v2), (3, .int v3)]) hx hb dX3_odds_36 hl (by decide) rfl (fun ls hl => ?_)
      refine lv_iconst (v := 1) hx hb dX3_odds_38 (by decide) ?_
      refine lv_aload_n hx hb dX3_odds_39 rfl (lv_at hl 1 rfl) ?_
      refine rgX X Y 1 (v := .ref (ad 10)) tw_129 rfl dX3_odds_40 ?_
      refine rgR X Y 0 (v := .int (σ 10 0)) tw_58 rfl dX3_odds_43 ?_
      refine lv_ishl hx hb dX3_odds_46 ?_
      refine lv_istore (lv' := [(5, .int ((1 : Int32) <<< ((σ 10 0) &&& 31))), (4, .int r6), (0, .ref (ad 0)), (1, .int v1), (2, .int v2), (3, .int v3)]) hx hb dX3_odds_47 hl (by decide) rfl (fun ls hl => ?_)
      refine lv_iconst (v := 0) hx hb dX3_odds_49 (by decide) ?_
      refine lv_istore (lv' := [(6, .int 0), (5, .int ((1 : Int32) <<< ((σ 10 0) &&& 31))), (4, .int r6), (0, .ref (ad 0)), (1, .int v1), (2, .int v2), (3, .int v3)]) hx hb dX3_odds_50 hl (by decide) rfl (fun ls hl => ?_)
      exact w_fX3_odds_L52 X hr hlk hml n σ v3 r6 ((1 : Int32) <<< ((σ 10 0) &&& 31)) 0 _ _ _ Y (lv_sub hl [3, 6, 2, 1, 0] rfl) h
    · replace h := oe c4 h
      refine lv_ldc2 (v := (-9223372036854775808)) hx hb X.2.2.1 (X.tb tw_375) dX3_odds_23 ?_
      obtain rfl := os1 h
      exact retL X Y hr hlk dX3_odds_26
  · replace h := oe c1 h
    refine lv_iload_n hx hb dX3_odds_7 rfl (lv_at hl 3 rfl) ?_
    refine lv_iconst (v := 1) hx hb dX3_odds_8 (by decide) ?_
    refine lv_icmp_ne (tgt := 16) hx hb dX3_odds_9 (by decide) (fun c7 => ?_) (fun c7 => ?_)
    · replace h := oe c7 h
      refine lv_iconst (v := 0) hx hb dX3_odds_16 (by decide) ?_
      obtain ⟨r9, hg8, h⟩ := ob h
      refine cVi X (hml.trans hl.1.symm) Y (c_fX3_refusalOfOneIn l D g ad σ v1 v2 0 hg8) (lkX g ad σ) rfl (gs_X3_90 _) rfl fd_X3_refusalOfOneIn ⟨Nat.le_of_ble_eq_true rfl, Nat.le_of_ble_eq_true rfl⟩ ⟨Nat.le_of_ble_eq_true rfl, Nat.le_of_ble_eq_true rfl⟩ (rest := []) rfl (Nat.le_of_ble_eq_true rfl) dX3_odds_17 (fun H locs Y => ?_)
      refine lv_if_eq (tgt := 27) hx hb dX3_odds_20 (by decide) (fun c10 => ?_) (fun c10 => ?_)
      · replace h := ot c10 h
        refine lv_aload_n hx hb dX3_odds_27 rfl (lv_at hl 0 rfl) ?_
        refine rgX X Y 1 (v := .ref (ad 10)) tw_129 rfl dX3_odds_28 ?_
        refine lv_iload_n hx hb dX3_odds_31 rfl (lv_at hl 1 rfl) ?_
        refine lv_iload_n hx hb dX3_odds_32 rfl (lv_at hl 2 rfl) ?_
        obtain ⟨r12, hg11, h⟩ := ob h
        refine cVi X (hml.trans hl.1.symm) Y (c_fX0_wetSetsWithPuller l D g ad σ n v1 v2 hg11) (lkR g ad σ) rfl (gs_X3_166 _) rfl fd_X0_wetSetsWithPuller ⟨Nat.le_of_ble_eq_true rfl, Nat.le_of_ble_eq_true rfl⟩ ⟨Nat.le_of_ble_eq_true rfl, Nat.le_of_ble_eq_true rfl⟩ (rest := []) rfl (Nat.le_of_ble_eq_true rfl) dX3_odds_33 (fun H locs Y => ?_)
        refine lv_istore (lv' := [(4, .int r12), (0, .ref (ad 0)), (1, .int v1), (2, .int v2), (3, .int v3)]) hx hb dX3_odds_36 hl (by decide) rfl (fun ls hl => ?_)
        refine lv_iconst (v := 1) hx hb dX3_odds_38 (by decide) ?_
        refine lv_aload_n hx hb dX3_odds_39 rfl (lv_at hl 1 rfl) ?_
        refine rgX X Y 1 (v := .ref (ad 10)) tw_129 rfl dX3_odds_40 ?_
        refine rgR X Y 0 (v := .int (σ 10 0)) tw_58 rfl dX3_odds_43 ?_
        refine lv_ishl hx hb dX3_odds_46 ?_
        refine lv_istore (lv' := [(5, .int ((1 : Int32) <<< ((σ 10 0) &&& 31))), (4, .int r12), (0, .ref (ad 0)), (1, .int v1), (2, .int v2), (3, .int v3)]) hx hb dX3_odds_47 hl (by decide) rfl (fun ls hl => ?_)
        refine lv_iconst (v := 0) hx hb dX3_odds_49 (by decide) ?_
        refine lv_istore (lv' := [(6, .int 0), (5, .int ((1 : Int32) <<< ((σ 10 0) &&& 31))), (4, .int r12), (0, .ref (ad 0)), (1, .int v1), (2, .int v2), (3, .int v3)]) hx hb dX3_odds_50 hl (by decide) rfl (fun ls hl => ?_)
        exact w_fX3_odds_L52 X hr hlk hml n σ v3 r12 ((1 : Int32) <<< ((σ 10 0) &&& 31)) 0 _ _ _ Y (lv_sub hl [3, 6, 2, 1, 0] rfl) h
      · replace h := oe c10 h
        refine lv_ldc2 (v := (-9223372036854775808)) hx hb X.2.2.1 (X.tb tw_375) dX3_odds_23 ?_
        obtain rfl := os1 h
        exact retL X Y hr hlk dX3_odds_26
    · replace h := ot c7 h
      refine lv_iconst (v := 1) hx hb dX3_odds_12 (by decide) ?_
      refine lv_goto (tgt := 17) hx hb dX3_odds_13 (by decide) ?_
      obtain ⟨r14, hg13, h⟩ := ob h
      refine cVi X (hml.trans hl.1.symm) Y (c_fX3_refusalOfOneIn l D g ad σ v1 v2 1 hg13) (lkX g ad σ) rfl (gs_X3_90 _) rfl fd_X3_refusalOfOneIn ⟨Nat.le_of_ble_eq_true rfl, Nat.le_of_ble_eq_true rfl⟩ ⟨Nat.le_of_ble_eq_true rfl, Nat.le_of_ble_eq_true rfl⟩ (rest := []) rfl (Nat.le_of_ble_eq_true rfl) dX3_odds_17 (fun H locs Y => ?_)
      refine lv_if_eq (tgt := 27) hx hb dX3_odds_20 (by decide) (fun c15 => ?_) (fun c15 => ?_)
      · replace h := ot c15 h
        refine lv_aload_n hx hb dX3_odds_27 rfl (lv_at hl 0 rfl) ?_
        refine rgX X Y 1 (v := .ref (ad 10)) tw_129 rfl dX3_odds_28 ?_
        refine lv_iload_n hx hb dX3_odds_31 rfl (lv_at hl 1 rfl) ?_
        refine lv_iload_n hx hb dX3_odds_32 rfl (lv_at hl 2 rfl) ?_
        obtain ⟨r17, hg16, h⟩ := ob h
        refine cVi X (hml.trans hl.1.symm) Y (c_fX0_wetSetsWithPuller l D g ad σ n v1 v2 hg16) (lkR g ad σ) rfl (gs_X3_166 _) rfl fd_X0_wetSetsWithPuller ⟨Nat.le_of_ble_eq_true rfl, Nat.le_of_ble_eq_true rfl⟩ ⟨Nat.le_of_ble_eq_true rfl, Nat.le_of_ble_eq_true rfl⟩ (rest := []) rfl (Nat.le_of_ble_eq_true rfl) dX3_odds_33 (fun H locs Y => ?_)
        refine lv_istore (lv' := [(4, .int r17), (0, .ref (ad 0)), (1, .int v1), (2, .int v2), (3, .int v3)]) hx hb dX3_odds_36 hl (by decide) rfl (fun ls hl => ?_)
        refine lv_iconst (v := 1) hx hb dX3_odds_38 (by decide) ?_
        refine lv_aload_n hx hb dX3_odds_39 rfl (lv_at hl 1 rfl) ?_
        refine rgX X Y 1 (v := .ref (ad 10)) tw_129 rfl dX3_odds_40 ?_
        refine rgR X Y 0 (v := .int (σ 10 0)) tw_58 rfl dX3_odds_43 ?_
        refine lv_ishl hx hb dX3_odds_46 ?_
        refine lv_istore (lv' := [(5, .int ((1 : Int32) <<< ((σ 10 0) &&& 31))), (4, .int r17), (0, .ref (ad 0)), (1, .int v1), (2, .int v2), (3, .int v3)]) hx hb dX3_odds_47 hl (by decide) rfl (fun ls hl => ?_)
        refine lv_iconst (v := 0) hx hb dX3_odds_49 (by decide) ?_
        refine lv_istore (lv' := [(6, .int 0), (5, .int ((1 : Int32) <<< ((σ 10 0) &&& 31))), (4, .int r17), (0, .ref (ad 0)), (1, .int v1), (2, .int v2), (3, .int v3)]) hx hb dX3_odds_50 hl (by decide) rfl (fun ls hl => ?_)
        exact w_fX3_odds_L52 X hr hlk hml n σ v3 r17 ((1 : Int32) <<< ((σ 10 0) &&& 31)) 0 _ _ _ Y (lv_sub hl [3, 6, 2, 1, 0] rfl) h
      · replace h := oe c15 h
        refine lv_ldc2 (v := (-9223372036854775808)) hx hb X.2.2.1 (X.tb tw_375) dX3_odds_23 ?_
        obtain rfl := os1 h
        exact retL X Y hr hlk dX3_odds_26
set_option maxHeartbeats 4000000 in
set_option maxRecDepth 100000 in
theorem c_fX3_sheet (l : Launch) (D : va_G) (g : Nat → ClassId) (ad : Nat → Nat) (σ : St) (n : Nat) (v1 : Int32) (v2 : Int32) (v3 : Int32) {r0 : Int32} {σ0 : St} (h : fX3_sheet n σ v1 v2 v3 = some (r0, σ0)) : MI l yX3_sheet kX3_sheet 1 23 D g (WC g ad σ) (WC g ad σ0) [.ref (ad 0), .int v1, .int v2, .int v3] r0 := by
  intro sz
  refine Met.of2 (Qc := fun A => QI D g A (WC g ad σ0) r0) (cc := cX3_sheet) (maxL := 4) (ret := (some .int)) (own := RX3) (by decide) rfl rfl (Nat.le_of_ble_eq_true rfl) ?_
  intro p e s m below meth c A ls X hr hlk hml Y hl
  have hx := X.1
  have hb := X.2.1
  have hl : lv_has ls 4 [(0, .ref (ad 0)), (1, .int v1), (2, .int v2), (3, .int v3)] := hl
  rw [fX3_sheet] at h
  refine lv_aload_n hx hb dX3_sheet_0 rfl (lv_at hl 0 rfl) ?_
  refine lv_iconst (v := 0) hx hb dX3_sheet_1 (by decide) ?_
  refine rpX X Y 3 (v := 0) tw_131 rfl rfl rfl (stX_3 g ad σ 0) dX3_sheet_2 (fun H locs Y => ?_)
  refine lv_iload_n hx hb dX3_sheet_5 rfl (lv_at hl 1 rfl) ?_
  obtain ⟨r2, hg1, h⟩ := ob h
  refine cSi X (hml.trans hl.1.symm) Y (c_fX3_isSheet l D g (WC g ad (up2 σ 0 3 0)) v1 hg1) (gs_X3_29 _) rfl fd_X3_isSheet ⟨Nat.le_of_ble_eq_true rfl, Nat.le_of_ble_eq_true rfl⟩ ⟨Nat.le_of_ble_eq_true rfl, Nat.le_of_ble_eq_true rfl⟩ (rest := []) rfl (Nat.le_of_ble_eq_true rfl) dX3_sheet_6 (fun H locs Y => ?_)
  refine lv_if_ne (tgt := 14) hx hb dX3_sheet_9 (by decide) (fun c3 => ?_) (fun c3 => ?_)
  · replace h := oe c3 h
    refine lv_iload_n hx hb dX3_sheet_14 rfl (lv_at hl 2 rfl) ?_
    obtain ⟨r5, hg4, h⟩ := ob h
    refine cSi X (hml.trans hl.1.symm) Y (c_fX3_isLane l D g (WC g ad (up2 σ 0 3 0)) v2 hg4) (gs_X3_33 _) rfl fd_X3_isLane ⟨Nat.le_of_ble_eq_true rfl, Nat.le_of_ble_eq_true rfl⟩ ⟨Nat.le_of_ble_eq_true rfl, Nat.le_of_ble_eq_true rfl⟩ (rest := []) rfl (Nat.le_of_ble_eq_true rfl) dX3_sheet_15 (fun H locs Y => ?_)
    refine lv_if_eq (tgt := 27) hx hb dX3_sheet_18 (by decide) (fun c6 => ?_) (fun c6 => ?_)
    · replace h := ot c6 h
      refine lv_bipush (v := (-2)) hx hb dX3_sheet_27 (by decide) ?_
      obtain ⟨rfl, rfl⟩ := os2 h
      exact retI X Y hr hlk dX3_sheet_29
    · replace h := oe c6 h
      refine lv_iload_n hx hb dX3_sheet_21 rfl (lv_at hl 3 rfl) ?_
      refine lv_bipush (v := 60) hx hb dX3_sheet_22 (by decide) ?_
      refine lv_icmp_le (tgt := 30) hx hb dX3_sheet_24 (by decide) (fun c7 => ?_) (fun c7 => ?_)
      · replace h := ot c7 h
        refine lv_iload_n hx hb dX3_sheet_30 rfl (lv_at hl 3 rfl) ?_
        refine lv_if_ge (tgt := 40) hx hb dX3_sheet_31 (by decide) (fun c8 => ?_) (fun c8 => ?_)
        · replace h := ot c8 h
          refine lv_aload_n hx hb dX3_sheet_40 rfl (lv_at hl 0 rfl) ?_
          refine rgX X Y 0 (v := .ref (ad 1)) tw_128 rfl dX3_sheet_41 ?_
          refine lv_iload_n hx hb dX3_sheet_44 rfl (lv_at hl 1 rfl) ?_
          obtain ⟨hg9, h⟩ := og h
          refine raS X Y hg9 dX3_sheet_45 ?_
          refine lv_iload_n hx hb dX3_sheet_46 rfl (lv_at hl 2 rfl) ?_
          refine lv_iload_n hx hb dX3_sheet_47 rfl (lv_at hl 3 rfl) ?_
          obtain ⟨σ11, hg10, h⟩ := ob h
          refine cVv X (hml.trans hl.1.symm) Y (c_fX1_startRow l D g ad (up2 σ 0 3 0) n v1.toNatClampNeg (clt hg9) v2 v3 hg10) (lkS g ad (up2 σ 0 3 0) (clt hg9)) rfl (gs_X3_169 _) rfl fd_X1_startRow ⟨Nat.le_of_ble_eq_true rfl, Nat.le_of_ble_eq_true rfl⟩ ⟨Nat.le_of_ble_eq_true rfl, Nat.le_of_ble_eq_true rfl⟩ (rest := []) rfl (Nat.le_of_ble_eq_true rfl) dX3_sheet_48 (fun H locs Y => ?_)
          refine lv_iconst (v := 1) hx hb dX3_sheet_51 (by decide) ?_
          obtain ⟨rfl, rfl⟩ := os2 h
          exact retI X Y hr hlk dX3_sheet_52
        · replace h := oe c8 h
          refine lv_aload_n hx hb dX3_sheet_34 rfl (lv_at hl 0 rfl) ?_
          refine lv_iconst (v := 4) hx hb dX3_sheet_35 (by decide) ?_
          obtain ⟨r13, σ13, hg12, h⟩ := ob2 h
          refine cVi X (hml.trans hl.1.symm) Y (c_fX3_faulted l D g ad (up2 σ 0 3 0) 4 hg12) (lkX g ad (up2 σ 0 3 0)) rfl (gs_X3_44 _) rfl fd_X3_faulted ⟨Nat.le_of_ble_eq_true rfl, Nat.le_of_ble_eq_true rfl⟩ ⟨Nat.le_of_ble_eq_true rfl, Nat.le_of_ble_eq_true rfl⟩ (rest := []) rfl (Nat.le_of_ble_eq_true rfl) dX3_sheet_36 (fun H locs Y => ?_)
          obtain ⟨rfl, rfl⟩ := os2 h
          exact retI X Y hr hlk dX3_sheet_39
      · replace h := oe c7 h
        refine lv_bipush (v := (-2)) hx hb dX3_sheet_27 (by decide) ?_
        obtain ⟨rfl, rfl⟩ := os2 h
        exact retI X Y hr hlk dX3_sheet_29
  · replace h := ot c3 h
    refine lv_iconst (v := (-1)) hx hb dX3_sheet_12 (by decide) ?_
    obtain ⟨rfl, rfl⟩ := os2 h
    exact retI X Y hr hlk dX3_sheet_13
set_option maxHeartbeats 4000000 in
set_option maxRecDepth 100000 in
theorem c_fX3_lose (l : Launch) (D : va_G) (g : Nat → ClassId) (ad : Nat → Nat) (σ : St) (v1 : Int32) {r0 : Int32} {σ0 : St} (h : fX3_lose σ v1 = some (r0, σ0)) : MI l yX3_lose kX3_lose 1 20 D g (WC g ad σ) (WC g ad σ0) [.ref (ad 0), .int v1] r0 := by
  intro sz
  refine Met.of2 (Qc := fun A => QI D g A (WC g ad σ0) r0) (cc := cX3_lose) (maxL := 3) (ret := (some .int)) (own := RX3) (by decide) rfl rfl (Nat.le_of_ble_eq_true rfl) ?_
  intro p e s m below meth c A ls X hr hlk hml Y hl
  have hx := X.1
  have hb := X.2.1
  have hl : lv_has ls 3 [(0, .ref (ad 0)), (1, .int v1)] := hl
  rw [fX3_lose] at h
  refine lv_iload_n hx hb dX3_lose_0 rfl (lv_at hl 1 rfl) ?_
  obtain ⟨r2, hg1, h⟩ := ob h
  refine cSi X (hml.trans hl.1.symm) Y (c_fX3_isSheet l D g (WC g ad σ) v1 hg1) (gs_X3_29 _) rfl fd_X3_isSheet ⟨Nat.le_of_ble_eq_true rfl, Nat.le_of_ble_eq_true rfl⟩ ⟨Nat.le_of_ble_eq_true rfl, Nat.le_of_ble_eq_true rfl⟩ (rest := []) rfl (Nat.le_of_ble_eq_true rfl) dX3_lose_1 (fun H locs Y => ?_)
  refine lv_if_ne (tgt := 9) hx hb dX3_lose_4 (by decide) (fun c3 => ?_) (fun c3 => ?_)
  · replace h := oe c3 h
    refine lv_aload_n hx hb dX3_lose_9 rfl (lv_at hl 0 rfl) ?_
    refine rgX X Y 0 (v := .ref (ad 1)) tw_128 rfl dX3_lose_10 ?_
    refine lv_iload_n hx hb dX3_lose_13 rfl (lv_at hl 1 rfl) ?_
    obtain ⟨hg4, h⟩ := og h
    refine raS X Y hg4 dX3_lose_14 ?_
    refine rgS X Y (clt hg4) 1 (v := .int (σ (2 + v1.toNatClampNeg) 1)) tw_115 rfl dX3_lose_15 ?_
    refine lv_if_eq (tgt := 25) hx hb dX3_lose_18 (by decide) (fun c5 => ?_) (fun c5 => ?_)
    · replace h := ot c5 h
      refine lv_iconst (v := 0) hx hb dX3_lose_25 (by decide) ?_
      refine lv_istore_n (lv' := [(2, .int 0), (0, .ref (ad 0)), (1, .int v1)]) hx hb dX3_lose_26 rfl hl (by decide) rfl (fun ls hl => ?_)
      refine lv_aload_n hx hb dX3_lose_27 rfl (lv_at hl 1 rfl) ?_
      refine rgX X Y 0 (v := .ref (ad 1)) tw_128 rfl dX3_lose_28 ?_
      refine lv_iload_n hx hb dX3_lose_31 rfl (lv_at hl 2 rfl) ?_
      obtain ⟨hg6, h⟩ := og h
      refine raS X Y hg6 dX3_lose_32 ?_
      refine lv_iconst (v := 0) hx hb dX3_lose_33 (by decide) ?_
      refine rpS X Y (clt hg6) 1 (v := 0) tw_115 rfl rfl rfl (stS1 g ad σ 0 (clt hg6)) dX3_lose_34 (fun H locs Y => ?_)
      refine lv_iload_n hx hb dX3_lose_37 rfl (lv_at hl 0 rfl) ?_
      obtain ⟨rfl, rfl⟩ := os2 h
      exact retI X Y hr hlk dX3_lose_38
    · replace h := oe c5 h
      refine lv_iconst (v := 1) hx hb dX3_lose_21 (by decide) ?_
      refine lv_goto (tgt := 26) hx hb dX3_lose_22 (by decide) ?_
      refine lv_istore_n (lv' := [(2, .int 1), (0, .ref (ad 0)), (1, .int v1)]) hx hb dX3_lose_26 rfl hl (by decide) rfl (fun ls hl => ?_)
      refine lv_aload_n hx hb dX3_lose_27 rfl (lv_at hl 1 rfl) ?_
      refine rgX X Y 0 (v := .ref (ad 1)) tw_128 rfl dX3_lose_28 ?_
      refine lv_iload_n hx hb dX3_lose_31 rfl (lv_at hl 2 rfl) ?_
      obtain ⟨hg7, h⟩ := og h
      refine raS X Y hg7 dX3_lose_32 ?_
      refine lv_iconst (v := 0) hx hb dX3_lose_33 (by decide) ?_
      refine rpS X Y (clt hg7) 1 (v := 0) tw_115 rfl rfl rfl (stS1 g ad σ 0 (clt hg7)) dX3_lose_34 (fun H locs Y => ?_)
      refine lv_iload_n hx hb dX3_lose_37 rfl (lv_at hl 0 rfl) ?_
      obtain ⟨rfl, rfl⟩ := os2 h
      exact retI X Y hr hlk dX3_lose_38
  · replace h := ot c3 h
    refine lv_iconst (v := (-1)) hx hb dX3_lose_7 (by decide) ?_
    obtain ⟨rfl, rfl⟩ := os2 h
    exact retI X Y hr hlk dX3_lose_8
