set_option maxHeartbeats 4000000 in
set_option maxRecDepth 100000 in
theorem c_fX3_put (l : Launch) (D : va_G) (g : Nat → ClassId) (ad : Nat → Nat) (σ : St) (v1 : Int32) (v2 : Int32) (v3 : Int32) {r0 : Int32} {σ0 : St} (h : fX3_put σ v1 v2 v3 = some (r0, σ0)) : MI l yX3_put kX3_put 1 22 D g (WC g ad σ) (WC g ad σ0) [.ref (ad 0), .int v1, .int v2, .int v3] r0 := by
  intro sz
  refine Met.of2 (Qc := fun A => QI D g A (WC g ad σ0) r0) (cc := cX3_put) (maxL := 5) (ret := (some .int)) (own := RX3) (by decide) rfl rfl (Nat.le_of_ble_eq_true rfl) ?_
  intro p e s m below meth c A ls X hr hlk hml Y hl
  have hx := X.1
  have hb := X.2.1
  have hl : lv_has ls 5 [(0, .ref (ad 0)), (1, .int v1), (2, .int v2), (3, .int v3)] := hl
  rw [fX3_put] at h
  refine lv_aload_n hx hb dX3_put_0 rfl (lv_at hl 0 rfl) ?_
  refine lv_iconst (v := 0) hx hb dX3_put_1 (by decide) ?_
  refine rpX X Y 3 (v := 0) tw_131 rfl rfl rfl (stX_3 g ad σ 0) dX3_put_2 (fun H locs Y => ?_)
  refine lv_iload_n hx hb dX3_put_5 rfl (lv_at hl 1 rfl) ?_
  obtain ⟨r2, hg1, h⟩ := ob h
  refine cSi X (hml.trans hl.1.symm) Y (c_fX3_isSheet l D g (WC g ad (up2 σ 0 3 0)) v1 hg1) (gs_X3_29 _) rfl fd_X3_isSheet ⟨Nat.le_of_ble_eq_true rfl, Nat.le_of_ble_eq_true rfl⟩ ⟨Nat.le_of_ble_eq_true rfl, Nat.le_of_ble_eq_true rfl⟩ (rest := []) rfl (Nat.le_of_ble_eq_true rfl) dX3_put_6 (fun H locs Y => ?_)
  refine lv_if_ne (tgt := 14) hx hb dX3_put_9 (by decide) (fun c3 => ?_) (fun c3 => ?_)
  · replace h := oe c3 h
    refine lv_aload_n hx hb dX3_put_14 rfl (lv_at hl 0 rfl) ?_
    refine rgX X Y 0 (v := .ref (ad 1)) tw_128 rfl dX3_put_15 ?_
    refine lv_iload_n hx hb dX3_put_18 rfl (lv_at hl 1 rfl) ?_
    obtain ⟨hg4, h⟩ := og h
    refine raS X Y hg4 dX3_put_19 ?_
    refine lv_astore (lv' := [(4, .ref (ad (2 + v1.toNatClampNeg))), (0, .ref (ad 0)), (1, .int v1), (2, .int v2), (3, .int v3)]) hx hb dX3_put_20 hl (by decide) rfl (fun ls hl => ?_)
    refine lv_aload hx hb dX3_put_22 (lv_at hl 0 rfl) ?_
    refine rgS X Y (clt hg4) 1 (v := .int ((up2 σ 0 3 0) (2 + v1.toNatClampNeg) 1)) tw_115 rfl dX3_put_24 ?_
    refine lv_if_ne (tgt := 36) hx hb dX3_put_27 (by decide) (fun c5 => ?_) (fun c5 => ?_)
    · replace h := oe c5 h
      refine lv_aload hx hb dX3_put_36 (lv_at hl 0 rfl) ?_
      refine lv_iload_n hx hb dX3_put_38 rfl (lv_at hl 3 rfl) ?_
      obtain ⟨r7, hg6, h⟩ := ob h
      refine cVi X (hml.trans hl.1.symm) Y (c_fX1_hasCell l D g ad (up2 σ 0 3 0) v1.toNatClampNeg (clt hg4) v2 hg6) (lkS g ad (up2 σ 0 3 0) (clt hg4)) rfl (gs_X3_177 _) rfl fd_X1_hasCell ⟨Nat.le_of_ble_eq_true rfl, Nat.le_of_ble_eq_true rfl⟩ ⟨Nat.le_of_ble_eq_true rfl, Nat.le_of_ble_eq_true rfl⟩ (rest := []) rfl (Nat.le_of_ble_eq_true rfl) dX3_put_39 (fun H locs Y => ?_)
      refine lv_if_ne (tgt := 51) hx hb dX3_put_42 (by decide) (fun c8 => ?_) (fun c8 => ?_)
      · replace h := oe c8 h
        refine lv_aload hx hb dX3_put_51 (lv_at hl 0 rfl) ?_
        refine lv_iload_n hx hb dX3_put_53 rfl (lv_at hl 3 rfl) ?_
        refine lv_iload_n hx hb dX3_put_54 rfl (lv_at hl 4 rfl) ?_
        obtain ⟨σ10, hg9, h⟩ := ob h
        refine cVv X (hml.trans hl.1.symm) Y (c_fX1_store l D g ad (up2 σ 0 3 0) v1.toNatClampNeg (clt hg4) v2 v3 hg9) (lkS g ad (up2 σ 0 3 0) (clt hg4)) rfl (gs_X3_180 _) rfl fd_X1_store ⟨Nat.le_of_ble_eq_true rfl, Nat.le_of_ble_eq_true rfl⟩ ⟨Nat.le_of_ble_eq_true rfl, Nat.le_of_ble_eq_true rfl⟩ (rest := []) rfl (Nat.le_of_ble_eq_true rfl) dX3_put_55 (fun H locs Y => ?_)
        refine lv_iconst (v := 1) hx hb dX3_put_58 (by decide) ?_
        obtain ⟨rfl, rfl⟩ := os2 h
        exact retI X Y hr hlk dX3_put_59
      · replace h := ot c8 h
        refine lv_aload_n hx hb dX3_put_45 rfl (lv_at hl 1 rfl) ?_
        refine lv_iconst (v := 3) hx hb dX3_put_46 (by decide) ?_
        obtain ⟨r12, σ12, hg11, h⟩ := ob2 h
        refine cVi X (hml.trans hl.1.symm) Y (c_fX3_faulted l D g ad (up2 σ 0 3 0) 3 hg11) (lkX g ad (up2 σ 0 3 0)) rfl (gs_X3_44 _) rfl fd_X3_faulted ⟨Nat.le_of_ble_eq_true rfl, Nat.le_of_ble_eq_true rfl⟩ ⟨Nat.le_of_ble_eq_true rfl, Nat.le_of_ble_eq_true rfl⟩ (rest := []) rfl (Nat.le_of_ble_eq_true rfl) dX3_put_47 (fun H locs Y => ?_)
        obtain ⟨rfl, rfl⟩ := os2 h
        exact retI X Y hr hlk dX3_put_50
    · replace h := ot c5 h
      refine lv_aload_n hx hb dX3_put_30 rfl (lv_at hl 1 rfl) ?_
      refine lv_iconst (v := 1) hx hb dX3_put_31 (by decide) ?_
      obtain ⟨r14, σ14, hg13, h⟩ := ob2 h
      refine cVi X (hml.trans hl.1.symm) Y (c_fX3_faulted l D g ad (up2 σ 0 3 0) 1 hg13) (lkX g ad (up2 σ 0 3 0)) rfl (gs_X3_44 _) rfl fd_X3_faulted ⟨Nat.le_of_ble_eq_true rfl, Nat.le_of_ble_eq_true rfl⟩ ⟨Nat.le_of_ble_eq_true rfl, Nat.le_of_ble_eq_true rfl⟩ (rest := []) rfl (Nat.le_of_ble_eq_true rfl) dX3_put_32 (fun H locs Y => ?_)
      obtain ⟨rfl, rfl⟩ := os2 h
      exact retI X Y hr hlk dX3_put_35
  · replace h := ot c3 h
    refine lv_iconst (v := (-1)) hx hb dX3_put_12 (by decide) ?_
    obtain ⟨rfl, rfl⟩ := os2 h
    exact retI X Y hr hlk dX3_put_13
set_option maxHeartbeats 4000000 in
set_option maxRecDepth 100000 in
theorem c_fX3_cell (l : Launch) (D : va_G) (g : Nat → ClassId) (ad : Nat → Nat) (σ : St) (v1 : Int32) (v2 : Int32) (v3 : Int32) {r0 : Int64} {σ0 : St} (h : fX3_cell σ v1 v2 v3 = some (r0, σ0)) : ML l yX3_cell kX3_cell 1 21 D g (WC g ad σ) (WC g ad σ0) [.ref (ad 0), .int v1, .int v2, .int v3] r0 := by
  intro sz
  refine Met.of2 (Qc := fun A => QL D g A (WC g ad σ0) r0) (cc := cX3_cell) (maxL := 6) (ret := (some .long)) (own := RX3) (by decide) rfl rfl (Nat.le_of_ble_eq_true rfl) ?_
  intro p e s m below meth c A ls X hr hlk hml Y hl
  have hx := X.1
  have hb := X.2.1
  have hl : lv_has ls 6 [(0, .ref (ad 0)), (1, .int v1), (2, .int v2), (3, .int v3)] := hl
  rw [fX3_cell] at h
  refine lv_aload_n hx hb dX3_cell_0 rfl (lv_at hl 0 rfl) ?_
  refine lv_iconst (v := 0) hx hb dX3_cell_1 (by decide) ?_
  refine rpX X Y 3 (v := 0) tw_131 rfl rfl rfl (stX_3 g ad σ 0) dX3_cell_2 (fun H locs Y => ?_)
  refine lv_iload_n hx hb dX3_cell_5 rfl (lv_at hl 1 rfl) ?_
  obtain ⟨r2, hg1, h⟩ := ob h
  refine cSi X (hml.trans hl.1.symm) Y (c_fX3_isSheet l D g (WC g ad (up2 σ 0 3 0)) v1 hg1) (gs_X3_29 _) rfl fd_X3_isSheet ⟨Nat.le_of_ble_eq_true rfl, Nat.le_of_ble_eq_true rfl⟩ ⟨Nat.le_of_ble_eq_true rfl, Nat.le_of_ble_eq_true rfl⟩ (rest := []) rfl (Nat.le_of_ble_eq_true rfl) dX3_cell_6 (fun H locs Y => ?_)
  refine lv_if_eq (tgt := 19) hx hb dX3_cell_9 (by decide) (fun c3 => ?_) (fun c3 => ?_)
  · replace h := ot c3 h
    refine lv_ldc2 (v := (-9223372036854775808)) hx hb X.2.2.1 (X.tb tw_375) dX3_cell_19 ?_
    obtain ⟨rfl, rfl⟩ := os2 h
    exact retL X Y hr hlk dX3_cell_22
  · replace h := oe c3 h
    refine lv_iload_n hx hb dX3_cell_12 rfl (lv_at hl 3 rfl) ?_
    obtain ⟨r5, hg4, h⟩ := ob h
    refine cSi X (hml.trans hl.1.symm) Y (c_fX3_isLane l D g (WC g ad (up2 σ 0 3 0)) v3 hg4) (gs_X3_33 _) rfl fd_X3_isLane ⟨Nat.le_of_ble_eq_true rfl, Nat.le_of_ble_eq_true rfl⟩ ⟨Nat.le_of_ble_eq_true rfl, Nat.le_of_ble_eq_true rfl⟩ (rest := []) rfl (Nat.le_of_ble_eq_true rfl) dX3_cell_13 (fun H locs Y => ?_)
    refine lv_if_ne (tgt := 23) hx hb dX3_cell_16 (by decide) (fun c6 => ?_) (fun c6 => ?_)
    · replace h := oe c6 h
      refine lv_aload_n hx hb dX3_cell_23 rfl (lv_at hl 0 rfl) ?_
      refine rgX X Y 0 (v := .ref (ad 1)) tw_128 rfl dX3_cell_24 ?_
      refine lv_iload_n hx hb dX3_cell_27 rfl (lv_at hl 1 rfl) ?_
      obtain ⟨hg7, h⟩ := og h
      refine raS X Y hg7 dX3_cell_28 ?_
      refine lv_astore (lv' := [(4, .ref (ad (2 + v1.toNatClampNeg))), (0, .ref (ad 0)), (1, .int v1), (2, .int v2), (3, .int v3)]) hx hb dX3_cell_29 hl (by decide) rfl (fun ls hl => ?_)
      refine lv_aload hx hb dX3_cell_31 (lv_at hl 0 rfl) ?_
      refine lv_iload_n hx hb dX3_cell_33 rfl (lv_at hl 4 rfl) ?_
      obtain ⟨r9, hg8, h⟩ := ob h
      refine cVi X (hml.trans hl.1.symm) Y (c_fX1_faultAs l D g ad (up2 σ 0 3 0) v1.toNatClampNeg (clt hg7) v3 hg8) (lkS g ad (up2 σ 0 3 0) (clt hg7)) rfl (gs_X3_36 _) rfl fd_X1_faultAs ⟨Nat.le_of_ble_eq_true rfl, Nat.le_of_ble_eq_true rfl⟩ ⟨Nat.le_of_ble_eq_true rfl, Nat.le_of_ble_eq_true rfl⟩ (rest := []) rfl (Nat.le_of_ble_eq_true rfl) dX3_cell_34 (fun H locs Y => ?_)
      refine lv_istore (lv' := [(5, .int r9), (4, .ref (ad (2 + v1.toNatClampNeg))), (0, .ref (ad 0)), (1, .int v1), (2, .int v2), (3, .int v3)]) hx hb dX3_cell_37 hl (by decide) rfl (fun ls hl => ?_)
      refine lv_iload hx hb dX3_cell_39 (lv_at hl 0 rfl) ?_
      refine lv_if_ne (tgt := 56) hx hb dX3_cell_41 (by decide) (fun c10 => ?_) (fun c10 => ?_)
      · replace h := oe c10 h
        refine lv_iload hx hb dX3_cell_56 (lv_at hl 0 rfl) ?_
        refine lv_if_eq (tgt := 71) hx hb dX3_cell_58 (by decide) (fun c11 => ?_) (fun c11 => ?_)
        · replace h := ot c11 h
          refine lv_aload hx hb dX3_cell_71 (lv_at hl 1 rfl) ?_
          refine rgS X Y (clt hg7) 0 (v := .ref (ad (6 + v1.toNatClampNeg))) tw_113 rfl dX3_cell_73 ?_
          refine lv_iload_n hx hb dX3_cell_76 rfl (lv_at hl 4 rfl) ?_
          obtain ⟨hg12, h⟩ := og h
          refine ri X Y (lkA g ad (up2 σ 0 3 0) (clt hg7)) hg12 dX3_cell_77 ?_
          refine lv_i2l (v := ((up2 σ 0 3 0) (6 + v1.toNatClampNeg) v2.toNatClampNeg).toInt64) hx hb dX3_cell_78 rfl ?_
          obtain ⟨rfl, rfl⟩ := os2 h
          exact retL X Y hr hlk dX3_cell_79
        · replace h := oe c11 h
          refine lv_aload_n hx hb dX3_cell_61 rfl (lv_at hl 2 rfl) ?_
          refine lv_iload hx hb dX3_cell_62 (lv_at hl 0 rfl) ?_
          refine rpX X Y 3 (v := r9) tw_131 rfl rfl rfl (stX_3 g ad (up2 σ 0 3 0) r9) dX3_cell_64 (fun H locs Y => ?_)
          refine lv_ldc2 (v := (-9223372036854775808)) hx hb X.2.2.1 (X.tb tw_375) dX3_cell_67 ?_
          obtain ⟨rfl, rfl⟩ := os2 h
          exact retL X Y hr hlk dX3_cell_70
      · replace h := ot c10 h
        refine lv_aload hx hb dX3_cell_44 (lv_at hl 1 rfl) ?_
        refine lv_iload_n hx hb dX3_cell_46 rfl (lv_at hl 4 rfl) ?_
        obtain ⟨r14, hg13, h⟩ := ob h
        refine cVi X (hml.trans hl.1.symm) Y (c_fX1_hasCell l D g ad (up2 σ 0 3 0) v1.toNatClampNeg (clt hg7) v2 hg13) (lkS g ad (up2 σ 0 3 0) (clt hg7)) rfl (gs_X3_177 _) rfl fd_X1_hasCell ⟨Nat.le_of_ble_eq_true rfl, Nat.le_of_ble_eq_true rfl⟩ ⟨Nat.le_of_ble_eq_true rfl, Nat.le_of_ble_eq_true rfl⟩ (rest := []) rfl (Nat.le_of_ble_eq_true rfl) dX3_cell_47 (fun H locs Y => ?_)
        refine lv_if_ne (tgt := 56) hx hb dX3_cell_50 (by decide) (fun c15 => ?_) (fun c15 => ?_)
        · replace h := oe c15 h
          refine lv_iload hx hb dX3_cell_56 (lv_at hl 0 rfl) ?_
          refine lv_if_eq (tgt := 71) hx hb dX3_cell_58 (by decide) (fun c16 => ?_) (fun c16 => ?_)
          · replace h := ot c16 h
            refine lv_aload hx hb dX3_cell_71 (lv_at hl 1 rfl) ?_
            refine rgS X Y (clt hg7) 0 (v := .ref (ad (6 + v1.toNatClampNeg))) tw_113 rfl dX3_cell_73 ?_
            refine lv_iload_n hx hb dX3_cell_76 rfl (lv_at hl 4 rfl) ?_
            obtain ⟨hg17, h⟩ := og h
            refine ri X Y (lkA g ad (up2 σ 0 3 0) (clt hg7)) hg17 dX3_cell_77 ?_
            refine lv_i2l (v := ((up2 σ 0 3 0) (6 + v1.toNatClampNeg) v2.toNatClampNeg).toInt64) hx hb dX3_cell_78 rfl ?_
            obtain ⟨rfl, rfl⟩ := os2 h
            exact retL X Y hr hlk dX3_cell_79
          · replace h := oe c16 h
            refine lv_aload_n hx hb dX3_cell_61 rfl (lv_at hl 2 rfl) ?_
            refine lv_iload hx hb dX3_cell_62 (lv_at hl 0 rfl) ?_
            refine rpX X Y 3 (v := r9) tw_131 rfl rfl rfl (stX_3 g ad (up2 σ 0 3 0) r9) dX3_cell_64 (fun H locs Y => ?_)
            refine lv_ldc2 (v := (-9223372036854775808)) hx hb X.2.2.1 (X.tb tw_375) dX3_cell_67 ?_
            obtain ⟨rfl, rfl⟩ := os2 h
            exact retL X Y hr hlk dX3_cell_70
        · replace h := ot c15 h
          refine lv_iconst (v := 3) hx hb dX3_cell_53 (by decide) ?_
          refine lv_istore (lv' := [(5, .int 3), (4, .ref (ad (2 + v1.toNatClampNeg))), (0, .ref (ad 0)), (1, .int v1), (2, .int v2), (3, .int v3)]) hx hb dX3_cell_54 hl (by decide) rfl (fun ls hl => ?_)
          refine lv_iload hx hb dX3_cell_56 (lv_at hl 0 rfl) ?_
          refine lv_if_eq (tgt := 71) hx hb dX3_cell_58 (by decide) (fun c9 => absurd c9 (by decide)) (fun _ => ?_)
          refine lv_aload_n hx hb dX3_cell_61 rfl (lv_at hl 2 rfl) ?_
          refine lv_iload hx hb dX3_cell_62 (lv_at hl 0 rfl) ?_
          refine rpX X Y 3 (v := 3) tw_131 rfl rfl rfl (stX_3 g ad (up2 σ 0 3 0) 3) dX3_cell_64 (fun H locs Y => ?_)
          refine lv_ldc2 (v := (-9223372036854775808)) hx hb X.2.2.1 (X.tb tw_375) dX3_cell_67 ?_
          obtain ⟨rfl, rfl⟩ := os2 h
          exact retL X Y hr hlk dX3_cell_70
    · replace h := ot c6 h
      refine lv_ldc2 (v := (-9223372036854775808)) hx hb X.2.2.1 (X.tb tw_375) dX3_cell_19 ?_
      obtain ⟨rfl, rfl⟩ := os2 h
      exact retL X Y hr hlk dX3_cell_22
set_option maxHeartbeats 4000000 in
set_option maxRecDepth 100000 in
theorem c_fX3_copy (l : Launch) (D : va_G) (g : Nat → ClassId) (ad : Nat → Nat) (σ : St) (v1 : Int32) (v2 : Int32) (v3 : Int32) (v4 : Int32) (v5 : Int32) {r0 : Int32} {σ0 : St} (h : fX3_copy σ v1 v2 v3 v4 v5 = some (r0, σ0)) : MI l yX3_copy kX3_copy 1 60 D g (WC g ad σ) (WC g ad σ0) [.ref (ad 0), .int v1, .int v2, .int v3, .int v4, .int v5] r0 := by
  intro sz
  refine Met.of2 (Qc := fun A => QI D g A (WC g ad σ0) r0) (cc := cX3_copy) (maxL := 8) (ret := (some .int)) (own := RX3) (by decide) rfl rfl (Nat.le_of_ble_eq_true rfl) ?_
  intro p e s m below meth c A ls X hr hlk hml Y hl
  have hx := X.1
  have hb := X.2.1
  have hl : lv_has ls 8 [(0, .ref (ad 0)), (1, .int v1), (2, .int v2), (3, .int v3), (4, .int v4), (5, .int v5)] := hl
  rw [fX3_copy] at h
  refine lv_aload_n hx hb dX3_copy_0 rfl (lv_at hl 0 rfl) ?_
  refine lv_iconst (v := 0) hx hb dX3_copy_1 (by decide) ?_
  refine rpX X Y 3 (v := 0) tw_131 rfl rfl rfl (stX_3 g ad σ 0) dX3_copy_2 (fun H locs Y => ?_)
  refine lv_iload_n hx hb dX3_copy_5 rfl (lv_at hl 1 rfl) ?_
  obtain ⟨r2, hg1, h⟩ := ob h
  refine cSi X (hml.trans hl.1.symm) Y (c_fX3_isSheet l D g (WC g ad (up2 σ 0 3 0)) v1 hg1) (gs_X3_29 _) rfl fd_X3_isSheet ⟨Nat.le_of_ble_eq_true rfl, Nat.le_of_ble_eq_true rfl⟩ ⟨Nat.le_of_ble_eq_true rfl, Nat.le_of_ble_eq_true rfl⟩ (rest := []) rfl (Nat.le_of_ble_eq_true rfl) dX3_copy_6 (fun H locs Y => ?_)
  refine lv_if_eq (tgt := 19) hx hb dX3_copy_9 (by decide) (fun c3 => ?_) (fun c3 => ?_)
  · replace h := ot c3 h
    refine lv_iconst (v := (-1)) hx hb dX3_copy_19 (by decide) ?_
    obtain ⟨rfl, rfl⟩ := os2 h
    exact retI X Y hr hlk dX3_copy_20
  · replace h := oe c3 h
    refine lv_iload_n hx hb dX3_copy_12 rfl (lv_at hl 3 rfl) ?_
    obtain ⟨r5, hg4, h⟩ := ob h
    refine cSi X (hml.trans hl.1.symm) Y (c_fX3_isSheet l D g (WC g ad (up2 σ 0 3 0)) v3 hg4) (gs_X3_29 _) rfl fd_X3_isSheet ⟨Nat.le_of_ble_eq_true rfl, Nat.le_of_ble_eq_true rfl⟩ ⟨Nat.le_of_ble_eq_true rfl, Nat.le_of_ble_eq_true rfl⟩ (rest := []) rfl (Nat.le_of_ble_eq_true rfl) dX3_copy_13 (fun H locs Y => ?_)
    refine lv_if_ne (tgt := 21) hx hb dX3_copy_16 (by decide) (fun c6 => ?_) (fun c6 => ?_)
    · replace h := oe c6 h
      refine lv_aload_n hx hb dX3_copy_21 rfl (lv_at hl 0 rfl) ?_
      refine rgX X Y 0 (v := .ref (ad 1)) tw_128 rfl dX3_copy_22 ?_
      refine lv_iload_n hx hb dX3_copy_25 rfl (lv_at hl 1 rfl) ?_
      obtain ⟨hg7, h⟩ := og h
      refine raS X Y hg7 dX3_copy_26 ?_
      refine lv_astore (lv' := [(6, .ref (ad (2 + v1.toNatClampNeg))), (0, .ref (ad 0)), (1, .int v1), (2, .int v2), (3, .int v3), (4, .int v4), (5, .int v5)]) hx hb dX3_copy_27 hl (by decide) rfl (fun ls hl => ?_)
      refine lv_aload_n hx hb dX3_copy_29 rfl (lv_at hl 1 rfl) ?_
      refine rgX X Y 0 (v := .ref (ad 1)) tw_128 rfl dX3_copy_30 ?_
      refine lv_iload_n hx hb dX3_copy_33 rfl (lv_at hl 4 rfl) ?_
      obtain ⟨hg8, h⟩ := og h
      refine raS X Y hg8 dX3_copy_34 ?_
      refine lv_astore (lv' := [(7, .ref (ad (2 + v3.toNatClampNeg))), (6, .ref (ad (2 + v1.toNatClampNeg))), (0, .ref (ad 0)), (1, .int v1), (2, .int v2), (3, .int v3), (4, .int v4), (5, .int v5)]) hx hb dX3_copy_35 hl (by decide) rfl (fun ls hl => ?_)
      refine lv_aload hx hb dX3_copy_37 (lv_at hl 1 rfl) ?_
      refine rgS X Y (clt hg7) 1 (v := .int ((up2 σ 0 3 0) (2 + v1.toNatClampNeg) 1)) tw_115 rfl dX3_copy_39 ?_
      refine lv_if_eq (tgt := 53) hx hb dX3_copy_42 (by decide) (fun c9 => ?_) (fun c9 => ?_)
      · replace h := ot c9 h
        refine lv_aload_n hx hb dX3_copy_53 rfl (lv_at hl 2 rfl) ?_
        refine lv_iconst (v := 1) hx hb dX3_copy_54 (by decide) ?_
        obtain ⟨r11, σ11, hg10, h⟩ := ob2 h
        refine cVi X (hml.trans hl.1.symm) Y (c_fX3_faulted l D g ad (up2 σ 0 3 0) 1 hg10) (lkX g ad (up2 σ 0 3 0)) rfl (gs_X3_44 _) rfl fd_X3_faulted ⟨Nat.le_of_ble_eq_true rfl, Nat.le_of_ble_eq_true rfl⟩ ⟨Nat.le_of_ble_eq_true rfl, Nat.le_of_ble_eq_true rfl⟩ (rest := []) rfl (Nat.le_of_ble_eq_true rfl) dX3_copy_55 (fun H locs Y => ?_)
        obtain ⟨rfl, rfl⟩ := os2 h
        exact retI X Y hr hlk dX3_copy_58
      · replace h := oe c9 h
        refine lv_aload hx hb dX3_copy_45 (lv_at hl 0 rfl) ?_
        refine rgS X Y (clt hg8) 1 (v := .int ((up2 σ 0 3 0) (2 + v3.toNatClampNeg) 1)) tw_115 rfl dX3_copy_47 ?_
        refine lv_if_ne (tgt := 59) hx hb dX3_copy_50 (by decide) (fun c12 => ?_) (fun c12 => ?_)
        · replace h := oe c12 h
          refine lv_aload hx hb dX3_copy_59 (lv_at hl 1 rfl) ?_
          refine rgS X Y (clt hg7) 2 (v := .int ((up2 σ 0 3 0) (2 + v1.toNatClampNeg) 2)) tw_117 rfl dX3_copy_61 ?_
          refine lv_aload hx hb dX3_copy_64 (lv_at hl 0 rfl) ?_
          refine rgS X Y (clt hg8) 2 (v := .int ((up2 σ 0 3 0) (2 + v3.toNatClampNeg) 2)) tw_117 rfl dX3_copy_66 ?_
          refine lv_icmp_eq (tgt := 78) hx hb dX3_copy_69 (by decide) (fun c13 => ?_) (fun c13 => ?_)
          · replace h := ot c13 h
            refine lv_aload hx hb dX3_copy_78 (lv_at hl 1 rfl) ?_
            refine lv_iload_n hx hb dX3_copy_80 rfl (lv_at hl 4 rfl) ?_
            refine lv_iload hx hb dX3_copy_81 (lv_at hl 7 rfl) ?_
            obtain ⟨r15, hg14, h⟩ := ob h
            refine cVi X (hml.trans hl.1.symm) Y (c_fX1_hasCells l D g ad (up2 σ 0 3 0) v1.toNatClampNeg (clt hg7) v2 v5 hg14) (lkS g ad (up2 σ 0 3 0) (clt hg7)) rfl (gs_X3_40 _) rfl fd_X1_hasCells ⟨Nat.le_of_ble_eq_true rfl, Nat.le_of_ble_eq_true rfl⟩ ⟨Nat.le_of_ble_eq_true rfl, Nat.le_of_ble_eq_true rfl⟩ (rest := []) rfl (Nat.le_of_ble_eq_true rfl) dX3_copy_83 (fun H locs Y => ?_)
            refine lv_if_eq (tgt := 101) hx hb dX3_copy_86 (by decide) (fun c16 => ?_) (fun c16 => ?_)
            · replace h := ot c16 h
              refine lv_aload_n hx hb dX3_copy_101 rfl (lv_at hl 2 rfl) ?_
              refine lv_iconst (v := 3) hx hb dX3_copy_102 (by decide) ?_
              obtain ⟨r18, σ18, hg17, h⟩ := ob2 h
              refine cVi X (hml.trans hl.1.symm) Y (c_fX3_faulted l D g ad (up2 σ 0 3 0) 3 hg17) (lkX g ad (up2 σ 0 3 0)) rfl (gs_X3_44 _) rfl fd_X3_faulted ⟨Nat.le_of_ble_eq_true rfl, Nat.le_of_ble_eq_true rfl⟩ ⟨Nat.le_of_ble_eq_true rfl, Nat.le_of_ble_eq_true rfl⟩ (rest := []) rfl (Nat.le_of_ble_eq_true rfl) dX3_copy_103 (fun H locs Y => ?_)
              obtain ⟨rfl, rfl⟩ := os2 h
              exact retI X Y hr hlk dX3_copy_106
            · replace h := oe c16 h
              refine lv_aload hx hb dX3_copy_89 (lv_at hl 0 rfl) ?_
              refine lv_iload hx hb dX3_copy_91 (lv_at hl 6 rfl) ?_
              refine lv_iload hx hb dX3_copy_93 (lv_at hl 7 rfl) ?_
              obtain ⟨r20, hg19, h⟩ := ob h
              refine cVi X (hml.trans hl.1.symm) Y (c_fX1_hasCells l D g ad (up2 σ 0 3 0) v3.toNatClampNeg (clt hg8) v4 v5 hg19) (lkS g ad (up2 σ 0 3 0) (clt hg8)) rfl (gs_X3_40 _) rfl fd_X1_hasCells ⟨Nat.le_of_ble_eq_true rfl, Nat.le_of_ble_eq_true rfl⟩ ⟨Nat.le_of_ble_eq_true rfl, Nat.le_of_ble_eq_true rfl⟩ (rest := []) rfl (Nat.le_of_ble_eq_true rfl) dX3_copy_95 (fun H locs Y => ?_)
              refine lv_if_ne (tgt := 107) hx hb dX3_copy_98 (by decide) (fun c21 => ?_) (fun c21 => ?_)
              · replace h := oe c21 h
                refine lv_aload hx hb dX3_copy_107 (lv_at hl 1 rfl) ?_
                refine rgS X Y (clt hg7) 0 (v := .ref (ad (6 + v1.toNatClampNeg))) tw_113 rfl dX3_copy_109 ?_
                refine lv_iload_n hx hb dX3_copy_112 rfl (lv_at hl 4 rfl) ?_
                refine lv_aload hx hb dX3_copy_113 (lv_at hl 0 rfl) ?_
                refine rgS X Y (clt hg8) 0 (v := .ref (ad (6 + v3.toNatClampNeg))) tw_113 rfl dX3_copy_115 ?_
                refine lv_iload hx hb dX3_copy_118 (lv_at hl 6 rfl) ?_
                refine lv_iload hx hb dX3_copy_120 (lv_at hl 7 rfl) ?_
                obtain ⟨hg22, h⟩ := og h
                refine rcp X Y (hml.trans hl.1.symm) twc_link twc_nat twc_stat twc_ini (clt hg7) (clt hg8) hg22 (Nat.le_of_ble_eq_true rfl) (Nat.le_of_ble_eq_true rfl) dX3_copy_122 (fun H locs Y => ?_)
                refine lv_iload hx hb dX3_copy_125 (lv_at hl 7 rfl) ?_
                obtain ⟨rfl, rfl⟩ := os2 h
                exact retI X Y hr hlk dX3_copy_127
              · replace h := ot c21 h
                refine lv_aload_n hx hb dX3_copy_101 rfl (lv_at hl 2 rfl) ?_
                refine lv_iconst (v := 3) hx hb dX3_copy_102 (by decide) ?_
                obtain ⟨r24, σ24, hg23, h⟩ := ob2 h
                refine cVi X (hml.trans hl.1.symm) Y (c_fX3_faulted l D g ad (up2 σ 0 3 0) 3 hg23) (lkX g ad (up2 σ 0 3 0)) rfl (gs_X3_44 _) rfl fd_X3_faulted ⟨Nat.le_of_ble_eq_true rfl, Nat.le_of_ble_eq_true rfl⟩ ⟨Nat.le_of_ble_eq_true rfl, Nat.le_of_ble_eq_true rfl⟩ (rest := []) rfl (Nat.le_of_ble_eq_true rfl) dX3_copy_103 (fun H locs Y => ?_)
                obtain ⟨rfl, rfl⟩ := os2 h
                exact retI X Y hr hlk dX3_copy_106
          · replace h := oe c13 h
            refine lv_aload_n hx hb dX3_copy_72 rfl (lv_at hl 2 rfl) ?_
            refine lv_iconst (v := 2) hx hb dX3_copy_73 (by decide) ?_
            obtain ⟨r26, σ26, hg25, h⟩ := ob2 h
            refine cVi X (hml.trans hl.1.symm) Y (c_fX3_faulted l D g ad (up2 σ 0 3 0) 2 hg25) (lkX g ad (up2 σ 0 3 0)) rfl (gs_X3_44 _) rfl fd_X3_faulted ⟨Nat.le_of_ble_eq_true rfl, Nat.le_of_ble_eq_true rfl⟩ ⟨Nat.le_of_ble_eq_true rfl, Nat.le_of_ble_eq_true rfl⟩ (rest := []) rfl (Nat.le_of_ble_eq_true rfl) dX3_copy_74 (fun H locs Y => ?_)
            obtain ⟨rfl, rfl⟩ := os2 h
            exact retI X Y hr hlk dX3_copy_77
        · replace h := ot c12 h
          refine lv_aload_n hx hb dX3_copy_53 rfl (lv_at hl 2 rfl) ?_
          refine lv_iconst (v := 1) hx hb dX3_copy_54 (by decide) ?_
          obtain ⟨r28, σ28, hg27, h⟩ := ob2 h
          refine cVi X (hml.trans hl.1.symm) Y (c_fX3_faulted l D g ad (up2 σ 0 3 0) 1 hg27) (lkX g ad (up2 σ 0 3 0)) rfl (gs_X3_44 _) rfl fd_X3_faulted ⟨Nat.le_of_ble_eq_true rfl, Nat.le_of_ble_eq_true rfl⟩ ⟨Nat.le_of_ble_eq_true rfl, Nat.le_of_ble_eq_true rfl⟩ (rest := []) rfl (Nat.le_of_ble_eq_true rfl) dX3_copy_55 (fun H locs Y => ?_)
          obtain ⟨rfl, rfl⟩ := os2 h
          exact retI X Y hr hlk dX3_copy_58
    · replace h := ot c6 h
      refine lv_iconst (v := (-1)) hx hb dX3_copy_19 (by decide) ?_
      obtain ⟨rfl, rfl⟩ := os2 h
      exact retI X Y hr hlk dX3_copy_20
set_option maxHeartbeats 4000000 in
set_option maxRecDepth 100000 in
theorem c_fX3_leaveTrace (l : Launch) (D : va_G) (g : Nat → ClassId) (ad : Nat → Nat) (σ : St) (v1 : Int32) {σ0 : St} (h : fX3_leaveTrace σ v1 = some σ0) : MV l yX3_leaveTrace kX3_leaveTrace 0 0 D g (WC g ad σ) (WC g ad σ0) [.ref (ad 0), .int v1] := by
  intro sz
  refine Met.of2 (Qc := fun A => QV D g A (WC g ad σ0)) (cc := cX3_leaveTrace) (maxL := 2) (ret := none) (own := RX3) (by decide) rfl rfl (Nat.le_of_ble_eq_true rfl) ?_
  intro p e s m below meth c A ls X hr hlk hml Y hl
  have hx := X.1
  have hb := X.2.1
  have hl : lv_has ls 2 [(0, .ref (ad 0)), (1, .int v1)] := hl
  rw [fX3_leaveTrace] at h
  refine lv_aload_n hx hb dX3_leaveTrace_0 rfl (lv_at hl 0 rfl) ?_
  refine lv_bipush (v := 31) hx hb dX3_leaveTrace_1 (by decide) ?_
  refine lv_aload_n hx hb dX3_leaveTrace_3 rfl (lv_at hl 0 rfl) ?_
  refine rgX X Y 2 (v := .int (σ 0 2)) tw_130 rfl dX3_leaveTrace_4 ?_
  refine lv_imul hx hb dX3_leaveTrace_7 ?_
  refine lv_iload_n hx hb dX3_leaveTrace_8 rfl (lv_at hl 1 rfl) ?_
  refine lv_iadd hx hb dX3_leaveTrace_9 ?_
  refine rpX X Y 2 (v := ((31 : Int32) * (σ 0 2)) + v1) tw_130 rfl rfl rfl (stX_2 g ad σ (((31 : Int32) * (σ 0 2)) + v1)) dX3_leaveTrace_10 (fun H locs Y => ?_)
  obtain rfl := os1 h
  exact retV X Y hr hlk dX3_leaveTrace_13
set_option maxHeartbeats 4000000 in
set_option maxRecDepth 100000 in
theorem c_fX3_riderTells (l : Launch) (D : va_G) (g : Nat → ClassId) (ad : Nat → Nat) (σ : St) (n : Nat) (v1 : Int32) {r0 : Int32} {σ0 : St} (h : fX3_riderTells n σ v1 = some (r0, σ0)) : MI l yX3_riderTells kX3_riderTells 1 23 D g (WC g ad σ) (WC g ad σ0) [.ref (ad 0), .int v1] r0 := by
  intro sz
  refine Met.of2 (Qc := fun A => QI D g A (WC g ad σ0) r0) (cc := cX3_riderTells) (maxL := 2) (ret := (some .int)) (own := RX3) (by decide) rfl rfl (Nat.le_of_ble_eq_true rfl) ?_
  intro p e s m below meth c A ls X hr hlk hml Y hl
  have hx := X.1
  have hb := X.2.1
  have hl : lv_has ls 2 [(0, .ref (ad 0)), (1, .int v1)] := hl
  rw [fX3_riderTells] at h
  refine lv_aload_n hx hb dX3_riderTells_0 rfl (lv_at hl 0 rfl) ?_
  refine lv_iconst (v := 1) hx hb dX3_riderTells_1 (by decide) ?_
  obtain ⟨σ2, hg1, h⟩ := ob h
  refine cVv X (hml.trans hl.1.symm) Y (c_fX3_leaveTrace l D g ad σ 1 hg1) (lkX g ad σ) rfl (gs_X3_219 _) rfl fd_X3_leaveTrace ⟨Nat.le_of_ble_eq_true rfl, Nat.le_of_ble_eq_true rfl⟩ ⟨Nat.le_of_ble_eq_true rfl, Nat.le_of_ble_eq_true rfl⟩ (rest := []) rfl (Nat.le_of_ble_eq_true rfl) dX3_riderTells_2 (fun H locs Y => ?_)
  refine lv_aload_n hx hb dX3_riderTells_5 rfl (lv_at hl 0 rfl) ?_
  refine rgX X Y 1 (v := .ref (ad 10)) tw_129 rfl dX3_riderTells_6 ?_
  refine lv_iload_n hx hb dX3_riderTells_9 rfl (lv_at hl 1 rfl) ?_
  obtain ⟨r4, hg3, h⟩ := ob h
  refine cVi X (hml.trans hl.1.symm) Y (c_fX0_allNotes l D g ad σ2 n v1 hg3) (lkR g ad σ2) rfl (gs_X3_70 _) rfl fd_X0_allNotes ⟨Nat.le_of_ble_eq_true rfl, Nat.le_of_ble_eq_true rfl⟩ ⟨Nat.le_of_ble_eq_true rfl, Nat.le_of_ble_eq_true rfl⟩ (rest := []) rfl (Nat.le_of_ble_eq_true rfl) dX3_riderTells_10 (fun H locs Y => ?_)
  obtain ⟨rfl, rfl⟩ := os2 h
  exact retI X Y hr hlk dX3_riderTells_13
set_option maxHeartbeats 4000000 in
set_option maxRecDepth 100000 in
theorem c_fX3_friendTells (l : Launch) (D : va_G) (g : Nat → ClassId) (ad : Nat → Nat) (σ : St) (n : Nat) (v1 : Int32) {r0 : Int32} {σ0 : St} (h : fX3_friendTells n σ v1 = some (r0, σ0)) : MI l yX3_friendTells kX3_friendTells 2 44 D g (WC g ad σ) (WC g ad σ0) [.ref (ad 0), .int v1] r0 := by
  intro sz
  refine Met.of2 (Qc := fun A => QI D g A (WC g ad σ0) r0) (cc := cX3_friendTells) (maxL := 2) (ret := (some .int)) (own := RX3) (by decide) rfl rfl (Nat.le_of_ble_eq_true rfl) ?_
  intro p e s m below meth c A ls X hr hlk hml Y hl
  have hx := X.1
  have hb := X.2.1
  have hl : lv_has ls 2 [(0, .ref (ad 0)), (1, .int v1)] := hl
  rw [fX3_friendTells] at h
  refine lv_aload_n hx hb dX3_friendTells_0 rfl (lv_at hl 0 rfl) ?_
  refine lv_iconst (v := 2) hx hb dX3_friendTells_1 (by decide) ?_
  obtain ⟨σ2, hg1, h⟩ := ob h
  refine cVv X (hml.trans hl.1.symm) Y (c_fX3_leaveTrace l D g ad σ 2 hg1) (lkX g ad σ) rfl (gs_X3_219 _) rfl fd_X3_leaveTrace ⟨Nat.le_of_ble_eq_true rfl, Nat.le_of_ble_eq_true rfl⟩ ⟨Nat.le_of_ble_eq_true rfl, Nat.le_of_ble_eq_true rfl⟩ (rest := []) rfl (Nat.le_of_ble_eq_true rfl) dX3_friendTells_2 (fun H locs Y => ?_)
  refine lv_aload_n hx hb dX3_friendTells_5 rfl (lv_at hl 0 rfl) ?_
  refine lv_iload_n hx hb dX3_friendTells_6 rfl (lv_at hl 1 rfl) ?_
  obtain ⟨r4, σ4, hg3, h⟩ := ob2 h
  refine cVi X (hml.trans hl.1.symm) Y (c_fX3_riderTells l D g ad σ2 n v1 hg3) (lkX g ad σ2) rfl (gs_X3_201 _) rfl fd_X3_riderTells ⟨Nat.le_of_ble_eq_true rfl, Nat.le_of_ble_eq_true rfl⟩ ⟨Nat.le_of_ble_eq_true rfl, Nat.le_of_ble_eq_true rfl⟩ (rest := []) rfl (Nat.le_of_ble_eq_true rfl) dX3_friendTells_7 (fun H locs Y => ?_)
  refine lv_bipush (v := 100) hx hb dX3_friendTells_10 (by decide) ?_
  refine lv_iadd hx hb dX3_friendTells_12 ?_
  obtain ⟨rfl, rfl⟩ := os2 h
  exact retI X Y hr hlk dX3_friendTells_13
set_option maxHeartbeats 4000000 in
set_option maxRecDepth 100000 in
theorem c_fX3_bankerTells (l : Launch) (D : va_G) (g : Nat → ClassId) (ad : Nat → Nat) (σ : St) (n : Nat) (v1 : Int32) {r0 : Int32} {σ0 : St} (h : fX3_bankerTells n σ v1 = some (r0, σ0)) : MI l yX3_bankerTells kX3_bankerTells 3 65 D g (WC g ad σ) (WC g ad σ0) [.ref (ad 0), .int v1] r0 := by
  intro sz
  refine Met.of2 (Qc := fun A => QI D g A (WC g ad σ0) r0) (cc := cX3_bankerTells) (maxL := 3) (ret := (some .int)) (own := RX3) (by decide) rfl rfl (Nat.le_of_ble_eq_true rfl) ?_
  intro p e s m below meth c A ls X hr hlk hml Y hl
  have hx := X.1
  have hb := X.2.1
  have hl : lv_has ls 3 [(0, .ref (ad 0)), (1, .int v1)] := hl
  rw [fX3_bankerTells] at h
  refine lv_aload_n hx hb dX3_bankerTells_0 rfl (lv_at hl 0 rfl) ?_
  refine lv_iconst (v := 3) hx hb dX3_bankerTells_1 (by decide) ?_
  obtain ⟨σ2, hg1, h⟩ := ob h
  refine cVv X (hml.trans hl.1.symm) Y (c_fX3_leaveTrace l D g ad σ 3 hg1) (lkX g ad σ) rfl (gs_X3_219 _) rfl fd_X3_leaveTrace ⟨Nat.le_of_ble_eq_true rfl, Nat.le_of_ble_eq_true rfl⟩ ⟨Nat.le_of_ble_eq_true rfl, Nat.le_of_ble_eq_true rfl⟩ (rest := []) rfl (Nat.le_of_ble_eq_true rfl) dX3_bankerTells_2 (fun H locs Y => ?_)
  refine lv_aload_n hx hb dX3_bankerTells_5 rfl (lv_at hl 0 rfl) ?_
  refine lv_iload_n hx hb dX3_bankerTells_6 rfl (lv_at hl 1 rfl) ?_
  obtain ⟨r4, σ4, hg3, h⟩ := ob2 h
  refine cVi X (hml.trans hl.1.symm) Y (c_fX3_friendTells l D g ad σ2 n v1 hg3) (lkX g ad σ2) rfl (gs_X3_198 _) rfl fd_X3_friendTells ⟨Nat.le_of_ble_eq_true rfl, Nat.le_of_ble_eq_true rfl⟩ ⟨Nat.le_of_ble_eq_true rfl, Nat.le_of_ble_eq_true rfl⟩ (rest := []) rfl (Nat.le_of_ble_eq_true rfl) dX3_bankerTells_7 (fun H locs Y => ?_)
  refine lv_istore_n (lv' := [(2, .int r4), (0, .ref (ad 0)), (1, .int v1)]) hx hb dX3_bankerTells_10 rfl hl (by decide) rfl (fun ls hl => ?_)
  refine lv_iload_n hx hb dX3_bankerTells_11 rfl (lv_at hl 0 rfl) ?_
  refine lv_aload_n hx hb dX3_bankerTells_12 rfl (lv_at hl 1 rfl) ?_
  refine lv_iload_n hx hb dX3_bankerTells_13 rfl (lv_at hl 2 rfl) ?_
  obtain ⟨r6, σ6, hg5, h⟩ := ob2 h
  refine cVi X (hml.trans hl.1.symm) Y (c_fX3_riderTells l D g ad σ4 n v1 hg5) (lkX g ad σ4) rfl (gs_X3_201 _) rfl fd_X3_riderTells ⟨Nat.le_of_ble_eq_true rfl, Nat.le_of_ble_eq_true rfl⟩ ⟨Nat.le_of_ble_eq_true rfl, Nat.le_of_ble_eq_true rfl⟩ (rest := [.int r4]) rfl (Nat.le_of_ble_eq_true rfl) dX3_bankerTells_14 (fun H locs Y => ?_)
  refine lv_iadd hx hb dX3_bankerTells_17 ?_
  obtain ⟨rfl, rfl⟩ := os2 h
  exact retI X Y hr hlk dX3_bankerTells_18
set_option maxHeartbeats 4000000 in
set_option maxRecDepth 100000 in
theorem c_fX3_tell (l : Launch) (D : va_G) (g : Nat → ClassId) (ad : Nat → Nat) (σ : St) (n : Nat) (v1 : Int32) {r0 : Int32} {σ0 : St} (h : fX3_tell n σ v1 = some (r0, σ0)) : MI l yX3_tell kX3_tell 4 87 D g (WC g ad σ) (WC g ad σ0) [.ref (ad 0), .int v1] r0 := by
  intro sz
  refine Met.of2 (Qc := fun A => QI D g A (WC g ad σ0) r0) (cc := cX3_tell) (maxL := 2) (ret := (some .int)) (own := RX3) (by decide) rfl rfl (Nat.le_of_ble_eq_true rfl) ?_
  intro p e s m below meth c A ls X hr hlk hml Y hl
  have hx := X.1
  have hb := X.2.1
  have hl : lv_has ls 2 [(0, .ref (ad 0)), (1, .int v1)] := hl
  rw [fX3_tell] at h
  refine lv_aload_n hx hb dX3_tell_0 rfl (lv_at hl 0 rfl) ?_
  refine rgX X Y 1 (v := .ref (ad 10)) tw_129 rfl dX3_tell_1 ?_
  refine lv_iload_n hx hb dX3_tell_4 rfl (lv_at hl 1 rfl) ?_
  obtain ⟨r2, hg1, h⟩ := ob h
  refine cVi X (hml.trans hl.1.symm) Y (c_fX0_isPerson l D g ad σ v1 hg1) (lkR g ad σ) rfl (gs_X3_60 _) rfl fd_X0_isPerson ⟨Nat.le_of_ble_eq_true rfl, Nat.le_of_ble_eq_true rfl⟩ ⟨Nat.le_of_ble_eq_true rfl, Nat.le_of_ble_eq_true rfl⟩ (rest := []) rfl (Nat.le_of_ble_eq_true rfl) dX3_tell_5 (fun H locs Y => ?_)
  refine lv_if_ne (tgt := 13) hx hb dX3_tell_8 (by decide) (fun c3 => ?_) (fun c3 => ?_)
  · replace h := oe c3 h
    refine lv_aload_n hx hb dX3_tell_13 rfl (lv_at hl 0 rfl) ?_
    refine rgX X Y 1 (v := .ref (ad 10)) tw_129 rfl dX3_tell_14 ?_
    refine rgR X Y 4 (v := .ref (ad 11)) tw_66 rfl dX3_tell_17 ?_
    refine lv_iload_n hx hb dX3_tell_20 rfl (lv_at hl 1 rfl) ?_
    obtain ⟨hg4, h⟩ := og h
    refine ri X Y (lkC_11 g ad σ) hg4 dX3_tell_21 ?_
    by_cases c5 : σ 11 v1.toNatClampNeg = 1
    · replace h := ot c5 h
      refine lv_lookup (tgt := 54) (off := 32) hx hb dX3_tell_22 (by decide) (by rw [c5]; decide) (by decide) ?_
      refine lv_aload_n hx hb dX3_tell_54 rfl (lv_at hl 0 rfl) ?_
      refine lv_iload_n hx hb dX3_tell_55 rfl (lv_at hl 1 rfl) ?_
      obtain ⟨r7, σ7, hg6, h⟩ := ob2 h
      refine cVi X (hml.trans hl.1.symm) Y (c_fX3_friendTells l D g ad σ n v1 hg6) (lkX g ad σ) rfl (gs_X3_198 _) rfl fd_X3_friendTells ⟨Nat.le_of_ble_eq_true rfl, Nat.le_of_ble_eq_true rfl⟩ ⟨Nat.le_of_ble_eq_true rfl, Nat.le_of_ble_eq_true rfl⟩ (rest := []) rfl (Nat.le_of_ble_eq_true rfl) dX3_tell_56 (fun H locs Y => ?_)
      obtain ⟨rfl, rfl⟩ := os2 h
      exact retI X Y hr hlk dX3_tell_59
    · replace h := oe c5 h
      by_cases c8 : σ 11 v1.toNatClampNeg = 2
      · replace h := ot c8 h
        refine lv_lookup (tgt := 48) (off := 26) hx hb dX3_tell_22 (by decide) (by rw [c8]; decide) (by decide) ?_
        refine lv_aload_n hx hb dX3_tell_48 rfl (lv_at hl 0 rfl) ?_
        refine lv_iload_n hx hb dX3_tell_49 rfl (lv_at hl 1 rfl) ?_
        obtain ⟨r10, σ10, hg9, h⟩ := ob2 h
        refine cVi X (hml.trans hl.1.symm) Y (c_fX3_bankerTells l D g ad σ n v1 hg9) (lkX g ad σ) rfl (gs_X3_195 _) rfl fd_X3_bankerTells ⟨Nat.le_of_ble_eq_true rfl, Nat.le_of_ble_eq_true rfl⟩ ⟨Nat.le_of_ble_eq_true rfl, Nat.le_of_ble_eq_true rfl⟩ (rest := []) rfl (Nat.le_of_ble_eq_true rfl) dX3_tell_50 (fun H locs Y => ?_)
        obtain ⟨rfl, rfl⟩ := os2 h
        exact retI X Y hr hlk dX3_tell_53
      · replace h := oe c8 h
        refine lv_lookup (tgt := 60) (off := 38) hx hb dX3_tell_22 (by decide) (by rw [lv_osw c5 (show (1 : Int32).toInt = 1 by decide), lv_osw c8 (show (2 : Int32).toInt = 2 by decide)]; rfl) (by decide) ?_
        refine lv_aload_n hx hb dX3_tell_60 rfl (lv_at hl 0 rfl) ?_
        refine lv_iload_n hx hb dX3_tell_61 rfl (lv_at hl 1 rfl) ?_
        obtain ⟨r12, σ12, hg11, h⟩ := ob2 h
        refine cVi X (hml.trans hl.1.symm) Y (c_fX3_riderTells l D g ad σ n v1 hg11) (lkX g ad σ) rfl (gs_X3_201 _) rfl fd_X3_riderTells ⟨Nat.le_of_ble_eq_true rfl, Nat.le_of_ble_eq_true rfl⟩ ⟨Nat.le_of_ble_eq_true rfl, Nat.le_of_ble_eq_true rfl⟩ (rest := []) rfl (Nat.le_of_ble_eq_true rfl) dX3_tell_62 (fun H locs Y => ?_)
        obtain ⟨rfl, rfl⟩ := os2 h
        exact retI X Y hr hlk dX3_tell_65
  · replace h := ot c3 h
    refine lv_iconst (v := (-1)) hx hb dX3_tell_11 (by decide) ?_
    obtain ⟨rfl, rfl⟩ := os2 h
    exact retI X Y hr hlk dX3_tell_12
set_option maxHeartbeats 4000000 in
set_option maxRecDepth 100000 in
theorem c_fX3_bankerIsHailed (l : Launch) (D : va_G) (g : Nat → ClassId) (ad : Nat → Nat) (σ : St) {r0 : Int32} {σ0 : St} (h : fX3_bankerIsHailed σ = some (r0, σ0)) : MI l yX3_bankerIsHailed kX3_bankerIsHailed 1 21 D g (WC g ad σ) (WC g ad σ0) [.ref (ad 0)] r0 := by
  intro sz
  refine Met.of2 (Qc := fun A => QI D g A (WC g ad σ0) r0) (cc := cX3_bankerIsHailed) (maxL := 1) (ret := (some .int)) (own := RX3) (by decide) rfl rfl (Nat.le_of_ble_eq_true rfl) ?_
  intro p e s m below meth c A ls X hr hlk hml Y hl
  have hx := X.1
  have hb := X.2.1
  have hl : lv_has ls 1 [(0, .ref (ad 0))] := hl
  rw [fX3_bankerIsHailed] at h
  refine lv_aload_n hx hb dX3_bankerIsHailed_0 rfl (lv_at hl 0 rfl) ?_
  refine lv_iconst (v := 5) hx hb dX3_bankerIsHailed_1 (by decide) ?_
  obtain ⟨σ2, hg1, h⟩ := ob h
  refine cVv X (hml.trans hl.1.symm) Y (c_fX3_leaveTrace l D g ad σ 5 hg1) (lkX g ad σ) rfl (gs_X3_219 _) rfl fd_X3_leaveTrace ⟨Nat.le_of_ble_eq_true rfl, Nat.le_of_ble_eq_true rfl⟩ ⟨Nat.le_of_ble_eq_true rfl, Nat.le_of_ble_eq_true rfl⟩ (rest := []) rfl (Nat.le_of_ble_eq_true rfl) dX3_bankerIsHailed_2 (fun H locs Y => ?_)
  refine lv_bipush (v := 40) hx hb dX3_bankerIsHailed_5 (by decide) ?_
  obtain ⟨rfl, rfl⟩ := os2 h
  exact retI X Y hr hlk dX3_bankerIsHailed_7
set_option maxHeartbeats 4000000 in
set_option maxRecDepth 100000 in
theorem c_fX3_lentHail (l : Launch) (D : va_G) (g : Nat → ClassId) (ad : Nat → Nat) (σ : St) (v1 : Int32) {r0 : Int32} {σ0 : St} (h : fX3_lentHail σ v1 = some (r0, σ0)) : MI l yX3_lentHail kX3_lentHail 1 21 D g (WC g ad σ) (WC g ad σ0) [.ref (ad 0), .int v1] r0 := by
  intro sz
  refine Met.of2 (Qc := fun A => QI D g A (WC g ad σ0) r0) (cc := cX3_lentHail) (maxL := 2) (ret := (some .int)) (own := RX3) (by decide) rfl rfl (Nat.le_of_ble_eq_true rfl) ?_
  intro p e s m below meth c A ls X hr hlk hml Y hl
  have hx := X.1
  have hb := X.2.1
  have hl : lv_has ls 2 [(0, .ref (ad 0)), (1, .int v1)] := hl
  rw [fX3_lentHail] at h
  refine lv_aload_n hx hb dX3_lentHail_0 rfl (lv_at hl 0 rfl) ?_
  refine lv_iconst (v := 4) hx hb dX3_lentHail_1 (by decide) ?_
  obtain ⟨σ2, hg1, h⟩ := ob h
  refine cVv X (hml.trans hl.1.symm) Y (c_fX3_leaveTrace l D g ad σ 4 hg1) (lkX g ad σ) rfl (gs_X3_219 _) rfl fd_X3_leaveTrace ⟨Nat.le_of_ble_eq_true rfl, Nat.le_of_ble_eq_true rfl⟩ ⟨Nat.le_of_ble_eq_true rfl, Nat.le_of_ble_eq_true rfl⟩ (rest := []) rfl (Nat.le_of_ble_eq_true rfl) dX3_lentHail_2 (fun H locs Y => ?_)
  refine lv_iload_n hx hb dX3_lentHail_5 rfl (lv_at hl 1 rfl) ?_
  obtain ⟨rfl, rfl⟩ := os2 h
  exact retI X Y hr hlk dX3_lentHail_6
set_option maxHeartbeats 4000000 in
set_option maxRecDepth 100000 in
theorem c_fX3_hail (l : Launch) (D : va_G) (g : Nat → ClassId) (ad : Nat → Nat) (σ : St) (v1 : Int32) {r0 : Int32} {σ0 : St} (h : fX3_hail σ v1 = some (r0, σ0)) : MI l yX3_hail kX3_hail 2 42 D g (WC g ad σ) (WC g ad σ0) [.ref (ad 0), .int v1] r0 := by
  intro sz
  refine Met.of2 (Qc := fun A => QI D g A (WC g ad σ0) r0) (cc := cX3_hail) (maxL := 2) (ret := (some .int)) (own := RX3) (by decide) rfl rfl (Nat.le_of_ble_eq_true rfl) ?_
  intro p e s m below meth c A ls X hr hlk hml Y hl
  have hx := X.1
  have hb := X.2.1
  have hl : lv_has ls 2 [(0, .ref (ad 0)), (1, .int v1)] := hl
  rw [fX3_hail] at h
  refine lv_aload_n hx hb dX3_hail_0 rfl (lv_at hl 0 rfl) ?_
  refine rgX X Y 1 (v := .ref (ad 10)) tw_129 rfl dX3_hail_1 ?_
  refine lv_iload_n hx hb dX3_hail_4 rfl (lv_at hl 1 rfl) ?_
  obtain ⟨r2, hg1, h⟩ := ob h
  refine cVi X (hml.trans hl.1.symm) Y (c_fX0_isPerson l D g ad σ v1 hg1) (lkR g ad σ) rfl (gs_X3_60 _) rfl fd_X0_isPerson ⟨Nat.le_of_ble_eq_true rfl, Nat.le_of_ble_eq_true rfl⟩ ⟨Nat.le_of_ble_eq_true rfl, Nat.le_of_ble_eq_true rfl⟩ (rest := []) rfl (Nat.le_of_ble_eq_true rfl) dX3_hail_5 (fun H locs Y => ?_)
  refine lv_if_ne (tgt := 13) hx hb dX3_hail_8 (by decide) (fun c3 => ?_) (fun c3 => ?_)
  · replace h := oe c3 h
    refine lv_aload_n hx hb dX3_hail_13 rfl (lv_at hl 0 rfl) ?_
    refine rgX X Y 1 (v := .ref (ad 10)) tw_129 rfl dX3_hail_14 ?_
    refine rgR X Y 4 (v := .ref (ad 11)) tw_66 rfl dX3_hail_17 ?_
    refine lv_iload_n hx hb dX3_hail_20 rfl (lv_at hl 1 rfl) ?_
    obtain ⟨hg4, h⟩ := og h
    refine ri X Y (lkC_11 g ad σ) hg4 dX3_hail_21 ?_
    refine lv_iconst (v := 2) hx hb dX3_hail_22 (by decide) ?_
    refine lv_icmp_ne (tgt := 33) hx hb dX3_hail_23 (by decide) (fun c5 => ?_) (fun c5 => ?_)
    · replace h := oe c5 h
      refine lv_aload_n hx hb dX3_hail_33 rfl (lv_at hl 0 rfl) ?_
      refine lv_iload_n hx hb dX3_hail_34 rfl (lv_at hl 1 rfl) ?_
      obtain ⟨r7, σ7, hg6, h⟩ := ob2 h
      refine cVi X (hml.trans hl.1.symm) Y (c_fX3_lentHail l D g ad σ v1 hg6) (lkX g ad σ) rfl (gs_X3_207 _) rfl fd_X3_lentHail ⟨Nat.le_of_ble_eq_true rfl, Nat.le_of_ble_eq_true rfl⟩ ⟨Nat.le_of_ble_eq_true rfl, Nat.le_of_ble_eq_true rfl⟩ (rest := []) rfl (Nat.le_of_ble_eq_true rfl) dX3_hail_35 (fun H locs Y => ?_)
      obtain ⟨rfl, rfl⟩ := os2 h
      exact retI X Y hr hlk dX3_hail_38
    · replace h := ot c5 h
      refine lv_aload_n hx hb dX3_hail_26 rfl (lv_at hl 0 rfl) ?_
      obtain ⟨r9, σ9, hg8, h⟩ := ob2 h
      refine cVi X (hml.trans hl.1.symm) Y (c_fX3_bankerIsHailed l D g ad σ hg8) (lkX g ad σ) rfl (gs_X3_204 _) rfl fd_X3_bankerIsHailed ⟨Nat.le_of_ble_eq_true rfl, Nat.le_of_ble_eq_true rfl⟩ ⟨Nat.le_of_ble_eq_true rfl, Nat.le_of_ble_eq_true rfl⟩ (rest := []) rfl (Nat.le_of_ble_eq_true rfl) dX3_hail_27 (fun H locs Y => ?_)
      refine lv_goto (tgt := 38) hx hb dX3_hail_30 (by decide) ?_
      obtain ⟨rfl, rfl⟩ := os2 h
      exact retI X Y hr hlk dX3_hail_38
  · replace h := ot c3 h
    refine lv_iconst (v := (-1)) hx hb dX3_hail_11 (by decide) ?_
    obtain ⟨rfl, rfl⟩ := os2 h
    exact retI X Y hr hlk dX3_hail_12
set_option maxHeartbeats 4000000 in
set_option maxRecDepth 100000 in
theorem c_fX3_as (l : Launch) (D : va_G) (g : Nat → ClassId) (ad : Nat → Nat) (σ : St) (v1 : Int32) (v2 : Int32) {r0 : Int32} {σ0 : St} (h : fX3_as σ v1 v2 = some (r0, σ0)) : MI l yX3_as kX3_as 1 21 D g (WC g ad σ) (WC g ad σ0) [.ref (ad 0), .int v1, .int v2] r0 := by
  intro sz
  refine Met.of2 (Qc := fun A => QI D g A (WC g ad σ0) r0) (cc := cX3_as) (maxL := 3) (ret := (some .int)) (own := RX3) (by decide) rfl rfl (Nat.le_of_ble_eq_true rfl) ?_
  intro p e s m below meth c A ls X hr hlk hml Y hl
  have hx := X.1
  have hb := X.2.1
  have hl : lv_has ls 3 [(0, .ref (ad 0)), (1, .int v1), (2, .int v2)] := hl
  rw [fX3_as] at h
  refine lv_aload_n hx hb dX3_as_0 rfl (lv_at hl 0 rfl) ?_
  refine lv_iconst (v := 0) hx hb dX3_as_1 (by decide) ?_
  refine rpX X Y 3 (v := 0) tw_131 rfl rfl rfl (stX_3 g ad σ 0) dX3_as_2 (fun H locs Y => ?_)
  refine lv_aload_n hx hb dX3_as_5 rfl (lv_at hl 0 rfl) ?_
  refine rgX X Y 1 (v := .ref (ad 10)) tw_129 rfl dX3_as_6 ?_
  refine lv_iload_n hx hb dX3_as_9 rfl (lv_at hl 1 rfl) ?_
  obtain ⟨r2, hg1, h⟩ := ob h
  refine cVi X (hml.trans hl.1.symm) Y (c_fX0_isPerson l D g ad (up2 σ 0 3 0) v1 hg1) (lkR g ad (up2 σ 0 3 0)) rfl (gs_X3_60 _) rfl fd_X0_isPerson ⟨Nat.le_of_ble_eq_true rfl, Nat.le_of_ble_eq_true rfl⟩ ⟨Nat.le_of_ble_eq_true rfl, Nat.le_of_ble_eq_true rfl⟩ (rest := []) rfl (Nat.le_of_ble_eq_true rfl) dX3_as_10 (fun H locs Y => ?_)
  refine lv_if_ne (tgt := 18) hx hb dX3_as_13 (by decide) (fun c3 => ?_) (fun c3 => ?_)
  · replace h := oe c3 h
    refine lv_iload_n hx hb dX3_as_18 rfl (lv_at hl 2 rfl) ?_
    refine lv_if_lt (tgt := 27) hx hb dX3_as_19 (by decide) (fun c4 => ?_) (fun c4 => ?_)
    · replace h := ot c4 h
      refine lv_bipush (v := (-2)) hx hb dX3_as_27 (by decide) ?_
      obtain ⟨rfl, rfl⟩ := os2 h
      exact retI X Y hr hlk dX3_as_29
    · replace h := oe c4 h
      refine lv_iload_n hx hb dX3_as_22 rfl (lv_at hl 2 rfl) ?_
      refine lv_iconst (v := 2) hx hb dX3_as_23 (by decide) ?_
      refine lv_icmp_le (tgt := 30) hx hb dX3_as_24 (by decide) (fun c5 => ?_) (fun c5 => ?_)
      · replace h := ot c5 h
        refine lv_aload_n hx hb dX3_as_30 rfl (lv_at hl 0 rfl) ?_
        refine rgX X Y 1 (v := .ref (ad 10)) tw_129 rfl dX3_as_31 ?_
        refine rgR X Y 4 (v := .ref (ad 11)) tw_66 rfl dX3_as_34 ?_
        refine lv_iload_n hx hb dX3_as_37 rfl (lv_at hl 1 rfl) ?_
        obtain ⟨hg6, h⟩ := og h
        refine ri X Y (lkC_11 g ad (up2 σ 0 3 0)) hg6 dX3_as_38 ?_
        refine lv_iload_n hx hb dX3_as_39 rfl (lv_at hl 2 rfl) ?_
        refine lv_icmp_ge (tgt := 51) hx hb dX3_as_40 (by decide) (fun c7 => ?_) (fun c7 => ?_)
        · replace h := ot c7 h
          refine lv_iconst (v := 1) hx hb dX3_as_51 (by decide) ?_
          obtain ⟨rfl, rfl⟩ := os2 h
          exact retI X Y hr hlk dX3_as_52
        · replace h := oe c7 h
          refine lv_aload_n hx hb dX3_as_43 rfl (lv_at hl 0 rfl) ?_
          refine lv_iconst (v := 2) hx hb dX3_as_44 (by decide) ?_
          obtain ⟨r9, σ9, hg8, h⟩ := ob2 h
          refine cVi X (hml.trans hl.1.symm) Y (c_fX3_faulted l D g ad (up2 σ 0 3 0) 2 hg8) (lkX g ad (up2 σ 0 3 0)) rfl (gs_X3_44 _) rfl fd_X3_faulted ⟨Nat.le_of_ble_eq_true rfl, Nat.le_of_ble_eq_true rfl⟩ ⟨Nat.le_of_ble_eq_true rfl, Nat.le_of_ble_eq_true rfl⟩ (rest := []) rfl (Nat.le_of_ble_eq_true rfl) dX3_as_45 (fun H locs Y => ?_)
          refine lv_goto (tgt := 52) hx hb dX3_as_48 (by decide) ?_
          obtain ⟨rfl, rfl⟩ := os2 h
          exact retI X Y hr hlk dX3_as_52
      · replace h := oe c5 h
        refine lv_bipush (v := (-2)) hx hb dX3_as_27 (by decide) ?_
        obtain ⟨rfl, rfl⟩ := os2 h
        exact retI X Y hr hlk dX3_as_29
  · replace h := ot c3 h
    refine lv_iconst (v := (-1)) hx hb dX3_as_16 (by decide) ?_
    obtain ⟨rfl, rfl⟩ := os2 h
    exact retI X Y hr hlk dX3_as_17
set_option maxHeartbeats 4000000 in
set_option maxRecDepth 100000 in
theorem c_fX3_trace (l : Launch) (D : va_G) (g : Nat → ClassId) (ad : Nat → Nat) (σ : St) {r0 : Int32} (h : fX3_trace σ = some r0) : MI l yX3_trace kX3_trace 0 0 D g (WC g ad σ) (WC g ad σ) [.ref (ad 0)] r0 := by
  intro sz
  refine Met.of2 (Qc := fun A => QI D g A (WC g ad σ) r0) (cc := cX3_trace) (maxL := 1) (ret := (some .int)) (own := RX3) (by decide) rfl rfl (Nat.le_of_ble_eq_true rfl) ?_
  intro p e s m below meth c A ls X hr hlk hml Y hl
  have hx := X.1
  have hb := X.2.1
  have hl : lv_has ls 1 [(0, .ref (ad 0))] := hl
  rw [fX3_trace] at h
  refine lv_aload_n hx hb dX3_trace_0 rfl (lv_at hl 0 rfl) ?_
  refine rgX X Y 2 (v := .int (σ 0 2)) tw_130 rfl dX3_trace_1 ?_
  obtain rfl := os1 h
  exact retI X Y hr hlk dX3_trace_4
set_option maxHeartbeats 4000000 in
set_option maxRecDepth 100000 in
theorem c_fX3_fault (l : Launch) (D : va_G) (g : Nat → ClassId) (ad : Nat → Nat) (σ : St) {r0 : Int32} (h : fX3_fault σ = some r0) : MI l yX3_fault kX3_fault 0 0 D g (WC g ad σ) (WC g ad σ) [.ref (ad 0)] r0 := by
  intro sz
  refine Met.of2 (Qc := fun A => QI D g A (WC g ad σ) r0) (cc := cX3_fault) (maxL := 1) (ret := (some .int)) (own := RX3) (by decide) rfl rfl (Nat.le_of_ble_eq_true rfl) ?_
  intro p e s m below meth c A ls X hr hlk hml Y hl
  have hx := X.1
  have hb := X.2.1
  have hl : lv_has ls 1 [(0, .ref (ad 0))] := hl
  rw [fX3_fault] at h
  refine lv_aload_n hx hb dX3_fault_0 rfl (lv_at hl 0 rfl) ?_
  refine rgX X Y 3 (v := .int (σ 0 3)) tw_131 rfl dX3_fault_1 ?_
  obtain rfl := os1 h
  exact retI X Y hr hlk dX3_fault_4
set_option maxHeartbeats 4000000 in
set_option maxRecDepth 100000 in
theorem c_fX3_many (l : Launch) (D : va_G) (g : Nat → ClassId) (ad : Nat → Nat) (σ : St) (v1 : Int32) {r0 : Int32} (h : fX3_many σ v1 = some r0) : MI l yX3_many kX3_many 0 0 D g (WC g ad σ) (WC g ad σ) [.ref (ad 0), .int v1] r0 := by
  intro sz
  refine Met.of2 (Qc := fun A => QI D g A (WC g ad σ) r0) (cc := cX3_many) (maxL := 2) (ret := (some .int)) (own := RX3) (by decide) rfl rfl (Nat.le_of_ble_eq_true rfl) ?_
  intro p e s m below meth c A ls X hr hlk hml Y hl
  have hx := X.1
  have hb := X.2.1
  have hl : lv_has ls 2 [(0, .ref (ad 0)), (1, .int v1)] := hl
  rw [fX3_many] at h
  refine lv_iload_n hx hb dX3_many_0 rfl (lv_at hl 1 rfl) ?_
  by_cases c1 : v1 = 0
  · replace h := ot c1 h
    refine lv_tableIn (tgt := 32) (off := 31) hx hb dX3_many_1 (by rw [c1]; decide) (by rw [c1]; decide) (by rw [c1]; rfl) (by decide) ?_
    refine lv_aload_n hx hb dX3_many_32 rfl (lv_at hl 0 rfl) ?_
    refine rgX X Y 1 (v := .ref (ad 10)) tw_129 rfl dX3_many_33 ?_
    refine rgR X Y 0 (v := .int (σ 10 0)) tw_58 rfl dX3_many_36 ?_
    obtain rfl := os1 h
    exact retI X Y hr hlk dX3_many_39
  · replace h := oe c1 h
    by_cases c2 : v1 = 1
    · replace h := ot c2 h
      refine lv_tableIn (tgt := 40) (off := 39) hx hb dX3_many_1 (by rw [c2]; decide) (by rw [c2]; decide) (by rw [c2]; rfl) (by decide) ?_
      refine lv_aload_n hx hb dX3_many_40 rfl (lv_at hl 0 rfl) ?_
      refine rgX X Y 1 (v := .ref (ad 10)) tw_129 rfl dX3_many_41 ?_
      refine rgR X Y 1 (v := .int (σ 10 1)) tw_60 rfl dX3_many_44 ?_
      obtain rfl := os1 h
      exact retI X Y hr hlk dX3_many_47
    · replace h := oe c2 h
      by_cases c3 : v1 = 2
      · replace h := ot c3 h
        refine lv_tableIn (tgt := 48) (off := 47) hx hb dX3_many_1 (by rw [c3]; decide) (by rw [c3]; decide) (by rw [c3]; rfl) (by decide) ?_
        refine lv_aload_n hx hb dX3_many_48 rfl (lv_at hl 0 rfl) ?_
        refine rgX X Y 1 (v := .ref (ad 10)) tw_129 rfl dX3_many_49 ?_
        refine rgR X Y 2 (v := .int (σ 10 2)) tw_61 rfl dX3_many_52 ?_
        obtain rfl := os1 h
        exact retI X Y hr hlk dX3_many_55
      · replace h := oe c3 h
        by_cases c4 : v1 = 3
        · replace h := ot c4 h
          refine lv_tableIn (tgt := 56) (off := 55) hx hb dX3_many_1 (by rw [c4]; decide) (by rw [c4]; decide) (by rw [c4]; rfl) (by decide) ?_
          refine lv_aload_n hx hb dX3_many_56 rfl (lv_at hl 0 rfl) ?_
          refine rgX X Y 1 (v := .ref (ad 10)) tw_129 rfl dX3_many_57 ?_
          refine rgR X Y 6 (v := .int (σ 10 6)) tw_70 rfl dX3_many_60 ?_
          obtain rfl := os1 h
          exact retI X Y hr hlk dX3_many_63
        · replace h := oe c4 h
          refine lv_tableOut (tgt := 64) hx hb dX3_many_1 (by have q0 := lv_neT c1 (show (0 : Int32).toInt = 0 by decide); have q1 := lv_neT c2 (show (1 : Int32).toInt = 1 by decide); have q2 := lv_neT c3 (show (2 : Int32).toInt = 2 by decide); have q3 := lv_neT c4 (show (3 : Int32).toInt = 3 by decide); omega) (by decide) ?_
          refine lv_bipush (v := (-2)) hx hb dX3_many_64 (by decide) ?_
          obtain rfl := os1 h
          exact retI X Y hr hlk dX3_many_66
set_option maxHeartbeats 4000000 in
set_option maxRecDepth 100000 in
theorem c_fX4_fails (l : Launch) (D : va_G) (g : Nat → ClassId) (ad : Nat → Nat) (σ : St) (v1 : Int32) {r0 : Int32} {σ0 : St} (h : fX4_fails σ v1 = some (r0, σ0)) : MI l yX4_fails kX4_fails 0 0 D g (WM g ad σ) (WM g ad σ0) [.ref (ad 0), .int v1] r0 := by
  intro sz
  refine Met.of2 (Qc := fun A => QI D g A (WM g ad σ0) r0) (cc := cX4_fails) (maxL := 2) (ret := (some .int)) (own := RX4) (by decide) rfl rfl (Nat.le_of_ble_eq_true rfl) ?_
  intro p e s m below meth c A ls X hr hlk hml Y hl
  have hx := X.1
  have hb := X.2.1
  have hl : lv_has ls 2 [(0, .ref (ad 0)), (1, .int v1)] := hl
  rw [fX4_fails] at h
  refine lv_aload_n hx hb dX4_fails_0 rfl (lv_at hl 0 rfl) ?_
  refine lv_iload_n hx hb dX4_fails_1 rfl (lv_at hl 1 rfl) ?_
  refine rpM X Y 0 (v := v1) tw_469 rfl rfl rfl (stM_0 g ad σ v1) dX4_fails_2 (fun H locs Y => ?_)
  refine lv_bipush (v := (-10)) hx hb dX4_fails_5 (by decide) ?_
  refine lv_iload_n hx hb dX4_fails_7 rfl (lv_at hl 1 rfl) ?_
  refine lv_isub hx hb dX4_fails_8 ?_
  obtain ⟨rfl, rfl⟩ := os2 h
  exact retI X Y hr hlk dX4_fails_9
set_option maxHeartbeats 4000000 in
set_option maxRecDepth 100000 in
theorem c_fX4_lost (l : Launch) (D : va_G) (g : Nat → ClassId) (ad : Nat → Nat) (σ : St) (v1 : Int32) {r0 : Int64} {σ0 : St} (h : fX4_lost σ v1 = some (r0, σ0)) : ML l yX4_lost kX4_lost 0 0 D g (WM g ad σ) (WM g ad σ0) [.ref (ad 0), .int v1] r0 := by
  intro sz
  refine Met.of2 (Qc := fun A => QL D g A (WM g ad σ0) r0) (cc := cX4_lost) (maxL := 2) (ret := (some .long)) (own := RX4) (by decide) rfl rfl (Nat.le_of_ble_eq_true rfl) ?_
  intro p e s m below meth c A ls X hr hlk hml Y hl
  have hx := X.1
  have hb := X.2.1
  have hl : lv_has ls 2 [(0, .ref (ad 0)), (1, .int v1)] := hl
  rw [fX4_lost] at h
  refine lv_aload_n hx hb dX4_lost_0 rfl (lv_at hl 0 rfl) ?_
  refine lv_iload_n hx hb dX4_lost_1 rfl (lv_at hl 1 rfl) ?_
  refine rpM X Y 0 (v := v1) tw_469 rfl rfl rfl (stM_0 g ad σ v1) dX4_lost_2 (fun H locs Y => ?_)
  refine lv_ldc2 (v := (-9223372036854775808)) hx hb X.2.2.1 (X.tb tw_728) dX4_lost_5 ?_
  obtain ⟨rfl, rfl⟩ := os2 h
  exact retL X Y hr hlk dX4_lost_8
set_option maxHeartbeats 4000000 in
set_option maxRecDepth 100000 in
theorem c_fX4_within (l : Launch) (D : va_G) (g : Nat → ClassId) (W0 : va_W) (v0 : Int32) (v1 : Int32) (v2 : Int32) {r0 : Int32} (h : fX4_within v0 v1 v2 = some r0) : MI l yX4_within kX4_within 0 0 D g (W0) (W0) [.int v0, .int v1, .int v2] r0 := by
  intro sz
  refine Met.of2 (Qc := fun A => QI D g A (W0) r0) (cc := cX4_within) (maxL := 3) (ret := (some .boolean)) (own := RX4) (by decide) rfl rfl (Nat.le_of_ble_eq_true rfl) ?_
  intro p e s m below meth c A ls X hr hlk hml Y hl
  have hx := X.1
  have hb := X.2.1
  have hl : lv_has ls 3 [(0, .int v0), (1, .int v1), (2, .int v2)] := hl
  rw [fX4_within] at h
  refine lv_iload_n hx hb dX4_within_0 rfl (lv_at hl 0 rfl) ?_
  refine lv_iload_n hx hb dX4_within_1 rfl (lv_at hl 1 rfl) ?_
  refine lv_icmp_lt (tgt := 14) hx hb dX4_within_2 (by decide) (fun c1 => ?_) (fun c1 => ?_)
  · replace h := ot c1 h
    refine lv_iconst (v := 0) hx hb dX4_within_14 (by decide) ?_
    obtain rfl := os1 h
    exact retZ X Y hr hlk rfl dX4_within_15
  · replace h := oe c1 h
    refine lv_iload_n hx hb dX4_within_5 rfl (lv_at hl 0 rfl) ?_
    refine lv_iload_n hx hb dX4_within_6 rfl (lv_at hl 2 rfl) ?_
    refine lv_icmp_gt (tgt := 14) hx hb dX4_within_7 (by decide) (fun c2 => ?_) (fun c2 => ?_)
    · replace h := ot c2 h
      refine lv_iconst (v := 0) hx hb dX4_within_14 (by decide) ?_
      obtain rfl := os1 h
      exact retZ X Y hr hlk rfl dX4_within_15
    · replace h := oe c2 h
      refine lv_iconst (v := 1) hx hb dX4_within_10 (by decide) ?_
      refine lv_goto (tgt := 15) hx hb dX4_within_11 (by decide) ?_
      obtain rfl := os1 h
      exact retZ X Y hr hlk rfl dX4_within_15
set_option maxHeartbeats 4000000 in
set_option maxRecDepth 100000 in
theorem c_fX4_isSheet (l : Launch) (D : va_G) (g : Nat → ClassId) (W0 : va_W) (v0 : Int32) {r0 : Int32} (h : fX4_isSheet v0 = some r0) : MI l yX4_isSheet kX4_isSheet 1 22 D g (W0) (W0) [.int v0] r0 := by
  intro sz
  refine Met.of2 (Qc := fun A => QI D g A (W0) r0) (cc := cX4_isSheet) (maxL := 1) (ret := (some .boolean)) (own := RX4) (by decide) rfl rfl (Nat.le_of_ble_eq_true rfl) ?_
  intro p e s m below meth c A ls X hr hlk hml Y hl
  have hx := X.1
  have hb := X.2.1
  have hl : lv_has ls 1 [(0, .int v0)] := hl
  rw [fX4_isSheet] at h
  refine lv_iload_n hx hb dX4_isSheet_0 rfl (lv_at hl 0 rfl) ?_
  refine lv_iconst (v := 0) hx hb dX4_isSheet_1 (by decide) ?_
  refine lv_iconst (v := 3) hx hb dX4_isSheet_2 (by decide) ?_
  obtain ⟨r2, hg1, h⟩ := ob h
  refine cSi X (hml.trans hl.1.symm) Y (c_fX4_within l D g W0 v0 0 3 hg1) (gs_X4_55 _) rfl fd_X4_within ⟨Nat.le_of_ble_eq_true rfl, Nat.le_of_ble_eq_true rfl⟩ ⟨Nat.le_of_ble_eq_true rfl, Nat.le_of_ble_eq_true rfl⟩ (rest := []) rfl (Nat.le_of_ble_eq_true rfl) dX4_isSheet_3 (fun H locs Y => ?_)
  obtain rfl := os1 h
  exact retZ X Y hr hlk (bz_fX4_within hg1) dX4_isSheet_6
set_option maxHeartbeats 4000000 in
set_option maxRecDepth 100000 in
theorem c_fX4_isSort (l : Launch) (D : va_G) (g : Nat → ClassId) (W0 : va_W) (v0 : Int32) {r0 : Int32} (h : fX4_isSort v0 = some r0) : MI l yX4_isSort kX4_isSort 1 22 D g (W0) (W0) [.int v0] r0 := by
  intro sz
  refine Met.of2 (Qc := fun A => QI D g A (W0) r0) (cc := cX4_isSort) (maxL := 1) (ret := (some .boolean)) (own := RX4) (by decide) rfl rfl (Nat.le_of_ble_eq_true rfl) ?_
  intro p e s m below meth c A ls X hr hlk hml Y hl
  have hx := X.1
  have hb := X.2.1
  have hl : lv_has ls 1 [(0, .int v0)] := hl
  rw [fX4_isSort] at h
  refine lv_iload_n hx hb dX4_isSort_0 rfl (lv_at hl 0 rfl) ?_
  refine lv_iconst (v := 0) hx hb dX4_isSort_1 (by decide) ?_
  refine lv_iconst (v := 2) hx hb dX4_isSort_2 (by decide) ?_
  obtain ⟨r2, hg1, h⟩ := ob h
  refine cSi X (hml.trans hl.1.symm) Y (c_fX4_within l D g W0 v0 0 2 hg1) (gs_X4_55 _) rfl fd_X4_within ⟨Nat.le_of_ble_eq_true rfl, Nat.le_of_ble_eq_true rfl⟩ ⟨Nat.le_of_ble_eq_true rfl, Nat.le_of_ble_eq_true rfl⟩ (rest := []) rfl (Nat.le_of_ble_eq_true rfl) dX4_isSort_3 (fun H locs Y => ?_)
  obtain rfl := os1 h
  exact retZ X Y hr hlk (bz_fX4_within hg1) dX4_isSort_6
set_option maxHeartbeats 4000000 in
set_option maxRecDepth 100000 in
theorem c_fX4_against (l : Launch) (D : va_G) (g : Nat → ClassId) (ad : Nat → Nat) (σ : St) (v1 : Int32) (v2 : Int32) (v3 : Int32) (v4 : Int32) {r0 : Int32} (h : fX4_against σ v1 v2 v3 v4 = some r0) : MI l yX4_against kX4_against 0 0 D g (WM g ad σ) (WM g ad σ) [.ref (ad 0), .int v1, .int v2, .int v3, .int v4] r0 := by
  intro sz
  refine Met.of2 (Qc := fun A => QI D g A (WM g ad σ) r0) (cc := cX4_against) (maxL := 5) (ret := (some .int)) (own := RX4) (by decide) rfl rfl (Nat.le_of_ble_eq_true rfl) ?_
  intro p e s m below meth c A ls X hr hlk hml Y hl
  have hx := X.1
  have hb := X.2.1
  have hl : lv_has ls 5 [(0, .ref (ad 0)), (1, .int v1), (2, .int v2), (3, .int v3), (4, .int v4)] := hl
  rw [fX4_against] at h
  refine lv_aload_n hx hb dX4_against_0 rfl (lv_at hl 0 rfl) ?_
  refine rgM X Y 2 (v := .ref (ad 1)) tw_471 rfl dX4_against_1 ?_
  refine lv_iload_n hx hb dX4_against_4 rfl (lv_at hl 1 rfl) ?_
  obtain ⟨hg1, h⟩ := og h
  refine ri X Y (lkM_1 g ad σ) hg1 dX4_against_5 ?_
  refine lv_bipush (v := (-9)) hx hb dX4_against_6 (by decide) ?_
  refine lv_icmp_eq (tgt := 23) hx hb dX4_against_8 (by decide) (fun c2 => ?_) (fun c2 => ?_)
  · replace h := ot c2 h
    refine lv_aload_n hx hb dX4_against_23 rfl (lv_at hl 0 rfl) ?_
    refine rgM X Y 2 (v := .ref (ad 1)) tw_471 rfl dX4_against_24 ?_
    refine lv_iload_n hx hb dX4_against_27 rfl (lv_at hl 1 rfl) ?_
    obtain ⟨hg3, h⟩ := og h
    refine ri X Y (lkM_1 g ad σ) hg3 dX4_against_28 ?_
    refine lv_bipush (v := (-9)) hx hb dX4_against_29 (by decide) ?_
    refine lv_icmp_ne (tgt := 36) hx hb dX4_against_31 (by decide) (fun c4 => ?_) (fun c4 => ?_)
    · replace h := oe c4 h
      refine lv_iload hx hb dX4_against_36 (lv_at hl 4 rfl) ?_
      refine lv_if_ge (tgt := 43) hx hb dX4_against_38 (by decide) (fun c5 => ?_) (fun c5 => ?_)
      · replace h := ot c5 h
        refine lv_iload_n hx hb dX4_against_43 rfl (lv_at hl 3 rfl) ?_
        refine lv_if_lt (tgt := 70) hx hb dX4_against_44 (by decide) (fun c6 => ?_) (fun c6 => ?_)
        · replace h := ot c6 h
          refine lv_iconst (v := 3) hx hb dX4_against_70 (by decide) ?_
          refine lv_goto (tgt := 75) hx hb dX4_against_71 (by decide) ?_
          obtain rfl := os1 h
          exact retI X Y hr hlk dX4_against_75
        · replace h := oe c6 h
          refine lv_iload_n hx hb dX4_against_47 rfl (lv_at hl 3 rfl) ?_
          refine lv_aload_n hx hb dX4_against_48 rfl (lv_at hl 0 rfl) ?_
          refine rgM X Y 3 (v := .ref (ad 2)) tw_472 rfl dX4_against_49 ?_
          refine lv_iload_n hx hb dX4_against_52 rfl (lv_at hl 1 rfl) ?_
          obtain ⟨hg7, h⟩ := og h
          refine ri X Y (lkM_2 g ad σ) hg7 dX4_against_53 ?_
          refine lv_icmp_gt (tgt := 70) hx hb dX4_against_54 (by decide) (fun c8 => ?_) (fun c8 => ?_)
          · replace h := ot c8 h
            refine lv_iconst (v := 3) hx hb dX4_against_70 (by decide) ?_
            refine lv_goto (tgt := 75) hx hb dX4_against_71 (by decide) ?_
            obtain rfl := os1 h
            exact retI X Y hr hlk dX4_against_75
          · replace h := oe c8 h
            refine lv_iload hx hb dX4_against_57 (lv_at hl 4 rfl) ?_
            refine lv_aload_n hx hb dX4_against_59 rfl (lv_at hl 0 rfl) ?_
            refine rgM X Y 3 (v := .ref (ad 2)) tw_472 rfl dX4_against_60 ?_
            refine lv_iload_n hx hb dX4_against_63 rfl (lv_at hl 1 rfl) ?_
            obtain ⟨hg9, h⟩ := og h
            refine ri X Y (lkM_2 g ad σ) hg9 dX4_against_64 ?_
            refine lv_iload_n hx hb dX4_against_65 rfl (lv_at hl 3 rfl) ?_
            refine lv_isub hx hb dX4_against_66 ?_
            refine lv_icmp_le (tgt := 74) hx hb dX4_against_67 (by decide) (fun c10 => ?_) (fun c10 => ?_)
            · replace h := ot c10 h
              refine lv_iconst (v := 0) hx hb dX4_against_74 (by decide) ?_
              obtain rfl := os1 h
              exact retI X Y hr hlk dX4_against_75
            · replace h := oe c10 h
              refine lv_iconst (v := 3) hx hb dX4_against_70 (by decide) ?_
              refine lv_goto (tgt := 75) hx hb dX4_against_71 (by decide) ?_
              obtain rfl := os1 h
              exact retI X Y hr hlk dX4_against_75
      · replace h := oe c5 h
        refine lv_iconst (v := 4) hx hb dX4_against_41 (by decide) ?_
        obtain rfl := os1 h
        exact retI X Y hr hlk dX4_against_42
    · replace h := ot c4 h
      refine lv_iconst (v := 1) hx hb dX4_against_34 (by decide) ?_
      obtain rfl := os1 h
      exact retI X Y hr hlk dX4_against_35
  · replace h := oe c2 h
    refine lv_aload_n hx hb dX4_against_11 rfl (lv_at hl 0 rfl) ?_
    refine rgM X Y 2 (v := .ref (ad 1)) tw_471 rfl dX4_against_12 ?_
    refine lv_iload_n hx hb dX4_against_15 rfl (lv_at hl 1 rfl) ?_
    obtain ⟨hg11, h⟩ := og h
    refine ri X Y (lkM_1 g ad σ) hg11 dX4_against_16 ?_
    refine lv_iload_n hx hb dX4_against_17 rfl (lv_at hl 2 rfl) ?_
    refine lv_icmp_eq (tgt := 23) hx hb dX4_against_18 (by decide) (fun c12 => ?_) (fun c12 => ?_)
    · replace h := ot c12 h
      refine lv_aload_n hx hb dX4_against_23 rfl (lv_at hl 0 rfl) ?_
      refine rgM X Y 2 (v := .ref (ad 1)) tw_471 rfl dX4_against_24 ?_
      refine lv_iload_n hx hb dX4_against_27 rfl (lv_at hl 1 rfl) ?_
      obtain ⟨hg13, h⟩ := og h
      refine ri X Y (lkM_1 g ad σ) hg13 dX4_against_28 ?_
      refine lv_bipush (v := (-9)) hx hb dX4_against_29 (by decide) ?_
      refine lv_icmp_ne (tgt := 36) hx hb dX4_against_31 (by decide) (fun c14 => ?_) (fun c14 => ?_)
      · replace h := oe c14 h
        refine lv_iload hx hb dX4_against_36 (lv_at hl 4 rfl) ?_
        refine lv_if_ge (tgt := 43) hx hb dX4_against_38 (by decide) (fun c15 => ?_) (fun c15 => ?_)
        · replace h := ot c15 h
          refine lv_iload_n hx hb dX4_against_43 rfl (lv_at hl 3 rfl) ?_
          refine lv_if_lt (tgt := 70) hx hb dX4_against_44 (by decide) (fun c16 => ?_) (fun c16 => ?_)
          · replace h := ot c16 h
            refine lv_iconst (v := 3) hx hb dX4_against_70 (by decide) ?_
            refine lv_goto (tgt := 75) hx hb dX4_against_71 (by decide) ?_
            obtain rfl := os1 h
            exact retI X Y hr hlk dX4_against_75
          · replace h := oe c16 h
            refine lv_iload_n hx hb dX4_against_47 rfl (lv_at hl 3 rfl) ?_
            refine lv_aload_n hx hb dX4_against_48 rfl (lv_at hl 0 rfl) ?_
            refine rgM X Y 3 (v := .ref (ad 2)) tw_472 rfl dX4_against_49 ?_
            refine lv_iload_n hx hb dX4_against_52 rfl (lv_at hl 1 rfl) ?_
            obtain ⟨hg17, h⟩ := og h
            refine ri X Y (lkM_2 g ad σ) hg17 dX4_against_53 ?_
            refine lv_icmp_gt (tgt := 70) hx hb dX4_against_54 (by decide) (fun c18 => ?_) (fun c18 => ?_)
            · replace h := ot c18 h
              refine lv_iconst (v := 3) hx hb dX4_against_70 (by decide) ?_
              refine lv_goto (tgt := 75) hx hb dX4_against_71 (by decide) ?_
              obtain rfl := os1 h
              exact retI X Y hr hlk dX4_against_75
            · replace h := oe c18 h
              refine lv_iload hx hb dX4_against_57 (lv_at hl 4 rfl) ?_
              refine lv_aload_n hx hb dX4_against_59 rfl (lv_at hl 0 rfl) ?_
              refine rgM X Y 3 (v := .ref (ad 2)) tw_472 rfl dX4_against_60 ?_
              refine lv_iload_n hx hb dX4_against_63 rfl (lv_at hl 1 rfl) ?_
              obtain ⟨hg19, h⟩ := og h
              refine ri X Y (lkM_2 g ad σ) hg19 dX4_against_64 ?_
              refine lv_iload_n hx hb dX4_against_65 rfl (lv_at hl 3 rfl) ?_
              refine lv_isub hx hb dX4_against_66 ?_
              refine lv_icmp_le (tgt := 74) hx hb dX4_against_67 (by decide) (fun c20 => ?_) (fun c20 => ?_)
              · replace h := ot c20 h
                refine lv_iconst (v := 0) hx hb dX4_against_74 (by decide) ?_
                obtain rfl := os1 h
                exact retI X Y hr hlk dX4_against_75
              · replace h := oe c20 h
                refine lv_iconst (v := 3) hx hb dX4_against_70 (by decide) ?_
                refine lv_goto (tgt := 75) hx hb dX4_against_71 (by decide) ?_
                obtain rfl := os1 h
                exact retI X Y hr hlk dX4_against_75
        · replace h := oe c15 h
          refine lv_iconst (v := 4) hx hb dX4_against_41 (by decide) ?_
          obtain rfl := os1 h
          exact retI X Y hr hlk dX4_against_42
      · replace h := ot c14 h
        refine lv_iconst (v := 1) hx hb dX4_against_34 (by decide) ?_
        obtain rfl := os1 h
        exact retI X Y hr hlk dX4_against_35
    · replace h := oe c12 h
      refine lv_iconst (v := 2) hx hb dX4_against_21 (by decide) ?_
      obtain rfl := os1 h
      exact retI X Y hr hlk dX4_against_22
set_option maxHeartbeats 4000000 in
set_option maxRecDepth 100000 in
theorem c_fX4_isPerson (l : Launch) (D : va_G) (g : Nat → ClassId) (ad : Nat → Nat) (σ : St) (v1 : Int32) {r0 : Int32} (h : fX4_isPerson σ v1 = some r0) : MI l yX4_isPerson kX4_isPerson 0 0 D g (WM g ad σ) (WM g ad σ) [.ref (ad 0), .int v1] r0 := by
  intro sz
  refine Met.of2 (Qc := fun A => QI D g A (WM g ad σ) r0) (cc := cX4_isPerson) (maxL := 2) (ret := (some .boolean)) (own := RX4) (by decide) rfl rfl (Nat.le_of_ble_eq_true rfl) ?_
  intro p e s m below meth c A ls X hr hlk hml Y hl
  have hx := X.1
  have hb := X.2.1
  have hl : lv_has ls 2 [(0, .ref (ad 0)), (1, .int v1)] := hl
  rw [fX4_isPerson] at h
  refine lv_iload_n hx hb dX4_isPerson_0 rfl (lv_at hl 1 rfl) ?_
  refine lv_if_lt (tgt := 16) hx hb dX4_isPerson_1 (by decide) (fun c1 => ?_) (fun c1 => ?_)
  · replace h := ot c1 h
    refine lv_iconst (v := 0) hx hb dX4_isPerson_16 (by decide) ?_
    obtain rfl := os1 h
    exact retZ X Y hr hlk rfl dX4_isPerson_17
  · replace h := oe c1 h
    refine lv_iload_n hx hb dX4_isPerson_4 rfl (lv_at hl 1 rfl) ?_
    refine lv_aload_n hx hb dX4_isPerson_5 rfl (lv_at hl 0 rfl) ?_
    refine rgM X Y 5 (v := .int (σ 0 5)) tw_474 rfl dX4_isPerson_6 ?_
    refine lv_icmp_ge (tgt := 16) hx hb dX4_isPerson_9 (by decide) (fun c2 => ?_) (fun c2 => ?_)
    · replace h := ot c2 h
      refine lv_iconst (v := 0) hx hb dX4_isPerson_16 (by decide) ?_
      obtain rfl := os1 h
      exact retZ X Y hr hlk rfl dX4_isPerson_17
    · replace h := oe c2 h
      refine lv_iconst (v := 1) hx hb dX4_isPerson_12 (by decide) ?_
      refine lv_goto (tgt := 17) hx hb dX4_isPerson_13 (by decide) ?_
      obtain rfl := os1 h
      exact retZ X Y hr hlk rfl dX4_isPerson_17
set_option maxHeartbeats 4000000 in
set_option maxRecDepth 100000 in
theorem c_fX4_isSet (l : Launch) (D : va_G) (g : Nat → ClassId) (ad : Nat → Nat) (σ : St) (v1 : Int32) {r0 : Int32} (h : fX4_isSet σ v1 = some r0) : MI l yX4_isSet kX4_isSet 0 0 D g (WM g ad σ) (WM g ad σ) [.ref (ad 0), .int v1] r0 := by
  intro sz
  refine Met.of2 (Qc := fun A => QI D g A (WM g ad σ) r0) (cc := cX4_isSet) (maxL := 2) (ret := (some .boolean)) (own := RX4) (by decide) rfl rfl (Nat.le_of_ble_eq_true rfl) ?_
  intro p e s m below meth c A ls X hr hlk hml Y hl
  have hx := X.1
  have hb := X.2.1
  have hl : lv_has ls 2 [(0, .ref (ad 0)), (1, .int v1)] := hl
  rw [fX4_isSet] at h
  refine lv_iload_n hx hb dX4_isSet_0 rfl (lv_at hl 1 rfl) ?_
  refine lv_if_lt (tgt := 18) hx hb dX4_isSet_1 (by decide) (fun c1 => ?_) (fun c1 => ?_)
  · replace h := ot c1 h
    refine lv_iconst (v := 0) hx hb dX4_isSet_18 (by decide) ?_
    obtain rfl := os1 h
    exact retZ X Y hr hlk rfl dX4_isSet_19
  · replace h := oe c1 h
    refine lv_iload_n hx hb dX4_isSet_4 rfl (lv_at hl 1 rfl) ?_
    refine lv_iconst (v := 1) hx hb dX4_isSet_5 (by decide) ?_
    refine lv_aload_n hx hb dX4_isSet_6 rfl (lv_at hl 0 rfl) ?_
    refine rgM X Y 5 (v := .int (σ 0 5)) tw_474 rfl dX4_isSet_7 ?_
    refine lv_ishl hx hb dX4_isSet_10 ?_
    refine lv_icmp_ge (tgt := 18) hx hb dX4_isSet_11 (by decide) (fun c2 => ?_) (fun c2 => ?_)
    · replace h := ot c2 h
      refine lv_iconst (v := 0) hx hb dX4_isSet_18 (by decide) ?_
      obtain rfl := os1 h
      exact retZ X Y hr hlk rfl dX4_isSet_19
    · replace h := oe c2 h
      refine lv_iconst (v := 1) hx hb dX4_isSet_14 (by decide) ?_
      refine lv_goto (tgt := 19) hx hb dX4_isSet_15 (by decide) ?_
      obtain rfl := os1 h
      exact retZ X Y hr hlk rfl dX4_isSet_19
set_option maxHeartbeats 4000000 in
set_option maxRecDepth 100000 in
theorem c_fX4_isOf (l : Launch) (D : va_G) (g : Nat → ClassId) (W0 : va_W) (v0 : Int32) (v1 : Int32) {r0 : Int32} (h : fX4_isOf v0 v1 = some r0) : MI l yX4_isOf kX4_isOf 0 0 D g (W0) (W0) [.int v0, .int v1] r0 := by
  intro sz
  refine Met.of2 (Qc := fun A => QI D g A (W0) r0) (cc := cX4_isOf) (maxL := 2) (ret := (some .boolean)) (own := RX4) (by decide) rfl rfl (Nat.le_of_ble_eq_true rfl) ?_
  intro p e s m below meth c A ls X hr hlk hml Y hl
  have hx := X.1
  have hb := X.2.1
  have hl : lv_has ls 2 [(0, .int v0), (1, .int v1)] := hl
  rw [fX4_isOf] at h
  refine lv_iload_n hx hb dX4_isOf_0 rfl (lv_at hl 0 rfl) ?_
  refine lv_iload_n hx hb dX4_isOf_1 rfl (lv_at hl 1 rfl) ?_
  refine lv_ishr hx hb dX4_isOf_2 ?_
  refine lv_iconst (v := 1) hx hb dX4_isOf_3 (by decide) ?_
  refine lv_iand hx hb dX4_isOf_4 ?_
  refine lv_iconst (v := 1) hx hb dX4_isOf_5 (by decide) ?_
  refine lv_icmp_ne (tgt := 13) hx hb dX4_isOf_6 (by decide) (fun c1 => ?_) (fun c1 => ?_)
  · replace h := oe c1 h
    refine lv_iconst (v := 0) hx hb dX4_isOf_13 (by decide) ?_
    obtain rfl := os1 h
    exact retZ X Y hr hlk rfl dX4_isOf_14
  · replace h := ot c1 h
    refine lv_iconst (v := 1) hx hb dX4_isOf_9 (by decide) ?_
    refine lv_goto (tgt := 14) hx hb dX4_isOf_10 (by decide) ?_
    obtain rfl := os1 h
    exact retZ X Y hr hlk rfl dX4_isOf_14
set_option maxHeartbeats 4000000 in
set_option maxRecDepth 100000 in
theorem c_fX4_digit (l : Launch) (D : va_G) (g : Nat → ClassId) (ad : Nat → Nat) (σ : St) (v1 : Int32) (v2 : Int32) (v3 : Int32) {r0 : Int32} {σ0 : St} (h : fX4_digit σ v1 v2 v3 = some (r0, σ0)) : MI l yX4_digit kX4_digit 1 22 D g (WM g ad σ) (WM g ad σ0) [.ref (ad 0), .int v1, .int v2, .int v3] r0 := by
  intro sz
  refine Met.of2 (Qc := fun A => QI D g A (WM g ad σ0) r0) (cc := cX4_digit) (maxL := 4) (ret := (some .int)) (own := RX4) (by decide) rfl rfl (Nat.le_of_ble_eq_true rfl) ?_
  intro p e s m below meth c A ls X hr hlk hml Y hl
  have hx := X.1
  have hb := X.2.1
  have hl : lv_has ls 4 [(0, .ref (ad 0)), (1, .int v1), (2, .int v2), (3, .int v3)] := hl
  rw [fX4_digit] at h
  refine lv_aload_n hx hb dX4_digit_0 rfl (lv_at hl 0 rfl) ?_
  refine rgM X Y 11 (v := .int (σ 0 11)) tw_480 rfl dX4_digit_1 ?_
  refine lv_iload_n hx hb dX4_digit_4 rfl (lv_at hl 1 rfl) ?_
  refine lv_icmp_ge (tgt := 31) hx hb dX4_digit_5 (by decide) (fun c1 => ?_) (fun c1 => ?_)
  · replace h := ot c1 h
    refine lv_bipush (v := (-9)) hx hb dX4_digit_31 (by decide) ?_
    obtain ⟨rfl, rfl⟩ := os2 h
    exact retI X Y hr hlk dX4_digit_33
  · replace h := oe c1 h
    refine lv_aload_n hx hb dX4_digit_8 rfl (lv_at hl 0 rfl) ?_
    refine rgM X Y 4 (v := .ref (ad 3)) tw_473 rfl dX4_digit_9 ?_
    refine lv_aload_n hx hb dX4_digit_12 rfl (lv_at hl 0 rfl) ?_
    refine rgM X Y 11 (v := .int (σ 0 11)) tw_480 rfl dX4_digit_13 ?_
    obtain ⟨hg2, h⟩ := og h
    refine ri X Y (lkM_3 g ad σ) hg2 dX4_digit_16 ?_
    refine lv_bipush (v := 48) hx hb dX4_digit_17 (by decide) ?_
    refine lv_iload_n hx hb dX4_digit_19 rfl (lv_at hl 2 rfl) ?_
    refine lv_iadd hx hb dX4_digit_20 ?_
    refine lv_bipush (v := 48) hx hb dX4_digit_21 (by decide) ?_
    refine lv_iload_n hx hb dX4_digit_23 rfl (lv_at hl 3 rfl) ?_
    refine lv_iadd hx hb dX4_digit_24 ?_
    obtain ⟨r4, hg3, h⟩ := ob h
    refine cSi X (hml.trans hl.1.symm) Y (c_fX4_within l D g (WM g ad σ) (σ 3 (σ 0 11).toNatClampNeg) ((48 : Int32) + v2) ((48 : Int32) + v3) hg3) (gs_X4_55 _) rfl fd_X4_within ⟨Nat.le_of_ble_eq_true rfl, Nat.le_of_ble_eq_true rfl⟩ ⟨Nat.le_of_ble_eq_true rfl, Nat.le_of_ble_eq_true rfl⟩ (rest := []) rfl (Nat.le_of_ble_eq_true rfl) dX4_digit_25 (fun H locs Y => ?_)
    refine lv_if_ne (tgt := 34) hx hb dX4_digit_28 (by decide) (fun c5 => ?_) (fun c5 => ?_)
    · replace h := oe c5 h
      refine lv_aload_n hx hb dX4_digit_34 rfl (lv_at hl 0 rfl) ?_
      refine lv_dup hx hb dX4_digit_35 rfl ?_
      refine rgM X Y 11 (v := .int (σ 0 11)) tw_480 rfl dX4_digit_36 ?_
      refine lv_iconst (v := 1) hx hb dX4_digit_39 (by decide) ?_
      refine lv_iadd hx hb dX4_digit_40 ?_
      refine rpM X Y 11 (v := (σ 0 11) + 1) tw_480 rfl rfl rfl (stM_11 g ad σ ((σ 0 11) + 1)) dX4_digit_41 (fun H locs Y => ?_)
      refine lv_aload_n hx hb dX4_digit_44 rfl (lv_at hl 0 rfl) ?_
      refine rgM X Y 4 (v := .ref (ad 3)) tw_473 rfl dX4_digit_45 ?_
      refine lv_aload_n hx hb dX4_digit_48 rfl (lv_at hl 0 rfl) ?_
      refine rgM X Y 11 (v := .int ((up2 σ 0 11 ((σ 0 11) + 1)) 0 11)) tw_480 rfl dX4_digit_49 ?_
      refine lv_iconst (v := 1) hx hb dX4_digit_52 (by decide) ?_
      refine lv_isub hx hb dX4_digit_53 ?_
      obtain ⟨hg6, h⟩ := og h
      refine ri X Y (lkM_3 g ad (up2 σ 0 11 ((σ 0 11) + 1))) hg6 dX4_digit_54 ?_
      refine lv_bipush (v := 48) hx hb dX4_digit_55 (by decide) ?_
      refine lv_isub hx hb dX4_digit_57 ?_
      obtain ⟨rfl, rfl⟩ := os2 h
      exact retI X Y hr hlk dX4_digit_58
    · replace h := ot c5 h
      refine lv_bipush (v := (-9)) hx hb dX4_digit_31 (by decide) ?_
      obtain ⟨rfl, rfl⟩ := os2 h
      exact retI X Y hr hlk dX4_digit_33
set_option maxHeartbeats 4000000 in
set_option maxRecDepth 100000 in
theorem c_fX4_isSign (l : Launch) (D : va_G) (g : Nat → ClassId) (ad : Nat → Nat) (σ : St) (v1 : Int32) (v2 : Int32) {r0 : Int32} {σ0 : St} (h : fX4_isSign σ v1 v2 = some (r0, σ0)) : MI l yX4_isSign kX4_isSign 0 0 D g (WM g ad σ) (WM g ad σ0) [.ref (ad 0), .int v1, .int v2] r0 := by
  intro sz
  refine Met.of2 (Qc := fun A => QI D g A (WM g ad σ0) r0) (cc := cX4_isSign) (maxL := 3) (ret := (some .boolean)) (own := RX4) (by decide) rfl rfl (Nat.le_of_ble_eq_true rfl) ?_
  intro p e s m below meth c A ls X hr hlk hml Y hl
  have hx := X.1
  have hb := X.2.1
  have hl : lv_has ls 3 [(0, .ref (ad 0)), (1, .int v1), (2, .int v2)] := hl
  rw [fX4_isSign] at h
  refine lv_aload_n hx hb dX4_isSign_0 rfl (lv_at hl 0 rfl) ?_
  refine rgM X Y 11 (v := .int (σ 0 11)) tw_480 rfl dX4_isSign_1 ?_
  refine lv_iload_n hx hb dX4_isSign_4 rfl (lv_at hl 1 rfl) ?_
  refine lv_icmp_ge (tgt := 21) hx hb dX4_isSign_5 (by decide) (fun c1 => ?_) (fun c1 => ?_)
  · replace h := ot c1 h
    refine lv_iconst (v := 0) hx hb dX4_isSign_21 (by decide) ?_
    obtain ⟨rfl, rfl⟩ := os2 h
    exact retZ X Y hr hlk rfl dX4_isSign_22
  · replace h := oe c1 h
    refine lv_aload_n hx hb dX4_isSign_8 rfl (lv_at hl 0 rfl) ?_
    refine rgM X Y 4 (v := .ref (ad 3)) tw_473 rfl dX4_isSign_9 ?_
    refine lv_aload_n hx hb dX4_isSign_12 rfl (lv_at hl 0 rfl) ?_
    refine rgM X Y 11 (v := .int (σ 0 11)) tw_480 rfl dX4_isSign_13 ?_
    obtain ⟨hg2, h⟩ := og h
    refine ri X Y (lkM_3 g ad σ) hg2 dX4_isSign_16 ?_
    refine lv_iload_n hx hb dX4_isSign_17 rfl (lv_at hl 2 rfl) ?_
    refine lv_icmp_eq (tgt := 23) hx hb dX4_isSign_18 (by decide) (fun c3 => ?_) (fun c3 => ?_)
    · replace h := ot c3 h
      refine lv_aload_n hx hb dX4_isSign_23 rfl (lv_at hl 0 rfl) ?_
      refine lv_dup hx hb dX4_isSign_24 rfl ?_
      refine rgM X Y 11 (v := .int (σ 0 11)) tw_480 rfl dX4_isSign_25 ?_
      refine lv_iconst (v := 1) hx hb dX4_isSign_28 (by decide) ?_
      refine lv_iadd hx hb dX4_isSign_29 ?_
      refine rpM X Y 11 (v := (σ 0 11) + 1) tw_480 rfl rfl rfl (stM_11 g ad σ ((σ 0 11) + 1)) dX4_isSign_30 (fun H locs Y => ?_)
      refine lv_iconst (v := 1) hx hb dX4_isSign_33 (by decide) ?_
      obtain ⟨rfl, rfl⟩ := os2 h
      exact retZ X Y hr hlk rfl dX4_isSign_34
    · replace h := oe c3 h
      refine lv_iconst (v := 0) hx hb dX4_isSign_21 (by decide) ?_
      obtain ⟨rfl, rfl⟩ := os2 h
      exact retZ X Y hr hlk rfl dX4_isSign_22
