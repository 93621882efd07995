set_option maxHeartbeats 4000000 in
set_option maxRecDepth 100000 in
theorem w_fX4_readPerson_L112 {p : Program} {l : Launch} {e : Env} {s : State} {m : MethodId} {args : Array Value} {below : List Frame} {meth : Method} {c : Code} {D : va_G} {g : Nat → ClassId} {ad : Nat → Nat} {A : Nat → Prop} {r0 : Int32} {σ0 : St} (X : Cx p s m c args cX4_readPerson RX4 kX4_readPerson D g) (hr : meth.sig.returnType = (some .boolean)) (hlk : meth.locks = false) (hml : c.maxLocals = 5) : ∀ (n : Nat), ∀ (σ : St) (v1 : Int32) (v2 : Int32) (v4 : Int32) (H : Heap) (locs : List Loc) (ls : Array Slot), Hp D A s.heap H locs (WM g ad σ) → lv_has ls 5 [(0, .ref (ad 0)), (1, .int v1), (2, .int v2), (4, .int v4)] → fX4_readPerson_L112 n σ v1 v2 v4 = some (r0, σ0) → W p l e (RM 2 45) s m args below meth c H locs 0 0 (MQ below (QI D g A (WM g ad σ0) r0) args s 0 0 A) (F0 m 112 ls []) := by
  have hx := X.1
  have hb := X.2.1
  intro n
  induction n with
  | zero => intro σ v1 v2 v4 H locs ls Y hl h; cases (show none = _ from h)
  | succ n ih =>
    intro σ v1 v2 v4 H locs ls Y hl h
    rw [fX4_readPerson_L112] at h
    refine lv_iload hx hb dX4_readPerson_112 (lv_at hl 3 rfl) ?_
    refine lv_aload_n hx hb dX4_readPerson_114 rfl (lv_at hl 0 rfl) ?_
    refine rgM X Y 14 (v := .int (σ 0 14)) tw_483 rfl dX4_readPerson_115 ?_
    refine lv_icmp_ge (tgt := 174) hx hb dX4_readPerson_118 (by decide) (fun c46 => ?_) (fun c46 => ?_)
    · replace h := ot c46 h
      refine lv_iconst (v := 1) hx hb dX4_readPerson_174 (by decide) ?_
      obtain ⟨rfl, rfl⟩ := os2 h
      exact retZ X Y hr hlk rfl dX4_readPerson_175
    · replace h := oe c46 h
      refine lv_aload_n hx hb dX4_readPerson_121 rfl (lv_at hl 0 rfl) ?_
      refine rgM X Y 17 (v := .ref (ad 9)) tw_486 rfl dX4_readPerson_122 ?_
      refine lv_iconst (v := 5) hx hb dX4_readPerson_125 (by decide) ?_
      refine lv_iload_n hx hb dX4_readPerson_126 rfl (lv_at hl 2 rfl) ?_
      refine lv_imul hx hb dX4_readPerson_127 ?_
      refine lv_iload hx hb dX4_readPerson_128 (lv_at hl 3 rfl) ?_
      refine lv_iadd hx hb dX4_readPerson_130 ?_
      refine lv_aload_n hx hb dX4_readPerson_131 rfl (lv_at hl 0 rfl) ?_
      refine lv_iload_n hx hb dX4_readPerson_132 rfl (lv_at hl 1 rfl) ?_
      refine lv_iconst (v := 0) hx hb dX4_readPerson_133 (by decide) ?_
      refine lv_iload hx hb dX4_readPerson_134 (lv_at hl 3 rfl) ?_
      refine lv_iload_n hx hb dX4_readPerson_136 rfl (lv_at hl 2 rfl) ?_
      refine lv_icmp_ne (tgt := 144) hx hb dX4_readPerson_137 (by decide) (fun c47 => ?_) (fun c47 => ?_)
      · replace h := oe c47 h
        refine lv_bipush (v := 9) hx hb dX4_readPerson_144 (by decide) ?_
        obtain ⟨r49, σ49, hg48, h⟩ := ob2 h
        refine cVi X (hml.trans hl.1.symm) Y (c_fX4_digit l D g ad σ v1 0 9 hg48) (lkM g ad σ) rfl (gs_X4_108 _) rfl fd_X4_digit ⟨Nat.le_of_ble_eq_true rfl, Nat.le_of_ble_eq_true rfl⟩ ⟨Nat.le_of_ble_eq_true rfl, Nat.le_of_ble_eq_true rfl⟩ (rest := [.int (((5 : Int32) * v2) + v4), .ref (ad 9)]) rfl (Nat.le_of_ble_eq_true rfl) dX4_readPerson_146 (fun H locs Y => ?_)
        obtain ⟨hg50, h⟩ := og h
        refine ris X Y (W1 := WM g ad (up2 σ49 9 ((((5 : Int32) * v2) + v4).toNatClampNeg) r49)) (lkM_9 g ad σ49) hg50 (stM_A9 g ad σ49 _) dX4_readPerson_149 (fun H locs Y => ?_)
        refine lv_aload_n hx hb dX4_readPerson_150 rfl (lv_at hl 0 rfl) ?_
        refine rgM X Y 17 (v := .ref (ad 9)) tw_486 rfl dX4_readPerson_151 ?_
        refine lv_iconst (v := 5) hx hb dX4_readPerson_154 (by decide) ?_
        refine lv_iload_n hx hb dX4_readPerson_155 rfl (lv_at hl 2 rfl) ?_
        refine lv_imul hx hb dX4_readPerson_156 ?_
        refine lv_iload hx hb dX4_readPerson_157 (lv_at hl 3 rfl) ?_
        refine lv_iadd hx hb dX4_readPerson_159 ?_
        obtain ⟨hg51, h⟩ := og h
        refine ri X Y (lkM_9 g ad (up2 σ49 9 ((((5 : Int32) * v2) + v4).toNatClampNeg) r49)) hg51 dX4_readPerson_160 ?_
        refine lv_bipush (v := (-9)) hx hb dX4_readPerson_161 (by decide) ?_
        refine lv_icmp_ne (tgt := 168) hx hb dX4_readPerson_163 (by decide) (fun c52 => ?_) (fun c52 => ?_)
        · replace h := oe c52 h
          refine lv_iinc (v := v4 + 1) (lv' := [(4, .int (v4 + 1)), (0, .ref (ad 0)), (1, .int v1), (2, .int v2)]) hx hb dX4_readPerson_168 hl (k := 3) rfl rfl (by decide) rfl (fun ls hl => ?_)
          refine lv_goto (tgt := 112) hx hb dX4_readPerson_171 (by decide) ?_
          exact ih (up2 σ49 9 ((((5 : Int32) * v2) + v4).toNatClampNeg) r49) v1 v2 (v4 + 1) _ _ _ Y (lv_sub hl [1, 2, 3, 0] rfl) h
        · replace h := ot c52 h
          refine lv_iconst (v := 0) hx hb dX4_readPerson_166 (by decide) ?_
          obtain ⟨rfl, rfl⟩ := os2 h
          exact retZ X Y hr hlk rfl dX4_readPerson_167
      · replace h := ot c47 h
        refine lv_iconst (v := 0) hx hb dX4_readPerson_140 (by decide) ?_
        refine lv_goto (tgt := 146) hx hb dX4_readPerson_141 (by decide) ?_
        obtain ⟨r54, σ54, hg53, h⟩ := ob2 h
        refine cVi X (hml.trans hl.1.symm) Y (c_fX4_digit l D g ad σ v1 0 0 hg53) (lkM g ad σ) rfl (gs_X4_108 _) rfl fd_X4_digit ⟨Nat.le_of_ble_eq_true rfl, Nat.le_of_ble_eq_true rfl⟩ ⟨Nat.le_of_ble_eq_true rfl, Nat.le_of_ble_eq_true rfl⟩ (rest := [.int (((5 : Int32) * v2) + v4), .ref (ad 9)]) rfl (Nat.le_of_ble_eq_true rfl) dX4_readPerson_146 (fun H locs Y => ?_)
        obtain ⟨hg55, h⟩ := og h
        refine ris X Y (W1 := WM g ad (up2 σ54 9 ((((5 : Int32) * v2) + v4).toNatClampNeg) r54)) (lkM_9 g ad σ54) hg55 (stM_A9 g ad σ54 _) dX4_readPerson_149 (fun H locs Y => ?_)
        refine lv_aload_n hx hb dX4_readPerson_150 rfl (lv_at hl 0 rfl) ?_
        refine rgM X Y 17 (v := .ref (ad 9)) tw_486 rfl dX4_readPerson_151 ?_
        refine lv_iconst (v := 5) hx hb dX4_readPerson_154 (by decide) ?_
        refine lv_iload_n hx hb dX4_readPerson_155 rfl (lv_at hl 2 rfl) ?_
        refine lv_imul hx hb dX4_readPerson_156 ?_
        refine lv_iload hx hb dX4_readPerson_157 (lv_at hl 3 rfl) ?_
        refine lv_iadd hx hb dX4_readPerson_159 ?_
        obtain ⟨hg56, h⟩ := og h
        refine ri X Y (lkM_9 g ad (up2 σ54 9 ((((5 : Int32) * v2) + v4).toNatClampNeg) r54)) hg56 dX4_readPerson_160 ?_
        refine lv_bipush (v := (-9)) hx hb dX4_readPerson_161 (by decide) ?_
        refine lv_icmp_ne (tgt := 168) hx hb dX4_readPerson_163 (by decide) (fun c57 => ?_) (fun c57 => ?_)
        · replace h := oe c57 h
          refine lv_iinc (v := v4 + 1) (lv' := [(4, .int (v4 + 1)), (0, .ref (ad 0)), (1, .int v1), (2, .int v2)]) hx hb dX4_readPerson_168 hl (k := 3) rfl rfl (by decide) rfl (fun ls hl => ?_)
          refine lv_goto (tgt := 112) hx hb dX4_readPerson_171 (by decide) ?_
          exact ih (up2 σ54 9 ((((5 : Int32) * v2) + v4).toNatClampNeg) r54) v1 v2 (v4 + 1) _ _ _ Y (lv_sub hl [1, 2, 3, 0] rfl) h
        · replace h := ot c57 h
          refine lv_iconst (v := 0) hx hb dX4_readPerson_166 (by decide) ?_
          obtain ⟨rfl, rfl⟩ := os2 h
          exact retZ X Y hr hlk rfl dX4_readPerson_167
set_option maxHeartbeats 4000000 in
set_option maxRecDepth 100000 in
theorem c_fX4_readPerson (l : Launch) (D : va_G) (g : Nat → ClassId) (ad : Nat → Nat) (σ : St) (n : Nat) (v1 : Int32) (v2 : Int32) {r0 : Int32} {σ0 : St} (h : fX4_readPerson n σ v1 v2 = some (r0, σ0)) : MI l yX4_readPerson kX4_readPerson 2 45 D g (WM g ad σ) (WM g ad σ0) [.ref (ad 0), .int v1, .int v2] r0 := by
  intro sz
  refine Met.of2 (Qc := fun A => QI D g A (WM g ad σ0) r0) (cc := cX4_readPerson) (maxL := 5) (ret := (some .boolean)) (own := RX4) (by decide) rfl rfl (Nat.le_of_ble_eq_true rfl) ?_
  intro p e s m below meth c A ls X hr hlk hml Y hl
  have hx := X.1
  have hb := X.2.1
  have hl : lv_has ls 5 [(0, .ref (ad 0)), (1, .int v1), (2, .int v2)] := hl
  rw [fX4_readPerson] at h
  refine lv_aload_n hx hb dX4_readPerson_0 rfl (lv_at hl 0 rfl) ?_
  refine rgM X Y 11 (v := .int (σ 0 11)) tw_480 rfl dX4_readPerson_1 ?_
  refine lv_iload_n hx hb dX4_readPerson_4 rfl (lv_at hl 1 rfl) ?_
  refine lv_icmp_ge (tgt := 20) hx hb dX4_readPerson_5 (by decide) (fun c1 => ?_) (fun c1 => ?_)
  · replace h := ot c1 h
    refine lv_iconst (v := 0) hx hb dX4_readPerson_20 (by decide) ?_
    refine lv_istore_n (lv' := [(3, .int 0), (0, .ref (ad 0)), (1, .int v1), (2, .int v2)]) hx hb dX4_readPerson_21 rfl hl (by decide) rfl (fun ls hl => ?_)
    refine lv_aload_n hx hb dX4_readPerson_22 rfl (lv_at hl 1 rfl) ?_
    refine rgM X Y 15 (v := .ref (ad 7)) tw_484 rfl dX4_readPerson_23 ?_
    refine lv_iload_n hx hb dX4_readPerson_26 rfl (lv_at hl 3 rfl) ?_
    refine lv_iload_n hx hb dX4_readPerson_27 rfl (lv_at hl 0 rfl) ?_
    refine lv_bipush (v := 114) hx hb dX4_readPerson_28 (by decide) ?_
    refine lv_icmp_ne (tgt := 37) hx hb dX4_readPerson_30 (by decide) (fun _ => ?_) (fun c9 => absurd c9 (by decide))
    refine lv_iload_n hx hb dX4_readPerson_37 rfl (lv_at hl 0 rfl) ?_
    refine lv_bipush (v := 102) hx hb dX4_readPerson_38 (by decide) ?_
    refine lv_icmp_ne (tgt := 47) hx hb dX4_readPerson_40 (by decide) (fun _ => ?_) (fun c9 => absurd c9 (by decide))
    refine lv_iload_n hx hb dX4_readPerson_47 rfl (lv_at hl 0 rfl) ?_
    refine lv_bipush (v := 98) hx hb dX4_readPerson_48 (by decide) ?_
    refine lv_icmp_ne (tgt := 57) hx hb dX4_readPerson_50 (by decide) (fun _ => ?_) (fun c9 => absurd c9 (by decide))
    refine lv_bipush (v := (-9)) hx hb dX4_readPerson_57 (by decide) ?_
    obtain ⟨hg2, h⟩ := og h
    refine ris X Y (W1 := WM g ad (up2 σ 7 v2.toNatClampNeg (-9))) (lkM_7 g ad σ) hg2 (stM_A7 g ad σ _) dX4_readPerson_59 (fun H locs Y => ?_)
    refine lv_aload_n hx hb dX4_readPerson_60 rfl (lv_at hl 1 rfl) ?_
    refine rgM X Y 15 (v := .ref (ad 7)) tw_484 rfl dX4_readPerson_61 ?_
    refine lv_iload_n hx hb dX4_readPerson_64 rfl (lv_at hl 3 rfl) ?_
    obtain ⟨hg3, h⟩ := og h
    refine ri X Y (lkM_7 g ad (up2 σ 7 v2.toNatClampNeg (-9))) hg3 dX4_readPerson_65 ?_
    refine lv_bipush (v := (-9)) hx hb dX4_readPerson_66 (by decide) ?_
    refine lv_icmp_ne (tgt := 73) hx hb dX4_readPerson_68 (by decide) (fun c4 => ?_) (fun c4 => ?_)
    · replace h := oe c4 h
      refine lv_aload_n hx hb dX4_readPerson_73 rfl (lv_at hl 1 rfl) ?_
      refine lv_dup hx hb dX4_readPerson_74 rfl ?_
      refine rgM X Y 11 (v := .int ((up2 σ 7 v2.toNatClampNeg (-9)) 0 11)) tw_480 rfl dX4_readPerson_75 ?_
      refine lv_iconst (v := 1) hx hb dX4_readPerson_78 (by decide) ?_
      refine lv_iadd hx hb dX4_readPerson_79 ?_
      refine rpM X Y 11 (v := ((up2 σ 7 v2.toNatClampNeg (-9)) 0 11) + 1) tw_480 rfl rfl rfl (stM_11 g ad (up2 σ 7 v2.toNatClampNeg (-9)) (((up2 σ 7 v2.toNatClampNeg (-9)) 0 11) + 1)) dX4_readPerson_80 (fun H locs Y => ?_)
      refine lv_aload_n hx hb dX4_readPerson_83 rfl (lv_at hl 1 rfl) ?_
      refine rgM X Y 16 (v := .ref (ad 8)) tw_485 rfl dX4_readPerson_84 ?_
      refine lv_iload_n hx hb dX4_readPerson_87 rfl (lv_at hl 3 rfl) ?_
      refine lv_aload_n hx hb dX4_readPerson_88 rfl (lv_at hl 1 rfl) ?_
      refine lv_iload_n hx hb dX4_readPerson_89 rfl (lv_at hl 2 rfl) ?_
      refine lv_iconst (v := 0) hx hb dX4_readPerson_90 (by decide) ?_
      refine lv_iconst (v := 1) hx hb dX4_readPerson_91 (by decide) ?_
      obtain ⟨r6, σ6, hg5, h⟩ := ob2 h
      refine cVi X (hml.trans hl.1.symm) Y (c_fX4_digit l D g ad (up2 (up2 σ 7 v2.toNatClampNeg (-9)) 0 11 (((up2 σ 7 v2.toNatClampNeg (-9)) 0 11) + 1)) v1 0 1 hg5) (lkM g ad (up2 (up2 σ 7 v2.toNatClampNeg (-9)) 0 11 (((up2 σ 7 v2.toNatClampNeg (-9)) 0 11) + 1))) rfl (gs_X4_108 _) rfl fd_X4_digit ⟨Nat.le_of_ble_eq_true rfl, Nat.le_of_ble_eq_true rfl⟩ ⟨Nat.le_of_ble_eq_true rfl, Nat.le_of_ble_eq_true rfl⟩ (rest := [.int v2, .ref (ad 8)]) rfl (Nat.le_of_ble_eq_true rfl) dX4_readPerson_92 (fun H locs Y => ?_)
      obtain ⟨hg7, h⟩ := og h
      refine ris X Y (W1 := WM g ad (up2 σ6 8 v2.toNatClampNeg r6)) (lkM_8 g ad σ6) hg7 (stM_A8 g ad σ6 _) dX4_readPerson_95 (fun H locs Y => ?_)
      refine lv_aload_n hx hb dX4_readPerson_96 rfl (lv_at hl 1 rfl) ?_
      refine rgM X Y 16 (v := .ref (ad 8)) tw_485 rfl dX4_readPerson_97 ?_
      refine lv_iload_n hx hb dX4_readPerson_100 rfl (lv_at hl 3 rfl) ?_
      obtain ⟨hg8, h⟩ := og h
      refine ri X Y (lkM_8 g ad (up2 σ6 8 v2.toNatClampNeg r6)) hg8 dX4_readPerson_101 ?_
      refine lv_bipush (v := (-9)) hx hb dX4_readPerson_102 (by decide) ?_
      refine lv_icmp_ne (tgt := 109) hx hb dX4_readPerson_104 (by decide) (fun c9 => ?_) (fun c9 => ?_)
      · replace h := oe c9 h
        refine lv_iconst (v := 0) hx hb dX4_readPerson_109 (by decide) ?_
        refine lv_istore (lv' := [(4, .int 0), (3, .int 0), (0, .ref (ad 0)), (1, .int v1), (2, .int v2)]) hx hb dX4_readPerson_110 hl (by decide) rfl (fun ls hl => ?_)
        exact w_fX4_readPerson_L112 X hr hlk hml n (up2 σ6 8 v2.toNatClampNeg r6) v1 v2 0 _ _ _ Y (lv_sub hl [2, 3, 4, 0] rfl) h
      · replace h := ot c9 h
        refine lv_iconst (v := 0) hx hb dX4_readPerson_107 (by decide) ?_
        obtain ⟨rfl, rfl⟩ := os2 h
        exact retZ X Y hr hlk rfl dX4_readPerson_108
    · replace h := ot c4 h
      refine lv_iconst (v := 0) hx hb dX4_readPerson_71 (by decide) ?_
      obtain ⟨rfl, rfl⟩ := os2 h
      exact retZ X Y hr hlk rfl dX4_readPerson_72
  · replace h := oe c1 h
    refine lv_aload_n hx hb dX4_readPerson_8 rfl (lv_at hl 0 rfl) ?_
    refine rgM X Y 4 (v := .ref (ad 3)) tw_473 rfl dX4_readPerson_9 ?_
    refine lv_aload_n hx hb dX4_readPerson_12 rfl (lv_at hl 0 rfl) ?_
    refine rgM X Y 11 (v := .int (σ 0 11)) tw_480 rfl dX4_readPerson_13 ?_
    obtain ⟨hg10, h⟩ := og h
    refine ri X Y (lkM_3 g ad σ) hg10 dX4_readPerson_16 ?_
    refine lv_goto (tgt := 21) hx hb dX4_readPerson_17 (by decide) ?_
    refine lv_istore_n (lv' := [(3, .int (σ 3 (σ 0 11).toNatClampNeg)), (0, .ref (ad 0)), (1, .int v1), (2, .int v2)]) hx hb dX4_readPerson_21 rfl hl (by decide) rfl (fun ls hl => ?_)
    refine lv_aload_n hx hb dX4_readPerson_22 rfl (lv_at hl 1 rfl) ?_
    refine rgM X Y 15 (v := .ref (ad 7)) tw_484 rfl dX4_readPerson_23 ?_
    refine lv_iload_n hx hb dX4_readPerson_26 rfl (lv_at hl 3 rfl) ?_
    refine lv_iload_n hx hb dX4_readPerson_27 rfl (lv_at hl 0 rfl) ?_
    refine lv_bipush (v := 114) hx hb dX4_readPerson_28 (by decide) ?_
    refine lv_icmp_ne (tgt := 37) hx hb dX4_readPerson_30 (by decide) (fun c11 => ?_) (fun c11 => ?_)
    · replace h := oe c11 h
      refine lv_iload_n hx hb dX4_readPerson_37 rfl (lv_at hl 0 rfl) ?_
      refine lv_bipush (v := 102) hx hb dX4_readPerson_38 (by decide) ?_
      refine lv_icmp_ne (tgt := 47) hx hb dX4_readPerson_40 (by decide) (fun c12 => ?_) (fun c12 => ?_)
      · replace h := oe c12 h
        refine lv_iload_n hx hb dX4_readPerson_47 rfl (lv_at hl 0 rfl) ?_
        refine lv_bipush (v := 98) hx hb dX4_readPerson_48 (by decide) ?_
        refine lv_icmp_ne (tgt := 57) hx hb dX4_readPerson_50 (by decide) (fun c13 => ?_) (fun c13 => ?_)
        · replace h := oe c13 h
          refine lv_bipush (v := (-9)) hx hb dX4_readPerson_57 (by decide) ?_
          obtain ⟨hg14, h⟩ := og h
          refine ris X Y (W1 := WM g ad (up2 σ 7 v2.toNatClampNeg (-9))) (lkM_7 g ad σ) hg14 (stM_A7 g ad σ _) dX4_readPerson_59 (fun H locs Y => ?_)
          refine lv_aload_n hx hb dX4_readPerson_60 rfl (lv_at hl 1 rfl) ?_
          refine rgM X Y 15 (v := .ref (ad 7)) tw_484 rfl dX4_readPerson_61 ?_
          refine lv_iload_n hx hb dX4_readPerson_64 rfl (lv_at hl 3 rfl) ?_
          obtain ⟨hg15, h⟩ := og h
          refine ri X Y (lkM_7 g ad (up2 σ 7 v2.toNatClampNeg (-9))) hg15 dX4_readPerson_65 ?_
          refine lv_bipush (v := (-9)) hx hb dX4_readPerson_66 (by decide) ?_
          refine lv_icmp_ne (tgt := 73) hx hb dX4_readPerson_68 (by decide) (fun c16 => ?_) (fun c16 => ?_)
          · replace h := oe c16 h
            refine lv_aload_n hx hb dX4_readPerson_73 rfl (lv_at hl 1 rfl) ?_
            refine lv_dup hx hb dX4_readPerson_74 rfl ?_
            refine rgM X Y 11 (v := .int ((up2 σ 7 v2.toNatClampNeg (-9)) 0 11)) tw_480 rfl dX4_readPerson_75 ?_
            refine lv_iconst (v := 1) hx hb dX4_readPerson_78 (by decide) ?_
            refine lv_iadd hx hb dX4_readPerson_79 ?_
            refine rpM X Y 11 (v := ((up2 σ 7 v2.toNatClampNeg (-9)) 0 11) + 1) tw_480 rfl rfl rfl (stM_11 g ad (up2 σ 7 v2.toNatClampNeg (-9)) (((up2 σ 7 v2.toNatClampNeg (-9)) 0 11) + 1)) dX4_readPerson_80 (fun H locs Y => ?_)
            refine lv_aload_n hx hb dX4_readPerson_83 rfl (lv_at hl 1 rfl) ?_
            refine rgM X Y 16 (v := .ref (ad 8)) tw_485 rfl dX4_readPerson_84 ?_
            refine lv_iload_n hx hb dX4_readPerson_87 rfl (lv_at hl 3 rfl) ?_
            refine lv_aload_n hx hb dX4_readPerson_88 rfl (lv_at hl 1 rfl) ?_
            refine lv_iload_n hx hb dX4_readPerson_89 rfl (lv_at hl 2 rfl) ?_
            refine lv_iconst (v := 0) hx hb dX4_readPerson_90 (by decide) ?_
            refine lv_iconst (v := 1) hx hb dX4_readPerson_91 (by decide) ?_
            obtain ⟨r18, σ18, hg17, h⟩ := ob2 h
            refine cVi X (hml.trans hl.1.symm) Y (c_fX4_digit l D g ad (up2 (up2 σ 7 v2.toNatClampNeg (-9)) 0 11 (((up2 σ 7 v2.toNatClampNeg (-9)) 0 11) + 1)) v1 0 1 hg17) (lkM g ad (up2 (up2 σ 7 v2.toNatClampNeg (-9)) 0 11 (((up2 σ 7 v2.toNatClampNeg (-9)) 0 11) + 1))) rfl (gs_X4_108 _) rfl fd_X4_digit ⟨Nat.le_of_ble_eq_true rfl, Nat.le_of_ble_eq_true rfl⟩ ⟨Nat.le_of_ble_eq_true rfl, Nat.le_of_ble_eq_true rfl⟩ (rest := [.int v2, .ref (ad 8)]) rfl (Nat.le_of_ble_eq_true rfl) dX4_readPerson_92 (fun H locs Y => ?_)
            obtain ⟨hg19, h⟩ := og h
            refine ris X Y (W1 := WM g ad (up2 σ18 8 v2.toNatClampNeg r18)) (lkM_8 g ad σ18) hg19 (stM_A8 g ad σ18 _) dX4_readPerson_95 (fun H locs Y => ?_)
            refine lv_aload_n hx hb dX4_readPerson_96 rfl (lv_at hl 1 rfl) ?_
            refine rgM X Y 16 (v := .ref (ad 8)) tw_485 rfl dX4_readPerson_97 ?_
            refine lv_iload_n hx hb dX4_readPerson_100 rfl (lv_at hl 3 rfl) ?_
            obtain ⟨hg20, h⟩ := og h
            refine ri X Y (lkM_8 g ad (up2 σ18 8 v2.toNatClampNeg r18)) hg20 dX4_readPerson_101 ?_
            refine lv_bipush (v := (-9)) hx hb dX4_readPerson_102 (by decide) ?_
            refine lv_icmp_ne (tgt := 109) hx hb dX4_readPerson_104 (by decide) (fun c21 => ?_) (fun c21 => ?_)
            · replace h := oe c21 h
              refine lv_iconst (v := 0) hx hb dX4_readPerson_109 (by decide) ?_
              refine lv_istore (lv' := [(4, .int 0), (3, .int (σ 3 (σ 0 11).toNatClampNeg)), (0, .ref (ad 0)), (1, .int v1), (2, .int v2)]) hx hb dX4_readPerson_110 hl (by decide) rfl (fun ls hl => ?_)
              exact w_fX4_readPerson_L112 X hr hlk hml n (up2 σ18 8 v2.toNatClampNeg r18) v1 v2 0 _ _ _ Y (lv_sub hl [2, 3, 4, 0] rfl) h
            · replace h := ot c21 h
              refine lv_iconst (v := 0) hx hb dX4_readPerson_107 (by decide) ?_
              obtain ⟨rfl, rfl⟩ := os2 h
              exact retZ X Y hr hlk rfl dX4_readPerson_108
          · replace h := ot c16 h
            refine lv_iconst (v := 0) hx hb dX4_readPerson_71 (by decide) ?_
            obtain ⟨rfl, rfl⟩ := os2 h
            exact retZ X Y hr hlk rfl dX4_readPerson_72
        · replace h := ot c13 h
          refine lv_iconst (v := 2) hx hb dX4_readPerson_53 (by decide) ?_
          refine lv_goto (tgt := 59) hx hb dX4_readPerson_54 (by decide) ?_
          obtain ⟨hg22, h⟩ := og h
          refine ris X Y (W1 := WM g ad (up2 σ 7 v2.toNatClampNeg 2)) (lkM_7 g ad σ) hg22 (stM_A7 g ad σ _) dX4_readPerson_59 (fun H locs Y => ?_)
          refine lv_aload_n hx hb dX4_readPerson_60 rfl (lv_at hl 1 rfl) ?_
          refine rgM X Y 15 (v := .ref (ad 7)) tw_484 rfl dX4_readPerson_61 ?_
          refine lv_iload_n hx hb dX4_readPerson_64 rfl (lv_at hl 3 rfl) ?_
          obtain ⟨hg23, h⟩ := og h
          refine ri X Y (lkM_7 g ad (up2 σ 7 v2.toNatClampNeg 2)) hg23 dX4_readPerson_65 ?_
          refine lv_bipush (v := (-9)) hx hb dX4_readPerson_66 (by decide) ?_
          refine lv_icmp_ne (tgt := 73) hx hb dX4_readPerson_68 (by decide) (fun c24 => ?_) (fun c24 => ?_)
          · replace h := oe c24 h
            refine lv_aload_n hx hb dX4_readPerson_73 rfl (lv_at hl 1 rfl) ?_
            refine lv_dup hx hb dX4_readPerson_74 rfl ?_
            refine rgM X Y 11 (v := .int ((up2 σ 7 v2.toNatClampNeg 2) 0 11)) tw_480 rfl dX4_readPerson_75 ?_
            refine lv_iconst (v := 1) hx hb dX4_readPerson_78 (by decide) ?_
            refine lv_iadd hx hb dX4_readPerson_79 ?_
            refine rpM X Y 11 (v := ((up2 σ 7 v2.toNatClampNeg 2) 0 11) + 1) tw_480 rfl rfl rfl (stM_11 g ad (up2 σ 7 v2.toNatClampNeg 2) (((up2 σ 7 v2.toNatClampNeg 2) 0 11) + 1)) dX4_readPerson_80 (fun H locs Y => ?_)
            refine lv_aload_n hx hb dX4_readPerson_83 rfl (lv_at hl 1 rfl) ?_
            refine rgM X Y 16 (v := .ref (ad 8)) tw_485 rfl dX4_readPerson_84 ?_
            refine lv_iload_n hx hb dX4_readPerson_87 rfl (lv_at hl 3 rfl) ?_
            refine lv_aload_n hx hb dX4_readPerson_88 rfl (lv_at hl 1 rfl) ?_
            refine lv_iload_n hx hb dX4_readPerson_89 rfl (lv_at hl 2 rfl) ?_
            refine lv_iconst (v := 0) hx hb dX4_readPerson_90 (by decide) ?_
            refine lv_iconst (v := 1) hx hb dX4_readPerson_91 (by decide) ?_
            obtain ⟨r26, σ26, hg25, h⟩ := ob2 h
            refine cVi X (hml.trans hl.1.symm) Y (c_fX4_digit l D g ad (up2 (up2 σ 7 v2.toNatClampNeg 2) 0 11 (((up2 σ 7 v2.toNatClampNeg 2) 0 11) + 1)) v1 0 1 hg25) (lkM g ad (up2 (up2 σ 7 v2.toNatClampNeg 2) 0 11 (((up2 σ 7 v2.toNatClampNeg 2) 0 11) + 1))) rfl (gs_X4_108 _) rfl fd_X4_digit ⟨Nat.le_of_ble_eq_true rfl, Nat.le_of_ble_eq_true rfl⟩ ⟨Nat.le_of_ble_eq_true rfl, Nat.le_of_ble_eq_true rfl⟩ (rest := [.int v2, .ref (ad 8)]) rfl (Nat.le_of_ble_eq_true rfl) dX4_readPerson_92 (fun H locs Y => ?_)
            obtain ⟨hg27, h⟩ := og h
            refine ris X Y (W1 := WM g ad (up2 σ26 8 v2.toNatClampNeg r26)) (lkM_8 g ad σ26) hg27 (stM_A8 g ad σ26 _) dX4_readPerson_95 (fun H locs Y => ?_)
            refine lv_aload_n hx hb dX4_readPerson_96 rfl (lv_at hl 1 rfl) ?_
            refine rgM X Y 16 (v := .ref (ad 8)) tw_485 rfl dX4_readPerson_97 ?_
            refine lv_iload_n hx hb dX4_readPerson_100 rfl (lv_at hl 3 rfl) ?_
            obtain ⟨hg28, h⟩ := og h
            refine ri X Y (lkM_8 g ad (up2 σ26 8 v2.toNatClampNeg r26)) hg28 dX4_readPerson_101 ?_
            refine lv_bipush (v := (-9)) hx hb dX4_readPerson_102 (by decide) ?_
            refine lv_icmp_ne (tgt := 109) hx hb dX4_readPerson_104 (by decide) (fun c29 => ?_) (fun c29 => ?_)
            · replace h := oe c29 h
              refine lv_iconst (v := 0) hx hb dX4_readPerson_109 (by decide) ?_
              refine lv_istore (lv' := [(4, .int 0), (3, .int (σ 3 (σ 0 11).toNatClampNeg)), (0, .ref (ad 0)), (1, .int v1), (2, .int v2)]) hx hb dX4_readPerson_110 hl (by decide) rfl (fun ls hl => ?_)
              exact w_fX4_readPerson_L112 X hr hlk hml n (up2 σ26 8 v2.toNatClampNeg r26) v1 v2 0 _ _ _ Y (lv_sub hl [2, 3, 4, 0] rfl) h
            · replace h := ot c29 h
              refine lv_iconst (v := 0) hx hb dX4_readPerson_107 (by decide) ?_
              obtain ⟨rfl, rfl⟩ := os2 h
              exact retZ X Y hr hlk rfl dX4_readPerson_108
          · replace h := ot c24 h
            refine lv_iconst (v := 0) hx hb dX4_readPerson_71 (by decide) ?_
            obtain ⟨rfl, rfl⟩ := os2 h
            exact retZ X Y hr hlk rfl dX4_readPerson_72
      · replace h := ot c12 h
        refine lv_iconst (v := 1) hx hb dX4_readPerson_43 (by decide) ?_
        refine lv_goto (tgt := 59) hx hb dX4_readPerson_44 (by decide) ?_
        obtain ⟨hg30, h⟩ := og h
        refine ris X Y (W1 := WM g ad (up2 σ 7 v2.toNatClampNeg 1)) (lkM_7 g ad σ) hg30 (stM_A7 g ad σ _) dX4_readPerson_59 (fun H locs Y => ?_)
        refine lv_aload_n hx hb dX4_readPerson_60 rfl (lv_at hl 1 rfl) ?_
        refine rgM X Y 15 (v := .ref (ad 7)) tw_484 rfl dX4_readPerson_61 ?_
        refine lv_iload_n hx hb dX4_readPerson_64 rfl (lv_at hl 3 rfl) ?_
        obtain ⟨hg31, h⟩ := og h
        refine ri X Y (lkM_7 g ad (up2 σ 7 v2.toNatClampNeg 1)) hg31 dX4_readPerson_65 ?_
        refine lv_bipush (v := (-9)) hx hb dX4_readPerson_66 (by decide) ?_
        refine lv_icmp_ne (tgt := 73) hx hb dX4_readPerson_68 (by decide) (fun c32 => ?_) (fun c32 => ?_)
        · replace h := oe c32 h
          refine lv_aload_n hx hb dX4_readPerson_73 rfl (lv_at hl 1 rfl) ?_
          refine lv_dup hx hb dX4_readPerson_74 rfl ?_
          refine rgM X Y 11 (v := .int ((up2 σ 7 v2.toNatClampNeg 1) 0 11)) tw_480 rfl dX4_readPerson_75 ?_
          refine lv_iconst (v := 1) hx hb dX4_readPerson_78 (by decide) ?_
          refine lv_iadd hx hb dX4_readPerson_79 ?_
          refine rpM X Y 11 (v := ((up2 σ 7 v2.toNatClampNeg 1) 0 11) + 1) tw_480 rfl rfl rfl (stM_11 g ad (up2 σ 7 v2.toNatClampNeg 1) (((up2 σ 7 v2.toNatClampNeg 1) 0 11) + 1)) dX4_readPerson_80 (fun H locs Y => ?_)
          refine lv_aload_n hx hb dX4_readPerson_83 rfl (lv_at hl 1 rfl) ?_
          refine rgM X Y 16 (v := .ref (ad 8)) tw_485 rfl dX4_readPerson_84 ?_
          refine lv_iload_n hx hb dX4_readPerson_87 rfl (lv_at hl 3 rfl) ?_
          refine lv_aload_n hx hb dX4_readPerson_88 rfl (lv_at hl 1 rfl) ?_
          refine lv_iload_n hx hb dX4_readPerson_89 rfl (lv_at hl 2 rfl) ?_
          refine lv_iconst (v := 0) hx hb dX4_readPerson_90 (by decide) ?_
          refine lv_iconst (v := 1) hx hb dX4_readPerson_91 (by decide) ?_
          obtain ⟨r34, σ34, hg33, h⟩ := ob2 h
          refine cVi X (hml.trans hl.1.symm) Y (c_fX4_digit l D g ad (up2 (up2 σ 7 v2.toNatClampNeg 1) 0 11 (((up2 σ 7 v2.toNatClampNeg 1) 0 11) + 1)) v1 0 1 hg33) (lkM g ad (up2 (up2 σ 7 v2.toNatClampNeg 1) 0 11 (((up2 σ 7 v2.toNatClampNeg 1) 0 11) + 1))) rfl (gs_X4_108 _) rfl fd_X4_digit ⟨Nat.le_of_ble_eq_true rfl, Nat.le_of_ble_eq_true rfl⟩ ⟨Nat.le_of_ble_eq_true rfl, Nat.le_of_ble_eq_true rfl⟩ (rest := [.int v2, .ref (ad 8)]) rfl (Nat.le_of_ble_eq_true rfl) dX4_readPerson_92 (fun H locs Y => ?_)
          obtain ⟨hg35, h⟩ := og h
          refine ris X Y (W1 := WM g ad (up2 σ34 8 v2.toNatClampNeg r34)) (lkM_8 g ad σ34) hg35 (stM_A8 g ad σ34 _) dX4_readPerson_95 (fun H locs Y => ?_)
          refine lv_aload_n hx hb dX4_readPerson_96 rfl (lv_at hl 1 rfl) ?_
          refine rgM X Y 16 (v := .ref (ad 8)) tw_485 rfl dX4_readPerson_97 ?_
          refine lv_iload_n hx hb dX4_readPerson_100 rfl (lv_at hl 3 rfl) ?_
          obtain ⟨hg36, h⟩ := og h
          refine ri X Y (lkM_8 g ad (up2 σ34 8 v2.toNatClampNeg r34)) hg36 dX4_readPerson_101 ?_
          refine lv_bipush (v := (-9)) hx hb dX4_readPerson_102 (by decide) ?_
          refine lv_icmp_ne (tgt := 109) hx hb dX4_readPerson_104 (by decide) (fun c37 => ?_) (fun c37 => ?_)
          · replace h := oe c37 h
            refine lv_iconst (v := 0) hx hb dX4_readPerson_109 (by decide) ?_
            refine lv_istore (lv' := [(4, .int 0), (3, .int (σ 3 (σ 0 11).toNatClampNeg)), (0, .ref (ad 0)), (1, .int v1), (2, .int v2)]) hx hb dX4_readPerson_110 hl (by decide) rfl (fun ls hl => ?_)
            exact w_fX4_readPerson_L112 X hr hlk hml n (up2 σ34 8 v2.toNatClampNeg r34) v1 v2 0 _ _ _ Y (lv_sub hl [2, 3, 4, 0] rfl) h
          · replace h := ot c37 h
            refine lv_iconst (v := 0) hx hb dX4_readPerson_107 (by decide) ?_
            obtain ⟨rfl, rfl⟩ := os2 h
            exact retZ X Y hr hlk rfl dX4_readPerson_108
        · replace h := ot c32 h
          refine lv_iconst (v := 0) hx hb dX4_readPerson_71 (by decide) ?_
          obtain ⟨rfl, rfl⟩ := os2 h
          exact retZ X Y hr hlk rfl dX4_readPerson_72
    · replace h := ot c11 h
      refine lv_iconst (v := 0) hx hb dX4_readPerson_33 (by decide) ?_
      refine lv_goto (tgt := 59) hx hb dX4_readPerson_34 (by decide) ?_
      obtain ⟨hg38, h⟩ := og h
      refine ris X Y (W1 := WM g ad (up2 σ 7 v2.toNatClampNeg 0)) (lkM_7 g ad σ) hg38 (stM_A7 g ad σ _) dX4_readPerson_59 (fun H locs Y => ?_)
      refine lv_aload_n hx hb dX4_readPerson_60 rfl (lv_at hl 1 rfl) ?_
      refine rgM X Y 15 (v := .ref (ad 7)) tw_484 rfl dX4_readPerson_61 ?_
      refine lv_iload_n hx hb dX4_readPerson_64 rfl (lv_at hl 3 rfl) ?_
      obtain ⟨hg39, h⟩ := og h
      refine ri X Y (lkM_7 g ad (up2 σ 7 v2.toNatClampNeg 0)) hg39 dX4_readPerson_65 ?_
      refine lv_bipush (v := (-9)) hx hb dX4_readPerson_66 (by decide) ?_
      refine lv_icmp_ne (tgt := 73) hx hb dX4_readPerson_68 (by decide) (fun c40 => ?_) (fun c40 => ?_)
      · replace h := oe c40 h
        refine lv_aload_n hx hb dX4_readPerson_73 rfl (lv_at hl 1 rfl) ?_
        refine lv_dup hx hb dX4_readPerson_74 rfl ?_
        refine rgM X Y 11 (v := .int ((up2 σ 7 v2.toNatClampNeg 0) 0 11)) tw_480 rfl dX4_readPerson_75 ?_
        refine lv_iconst (v := 1) hx hb dX4_readPerson_78 (by decide) ?_
        refine lv_iadd hx hb dX4_readPerson_79 ?_
        refine rpM X Y 11 (v := ((up2 σ 7 v2.toNatClampNeg 0) 0 11) + 1) tw_480 rfl rfl rfl (stM_11 g ad (up2 σ 7 v2.toNatClampNeg 0) (((up2 σ 7 v2.toNatClampNeg 0) 0 11) + 1)) dX4_readPerson_80 (fun H locs Y => ?_)
        refine lv_aload_n hx hb dX4_readPerson_83 rfl (lv_at hl 1 rfl) ?_
        refine rgM X Y 16 (v := .ref (ad 8)) tw_485 rfl dX4_readPerson_84 ?_
        refine lv_iload_n hx hb dX4_readPerson_87 rfl (lv_at hl 3 rfl) ?_
        refine lv_aload_n hx hb dX4_readPerson_88 rfl (lv_at hl 1 rfl) ?_
        refine lv_iload_n hx hb dX4_readPerson_89 rfl (lv_at hl 2 rfl) ?_
        refine lv_iconst (v := 0) hx hb dX4_readPerson_90 (by decide) ?_
        refine lv_iconst (v := 1) hx hb dX4_readPerson_91 (by decide) ?_
        obtain ⟨r42, σ42, hg41, h⟩ := ob2 h
        refine cVi X (hml.trans hl.1.symm) Y (c_fX4_digit l D g ad (up2 (up2 σ 7 v2.toNatClampNeg 0) 0 11 (((up2 σ 7 v2.toNatClampNeg 0) 0 11) + 1)) v1 0 1 hg41) (lkM g ad (up2 (up2 σ 7 v2.toNatClampNeg 0) 0 11 (((up2 σ 7 v2.toNatClampNeg 0) 0 11) + 1))) rfl (gs_X4_108 _) rfl fd_X4_digit ⟨Nat.le_of_ble_eq_true rfl, Nat.le_of_ble_eq_true rfl⟩ ⟨Nat.le_of_ble_eq_true rfl, Nat.le_of_ble_eq_true rfl⟩ (rest := [.int v2, .ref (ad 8)]) rfl (Nat.le_of_ble_eq_true rfl) dX4_readPerson_92 (fun H locs Y => ?_)
        obtain ⟨hg43, h⟩ := og h
        refine ris X Y (W1 := WM g ad (up2 σ42 8 v2.toNatClampNeg r42)) (lkM_8 g ad σ42) hg43 (stM_A8 g ad σ42 _) dX4_readPerson_95 (fun H locs Y => ?_)
        refine lv_aload_n hx hb dX4_readPerson_96 rfl (lv_at hl 1 rfl) ?_
        refine rgM X Y 16 (v := .ref (ad 8)) tw_485 rfl dX4_readPerson_97 ?_
        refine lv_iload_n hx hb dX4_readPerson_100 rfl (lv_at hl 3 rfl) ?_
        obtain ⟨hg44, h⟩ := og h
        refine ri X Y (lkM_8 g ad (up2 σ42 8 v2.toNatClampNeg r42)) hg44 dX4_readPerson_101 ?_
        refine lv_bipush (v := (-9)) hx hb dX4_readPerson_102 (by decide) ?_
        refine lv_icmp_ne (tgt := 109) hx hb dX4_readPerson_104 (by decide) (fun c45 => ?_) (fun c45 => ?_)
        · replace h := oe c45 h
          refine lv_iconst (v := 0) hx hb dX4_readPerson_109 (by decide) ?_
          refine lv_istore (lv' := [(4, .int 0), (3, .int (σ 3 (σ 0 11).toNatClampNeg)), (0, .ref (ad 0)), (1, .int v1), (2, .int v2)]) hx hb dX4_readPerson_110 hl (by decide) rfl (fun ls hl => ?_)
          exact w_fX4_readPerson_L112 X hr hlk hml n (up2 σ42 8 v2.toNatClampNeg r42) v1 v2 0 _ _ _ Y (lv_sub hl [2, 3, 4, 0] rfl) h
        · replace h := ot c45 h
          refine lv_iconst (v := 0) hx hb dX4_readPerson_107 (by decide) ?_
          obtain ⟨rfl, rfl⟩ := os2 h
          exact retZ X Y hr hlk rfl dX4_readPerson_108
      · replace h := ot c40 h
        refine lv_iconst (v := 0) hx hb dX4_readPerson_71 (by decide) ?_
        obtain ⟨rfl, rfl⟩ := os2 h
        exact retZ X Y hr hlk rfl dX4_readPerson_72
set_option maxHeartbeats 4000000 in
set_option maxRecDepth 100000 in
theorem w_fX4_readRiver_L80 {p : Program} {l : Launch} {e : Env} {s : State} {m : MethodId} {args : Array Value} {below : List Frame} {meth : Method} {c : Code} {D : va_G} {g : Nat → ClassId} {ad : Nat → Nat} {A : Nat → Prop} {r0 : Int32} {σ0 : St} (X : Cx p s m c args cX4_readRiver RX4 kX4_readRiver D g) (hr : meth.sig.returnType = (some .boolean)) (hlk : meth.locks = false) (hml : c.maxLocals = 3) : ∀ (n : Nat), ∀ (σ : St) (v1 : Int32) (v2 : Int32) (H : Heap) (locs : List Loc) (ls : Array Slot), Hp D A s.heap H locs (WM g ad σ) → lv_has ls 3 [(0, .ref (ad 0)), (1, .int v1), (2, .int v2)] → fX4_readRiver_L80 n σ v1 v2 = some (r0, σ0) → W p l e (RM 3 69) s m args below meth c H locs 0 0 (MQ below (QI D g A (WM g ad σ0) r0) args s 0 0 A) (F0 m 80 ls []) := by
  have hx := X.1
  have hb := X.2.1
  intro n
  induction n with
  | zero => intro σ v1 v2 H locs ls Y hl h; cases (show none = _ from h)
  | succ n ih =>
    intro σ v1 v2 H locs ls Y hl h
    rw [fX4_readRiver_L80] at h
    refine lv_iload_n hx hb dX4_readRiver_80 rfl (lv_at hl 2 rfl) ?_
    refine lv_aload_n hx hb dX4_readRiver_81 rfl (lv_at hl 0 rfl) ?_
    refine rgM X Y 14 (v := .int (σ 0 14)) tw_483 rfl dX4_readRiver_82 ?_
    refine lv_icmp_ge (tgt := 115) hx hb dX4_readRiver_85 (by decide) (fun c13 => ?_) (fun c13 => ?_)
    · replace h := ot c13 h
      refine lv_aload_n hx hb dX4_readRiver_115 rfl (lv_at hl 0 rfl) ?_
      refine rgM X Y 11 (v := .int (σ 0 11)) tw_480 rfl dX4_readRiver_116 ?_
      refine lv_iload_n hx hb dX4_readRiver_119 rfl (lv_at hl 1 rfl) ?_
      refine lv_icmp_ne (tgt := 127) hx hb dX4_readRiver_120 (by decide) (fun c14 => ?_) (fun c14 => ?_)
      · replace h := oe c14 h
        refine lv_iconst (v := 0) hx hb dX4_readRiver_127 (by decide) ?_
        obtain ⟨rfl, rfl⟩ := os2 h
        exact retZ X Y hr hlk rfl dX4_readRiver_128
      · replace h := ot c14 h
        refine lv_iconst (v := 1) hx hb dX4_readRiver_123 (by decide) ?_
        refine lv_goto (tgt := 128) hx hb dX4_readRiver_124 (by decide) ?_
        obtain ⟨rfl, rfl⟩ := os2 h
        exact retZ X Y hr hlk rfl dX4_readRiver_128
    · replace h := oe c13 h
      refine lv_aload_n hx hb dX4_readRiver_88 rfl (lv_at hl 0 rfl) ?_
      refine lv_iload_n hx hb dX4_readRiver_89 rfl (lv_at hl 1 rfl) ?_
      refine lv_bipush (v := 44) hx hb dX4_readRiver_90 (by decide) ?_
      obtain ⟨r16, σ16, hg15, h⟩ := ob2 h
      refine cVi X (hml.trans hl.1.symm) Y (c_fX4_isSign l D g ad σ v1 44 hg15) (lkM g ad σ) rfl (gs_X4_104 _) rfl fd_X4_isSign ⟨Nat.le_of_ble_eq_true rfl, Nat.le_of_ble_eq_true rfl⟩ ⟨Nat.le_of_ble_eq_true rfl, Nat.le_of_ble_eq_true rfl⟩ (rest := []) rfl (Nat.le_of_ble_eq_true rfl) dX4_readRiver_92 (fun H locs Y => ?_)
      refine lv_if_eq (tgt := 107) hx hb dX4_readRiver_95 (by decide) (fun c17 => ?_) (fun c17 => ?_)
      · replace h := ot c17 h
        refine lv_iconst (v := 0) hx hb dX4_readRiver_107 (by decide) ?_
        obtain ⟨rfl, rfl⟩ := os2 h
        exact retZ X Y hr hlk rfl dX4_readRiver_108
      · replace h := oe c17 h
        refine lv_aload_n hx hb dX4_readRiver_98 rfl (lv_at hl 0 rfl) ?_
        refine lv_iload_n hx hb dX4_readRiver_99 rfl (lv_at hl 1 rfl) ?_
        refine lv_iload_n hx hb dX4_readRiver_100 rfl (lv_at hl 2 rfl) ?_
        obtain ⟨r19, σ19, hg18, h⟩ := ob2 h
        refine cVi X (hml.trans hl.1.symm) Y (c_fX4_readPerson l D g ad σ16 n v1 v2 hg18) (lkM g ad σ16) rfl (gs_X4_112 _) rfl fd_X4_readPerson ⟨Nat.le_of_ble_eq_true rfl, Nat.le_of_ble_eq_true rfl⟩ ⟨Nat.le_of_ble_eq_true rfl, Nat.le_of_ble_eq_true rfl⟩ (rest := []) rfl (Nat.le_of_ble_eq_true rfl) dX4_readRiver_101 (fun H locs Y => ?_)
        refine lv_if_ne (tgt := 109) hx hb dX4_readRiver_104 (by decide) (fun c20 => ?_) (fun c20 => ?_)
        · replace h := oe c20 h
          refine lv_iinc (v := v2 + 1) (lv' := [(2, .int (v2 + 1)), (0, .ref (ad 0)), (1, .int v1)]) hx hb dX4_readRiver_109 hl (k := 2) rfl rfl (by decide) rfl (fun ls hl => ?_)
          refine lv_goto (tgt := 80) hx hb dX4_readRiver_112 (by decide) ?_
          exact ih σ19 v1 (v2 + 1) _ _ _ Y (lv_sub hl [1, 2, 0] rfl) h
        · replace h := ot c20 h
          refine lv_iconst (v := 0) hx hb dX4_readRiver_107 (by decide) ?_
          obtain ⟨rfl, rfl⟩ := os2 h
          exact retZ X Y hr hlk rfl dX4_readRiver_108
set_option maxHeartbeats 4000000 in
set_option maxRecDepth 100000 in
theorem c_fX4_readRiver (l : Launch) (D : va_G) (g : Nat → ClassId) (ad : Nat → Nat) (σ : St) (n : Nat) (v1 : Int32) {r0 : Int32} {σ0 : St} (h : fX4_readRiver n σ v1 = some (r0, σ0)) : MI l yX4_readRiver kX4_readRiver 3 69 D g (WM g ad σ) (WM g ad σ0) [.ref (ad 0), .int v1] r0 := by
  intro sz
  refine Met.of2 (Qc := fun A => QI D g A (WM g ad σ0) r0) (cc := cX4_readRiver) (maxL := 3) (ret := (some .boolean)) (own := RX4) (by decide) rfl rfl (Nat.le_of_ble_eq_true rfl) ?_
  intro p e s m below meth c A ls X hr hlk hml Y hl
  have hx := X.1
  have hb := X.2.1
  have hl : lv_has ls 3 [(0, .ref (ad 0)), (1, .int v1)] := hl
  rw [fX4_readRiver] at h
  refine lv_aload_n hx hb dX4_readRiver_0 rfl (lv_at hl 0 rfl) ?_
  refine lv_iload_n hx hb dX4_readRiver_1 rfl (lv_at hl 1 rfl) ?_
  refine lv_bipush (v := 111) hx hb dX4_readRiver_2 (by decide) ?_
  obtain ⟨r2, σ2, hg1, h⟩ := ob2 h
  refine cVi X (hml.trans hl.1.symm) Y (c_fX4_isSign l D g ad σ v1 111 hg1) (lkM g ad σ) rfl (gs_X4_104 _) rfl fd_X4_isSign ⟨Nat.le_of_ble_eq_true rfl, Nat.le_of_ble_eq_true rfl⟩ ⟨Nat.le_of_ble_eq_true rfl, Nat.le_of_ble_eq_true rfl⟩ (rest := []) rfl (Nat.le_of_ble_eq_true rfl) dX4_readRiver_4 (fun H locs Y => ?_)
  refine lv_if_ne (tgt := 12) hx hb dX4_readRiver_7 (by decide) (fun c3 => ?_) (fun c3 => ?_)
  · replace h := oe c3 h
    refine lv_aload_n hx hb dX4_readRiver_12 rfl (lv_at hl 0 rfl) ?_
    refine lv_aload_n hx hb dX4_readRiver_13 rfl (lv_at hl 0 rfl) ?_
    refine lv_iload_n hx hb dX4_readRiver_14 rfl (lv_at hl 1 rfl) ?_
    refine lv_iconst (v := 1) hx hb dX4_readRiver_15 (by decide) ?_
    refine lv_iconst (v := 3) hx hb dX4_readRiver_16 (by decide) ?_
    obtain ⟨r5, σ5, hg4, h⟩ := ob2 h
    refine cVi X (hml.trans hl.1.symm) Y (c_fX4_digit l D g ad σ2 v1 1 3 hg4) (lkM g ad σ2) rfl (gs_X4_108 _) rfl fd_X4_digit ⟨Nat.le_of_ble_eq_true rfl, Nat.le_of_ble_eq_true rfl⟩ ⟨Nat.le_of_ble_eq_true rfl, Nat.le_of_ble_eq_true rfl⟩ (rest := [.ref (ad 0)]) rfl (Nat.le_of_ble_eq_true rfl) dX4_readRiver_17 (fun H locs Y => ?_)
    refine rpM X Y 12 (v := r5) tw_481 rfl rfl rfl (stM_12 g ad σ5 r5) dX4_readRiver_20 (fun H locs Y => ?_)
    refine lv_aload_n hx hb dX4_readRiver_23 rfl (lv_at hl 0 rfl) ?_
    refine rgM X Y 12 (v := .int ((up2 σ5 0 12 r5) 0 12)) tw_481 rfl dX4_readRiver_24 ?_
    refine lv_bipush (v := (-9)) hx hb dX4_readRiver_27 (by decide) ?_
    refine lv_icmp_ne (tgt := 34) hx hb dX4_readRiver_29 (by decide) (fun c6 => ?_) (fun c6 => ?_)
    · replace h := oe c6 h
      refine lv_aload_n hx hb dX4_readRiver_34 rfl (lv_at hl 0 rfl) ?_
      refine lv_aload_n hx hb dX4_readRiver_35 rfl (lv_at hl 0 rfl) ?_
      refine lv_iload_n hx hb dX4_readRiver_36 rfl (lv_at hl 1 rfl) ?_
      refine lv_iconst (v := 1) hx hb dX4_readRiver_37 (by decide) ?_
      refine lv_iconst (v := 3) hx hb dX4_readRiver_38 (by decide) ?_
      obtain ⟨r8, σ8, hg7, h⟩ := ob2 h
      refine cVi X (hml.trans hl.1.symm) Y (c_fX4_digit l D g ad (up2 σ5 0 12 r5) v1 1 3 hg7) (lkM g ad (up2 σ5 0 12 r5)) rfl (gs_X4_108 _) rfl fd_X4_digit ⟨Nat.le_of_ble_eq_true rfl, Nat.le_of_ble_eq_true rfl⟩ ⟨Nat.le_of_ble_eq_true rfl, Nat.le_of_ble_eq_true rfl⟩ (rest := [.ref (ad 0)]) rfl (Nat.le_of_ble_eq_true rfl) dX4_readRiver_39 (fun H locs Y => ?_)
      refine rpM X Y 13 (v := r8) tw_482 rfl rfl rfl (stM_13 g ad σ8 r8) dX4_readRiver_42 (fun H locs Y => ?_)
      refine lv_aload_n hx hb dX4_readRiver_45 rfl (lv_at hl 0 rfl) ?_
      refine rgM X Y 13 (v := .int ((up2 σ8 0 13 r8) 0 13)) tw_482 rfl dX4_readRiver_46 ?_
      refine lv_bipush (v := (-9)) hx hb dX4_readRiver_49 (by decide) ?_
      refine lv_icmp_ne (tgt := 56) hx hb dX4_readRiver_51 (by decide) (fun c9 => ?_) (fun c9 => ?_)
      · replace h := oe c9 h
        refine lv_aload_n hx hb dX4_readRiver_56 rfl (lv_at hl 0 rfl) ?_
        refine lv_aload_n hx hb dX4_readRiver_57 rfl (lv_at hl 0 rfl) ?_
        refine lv_iload_n hx hb dX4_readRiver_58 rfl (lv_at hl 1 rfl) ?_
        refine lv_iconst (v := 2) hx hb dX4_readRiver_59 (by decide) ?_
        refine lv_iconst (v := 5) hx hb dX4_readRiver_60 (by decide) ?_
        obtain ⟨r11, σ11, hg10, h⟩ := ob2 h
        refine cVi X (hml.trans hl.1.symm) Y (c_fX4_digit l D g ad (up2 σ8 0 13 r8) v1 2 5 hg10) (lkM g ad (up2 σ8 0 13 r8)) rfl (gs_X4_108 _) rfl fd_X4_digit ⟨Nat.le_of_ble_eq_true rfl, Nat.le_of_ble_eq_true rfl⟩ ⟨Nat.le_of_ble_eq_true rfl, Nat.le_of_ble_eq_true rfl⟩ (rest := [.ref (ad 0)]) rfl (Nat.le_of_ble_eq_true rfl) dX4_readRiver_61 (fun H locs Y => ?_)
        refine rpM X Y 14 (v := r11) tw_483 rfl rfl rfl (stM_14 g ad σ11 r11) dX4_readRiver_64 (fun H locs Y => ?_)
        refine lv_aload_n hx hb dX4_readRiver_67 rfl (lv_at hl 0 rfl) ?_
        refine rgM X Y 14 (v := .int ((up2 σ11 0 14 r11) 0 14)) tw_483 rfl dX4_readRiver_68 ?_
        refine lv_bipush (v := (-9)) hx hb dX4_readRiver_71 (by decide) ?_
        refine lv_icmp_ne (tgt := 78) hx hb dX4_readRiver_73 (by decide) (fun c12 => ?_) (fun c12 => ?_)
        · replace h := oe c12 h
          refine lv_iconst (v := 0) hx hb dX4_readRiver_78 (by decide) ?_
          refine lv_istore_n (lv' := [(2, .int 0), (0, .ref (ad 0)), (1, .int v1)]) hx hb dX4_readRiver_79 rfl hl (by decide) rfl (fun ls hl => ?_)
          exact w_fX4_readRiver_L80 X hr hlk hml n (up2 σ11 0 14 r11) v1 0 _ _ _ Y (lv_sub hl [1, 2, 0] rfl) h
        · replace h := ot c12 h
          refine lv_iconst (v := 0) hx hb dX4_readRiver_76 (by decide) ?_
          obtain ⟨rfl, rfl⟩ := os2 h
          exact retZ X Y hr hlk rfl dX4_readRiver_77
      · replace h := ot c9 h
        refine lv_iconst (v := 0) hx hb dX4_readRiver_54 (by decide) ?_
        obtain ⟨rfl, rfl⟩ := os2 h
        exact retZ X Y hr hlk rfl dX4_readRiver_55
    · replace h := ot c6 h
      refine lv_iconst (v := 0) hx hb dX4_readRiver_32 (by decide) ?_
      obtain ⟨rfl, rfl⟩ := os2 h
      exact retZ X Y hr hlk rfl dX4_readRiver_33
  · replace h := ot c3 h
    refine lv_iconst (v := 0) hx hb dX4_readRiver_10 (by decide) ?_
    obtain ⟨rfl, rfl⟩ := os2 h
    exact retZ X Y hr hlk rfl dX4_readRiver_11
set_option maxHeartbeats 4000000 in
set_option maxRecDepth 100000 in
theorem w_fX4_takeRiver_G26 {p : Program} {l : Launch} {e : Env} {s : State} {m : MethodId} {args : Array Value} {below : List Frame} {meth : Method} {c : Code} {D : va_G} {g : Nat → ClassId} {ad : Nat → Nat} {A : Nat → Prop} {σ0 : St} (X : Cx p s m c args cX4_takeRiver RX4 kX4_takeRiver D g) (hr : meth.sig.returnType = none) (hlk : meth.locks = false) (hml : c.maxLocals = 3) : ∀ n : Nat, (∀ (σ : St) (v1 : Int32) (H : Heap) (locs : List Loc) (ls : Array Slot), Hp D A s.heap H locs (WM g ad σ) → lv_has ls 3 [(0, .ref (ad 0)), (1, .int v1)] → fX4_takeRiver_G26 n 0 σ v1 0 = some σ0 → W p l e (RM 0 0) s m args below meth c H locs 0 0 (MQ below (QV D g A (WM g ad σ0)) args s 0 0 A) (F0 m 26 ls [])) ∧ (∀ (σ : St) (v1 : Int32) (v2 : Int32) (H : Heap) (locs : List Loc) (ls : Array Slot), Hp D A s.heap H locs (WM g ad σ) → lv_has ls 3 [(0, .ref (ad 0)), (1, .int v1), (2, .int v2)] → fX4_takeRiver_G26 n 1 σ v1 v2 = some σ0 → W p l e (RM 0 0) s m args below meth c H locs 0 0 (MQ below (QV D g A (WM g ad σ0)) args s 0 0 A) (F0 m 60 ls [])) := by
  have hx := X.1
  have hb := X.2.1
  intro n
  induction n with
  | zero => refine ⟨?_, ?_⟩
            · intro σ v1 H locs ls Y hl h; cases (show none = _ from h)
            · intro σ v1 v2 H locs ls Y hl h; cases (show none = _ from h)
  | succ n ih =>
    refine ⟨?_, ?_⟩
    · intro σ v1 H locs ls Y hl h
      rw [fX4_takeRiver_G26] at h
      replace h := ot rfl h
      refine lv_iload_n hx hb dX4_takeRiver_26 rfl (lv_at hl 1 rfl) ?_
      refine lv_aload_n hx hb dX4_takeRiver_27 rfl (lv_at hl 0 rfl) ?_
      refine rgM X Y 5 (v := .int (σ 0 5)) tw_474 rfl dX4_takeRiver_28 ?_
      refine lv_icmp_ge (tgt := 100) hx hb dX4_takeRiver_31 (by decide) (fun c1 => ?_) (fun c1 => ?_)
      · replace h := ot c1 h
        refine lv_aload_n hx hb dX4_takeRiver_100 rfl (lv_at hl 0 rfl) ?_
        refine lv_iconst (v := 0) hx hb dX4_takeRiver_101 (by decide) ?_
        refine rpM X Y 26 (v := 0) tw_495 rfl rfl rfl (stM_26 g ad σ 0) dX4_takeRiver_102 (fun H locs Y => ?_)
        obtain rfl := os1 h
        exact retV X Y hr hlk dX4_takeRiver_105
      · replace h := oe c1 h
        refine lv_aload_n hx hb dX4_takeRiver_34 rfl (lv_at hl 0 rfl) ?_
        refine rgM X Y 8 (v := .ref (ad 4)) tw_477 rfl dX4_takeRiver_35 ?_
        refine lv_iload_n hx hb dX4_takeRiver_38 rfl (lv_at hl 1 rfl) ?_
        refine lv_aload_n hx hb dX4_takeRiver_39 rfl (lv_at hl 0 rfl) ?_
        refine rgM X Y 15 (v := .ref (ad 7)) tw_484 rfl dX4_takeRiver_40 ?_
        refine lv_iload_n hx hb dX4_takeRiver_43 rfl (lv_at hl 1 rfl) ?_
        obtain ⟨hg2, h⟩ := og h
        refine ri X Y (lkM_7 g ad σ) hg2 dX4_takeRiver_44 ?_
        obtain ⟨hg3, h⟩ := og h
        refine ris X Y (W1 := WM g ad (up2 σ 4 v1.toNatClampNeg (σ 7 v1.toNatClampNeg))) (lkM_4 g ad σ) hg3 (stM_A4 g ad σ _) dX4_takeRiver_45 (fun H locs Y => ?_)
        refine lv_aload_n hx hb dX4_takeRiver_46 rfl (lv_at hl 0 rfl) ?_
        refine rgM X Y 9 (v := .ref (ad 5)) tw_478 rfl dX4_takeRiver_47 ?_
        refine lv_iload_n hx hb dX4_takeRiver_50 rfl (lv_at hl 1 rfl) ?_
        refine lv_aload_n hx hb dX4_takeRiver_51 rfl (lv_at hl 0 rfl) ?_
        refine rgM X Y 16 (v := .ref (ad 8)) tw_485 rfl dX4_takeRiver_52 ?_
        refine lv_iload_n hx hb dX4_takeRiver_55 rfl (lv_at hl 1 rfl) ?_
        obtain ⟨hg4, h⟩ := og h
        refine ri X Y (lkM_8 g ad (up2 σ 4 v1.toNatClampNeg (σ 7 v1.toNatClampNeg))) hg4 dX4_takeRiver_56 ?_
        obtain ⟨hg5, h⟩ := og h
        refine ris X Y (W1 := WM g ad (up2 (up2 σ 4 v1.toNatClampNeg (σ 7 v1.toNatClampNeg)) 5 v1.toNatClampNeg ((up2 σ 4 v1.toNatClampNeg (σ 7 v1.toNatClampNeg)) 8 v1.toNatClampNeg))) (lkM_5 g ad (up2 σ 4 v1.toNatClampNeg (σ 7 v1.toNatClampNeg))) hg5 (stM_A5 g ad (up2 σ 4 v1.toNatClampNeg (σ 7 v1.toNatClampNeg)) _) dX4_takeRiver_57 (fun H locs Y => ?_)
        refine lv_iconst (v := 0) hx hb dX4_takeRiver_58 (by decide) ?_
        refine lv_istore_n (lv' := [(2, .int 0), (0, .ref (ad 0)), (1, .int v1)]) hx hb dX4_takeRiver_59 rfl hl (by decide) rfl (fun ls hl => ?_)
        exact ih.2 (up2 (up2 σ 4 v1.toNatClampNeg (σ 7 v1.toNatClampNeg)) 5 v1.toNatClampNeg ((up2 σ 4 v1.toNatClampNeg (σ 7 v1.toNatClampNeg)) 8 v1.toNatClampNeg)) v1 0 _ _ _ Y (lv_sub hl [1, 2, 0] rfl) h
    · intro σ v1 v2 H locs ls Y hl h
      rw [fX4_takeRiver_G26] at h
      replace h := oe (by decide) h
      refine lv_iload_n hx hb dX4_takeRiver_60 rfl (lv_at hl 2 rfl) ?_
      refine lv_aload_n hx hb dX4_takeRiver_61 rfl (lv_at hl 0 rfl) ?_
      refine rgM X Y 5 (v := .int (σ 0 5)) tw_474 rfl dX4_takeRiver_62 ?_
      refine lv_icmp_ge (tgt := 94) hx hb dX4_takeRiver_65 (by decide) (fun c6 => ?_) (fun c6 => ?_)
      · replace h := ot c6 h
        refine lv_iinc (v := v1 + 1) (lv' := [(1, .int (v1 + 1)), (0, .ref (ad 0)), (2, .int v2)]) hx hb dX4_takeRiver_94 hl (k := 1) rfl rfl (by decide) rfl (fun ls hl => ?_)
        refine lv_goto (tgt := 26) hx hb dX4_takeRiver_97 (by decide) ?_
        exact ih.1 σ (v1 + 1) _ _ _ Y (lv_sub hl [1, 0] rfl) h
      · replace h := oe c6 h
        refine lv_aload_n hx hb dX4_takeRiver_68 rfl (lv_at hl 0 rfl) ?_
        refine rgM X Y 10 (v := .ref (ad 6)) tw_479 rfl dX4_takeRiver_69 ?_
        refine lv_iconst (v := 5) hx hb dX4_takeRiver_72 (by decide) ?_
        refine lv_iload_n hx hb dX4_takeRiver_73 rfl (lv_at hl 1 rfl) ?_
        refine lv_imul hx hb dX4_takeRiver_74 ?_
        refine lv_iload_n hx hb dX4_takeRiver_75 rfl (lv_at hl 2 rfl) ?_
        refine lv_iadd hx hb dX4_takeRiver_76 ?_
        refine lv_aload_n hx hb dX4_takeRiver_77 rfl (lv_at hl 0 rfl) ?_
        refine rgM X Y 17 (v := .ref (ad 9)) tw_486 rfl dX4_takeRiver_78 ?_
        refine lv_iconst (v := 5) hx hb dX4_takeRiver_81 (by decide) ?_
        refine lv_iload_n hx hb dX4_takeRiver_82 rfl (lv_at hl 1 rfl) ?_
        refine lv_imul hx hb dX4_takeRiver_83 ?_
        refine lv_iload_n hx hb dX4_takeRiver_84 rfl (lv_at hl 2 rfl) ?_
        refine lv_iadd hx hb dX4_takeRiver_85 ?_
        obtain ⟨hg7, h⟩ := og h
        refine ri X Y (lkM_9 g ad σ) hg7 dX4_takeRiver_86 ?_
        obtain ⟨hg8, h⟩ := og h
        refine ris X Y (W1 := WM g ad (up2 σ 6 ((((5 : Int32) * v1) + v2).toNatClampNeg) (σ 9 (((5 : Int32) * v1) + v2).toNatClampNeg))) (lkM_6 g ad σ) hg8 (stM_A6 g ad σ _) dX4_takeRiver_87 (fun H locs Y => ?_)
        refine lv_iinc (v := v2 + 1) (lv' := [(2, .int (v2 + 1)), (0, .ref (ad 0)), (1, .int v1)]) hx hb dX4_takeRiver_88 hl (k := 2) rfl rfl (by decide) rfl (fun ls hl => ?_)
        refine lv_goto (tgt := 60) hx hb dX4_takeRiver_91 (by decide) ?_
        exact ih.2 (up2 σ 6 ((((5 : Int32) * v1) + v2).toNatClampNeg) (σ 9 (((5 : Int32) * v1) + v2).toNatClampNeg)) v1 (v2 + 1) _ _ _ Y (lv_sub hl [1, 2, 0] rfl) h
set_option maxHeartbeats 4000000 in
set_option maxRecDepth 100000 in
theorem c_fX4_takeRiver (l : Launch) (D : va_G) (g : Nat → ClassId) (ad : Nat → Nat) (σ : St) (n : Nat) {σ0 : St} (h : fX4_takeRiver n σ = some σ0) : MV l yX4_takeRiver kX4_takeRiver 0 0 D g (WM g ad σ) (WM g ad σ0) [.ref (ad 0)] := by
  intro sz
  refine Met.of2 (Qc := fun A => QV D g A (WM g ad σ0)) (cc := cX4_takeRiver) (maxL := 3) (ret := none) (own := RX4) (by decide) rfl rfl (Nat.le_of_ble_eq_true rfl) ?_
  intro p e s m below meth c A ls X hr hlk hml Y hl
  have hx := X.1
  have hb := X.2.1
  have hl : lv_has ls 3 [(0, .ref (ad 0))] := hl
  rw [fX4_takeRiver] at h
  refine lv_aload_n hx hb dX4_takeRiver_0 rfl (lv_at hl 0 rfl) ?_
  refine lv_aload_n hx hb dX4_takeRiver_1 rfl (lv_at hl 0 rfl) ?_
  refine rgM X Y 14 (v := .int (σ 0 14)) tw_483 rfl dX4_takeRiver_2 ?_
  refine rpM X Y 5 (v := σ 0 14) tw_474 rfl rfl rfl (stM_5 g ad σ (σ 0 14)) dX4_takeRiver_5 (fun H locs Y => ?_)
  refine lv_aload_n hx hb dX4_takeRiver_8 rfl (lv_at hl 0 rfl) ?_
  refine lv_aload_n hx hb dX4_takeRiver_9 rfl (lv_at hl 0 rfl) ?_
  refine rgM X Y 12 (v := .int ((up2 σ 0 5 (σ 0 14)) 0 12)) tw_481 rfl dX4_takeRiver_10 ?_
  refine rpM X Y 6 (v := (up2 σ 0 5 (σ 0 14)) 0 12) tw_475 rfl rfl rfl (stM_6 g ad (up2 σ 0 5 (σ 0 14)) ((up2 σ 0 5 (σ 0 14)) 0 12)) dX4_takeRiver_13 (fun H locs Y => ?_)
  refine lv_aload_n hx hb dX4_takeRiver_16 rfl (lv_at hl 0 rfl) ?_
  refine lv_aload_n hx hb dX4_takeRiver_17 rfl (lv_at hl 0 rfl) ?_
  refine rgM X Y 13 (v := .int ((up2 (up2 σ 0 5 (σ 0 14)) 0 6 ((up2 σ 0 5 (σ 0 14)) 0 12)) 0 13)) tw_482 rfl dX4_takeRiver_18 ?_
  refine rpM X Y 7 (v := (up2 (up2 σ 0 5 (σ 0 14)) 0 6 ((up2 σ 0 5 (σ 0 14)) 0 12)) 0 13) tw_476 rfl rfl rfl (stM_7 g ad (up2 (up2 σ 0 5 (σ 0 14)) 0 6 ((up2 σ 0 5 (σ 0 14)) 0 12)) ((up2 (up2 σ 0 5 (σ 0 14)) 0 6 ((up2 σ 0 5 (σ 0 14)) 0 12)) 0 13)) dX4_takeRiver_21 (fun H locs Y => ?_)
  refine lv_iconst (v := 0) hx hb dX4_takeRiver_24 (by decide) ?_
  refine lv_istore_n (lv' := [(1, .int 0), (0, .ref (ad 0))]) hx hb dX4_takeRiver_25 rfl hl (by decide) rfl (fun ls hl => ?_)
  exact (w_fX4_takeRiver_G26 X hr hlk hml n).1 (up2 (up2 (up2 σ 0 5 (σ 0 14)) 0 6 ((up2 σ 0 5 (σ 0 14)) 0 12)) 0 7 ((up2 (up2 σ 0 5 (σ 0 14)) 0 6 ((up2 σ 0 5 (σ 0 14)) 0 12)) 0 13)) 0 _ _ _ Y (lv_sub hl [1, 0] rfl) h
set_option maxHeartbeats 4000000 in
set_option maxRecDepth 100000 in
theorem c_fX4_river (l : Launch) (D : va_G) (g : Nat → ClassId) (ad : Nat → Nat) (σ : St) (n : Nat) (v1 : Int32) (v2 : Int32) (v3 : Int32) (v4 : Int32) {r0 : Int32} {σ0 : St} (h : fX4_river n σ v1 v2 v3 v4 = some (r0, σ0)) : MI l yX4_river kX4_river 4 91 D g (WM g ad σ) (WM g ad σ0) [.ref (ad 0), .int v1, .int v2, .int v3, .int v4] r0 := by
  intro sz
  refine Met.of2 (Qc := fun A => QI D g A (WM g ad σ0) r0) (cc := cX4_river) (maxL := 7) (ret := (some .int)) (own := RX4) (by decide) rfl rfl (Nat.le_of_ble_eq_true rfl) ?_
  intro p e s m below meth c A ls X hr hlk hml Y hl
  have hx := X.1
  have hb := X.2.1
  have hl : lv_has ls 7 [(0, .ref (ad 0)), (1, .int v1), (2, .int v2), (3, .int v3), (4, .int v4)] := hl
  rw [fX4_river] at h
  refine lv_aload_n hx hb dX4_river_0 rfl (lv_at hl 0 rfl) ?_
  refine lv_iconst (v := 0) hx hb dX4_river_1 (by decide) ?_
  refine rpM X Y 0 (v := 0) tw_469 rfl rfl rfl (stM_0 g ad σ 0) dX4_river_2 (fun H locs Y => ?_)
  refine lv_iload_n hx hb dX4_river_5 rfl (lv_at hl 1 rfl) ?_
  obtain ⟨r2, hg1, h⟩ := ob h
  refine cSi X (hml.trans hl.1.symm) Y (c_fX4_isSheet l D g (WM g ad (up2 σ 0 0 0)) v1 hg1) (gs_X4_65 _) rfl fd_X4_isSheet ⟨Nat.le_of_ble_eq_true rfl, Nat.le_of_ble_eq_true rfl⟩ ⟨Nat.le_of_ble_eq_true rfl, Nat.le_of_ble_eq_true rfl⟩ (rest := []) rfl (Nat.le_of_ble_eq_true rfl) dX4_river_6 (fun H locs Y => ?_)
  refine lv_if_ne (tgt := 14) hx hb dX4_river_9 (by decide) (fun c3 => ?_) (fun c3 => ?_)
  · replace h := oe c3 h
    refine lv_iload_n hx hb dX4_river_14 rfl (lv_at hl 2 rfl) ?_
    obtain ⟨r5, hg4, h⟩ := ob h
    refine cSi X (hml.trans hl.1.symm) Y (c_fX4_isSort l D g (WM g ad (up2 σ 0 0 0)) v2 hg4) (gs_X4_69 _) rfl fd_X4_isSort ⟨Nat.le_of_ble_eq_true rfl, Nat.le_of_ble_eq_true rfl⟩ ⟨Nat.le_of_ble_eq_true rfl, Nat.le_of_ble_eq_true rfl⟩ (rest := []) rfl (Nat.le_of_ble_eq_true rfl) dX4_river_15 (fun H locs Y => ?_)
    refine lv_if_ne (tgt := 24) hx hb dX4_river_18 (by decide) (fun c6 => ?_) (fun c6 => ?_)
    · replace h := oe c6 h
      refine lv_aload_n hx hb dX4_river_24 rfl (lv_at hl 0 rfl) ?_
      refine lv_iload_n hx hb dX4_river_25 rfl (lv_at hl 1 rfl) ?_
      refine lv_iload_n hx hb dX4_river_26 rfl (lv_at hl 2 rfl) ?_
      refine lv_iload_n hx hb dX4_river_27 rfl (lv_at hl 3 rfl) ?_
      refine lv_iload hx hb dX4_river_28 (lv_at hl 4 rfl) ?_
      obtain ⟨r8, hg7, h⟩ := ob h
      refine cVi X (hml.trans hl.1.symm) Y (c_fX4_against l D g ad (up2 σ 0 0 0) v1 v2 v3 v4 hg7) (lkM g ad (up2 σ 0 0 0)) rfl (gs_X4_72 _) rfl fd_X4_against ⟨Nat.le_of_ble_eq_true rfl, Nat.le_of_ble_eq_true rfl⟩ ⟨Nat.le_of_ble_eq_true rfl, Nat.le_of_ble_eq_true rfl⟩ (rest := []) rfl (Nat.le_of_ble_eq_true rfl) dX4_river_30 (fun H locs Y => ?_)
      refine lv_istore (lv' := [(5, .int r8), (0, .ref (ad 0)), (1, .int v1), (2, .int v2), (3, .int v3), (4, .int v4)]) hx hb dX4_river_33 hl (by decide) rfl (fun ls hl => ?_)
      refine lv_iload hx hb dX4_river_35 (lv_at hl 0 rfl) ?_
      refine lv_if_eq (tgt := 47) hx hb dX4_river_37 (by decide) (fun c9 => ?_) (fun c9 => ?_)
      · replace h := ot c9 h
        refine lv_bipush (v := 60) hx hb dX4_river_47 (by decide) ?_
        refine lv_iload_n hx hb dX4_river_49 rfl (lv_at hl 2 rfl) ?_
        refine lv_imul hx hb dX4_river_50 ?_
        refine lv_iload_n hx hb dX4_river_51 rfl (lv_at hl 4 rfl) ?_
        refine lv_iadd hx hb dX4_river_52 ?_
        refine lv_istore (lv' := [(6, .int (((60 : Int32) * v1) + v3)), (5, .int r8), (0, .ref (ad 0)), (1, .int v1), (2, .int v2), (3, .int v3), (4, .int v4)]) hx hb dX4_river_53 hl (by decide) rfl (fun ls hl => ?_)
        refine lv_aload_n hx hb dX4_river_55 rfl (lv_at hl 2 rfl) ?_
        refine lv_iload hx hb dX4_river_56 (lv_at hl 0 rfl) ?_
        refine rpM X Y 11 (v := ((60 : Int32) * v1) + v3) tw_480 rfl rfl rfl (stM_11 g ad (up2 σ 0 0 0) (((60 : Int32) * v1) + v3)) dX4_river_58 (fun H locs Y => ?_)
        refine lv_aload_n hx hb dX4_river_61 rfl (lv_at hl 2 rfl) ?_
        refine lv_iload hx hb dX4_river_62 (lv_at hl 0 rfl) ?_
        refine lv_iload hx hb dX4_river_64 (lv_at hl 6 rfl) ?_
        refine lv_iadd hx hb dX4_river_66 ?_
        obtain ⟨r11, σ11, hg10, h⟩ := ob2 h
        refine cVi X (hml.trans hl.1.symm) Y (c_fX4_readRiver l D g ad (up2 (up2 σ 0 0 0) 0 11 (((60 : Int32) * v1) + v3)) n ((((60 : Int32) * v1) + v3) + v4) hg10) (lkM g ad (up2 (up2 σ 0 0 0) 0 11 (((60 : Int32) * v1) + v3))) rfl (gs_X4_80 _) rfl fd_X4_readRiver ⟨Nat.le_of_ble_eq_true rfl, Nat.le_of_ble_eq_true rfl⟩ ⟨Nat.le_of_ble_eq_true rfl, Nat.le_of_ble_eq_true rfl⟩ (rest := []) rfl (Nat.le_of_ble_eq_true rfl) dX4_river_67 (fun H locs Y => ?_)
        refine lv_if_ne (tgt := 84) hx hb dX4_river_70 (by decide) (fun c12 => ?_) (fun c12 => ?_)
        · replace h := oe c12 h
          refine lv_aload_n hx hb dX4_river_84 rfl (lv_at hl 2 rfl) ?_
          obtain ⟨σ14, hg13, h⟩ := ob h
          refine cVv X (hml.trans hl.1.symm) Y (c_fX4_takeRiver l D g ad σ11 n hg13) (lkM g ad σ11) rfl (gs_X4_83 _) rfl fd_X4_takeRiver ⟨Nat.le_of_ble_eq_true rfl, Nat.le_of_ble_eq_true rfl⟩ ⟨Nat.le_of_ble_eq_true rfl, Nat.le_of_ble_eq_true rfl⟩ (rest := []) rfl (Nat.le_of_ble_eq_true rfl) dX4_river_85 (fun H locs Y => ?_)
          refine lv_aload_n hx hb dX4_river_88 rfl (lv_at hl 2 rfl) ?_
          refine rgM X Y 5 (v := .int (σ14 0 5)) tw_474 rfl dX4_river_89 ?_
          obtain ⟨rfl, rfl⟩ := os2 h
          exact retI X Y hr hlk dX4_river_92
        · replace h := ot c12 h
          refine lv_bipush (v := (-100)) hx hb dX4_river_73 (by decide) ?_
          refine lv_aload_n hx hb dX4_river_75 rfl (lv_at hl 2 rfl) ?_
          refine rgM X Y 11 (v := .int (σ11 0 11)) tw_480 rfl dX4_river_76 ?_
          refine lv_iload hx hb dX4_river_79 (lv_at hl 0 rfl) ?_
          refine lv_isub hx hb dX4_river_81 ?_
          refine lv_isub hx hb dX4_river_82 ?_
          obtain ⟨rfl, rfl⟩ := os2 h
          exact retI X Y hr hlk dX4_river_83
      · replace h := oe c9 h
        refine lv_aload_n hx hb dX4_river_40 rfl (lv_at hl 1 rfl) ?_
        refine lv_iload hx hb dX4_river_41 (lv_at hl 0 rfl) ?_
        obtain ⟨r16, σ16, hg15, h⟩ := ob2 h
        refine cVi X (hml.trans hl.1.symm) Y (c_fX4_fails l D g ad (up2 σ 0 0 0) r8 hg15) (lkM g ad (up2 σ 0 0 0)) rfl (gs_X4_76 _) rfl fd_X4_fails ⟨Nat.le_of_ble_eq_true rfl, Nat.le_of_ble_eq_true rfl⟩ ⟨Nat.le_of_ble_eq_true rfl, Nat.le_of_ble_eq_true rfl⟩ (rest := []) rfl (Nat.le_of_ble_eq_true rfl) dX4_river_43 (fun H locs Y => ?_)
        obtain ⟨rfl, rfl⟩ := os2 h
        exact retI X Y hr hlk dX4_river_46
    · replace h := ot c6 h
      refine lv_bipush (v := (-2)) hx hb dX4_river_21 (by decide) ?_
      obtain ⟨rfl, rfl⟩ := os2 h
      exact retI X Y hr hlk dX4_river_23
  · replace h := ot c3 h
    refine lv_iconst (v := (-1)) hx hb dX4_river_12 (by decide) ?_
    obtain ⟨rfl, rfl⟩ := os2 h
    exact retI X Y hr hlk dX4_river_13
set_option maxHeartbeats 4000000 in
set_option maxRecDepth 100000 in
theorem w_fX4_allOf_L4 {p : Program} {l : Launch} {e : Env} {s : State} {m : MethodId} {args : Array Value} {below : List Frame} {meth : Method} {c : Code} {D : va_G} {g : Nat → ClassId} {ad : Nat → Nat} {A : Nat → Prop} {r0 : Int32} (X : Cx p s m c args cX4_allOf RX4 kX4_allOf D g) (hr : meth.sig.returnType = (some .int)) (hlk : meth.locks = false) (hml : c.maxLocals = 4) : ∀ (n : Nat), ∀ (σ : St) (v1 : Int32) (v2 : Int32) (v3 : Int32) (H : Heap) (locs : List Loc) (ls : Array Slot), Hp D A s.heap H locs (WM g ad σ) → lv_has ls 4 [(0, .ref (ad 0)), (1, .int v1), (2, .int v2), (3, .int v3)] → fX4_allOf_L4 n σ v1 v2 v3 = some r0 → W p l e (RM 0 0) s m args below meth c H locs 0 0 (MQ below (QI D g A (WM g ad σ) r0) args s 0 0 A) (F0 m 4 ls []) := by
  have hx := X.1
  have hb := X.2.1
  intro n
  induction n with
  | zero => intro σ v1 v2 v3 H locs ls Y hl h; cases (show none = _ from h)
  | succ n ih =>
    intro σ v1 v2 v3 H locs ls Y hl h
    rw [fX4_allOf_L4] at h
    refine lv_iload_n hx hb dX4_allOf_4 rfl (lv_at hl 3 rfl) ?_
    refine lv_aload_n hx hb dX4_allOf_5 rfl (lv_at hl 0 rfl) ?_
    refine rgM X Y 5 (v := .int (σ 0 5)) tw_474 rfl dX4_allOf_6 ?_
    refine lv_icmp_ge (tgt := 31) hx hb dX4_allOf_9 (by decide) (fun c1 => ?_) (fun c1 => ?_)
    · replace h := ot c1 h
      refine lv_iload_n hx hb dX4_allOf_31 rfl (lv_at hl 2 rfl) ?_
      obtain rfl := os1 h
      exact retI X Y hr hlk dX4_allOf_32
    · replace h := oe c1 h
      refine lv_iload_n hx hb dX4_allOf_12 rfl (lv_at hl 2 rfl) ?_
      refine lv_aload_n hx hb dX4_allOf_13 rfl (lv_at hl 0 rfl) ?_
      refine rgM X Y 10 (v := .ref (ad 6)) tw_479 rfl dX4_allOf_14 ?_
      refine lv_iconst (v := 5) hx hb dX4_allOf_17 (by decide) ?_
      refine lv_iload_n hx hb dX4_allOf_18 rfl (lv_at hl 1 rfl) ?_
      refine lv_imul hx hb dX4_allOf_19 ?_
      refine lv_iload_n hx hb dX4_allOf_20 rfl (lv_at hl 3 rfl) ?_
      refine lv_iadd hx hb dX4_allOf_21 ?_
      obtain ⟨hg2, h⟩ := og h
      refine ri X Y (lkM_6 g ad σ) hg2 dX4_allOf_22 ?_
      refine lv_iadd hx hb dX4_allOf_23 ?_
      refine lv_istore_n (lv' := [(2, .int (v2 + (σ 6 (((5 : Int32) * v1) + v3).toNatClampNeg))), (0, .ref (ad 0)), (1, .int v1), (3, .int v3)]) hx hb dX4_allOf_24 rfl hl (by decide) rfl (fun ls hl => ?_)
      refine lv_iinc (v := v3 + 1) (lv' := [(3, .int (v3 + 1)), (2, .int (v2 + (σ 6 (((5 : Int32) * v1) + v3).toNatClampNeg))), (0, .ref (ad 0)), (1, .int v1)]) hx hb dX4_allOf_25 hl (k := 3) rfl rfl (by decide) rfl (fun ls hl => ?_)
      refine lv_goto (tgt := 4) hx hb dX4_allOf_28 (by decide) ?_
      exact ih σ v1 (v2 + (σ 6 (((5 : Int32) * v1) + v3).toNatClampNeg)) (v3 + 1) _ _ _ Y (lv_sub hl [2, 3, 1, 0] rfl) h
set_option maxHeartbeats 4000000 in
set_option maxRecDepth 100000 in
theorem c_fX4_allOf (l : Launch) (D : va_G) (g : Nat → ClassId) (ad : Nat → Nat) (σ : St) (n : Nat) (v1 : Int32) {r0 : Int32} (h : fX4_allOf n σ v1 = some r0) : MI l yX4_allOf kX4_allOf 0 0 D g (WM g ad σ) (WM g ad σ) [.ref (ad 0), .int v1] r0 := by
  intro sz
  refine Met.of2 (Qc := fun A => QI D g A (WM g ad σ) r0) (cc := cX4_allOf) (maxL := 4) (ret := (some .int)) (own := RX4) (by decide) rfl rfl (Nat.le_of_ble_eq_true rfl) ?_
  intro p e s m below meth c A ls X hr hlk hml Y hl
  have hx := X.1
  have hb := X.2.1
  have hl : lv_has ls 4 [(0, .ref (ad 0)), (1, .int v1)] := hl
  rw [fX4_allOf] at h
  refine lv_iconst (v := 0) hx hb dX4_allOf_0 (by decide) ?_
  refine lv_istore_n (lv' := [(2, .int 0), (0, .ref (ad 0)), (1, .int v1)]) hx hb dX4_allOf_1 rfl hl (by decide) rfl (fun ls hl => ?_)
  refine lv_iconst (v := 0) hx hb dX4_allOf_2 (by decide) ?_
  refine lv_istore_n (lv' := [(3, .int 0), (2, .int 0), (0, .ref (ad 0)), (1, .int v1)]) hx hb dX4_allOf_3 rfl hl (by decide) rfl (fun ls hl => ?_)
  exact w_fX4_allOf_L4 X hr hlk hml n σ v1 0 0 _ _ _ Y (lv_sub hl [2, 3, 1, 0] rfl) h
set_option maxHeartbeats 4000000 in
set_option maxRecDepth 100000 in
theorem c_fX4_ofPerson (l : Launch) (D : va_G) (g : Nat → ClassId) (ad : Nat → Nat) (σ : St) (n : Nat) (v1 : Int32) (v2 : Int32) {r0 : Int32} (h : fX4_ofPerson n σ v1 v2 = some r0) : MI l yX4_ofPerson kX4_ofPerson 1 23 D g (WM g ad σ) (WM g ad σ) [.ref (ad 0), .int v1, .int v2] r0 := by
  intro sz
  refine Met.of2 (Qc := fun A => QI D g A (WM g ad σ) r0) (cc := cX4_ofPerson) (maxL := 3) (ret := (some .int)) (own := RX4) (by decide) rfl rfl (Nat.le_of_ble_eq_true rfl) ?_
  intro p e s m below meth c A ls X hr hlk hml Y hl
  have hx := X.1
  have hb := X.2.1
  have hl : lv_has ls 3 [(0, .ref (ad 0)), (1, .int v1), (2, .int v2)] := hl
  rw [fX4_ofPerson] at h
  refine lv_aload_n hx hb dX4_ofPerson_0 rfl (lv_at hl 0 rfl) ?_
  refine lv_iload_n hx hb dX4_ofPerson_1 rfl (lv_at hl 1 rfl) ?_
  obtain ⟨r2, hg1, h⟩ := ob h
  refine cVi X (hml.trans hl.1.symm) Y (c_fX4_isPerson l D g ad σ v1 hg1) (lkM g ad σ) rfl (gs_X4_115 _) rfl fd_X4_isPerson ⟨Nat.le_of_ble_eq_true rfl, Nat.le_of_ble_eq_true rfl⟩ ⟨Nat.le_of_ble_eq_true rfl, Nat.le_of_ble_eq_true rfl⟩ (rest := []) rfl (Nat.le_of_ble_eq_true rfl) dX4_ofPerson_2 (fun H locs Y => ?_)
  refine lv_if_ne (tgt := 10) hx hb dX4_ofPerson_5 (by decide) (fun c3 => ?_) (fun c3 => ?_)
  · replace h := oe c3 h
    refine lv_iload_n hx hb dX4_ofPerson_10 rfl (lv_at hl 2 rfl) ?_
    refine lv_if_ne (tgt := 23) hx hb dX4_ofPerson_11 (by decide) (fun c4 => ?_) (fun c4 => ?_)
    · replace h := oe c4 h
      refine lv_iload_n hx hb dX4_ofPerson_23 rfl (lv_at hl 2 rfl) ?_
      refine lv_iconst (v := 1) hx hb dX4_ofPerson_24 (by decide) ?_
      refine lv_icmp_ne (tgt := 37) hx hb dX4_ofPerson_25 (by decide) (fun c5 => ?_) (fun c5 => ?_)
      · replace h := oe c5 h
        refine lv_iload_n hx hb dX4_ofPerson_37 rfl (lv_at hl 2 rfl) ?_
        refine lv_iconst (v := 2) hx hb dX4_ofPerson_38 (by decide) ?_
        refine lv_icmp_ne (tgt := 50) hx hb dX4_ofPerson_39 (by decide) (fun c6 => ?_) (fun c6 => ?_)
        · replace h := oe c6 h
          refine lv_bipush (v := (-2)) hx hb dX4_ofPerson_50 (by decide) ?_
          obtain rfl := os1 h
          exact retI X Y hr hlk dX4_ofPerson_52
        · replace h := ot c6 h
          refine lv_aload_n hx hb dX4_ofPerson_42 rfl (lv_at hl 0 rfl) ?_
          refine lv_iload_n hx hb dX4_ofPerson_43 rfl (lv_at hl 1 rfl) ?_
          obtain ⟨r8, hg7, h⟩ := ob h
          refine cVi X (hml.trans hl.1.symm) Y (c_fX4_allOf l D g ad σ n v1 hg7) (lkM g ad σ) rfl (gs_X4_118 _) rfl fd_X4_allOf ⟨Nat.le_of_ble_eq_true rfl, Nat.le_of_ble_eq_true rfl⟩ ⟨Nat.le_of_ble_eq_true rfl, Nat.le_of_ble_eq_true rfl⟩ (rest := []) rfl (Nat.le_of_ble_eq_true rfl) dX4_ofPerson_44 (fun H locs Y => ?_)
          refine lv_goto (tgt := 52) hx hb dX4_ofPerson_47 (by decide) ?_
          obtain rfl := os1 h
          exact retI X Y hr hlk dX4_ofPerson_52
      · replace h := ot c5 h
        refine lv_aload_n hx hb dX4_ofPerson_28 rfl (lv_at hl 0 rfl) ?_
        refine rgM X Y 9 (v := .ref (ad 5)) tw_478 rfl dX4_ofPerson_29 ?_
        refine lv_iload_n hx hb dX4_ofPerson_32 rfl (lv_at hl 1 rfl) ?_
        obtain ⟨hg9, h⟩ := og h
        refine ri X Y (lkM_5 g ad σ) hg9 dX4_ofPerson_33 ?_
        refine lv_goto (tgt := 52) hx hb dX4_ofPerson_34 (by decide) ?_
        obtain rfl := os1 h
        exact retI X Y hr hlk dX4_ofPerson_52
    · replace h := ot c4 h
      refine lv_aload_n hx hb dX4_ofPerson_14 rfl (lv_at hl 0 rfl) ?_
      refine rgM X Y 8 (v := .ref (ad 4)) tw_477 rfl dX4_ofPerson_15 ?_
      refine lv_iload_n hx hb dX4_ofPerson_18 rfl (lv_at hl 1 rfl) ?_
      obtain ⟨hg10, h⟩ := og h
      refine ri X Y (lkM_4 g ad σ) hg10 dX4_ofPerson_19 ?_
      refine lv_goto (tgt := 52) hx hb dX4_ofPerson_20 (by decide) ?_
      obtain rfl := os1 h
      exact retI X Y hr hlk dX4_ofPerson_52
  · replace h := ot c3 h
    refine lv_iconst (v := (-1)) hx hb dX4_ofPerson_8 (by decide) ?_
    obtain rfl := os1 h
    exact retI X Y hr hlk dX4_ofPerson_9
set_option maxHeartbeats 4000000 in
set_option maxRecDepth 100000 in
theorem c_fX4_owes (l : Launch) (D : va_G) (g : Nat → ClassId) (ad : Nat → Nat) (σ : St) (v1 : Int32) (v2 : Int32) {r0 : Int32} (h : fX4_owes σ v1 v2 = some r0) : MI l yX4_owes kX4_owes 1 21 D g (WM g ad σ) (WM g ad σ) [.ref (ad 0), .int v1, .int v2] r0 := by
  intro sz
  refine Met.of2 (Qc := fun A => QI D g A (WM g ad σ) r0) (cc := cX4_owes) (maxL := 3) (ret := (some .int)) (own := RX4) (by decide) rfl rfl (Nat.le_of_ble_eq_true rfl) ?_
  intro p e s m below meth c A ls X hr hlk hml Y hl
  have hx := X.1
  have hb := X.2.1
  have hl : lv_has ls 3 [(0, .ref (ad 0)), (1, .int v1), (2, .int v2)] := hl
  rw [fX4_owes] at h
  refine lv_aload_n hx hb dX4_owes_0 rfl (lv_at hl 0 rfl) ?_
  refine lv_iload_n hx hb dX4_owes_1 rfl (lv_at hl 1 rfl) ?_
  obtain ⟨r2, hg1, h⟩ := ob h
  refine cVi X (hml.trans hl.1.symm) Y (c_fX4_isPerson l D g ad σ v1 hg1) (lkM g ad σ) rfl (gs_X4_115 _) rfl fd_X4_isPerson ⟨Nat.le_of_ble_eq_true rfl, Nat.le_of_ble_eq_true rfl⟩ ⟨Nat.le_of_ble_eq_true rfl, Nat.le_of_ble_eq_true rfl⟩ (rest := []) rfl (Nat.le_of_ble_eq_true rfl) dX4_owes_2 (fun H locs Y => ?_)
  refine lv_if_eq (tgt := 29) hx hb dX4_owes_5 (by decide) (fun c3 => ?_) (fun c3 => ?_)
  · replace h := ot c3 h
    refine lv_iconst (v := (-1)) hx hb dX4_owes_29 (by decide) ?_
    obtain rfl := os1 h
    exact retI X Y hr hlk dX4_owes_30
  · replace h := oe c3 h
    refine lv_aload_n hx hb dX4_owes_8 rfl (lv_at hl 0 rfl) ?_
    refine lv_iload_n hx hb dX4_owes_9 rfl (lv_at hl 2 rfl) ?_
    obtain ⟨r5, hg4, h⟩ := ob h
    refine cVi X (hml.trans hl.1.symm) Y (c_fX4_isPerson l D g ad σ v2 hg4) (lkM g ad σ) rfl (gs_X4_115 _) rfl fd_X4_isPerson ⟨Nat.le_of_ble_eq_true rfl, Nat.le_of_ble_eq_true rfl⟩ ⟨Nat.le_of_ble_eq_true rfl, Nat.le_of_ble_eq_true rfl⟩ (rest := []) rfl (Nat.le_of_ble_eq_true rfl) dX4_owes_10 (fun H locs Y => ?_)
    refine lv_if_eq (tgt := 29) hx hb dX4_owes_13 (by decide) (fun c6 => ?_) (fun c6 => ?_)
    · replace h := ot c6 h
      refine lv_iconst (v := (-1)) hx hb dX4_owes_29 (by decide) ?_
      obtain rfl := os1 h
      exact retI X Y hr hlk dX4_owes_30
    · replace h := oe c6 h
      refine lv_aload_n hx hb dX4_owes_16 rfl (lv_at hl 0 rfl) ?_
      refine rgM X Y 10 (v := .ref (ad 6)) tw_479 rfl dX4_owes_17 ?_
      refine lv_iconst (v := 5) hx hb dX4_owes_20 (by decide) ?_
      refine lv_iload_n hx hb dX4_owes_21 rfl (lv_at hl 1 rfl) ?_
      refine lv_imul hx hb dX4_owes_22 ?_
      refine lv_iload_n hx hb dX4_owes_23 rfl (lv_at hl 2 rfl) ?_
      refine lv_iadd hx hb dX4_owes_24 ?_
      obtain ⟨hg7, h⟩ := og h
      refine ri X Y (lkM_6 g ad σ) hg7 dX4_owes_25 ?_
      refine lv_goto (tgt := 30) hx hb dX4_owes_26 (by decide) ?_
      obtain rfl := os1 h
      exact retI X Y hr hlk dX4_owes_30
set_option maxHeartbeats 4000000 in
set_option maxRecDepth 100000 in
theorem c_fX4_isNote (l : Launch) (D : va_G) (g : Nat → ClassId) (ad : Nat → Nat) (σ : St) (v1 : Int32) (v2 : Int32) {r0 : Int32} (h : fX4_isNote σ v1 v2 = some r0) : MI l yX4_isNote kX4_isNote 1 21 D g (WM g ad σ) (WM g ad σ) [.ref (ad 0), .int v1, .int v2] r0 := by
  intro sz
  refine Met.of2 (Qc := fun A => QI D g A (WM g ad σ) r0) (cc := cX4_isNote) (maxL := 3) (ret := (some .boolean)) (own := RX4) (by decide) rfl rfl (Nat.le_of_ble_eq_true rfl) ?_
  intro p e s m below meth c A ls X hr hlk hml Y hl
  have hx := X.1
  have hb := X.2.1
  have hl : lv_has ls 3 [(0, .ref (ad 0)), (1, .int v1), (2, .int v2)] := hl
  rw [fX4_isNote] at h
  refine lv_aload_n hx hb dX4_isNote_0 rfl (lv_at hl 0 rfl) ?_
  refine lv_iload_n hx hb dX4_isNote_1 rfl (lv_at hl 1 rfl) ?_
  obtain ⟨r2, hg1, h⟩ := ob h
  refine cVi X (hml.trans hl.1.symm) Y (c_fX4_isPerson l D g ad σ v1 hg1) (lkM g ad σ) rfl (gs_X4_115 _) rfl fd_X4_isPerson ⟨Nat.le_of_ble_eq_true rfl, Nat.le_of_ble_eq_true rfl⟩ ⟨Nat.le_of_ble_eq_true rfl, Nat.le_of_ble_eq_true rfl⟩ (rest := []) rfl (Nat.le_of_ble_eq_true rfl) dX4_isNote_2 (fun H locs Y => ?_)
  refine lv_if_eq (tgt := 25) hx hb dX4_isNote_5 (by decide) (fun c3 => ?_) (fun c3 => ?_)
  · replace h := ot c3 h
    refine lv_iconst (v := 0) hx hb dX4_isNote_25 (by decide) ?_
    obtain rfl := os1 h
    exact retZ X Y hr hlk rfl dX4_isNote_26
  · replace h := oe c3 h
    refine lv_aload_n hx hb dX4_isNote_8 rfl (lv_at hl 0 rfl) ?_
    refine lv_iload_n hx hb dX4_isNote_9 rfl (lv_at hl 2 rfl) ?_
    obtain ⟨r5, hg4, h⟩ := ob h
    refine cVi X (hml.trans hl.1.symm) Y (c_fX4_isPerson l D g ad σ v2 hg4) (lkM g ad σ) rfl (gs_X4_115 _) rfl fd_X4_isPerson ⟨Nat.le_of_ble_eq_true rfl, Nat.le_of_ble_eq_true rfl⟩ ⟨Nat.le_of_ble_eq_true rfl, Nat.le_of_ble_eq_true rfl⟩ (rest := []) rfl (Nat.le_of_ble_eq_true rfl) dX4_isNote_10 (fun H locs Y => ?_)
    refine lv_if_eq (tgt := 25) hx hb dX4_isNote_13 (by decide) (fun c6 => ?_) (fun c6 => ?_)
    · replace h := ot c6 h
      refine lv_iconst (v := 0) hx hb dX4_isNote_25 (by decide) ?_
      obtain rfl := os1 h
      exact retZ X Y hr hlk rfl dX4_isNote_26
    · replace h := oe c6 h
      refine lv_iload_n hx hb dX4_isNote_16 rfl (lv_at hl 1 rfl) ?_
      refine lv_iload_n hx hb dX4_isNote_17 rfl (lv_at hl 2 rfl) ?_
      refine lv_icmp_eq (tgt := 25) hx hb dX4_isNote_18 (by decide) (fun c7 => ?_) (fun c7 => ?_)
      · replace h := ot c7 h
        refine lv_iconst (v := 0) hx hb dX4_isNote_25 (by decide) ?_
        obtain rfl := os1 h
        exact retZ X Y hr hlk rfl dX4_isNote_26
      · replace h := oe c7 h
        refine lv_iconst (v := 1) hx hb dX4_isNote_21 (by decide) ?_
        refine lv_goto (tgt := 26) hx hb dX4_isNote_22 (by decide) ?_
        obtain rfl := os1 h
        exact retZ X Y hr hlk rfl dX4_isNote_26
set_option maxHeartbeats 4000000 in
set_option maxRecDepth 100000 in
theorem c_fX4_lend (l : Launch) (D : va_G) (g : Nat → ClassId) (ad : Nat → Nat) (σ : St) (v1 : Int32) (v2 : Int32) (v3 : Int32) {r0 : Int32} {σ0 : St} (h : fX4_lend σ v1 v2 v3 = some (r0, σ0)) : MI l yX4_lend kX4_lend 2 43 D g (WM g ad σ) (WM g ad σ0) [.ref (ad 0), .int v1, .int v2, .int v3] r0 := by
  intro sz
  refine Met.of2 (Qc := fun A => QI D g A (WM g ad σ0) r0) (cc := cX4_lend) (maxL := 5) (ret := (some .int)) (own := RX4) (by decide) rfl rfl (Nat.le_of_ble_eq_true rfl) ?_
  intro p e s m below meth c A ls X hr hlk hml Y hl
  have hx := X.1
  have hb := X.2.1
  have hl : lv_has ls 5 [(0, .ref (ad 0)), (1, .int v1), (2, .int v2), (3, .int v3)] := hl
  rw [fX4_lend] at h
  refine lv_aload_n hx hb dX4_lend_0 rfl (lv_at hl 0 rfl) ?_
  refine lv_iload_n hx hb dX4_lend_1 rfl (lv_at hl 1 rfl) ?_
  refine lv_iload_n hx hb dX4_lend_2 rfl (lv_at hl 2 rfl) ?_
  obtain ⟨r2, hg1, h⟩ := ob h
  refine cVi X (hml.trans hl.1.symm) Y (c_fX4_isNote l D g ad σ v1 v2 hg1) (lkM g ad σ) rfl (gs_X4_121 _) rfl fd_X4_isNote ⟨Nat.le_of_ble_eq_true rfl, Nat.le_of_ble_eq_true rfl⟩ ⟨Nat.le_of_ble_eq_true rfl, Nat.le_of_ble_eq_true rfl⟩ (rest := []) rfl (Nat.le_of_ble_eq_true rfl) dX4_lend_3 (fun H locs Y => ?_)
  refine lv_if_ne (tgt := 11) hx hb dX4_lend_6 (by decide) (fun c3 => ?_) (fun c3 => ?_)
  · replace h := oe c3 h
    refine lv_iload_n hx hb dX4_lend_11 rfl (lv_at hl 3 rfl) ?_
    refine lv_iconst (v := 0) hx hb dX4_lend_12 (by decide) ?_
    refine lv_bipush (v := 9) hx hb dX4_lend_13 (by decide) ?_
    obtain ⟨r5, hg4, h⟩ := ob h
    refine cSi X (hml.trans hl.1.symm) Y (c_fX4_within l D g (WM g ad σ) v3 0 9 hg4) (gs_X4_55 _) rfl fd_X4_within ⟨Nat.le_of_ble_eq_true rfl, Nat.le_of_ble_eq_true rfl⟩ ⟨Nat.le_of_ble_eq_true rfl, Nat.le_of_ble_eq_true rfl⟩ (rest := []) rfl (Nat.le_of_ble_eq_true rfl) dX4_lend_15 (fun H locs Y => ?_)
    refine lv_if_ne (tgt := 24) hx hb dX4_lend_18 (by decide) (fun c6 => ?_) (fun c6 => ?_)
    · replace h := oe c6 h
      refine lv_aload_n hx hb dX4_lend_24 rfl (lv_at hl 0 rfl) ?_
      refine rgM X Y 10 (v := .ref (ad 6)) tw_479 rfl dX4_lend_25 ?_
      refine lv_iconst (v := 5) hx hb dX4_lend_28 (by decide) ?_
      refine lv_iload_n hx hb dX4_lend_29 rfl (lv_at hl 1 rfl) ?_
      refine lv_imul hx hb dX4_lend_30 ?_
      refine lv_iload_n hx hb dX4_lend_31 rfl (lv_at hl 2 rfl) ?_
      refine lv_iadd hx hb dX4_lend_32 ?_
      obtain ⟨hg7, h⟩ := og h
      refine ri X Y (lkM_6 g ad σ) hg7 dX4_lend_33 ?_
      refine lv_istore (lv' := [(4, .int (σ 6 (((5 : Int32) * v1) + v2).toNatClampNeg)), (0, .ref (ad 0)), (1, .int v1), (2, .int v2), (3, .int v3)]) hx hb dX4_lend_34 hl (by decide) rfl (fun ls hl => ?_)
      refine lv_aload_n hx hb dX4_lend_36 rfl (lv_at hl 1 rfl) ?_
      refine rgM X Y 10 (v := .ref (ad 6)) tw_479 rfl dX4_lend_37 ?_
      refine lv_iconst (v := 5) hx hb dX4_lend_40 (by decide) ?_
      refine lv_iload_n hx hb dX4_lend_41 rfl (lv_at hl 2 rfl) ?_
      refine lv_imul hx hb dX4_lend_42 ?_
      refine lv_iload_n hx hb dX4_lend_43 rfl (lv_at hl 3 rfl) ?_
      refine lv_iadd hx hb dX4_lend_44 ?_
      refine lv_iload_n hx hb dX4_lend_45 rfl (lv_at hl 4 rfl) ?_
      obtain ⟨hg8, h⟩ := og h
      refine ris X Y (W1 := WM g ad (up2 σ 6 ((((5 : Int32) * v1) + v2).toNatClampNeg) v3)) (lkM_6 g ad σ) hg8 (stM_A6 g ad σ _) dX4_lend_46 (fun H locs Y => ?_)
      refine lv_iload hx hb dX4_lend_47 (lv_at hl 0 rfl) ?_
      obtain ⟨rfl, rfl⟩ := os2 h
      exact retI X Y hr hlk dX4_lend_49
    · replace h := ot c6 h
      refine lv_bipush (v := (-2)) hx hb dX4_lend_21 (by decide) ?_
      obtain ⟨rfl, rfl⟩ := os2 h
      exact retI X Y hr hlk dX4_lend_23
  · replace h := ot c3 h
    refine lv_iconst (v := (-1)) hx hb dX4_lend_9 (by decide) ?_
    obtain ⟨rfl, rfl⟩ := os2 h
    exact retI X Y hr hlk dX4_lend_10
set_option maxHeartbeats 4000000 in
set_option maxRecDepth 100000 in
theorem c_fX4_count (l : Launch) (D : va_G) (g : Nat → ClassId) (ad : Nat → Nat) (σ : St) (v1 : Int32) {r0 : Int32} {σ0 : St} (h : fX4_count σ v1 = some (r0, σ0)) : MI l yX4_count kX4_count 1 22 D g (WM g ad σ) (WM g ad σ0) [.ref (ad 0), .int v1] r0 := by
  intro sz
  refine Met.of2 (Qc := fun A => QI D g A (WM g ad σ0) r0) (cc := cX4_count) (maxL := 3) (ret := (some .int)) (own := RX4) (by decide) rfl rfl (Nat.le_of_ble_eq_true rfl) ?_
  intro p e s m below meth c A ls X hr hlk hml Y hl
  have hx := X.1
  have hb := X.2.1
  have hl : lv_has ls 3 [(0, .ref (ad 0)), (1, .int v1)] := hl
  rw [fX4_count] at h
  refine lv_iload_n hx hb dX4_count_0 rfl (lv_at hl 1 rfl) ?_
  refine lv_iconst (v := 1) hx hb dX4_count_1 (by decide) ?_
  refine lv_iconst (v := 3) hx hb dX4_count_2 (by decide) ?_
  obtain ⟨r2, hg1, h⟩ := ob h
  refine cSi X (hml.trans hl.1.symm) Y (c_fX4_within l D g (WM g ad σ) v1 1 3 hg1) (gs_X4_55 _) rfl fd_X4_within ⟨Nat.le_of_ble_eq_true rfl, Nat.le_of_ble_eq_true rfl⟩ ⟨Nat.le_of_ble_eq_true rfl, Nat.le_of_ble_eq_true rfl⟩ (rest := []) rfl (Nat.le_of_ble_eq_true rfl) dX4_count_3 (fun H locs Y => ?_)
  refine lv_if_ne (tgt := 12) hx hb dX4_count_6 (by decide) (fun c3 => ?_) (fun c3 => ?_)
  · replace h := oe c3 h
    refine lv_aload_n hx hb dX4_count_12 rfl (lv_at hl 0 rfl) ?_
    refine rgM X Y 5 (v := .int (σ 0 5)) tw_474 rfl dX4_count_13 ?_
    refine lv_if_ne (tgt := 22) hx hb dX4_count_16 (by decide) (fun c4 => ?_) (fun c4 => ?_)
    · replace h := oe c4 h
      refine lv_aload_n hx hb dX4_count_22 rfl (lv_at hl 0 rfl) ?_
      refine rgM X Y 7 (v := .int (σ 0 7)) tw_476 rfl dX4_count_23 ?_
      refine lv_istore_n (lv' := [(2, .int (σ 0 7)), (0, .ref (ad 0)), (1, .int v1)]) hx hb dX4_count_26 rfl hl (by decide) rfl (fun ls hl => ?_)
      refine lv_aload_n hx hb dX4_count_27 rfl (lv_at hl 1 rfl) ?_
      refine lv_iload_n hx hb dX4_count_28 rfl (lv_at hl 2 rfl) ?_
      refine rpM X Y 7 (v := v1) tw_476 rfl rfl rfl (stM_7 g ad σ v1) dX4_count_29 (fun H locs Y => ?_)
      refine lv_iload_n hx hb dX4_count_32 rfl (lv_at hl 0 rfl) ?_
      obtain ⟨rfl, rfl⟩ := os2 h
      exact retI X Y hr hlk dX4_count_33
    · replace h := ot c4 h
      refine lv_bipush (v := (-3)) hx hb dX4_count_19 (by decide) ?_
      obtain ⟨rfl, rfl⟩ := os2 h
      exact retI X Y hr hlk dX4_count_21
  · replace h := ot c3 h
    refine lv_bipush (v := (-2)) hx hb dX4_count_9 (by decide) ?_
    obtain ⟨rfl, rfl⟩ := os2 h
    exact retI X Y hr hlk dX4_count_11
set_option maxHeartbeats 4000000 in
set_option maxRecDepth 100000 in
theorem c_fX4_build (l : Launch) (D : va_G) (g : Nat → ClassId) (ad : Nat → Nat) (σ : St) (v1 : Int32) {r0 : Int32} {σ0 : St} (h : fX4_build σ v1 = some (r0, σ0)) : MI l yX4_build kX4_build 1 22 D g (WM g ad σ) (WM g ad σ0) [.ref (ad 0), .int v1] r0 := by
  intro sz
  refine Met.of2 (Qc := fun A => QI D g A (WM g ad σ0) r0) (cc := cX4_build) (maxL := 3) (ret := (some .int)) (own := RX4) (by decide) rfl rfl (Nat.le_of_ble_eq_true rfl) ?_
  intro p e s m below meth c A ls X hr hlk hml Y hl
  have hx := X.1
  have hb := X.2.1
  have hl : lv_has ls 3 [(0, .ref (ad 0)), (1, .int v1)] := hl
  rw [fX4_build] at h
  refine lv_iload_n hx hb dX4_build_0 rfl (lv_at hl 1 rfl) ?_
  refine lv_iconst (v := 1) hx hb dX4_build_1 (by decide) ?_
  refine lv_iconst (v := 3) hx hb dX4_build_2 (by decide) ?_
  obtain ⟨r2, hg1, h⟩ := ob h
  refine cSi X (hml.trans hl.1.symm) Y (c_fX4_within l D g (WM g ad σ) v1 1 3 hg1) (gs_X4_55 _) rfl fd_X4_within ⟨Nat.le_of_ble_eq_true rfl, Nat.le_of_ble_eq_true rfl⟩ ⟨Nat.le_of_ble_eq_true rfl, Nat.le_of_ble_eq_true rfl⟩ (rest := []) rfl (Nat.le_of_ble_eq_true rfl) dX4_build_3 (fun H locs Y => ?_)
  refine lv_if_ne (tgt := 12) hx hb dX4_build_6 (by decide) (fun c3 => ?_) (fun c3 => ?_)
  · replace h := oe c3 h
    refine lv_aload_n hx hb dX4_build_12 rfl (lv_at hl 0 rfl) ?_
    refine rgM X Y 5 (v := .int (σ 0 5)) tw_474 rfl dX4_build_13 ?_
    refine lv_if_ne (tgt := 22) hx hb dX4_build_16 (by decide) (fun c4 => ?_) (fun c4 => ?_)
    · replace h := oe c4 h
      refine lv_aload_n hx hb dX4_build_22 rfl (lv_at hl 0 rfl) ?_
      refine rgM X Y 6 (v := .int (σ 0 6)) tw_475 rfl dX4_build_23 ?_
      refine lv_istore_n (lv' := [(2, .int (σ 0 6)), (0, .ref (ad 0)), (1, .int v1)]) hx hb dX4_build_26 rfl hl (by decide) rfl (fun ls hl => ?_)
      refine lv_aload_n hx hb dX4_build_27 rfl (lv_at hl 1 rfl) ?_
      refine lv_iload_n hx hb dX4_build_28 rfl (lv_at hl 2 rfl) ?_
      refine rpM X Y 6 (v := v1) tw_475 rfl rfl rfl (stM_6 g ad σ v1) dX4_build_29 (fun H locs Y => ?_)
      refine lv_iload_n hx hb dX4_build_32 rfl (lv_at hl 0 rfl) ?_
      obtain ⟨rfl, rfl⟩ := os2 h
      exact retI X Y hr hlk dX4_build_33
    · replace h := ot c4 h
      refine lv_bipush (v := (-3)) hx hb dX4_build_19 (by decide) ?_
      obtain ⟨rfl, rfl⟩ := os2 h
      exact retI X Y hr hlk dX4_build_21
  · replace h := ot c3 h
    refine lv_bipush (v := (-2)) hx hb dX4_build_9 (by decide) ?_
    obtain ⟨rfl, rfl⟩ := os2 h
    exact retI X Y hr hlk dX4_build_11
