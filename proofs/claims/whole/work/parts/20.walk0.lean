set_option maxHeartbeats 4000000 in
set_option maxRecDepth 100000 in
theorem c_fX0_isThere (l : Launch) (D : va_G) (g : Nat → ClassId) (ad : Nat → Nat) (σ : St) {r0 : Int32} (h : fX0_isThere σ = some r0) : MI l yX0_isThere kX0_isThere 0 0 D g (WC g ad σ) (WC g ad σ) [.ref (ad 10)] r0 := by
  intro sz
  refine Met.of2 (Qc := fun A => QI D g A (WC g ad σ) r0) (cc := cX0_isThere) (maxL := 1) (ret := (some .boolean)) (own := RX0) (by decide) rfl rfl (Nat.le_of_ble_eq_true rfl) ?_
  intro p e s m below meth c A ls X hr hlk hml Y hl
  have hx := X.1
  have hb := X.2.1
  have hl : lv_has ls 1 [(0, .ref (ad 10))] := hl
  rw [fX0_isThere] at h
  refine lv_aload_n hx hb dX0_isThere_0 rfl (lv_at hl 0 rfl) ?_
  refine rgR X Y 0 (v := .int (σ 10 0)) tw_57 rfl dX0_isThere_1 ?_
  refine lv_if_le (tgt := 11) hx hb dX0_isThere_4 (by decide) (fun c1 => ?_) (fun c1 => ?_)
  · replace h := ot c1 h
    refine lv_iconst (v := 0) hx hb dX0_isThere_11 (by decide) ?_
    obtain rfl := os1 h
    exact retZ X Y hr hlk rfl dX0_isThere_12
  · replace h := oe c1 h
    refine lv_iconst (v := 1) hx hb dX0_isThere_7 (by decide) ?_
    refine lv_goto (tgt := 12) hx hb dX0_isThere_8 (by decide) ?_
    obtain rfl := os1 h
    exact retZ X Y hr hlk rfl dX0_isThere_12
set_option maxHeartbeats 4000000 in
set_option maxRecDepth 100000 in
theorem c_fX0_isPerson (l : Launch) (D : va_G) (g : Nat → ClassId) (ad : Nat → Nat) (σ : St) (v1 : Int32) {r0 : Int32} (h : fX0_isPerson σ v1 = some r0) : MI l yX0_isPerson kX0_isPerson 0 0 D g (WC g ad σ) (WC g ad σ) [.ref (ad 10), .int v1] r0 := by
  intro sz
  refine Met.of2 (Qc := fun A => QI D g A (WC g ad σ) r0) (cc := cX0_isPerson) (maxL := 2) (ret := (some .boolean)) (own := RX0) (by decide) rfl rfl (Nat.le_of_ble_eq_true rfl) ?_
  intro p e s m below meth c A ls X hr hlk hml Y hl
  have hx := X.1
  have hb := X.2.1
  have hl : lv_has ls 2 [(0, .ref (ad 10)), (1, .int v1)] := hl
  rw [fX0_isPerson] at h
  refine lv_iload_n hx hb dX0_isPerson_0 rfl (lv_at hl 1 rfl) ?_
  refine lv_if_lt (tgt := 16) hx hb dX0_isPerson_1 (by decide) (fun c1 => ?_) (fun c1 => ?_)
  · replace h := ot c1 h
    refine lv_iconst (v := 0) hx hb dX0_isPerson_16 (by decide) ?_
    obtain rfl := os1 h
    exact retZ X Y hr hlk rfl dX0_isPerson_17
  · replace h := oe c1 h
    refine lv_iload_n hx hb dX0_isPerson_4 rfl (lv_at hl 1 rfl) ?_
    refine lv_aload_n hx hb dX0_isPerson_5 rfl (lv_at hl 0 rfl) ?_
    refine rgR X Y 0 (v := .int (σ 10 0)) tw_57 rfl dX0_isPerson_6 ?_
    refine lv_icmp_ge (tgt := 16) hx hb dX0_isPerson_9 (by decide) (fun c2 => ?_) (fun c2 => ?_)
    · replace h := ot c2 h
      refine lv_iconst (v := 0) hx hb dX0_isPerson_16 (by decide) ?_
      obtain rfl := os1 h
      exact retZ X Y hr hlk rfl dX0_isPerson_17
    · replace h := oe c2 h
      refine lv_iconst (v := 1) hx hb dX0_isPerson_12 (by decide) ?_
      refine lv_goto (tgt := 17) hx hb dX0_isPerson_13 (by decide) ?_
      obtain rfl := os1 h
      exact retZ X Y hr hlk rfl dX0_isPerson_17
set_option maxHeartbeats 4000000 in
set_option maxRecDepth 100000 in
theorem c_fX0_isPair (l : Launch) (D : va_G) (g : Nat → ClassId) (ad : Nat → Nat) (σ : St) (v1 : Int32) (v2 : Int32) {r0 : Int32} (h : fX0_isPair σ v1 v2 = some r0) : MI l yX0_isPair kX0_isPair 1 21 D g (WC g ad σ) (WC g ad σ) [.ref (ad 10), .int v1, .int v2] r0 := by
  intro sz
  refine Met.of2 (Qc := fun A => QI D g A (WC g ad σ) r0) (cc := cX0_isPair) (maxL := 3) (ret := (some .boolean)) (own := RX0) (by decide) rfl rfl (Nat.le_of_ble_eq_true rfl) ?_
  intro p e s m below meth c A ls X hr hlk hml Y hl
  have hx := X.1
  have hb := X.2.1
  have hl : lv_has ls 3 [(0, .ref (ad 10)), (1, .int v1), (2, .int v2)] := hl
  rw [fX0_isPair] at h
  refine lv_aload_n hx hb dX0_isPair_0 rfl (lv_at hl 0 rfl) ?_
  refine lv_iload_n hx hb dX0_isPair_1 rfl (lv_at hl 1 rfl) ?_
  obtain ⟨r2, hg1, h⟩ := ob h
  refine cVi X (hml.trans hl.1.symm) Y (c_fX0_isPerson l D g ad σ v1 hg1) (lkR g ad σ) rfl (gs_X0_37 _) rfl fd_X0_isPerson ⟨Nat.le_of_ble_eq_true rfl, Nat.le_of_ble_eq_true rfl⟩ ⟨Nat.le_of_ble_eq_true rfl, Nat.le_of_ble_eq_true rfl⟩ (rest := []) rfl (Nat.le_of_ble_eq_true rfl) dX0_isPair_2 (fun H locs Y => ?_)
  refine lv_if_eq (tgt := 25) hx hb dX0_isPair_5 (by decide) (fun c3 => ?_) (fun c3 => ?_)
  · replace h := ot c3 h
    refine lv_iconst (v := 0) hx hb dX0_isPair_25 (by decide) ?_
    obtain rfl := os1 h
    exact retZ X Y hr hlk rfl dX0_isPair_26
  · replace h := oe c3 h
    refine lv_aload_n hx hb dX0_isPair_8 rfl (lv_at hl 0 rfl) ?_
    refine lv_iload_n hx hb dX0_isPair_9 rfl (lv_at hl 2 rfl) ?_
    obtain ⟨r5, hg4, h⟩ := ob h
    refine cVi X (hml.trans hl.1.symm) Y (c_fX0_isPerson l D g ad σ v2 hg4) (lkR g ad σ) rfl (gs_X0_37 _) rfl fd_X0_isPerson ⟨Nat.le_of_ble_eq_true rfl, Nat.le_of_ble_eq_true rfl⟩ ⟨Nat.le_of_ble_eq_true rfl, Nat.le_of_ble_eq_true rfl⟩ (rest := []) rfl (Nat.le_of_ble_eq_true rfl) dX0_isPair_10 (fun H locs Y => ?_)
    refine lv_if_eq (tgt := 25) hx hb dX0_isPair_13 (by decide) (fun c6 => ?_) (fun c6 => ?_)
    · replace h := ot c6 h
      refine lv_iconst (v := 0) hx hb dX0_isPair_25 (by decide) ?_
      obtain rfl := os1 h
      exact retZ X Y hr hlk rfl dX0_isPair_26
    · replace h := oe c6 h
      refine lv_iload_n hx hb dX0_isPair_16 rfl (lv_at hl 1 rfl) ?_
      refine lv_iload_n hx hb dX0_isPair_17 rfl (lv_at hl 2 rfl) ?_
      refine lv_icmp_eq (tgt := 25) hx hb dX0_isPair_18 (by decide) (fun c7 => ?_) (fun c7 => ?_)
      · replace h := ot c7 h
        refine lv_iconst (v := 0) hx hb dX0_isPair_25 (by decide) ?_
        obtain rfl := os1 h
        exact retZ X Y hr hlk rfl dX0_isPair_26
      · replace h := oe c7 h
        refine lv_iconst (v := 1) hx hb dX0_isPair_21 (by decide) ?_
        refine lv_goto (tgt := 26) hx hb dX0_isPair_22 (by decide) ?_
        obtain rfl := os1 h
        exact retZ X Y hr hlk rfl dX0_isPair_26
set_option maxHeartbeats 4000000 in
set_option maxRecDepth 100000 in
theorem c_fX0_everybody (l : Launch) (D : va_G) (g : Nat → ClassId) (ad : Nat → Nat) (σ : St) {r0 : Int32} (h : fX0_everybody σ = some r0) : MI l yX0_everybody kX0_everybody 0 0 D g (WC g ad σ) (WC g ad σ) [.ref (ad 10)] r0 := by
  intro sz
  refine Met.of2 (Qc := fun A => QI D g A (WC g ad σ) r0) (cc := cX0_everybody) (maxL := 1) (ret := (some .int)) (own := RX0) (by decide) rfl rfl (Nat.le_of_ble_eq_true rfl) ?_
  intro p e s m below meth c A ls X hr hlk hml Y hl
  have hx := X.1
  have hb := X.2.1
  have hl : lv_has ls 1 [(0, .ref (ad 10))] := hl
  rw [fX0_everybody] at h
  refine lv_iconst (v := 1) hx hb dX0_everybody_0 (by decide) ?_
  refine lv_aload_n hx hb dX0_everybody_1 rfl (lv_at hl 0 rfl) ?_
  refine rgR X Y 0 (v := .int (σ 10 0)) tw_57 rfl dX0_everybody_2 ?_
  refine lv_ishl hx hb dX0_everybody_5 ?_
  refine lv_iconst (v := 1) hx hb dX0_everybody_6 (by decide) ?_
  refine lv_isub hx hb dX0_everybody_7 ?_
  obtain rfl := os1 h
  exact retI X Y hr hlk dX0_everybody_8
set_option maxHeartbeats 4000000 in
set_option maxRecDepth 100000 in
theorem c_fX0_isLoad (l : Launch) (D : va_G) (g : Nat → ClassId) (ad : Nat → Nat) (σ : St) (v1 : Int32) {r0 : Int32} (h : fX0_isLoad σ v1 = some r0) : MI l yX0_isLoad kX0_isLoad 1 20 D g (WC g ad σ) (WC g ad σ) [.ref (ad 10), .int v1] r0 := by
  intro sz
  refine Met.of2 (Qc := fun A => QI D g A (WC g ad σ) r0) (cc := cX0_isLoad) (maxL := 2) (ret := (some .boolean)) (own := RX0) (by decide) rfl rfl (Nat.le_of_ble_eq_true rfl) ?_
  intro p e s m below meth c A ls X hr hlk hml Y hl
  have hx := X.1
  have hb := X.2.1
  have hl : lv_has ls 2 [(0, .ref (ad 10)), (1, .int v1)] := hl
  rw [fX0_isLoad] at h
  refine lv_iload_n hx hb dX0_isLoad_0 rfl (lv_at hl 1 rfl) ?_
  refine lv_if_lt (tgt := 16) hx hb dX0_isLoad_1 (by decide) (fun c1 => ?_) (fun c1 => ?_)
  · replace h := ot c1 h
    refine lv_iconst (v := 0) hx hb dX0_isLoad_16 (by decide) ?_
    obtain rfl := os1 h
    exact retZ X Y hr hlk rfl dX0_isLoad_17
  · replace h := oe c1 h
    refine lv_iload_n hx hb dX0_isLoad_4 rfl (lv_at hl 1 rfl) ?_
    refine lv_aload_n hx hb dX0_isLoad_5 rfl (lv_at hl 0 rfl) ?_
    obtain ⟨r3, hg2, h⟩ := ob h
    refine cVi X (hml.trans hl.1.symm) Y (c_fX0_everybody l D g ad σ hg2) (lkR g ad σ) rfl (gs_X0_41 _) rfl fd_X0_everybody ⟨Nat.le_of_ble_eq_true rfl, Nat.le_of_ble_eq_true rfl⟩ ⟨Nat.le_of_ble_eq_true rfl, Nat.le_of_ble_eq_true rfl⟩ (rest := [.int v1]) rfl (Nat.le_of_ble_eq_true rfl) dX0_isLoad_6 (fun H locs Y => ?_)
    refine lv_icmp_gt (tgt := 16) hx hb dX0_isLoad_9 (by decide) (fun c4 => ?_) (fun c4 => ?_)
    · replace h := ot c4 h
      refine lv_iconst (v := 0) hx hb dX0_isLoad_16 (by decide) ?_
      obtain rfl := os1 h
      exact retZ X Y hr hlk rfl dX0_isLoad_17
    · replace h := oe c4 h
      refine lv_iconst (v := 1) hx hb dX0_isLoad_12 (by decide) ?_
      refine lv_goto (tgt := 17) hx hb dX0_isLoad_13 (by decide) ?_
      obtain rfl := os1 h
      exact retZ X Y hr hlk rfl dX0_isLoad_17
set_option maxHeartbeats 4000000 in
set_option maxRecDepth 100000 in
theorem c_fX2_kindOf (l : Launch) (D : va_G) (g : Nat → ClassId) (W0 : va_W) (v0 : Int32) {r0 : Int32} (h : fX2_kindOf v0 = some r0) : MI l yX2_kindOf kX2_kindOf 0 0 D g (W0) (W0) [.int v0] r0 := by
  intro sz
  refine Met.of2 (Qc := fun A => QI D g A (W0) r0) (cc := cX2_kindOf) (maxL := 1) (ret := (some .int)) (own := RX2) (by decide) rfl rfl (Nat.le_of_ble_eq_true rfl) ?_
  intro p e s m below meth c A ls X hr hlk hml Y hl
  have hx := X.1
  have hb := X.2.1
  have hl : lv_has ls 1 [(0, .int v0)] := hl
  rw [fX2_kindOf] at h
  refine lv_iload_n hx hb dX2_kindOf_0 rfl (lv_at hl 0 rfl) ?_
  by_cases c1 : v0 = 98
  · replace h := ot c1 h
    refine lv_lookup (tgt := 40) (off := 39) hx hb dX2_kindOf_1 (by decide) (by rw [c1]; decide) (by decide) ?_
    refine lv_iconst (v := 2) hx hb dX2_kindOf_40 (by decide) ?_
    obtain rfl := os1 h
    exact retI X Y hr hlk dX2_kindOf_41
  · replace h := oe c1 h
    by_cases c2 : v0 = 102
    · replace h := ot c2 h
      refine lv_lookup (tgt := 38) (off := 37) hx hb dX2_kindOf_1 (by decide) (by rw [c2]; decide) (by decide) ?_
      refine lv_iconst (v := 1) hx hb dX2_kindOf_38 (by decide) ?_
      obtain rfl := os1 h
      exact retI X Y hr hlk dX2_kindOf_39
    · replace h := oe c2 h
      by_cases c3 : v0 = 114
      · replace h := ot c3 h
        refine lv_lookup (tgt := 36) (off := 35) hx hb dX2_kindOf_1 (by decide) (by rw [c3]; decide) (by decide) ?_
        refine lv_iconst (v := 0) hx hb dX2_kindOf_36 (by decide) ?_
        obtain rfl := os1 h
        exact retI X Y hr hlk dX2_kindOf_37
      · replace h := oe c3 h
        refine lv_lookup (tgt := 42) (off := 41) hx hb dX2_kindOf_1 (by decide) (by rw [lv_osw c1 (show (98 : Int32).toInt = 98 by decide), lv_osw c2 (show (102 : Int32).toInt = 102 by decide), lv_osw c3 (show (114 : Int32).toInt = 114 by decide)]; rfl) (by decide) ?_
        refine lv_bipush (v := (-9)) hx hb dX2_kindOf_42 (by decide) ?_
        obtain rfl := os1 h
        exact retI X Y hr hlk dX2_kindOf_44
set_option maxHeartbeats 4000000 in
set_option maxRecDepth 100000 in
theorem w_fX0_takeText_G62 {p : Program} {l : Launch} {e : Env} {s : State} {m : MethodId} {args : Array Value} {below : List Frame} {meth : Method} {c : Code} {D : va_G} {g : Nat → ClassId} {ad : Nat → Nat} {A : Nat → Prop} {σ0 : St} (X : Cx p s m c args cX0_takeText RX0 kX0_takeText D g) (hr : meth.sig.returnType = none) (hlk : meth.locks = false) (hml : c.maxLocals = 6) : ∀ n : Nat, (∀ (σ : St) (k1 : Nat) (hk1 : k1 < 4) (v3 : Int32) (v4 : Int32) (H : Heap) (locs : List Loc) (ls : Array Slot), Hp D A s.heap H locs (WC g ad σ) → lv_has ls 6 [(0, .ref (ad 10)), (1, .ref (ad (2 + k1))), (3, .int v3), (4, .int v4)] → fX0_takeText_G62 n 0 σ k1 v3 v4 0 = some σ0 → W p l e (RM 1 20) s m args below meth c H locs 0 0 (MQ below (QV D g A (WC g ad σ0)) args s 0 0 A) (F0 m 62 ls [])) ∧ (∀ (σ : St) (k1 : Nat) (hk1 : k1 < 4) (v3 : Int32) (v4 : Int32) (v5 : Int32) (H : Heap) (locs : List Loc) (ls : Array Slot), Hp D A s.heap H locs (WC g ad σ) → lv_has ls 6 [(0, .ref (ad 10)), (1, .ref (ad (2 + k1))), (3, .int v3), (4, .int v4), (5, .int v5)] → fX0_takeText_G62 n 1 σ k1 v3 v4 v5 = some σ0 → W p l e (RM 1 20) s m args below meth c H locs 0 0 (MQ below (QV D g A (WC g ad σ0)) args s 0 0 A) (F0 m 118 ls [])) := by
  have hx := X.1
  have hb := X.2.1
  intro n
  induction n with
  | zero => refine ⟨?_, ?_⟩
            · intro σ k1 hk1 v3 v4 H locs ls Y hl h; cases (show none = _ from h)
            · intro σ k1 hk1 v3 v4 v5 H locs ls Y hl h; cases (show none = _ from h)
  | succ n ih =>
    refine ⟨?_, ?_⟩
    · intro σ k1 hk1 v3 v4 H locs ls Y hl h
      rw [fX0_takeText_G62] at h
      replace h := ot rfl h
      refine lv_iload hx hb dX0_takeText_62 (lv_at hl 3 rfl) ?_
      refine lv_aload_n hx hb dX0_takeText_64 rfl (lv_at hl 0 rfl) ?_
      refine rgR X Y 0 (v := .int (σ 10 0)) tw_57 rfl dX0_takeText_65 ?_
      refine lv_icmp_ge (tgt := 168) hx hb dX0_takeText_68 (by decide) (fun c4 => ?_) (fun c4 => ?_)
      · replace h := ot c4 h
        obtain rfl := os1 h
        exact retV X Y hr hlk dX0_takeText_168
      · replace h := oe c4 h
        refine lv_aload_n hx hb dX0_takeText_71 rfl (lv_at hl 0 rfl) ?_
        refine rgR X Y 4 (v := .ref (ad 11)) tw_65 rfl dX0_takeText_72 ?_
        refine lv_iload hx hb dX0_takeText_75 (lv_at hl 3 rfl) ?_
        refine lv_aload_n hx hb dX0_takeText_77 rfl (lv_at hl 1 rfl) ?_
        refine rgS X Y hk1 0 (v := .ref (ad (6 + k1))) tw_112 rfl dX0_takeText_78 ?_
        refine lv_iload_n hx hb dX0_takeText_81 rfl (lv_at hl 2 rfl) ?_
        refine lv_iconst (v := 1) hx hb dX0_takeText_82 (by decide) ?_
        refine lv_iadd hx hb dX0_takeText_83 ?_
        obtain ⟨hg5, h⟩ := og h
        refine ri X Y (lkA g ad σ hk1) hg5 dX0_takeText_84 ?_
        obtain ⟨r7, hg6, h⟩ := ob h
        refine cSi X (hml.trans hl.1.symm) Y (c_fX2_kindOf l D g (WC g ad σ) (σ (6 + k1) (v3 + 1).toNatClampNeg) hg6) (gs_X0_62 _) rfl fd_X2_kindOf ⟨Nat.le_of_ble_eq_true rfl, Nat.le_of_ble_eq_true rfl⟩ ⟨Nat.le_of_ble_eq_true rfl, Nat.le_of_ble_eq_true rfl⟩ (rest := [.int v4, .ref (ad 11)]) rfl (Nat.le_of_ble_eq_true rfl) dX0_takeText_85 (fun H locs Y => ?_)
        obtain ⟨hg8, h⟩ := og h
        refine ris X Y (W1 := WC g ad (up2 σ 11 v4.toNatClampNeg r7)) (lkC_11 g ad σ) hg8 (stC_11 g ad σ _) dX0_takeText_88 (fun H locs Y => ?_)
        refine lv_aload_n hx hb dX0_takeText_89 rfl (lv_at hl 0 rfl) ?_
        refine lv_dup hx hb dX0_takeText_90 rfl ?_
        refine rgR X Y 3 (v := .int ((up2 σ 11 v4.toNatClampNeg r7) 10 3)) tw_64 rfl dX0_takeText_91 ?_
        refine lv_aload_n hx hb dX0_takeText_94 rfl (lv_at hl 1 rfl) ?_
        refine rgS X Y hk1 0 (v := .ref (ad (6 + k1))) tw_112 rfl dX0_takeText_95 ?_
        refine lv_iload_n hx hb dX0_takeText_98 rfl (lv_at hl 2 rfl) ?_
        refine lv_iconst (v := 2) hx hb dX0_takeText_99 (by decide) ?_
        refine lv_iadd hx hb dX0_takeText_100 ?_
        obtain ⟨hg9, h⟩ := og h
        refine ri X Y (lkA g ad (up2 σ 11 v4.toNatClampNeg r7) hk1) hg9 dX0_takeText_101 ?_
        refine lv_bipush (v := 48) hx hb dX0_takeText_102 (by decide) ?_
        refine lv_isub hx hb dX0_takeText_104 ?_
        refine lv_iload hx hb dX0_takeText_105 (lv_at hl 3 rfl) ?_
        refine lv_ishl hx hb dX0_takeText_107 ?_
        refine lv_ior hx hb dX0_takeText_108 ?_
        refine rpR X Y 3 (v := ((up2 σ 11 v4.toNatClampNeg r7) 10 3) ||| ((((up2 σ 11 v4.toNatClampNeg r7) (6 + k1) (v3 + 2).toNatClampNeg) - 48) <<< (v4 &&& 31))) tw_64 rfl rfl rfl (stR_3 g ad (up2 σ 11 v4.toNatClampNeg r7) (((up2 σ 11 v4.toNatClampNeg r7) 10 3) ||| ((((up2 σ 11 v4.toNatClampNeg r7) (6 + k1) (v3 + 2).toNatClampNeg) - 48) <<< (v4 &&& 31)))) dX0_takeText_109 (fun H locs Y => ?_)
        refine lv_iinc (v := v3 + 3) (lv' := [(3, .int (v3 + 3)), (0, .ref (ad 10)), (1, .ref (ad (2 + k1))), (4, .int v4)]) hx hb dX0_takeText_112 hl (k := 2) rfl rfl (by decide) rfl (fun ls hl => ?_)
        refine lv_iconst (v := 0) hx hb dX0_takeText_115 (by decide) ?_
        refine lv_istore (lv' := [(5, .int 0), (3, .int (v3 + 3)), (0, .ref (ad 10)), (1, .ref (ad (2 + k1))), (4, .int v4)]) hx hb dX0_takeText_116 hl (by decide) rfl (fun ls hl => ?_)
        exact ih.2 (up2 (up2 σ 11 v4.toNatClampNeg r7) 10 3 (((up2 σ 11 v4.toNatClampNeg r7) 10 3) ||| ((((up2 σ 11 v4.toNatClampNeg r7) (6 + k1) (v3 + 2).toNatClampNeg) - 48) <<< (v4 &&& 31)))) k1 hk1 (v3 + 3) v4 0 _ _ _ Y (lv_sub hl [2, 3, 1, 4, 0] rfl) h
    · intro σ k1 hk1 v3 v4 v5 H locs ls Y hl h
      rw [fX0_takeText_G62] at h
      replace h := oe (by decide) h
      refine lv_iload hx hb dX0_takeText_118 (lv_at hl 4 rfl) ?_
      refine lv_aload_n hx hb dX0_takeText_120 rfl (lv_at hl 0 rfl) ?_
      refine rgR X Y 0 (v := .int (σ 10 0)) tw_57 rfl dX0_takeText_121 ?_
      refine lv_icmp_ge (tgt := 155) hx hb dX0_takeText_124 (by decide) (fun c10 => ?_) (fun c10 => ?_)
      · replace h := ot c10 h
        refine lv_iload_n hx hb dX0_takeText_155 rfl (lv_at hl 2 rfl) ?_
        refine lv_aload_n hx hb dX0_takeText_156 rfl (lv_at hl 0 rfl) ?_
        refine rgR X Y 0 (v := .int (σ 10 0)) tw_57 rfl dX0_takeText_157 ?_
        refine lv_iadd hx hb dX0_takeText_160 ?_
        refine lv_istore_n (lv' := [(3, .int (v3 + (σ 10 0))), (0, .ref (ad 10)), (1, .ref (ad (2 + k1))), (4, .int v4), (5, .int v5)]) hx hb dX0_takeText_161 rfl hl (by decide) rfl (fun ls hl => ?_)
        refine lv_iinc (v := v4 + 1) (lv' := [(4, .int (v4 + 1)), (3, .int (v3 + (σ 10 0))), (0, .ref (ad 10)), (1, .ref (ad (2 + k1))), (5, .int v5)]) hx hb dX0_takeText_162 hl (k := 3) rfl rfl (by decide) rfl (fun ls hl => ?_)
        refine lv_goto (tgt := 62) hx hb dX0_takeText_165 (by decide) ?_
        exact ih.1 σ k1 hk1 (v3 + (σ 10 0)) (v4 + 1) _ _ _ Y (lv_sub hl [2, 3, 1, 0] rfl) h
      · replace h := oe c10 h
        refine lv_aload_n hx hb dX0_takeText_127 rfl (lv_at hl 0 rfl) ?_
        refine rgR X Y 5 (v := .ref (ad 12)) tw_67 rfl dX0_takeText_128 ?_
        refine lv_iload hx hb dX0_takeText_131 (lv_at hl 3 rfl) ?_
        obtain ⟨hg11, h⟩ := og h
        refine raN X Y hg11 dX0_takeText_133 ?_
        refine lv_iload hx hb dX0_takeText_134 (lv_at hl 4 rfl) ?_
        refine lv_aload_n hx hb dX0_takeText_136 rfl (lv_at hl 1 rfl) ?_
        refine rgS X Y hk1 0 (v := .ref (ad (6 + k1))) tw_112 rfl dX0_takeText_137 ?_
        refine lv_iload_n hx hb dX0_takeText_140 rfl (lv_at hl 2 rfl) ?_
        refine lv_iload hx hb dX0_takeText_141 (lv_at hl 4 rfl) ?_
        refine lv_iadd hx hb dX0_takeText_143 ?_
        obtain ⟨hg12, h⟩ := og h
        refine ri X Y (lkA g ad σ hk1) hg12 dX0_takeText_144 ?_
        refine lv_bipush (v := 48) hx hb dX0_takeText_145 (by decide) ?_
        refine lv_isub hx hb dX0_takeText_147 ?_
        obtain ⟨hg13, h⟩ := og h
        refine ris X Y (W1 := WC g ad (up2 σ (13 + v4.toNatClampNeg) v5.toNatClampNeg ((σ (6 + k1) (v3 + v5).toNatClampNeg) - 48))) (lkN g ad σ (clt hg11)) hg13 (stN g ad σ _ (clt hg11)) dX0_takeText_148 (fun H locs Y => ?_)
        refine lv_iinc (v := v5 + 1) (lv' := [(5, .int (v5 + 1)), (0, .ref (ad 10)), (1, .ref (ad (2 + k1))), (3, .int v3), (4, .int v4)]) hx hb dX0_takeText_149 hl (k := 4) rfl rfl (by decide) rfl (fun ls hl => ?_)
        refine lv_goto (tgt := 118) hx hb dX0_takeText_152 (by decide) ?_
        exact ih.2 (up2 σ (13 + v4.toNatClampNeg) v5.toNatClampNeg ((σ (6 + k1) (v3 + v5).toNatClampNeg) - 48)) k1 hk1 v3 v4 (v5 + 1) _ _ _ Y (lv_sub hl [1, 2, 3, 4, 0] rfl) h
set_option maxHeartbeats 4000000 in
set_option maxRecDepth 100000 in
theorem c_fX0_takeText (l : Launch) (D : va_G) (g : Nat → ClassId) (ad : Nat → Nat) (σ : St) (n : Nat) (k1 : Nat) (hk1 : k1 < 4) (v2 : Int32) {σ0 : St} (h : fX0_takeText n σ k1 v2 = some σ0) : MV l yX0_takeText kX0_takeText 1 20 D g (WC g ad σ) (WC g ad σ0) [.ref (ad 10), .ref (ad (2 + k1)), .int v2] := by
  intro sz
  refine Met.of2 (Qc := fun A => QV D g A (WC g ad σ0)) (cc := cX0_takeText) (maxL := 6) (ret := none) (own := RX0) (by decide) rfl rfl (Nat.le_of_ble_eq_true rfl) ?_
  intro p e s m below meth c A ls X hr hlk hml Y hl
  have hx := X.1
  have hb := X.2.1
  have hl : lv_has ls 6 [(0, .ref (ad 10)), (1, .ref (ad (2 + k1))), (2, .int v2)] := hl
  rw [fX0_takeText] at h
  refine lv_aload_n hx hb dX0_takeText_0 rfl (lv_at hl 0 rfl) ?_
  refine lv_aload_n hx hb dX0_takeText_1 rfl (lv_at hl 1 rfl) ?_
  refine rgS X Y hk1 0 (v := .ref (ad (6 + k1))) tw_112 rfl dX0_takeText_2 ?_
  refine lv_iload_n hx hb dX0_takeText_5 rfl (lv_at hl 2 rfl) ?_
  refine lv_iconst (v := 1) hx hb dX0_takeText_6 (by decide) ?_
  refine lv_iadd hx hb dX0_takeText_7 ?_
  obtain ⟨hg1, h⟩ := og h
  refine ri X Y (lkA g ad σ hk1) hg1 dX0_takeText_8 ?_
  refine lv_bipush (v := 48) hx hb dX0_takeText_9 (by decide) ?_
  refine lv_isub hx hb dX0_takeText_11 ?_
  refine rpR X Y 1 (v := (σ (6 + k1) (v2 + 1).toNatClampNeg) - 48) tw_59 rfl rfl rfl (stR_1 g ad σ ((σ (6 + k1) (v2 + 1).toNatClampNeg) - 48)) dX0_takeText_12 (fun H locs Y => ?_)
  refine lv_aload_n hx hb dX0_takeText_15 rfl (lv_at hl 0 rfl) ?_
  refine lv_aload_n hx hb dX0_takeText_16 rfl (lv_at hl 1 rfl) ?_
  refine rgS X Y hk1 0 (v := .ref (ad (6 + k1))) tw_112 rfl dX0_takeText_17 ?_
  refine lv_iload_n hx hb dX0_takeText_20 rfl (lv_at hl 2 rfl) ?_
  refine lv_iconst (v := 2) hx hb dX0_takeText_21 (by decide) ?_
  refine lv_iadd hx hb dX0_takeText_22 ?_
  obtain ⟨hg2, h⟩ := og h
  refine ri X Y (lkA g ad (up2 σ 10 1 ((σ (6 + k1) (v2 + 1).toNatClampNeg) - 48)) hk1) hg2 dX0_takeText_23 ?_
  refine lv_bipush (v := 48) hx hb dX0_takeText_24 (by decide) ?_
  refine lv_isub hx hb dX0_takeText_26 ?_
  refine rpR X Y 2 (v := ((up2 σ 10 1 ((σ (6 + k1) (v2 + 1).toNatClampNeg) - 48)) (6 + k1) (v2 + 2).toNatClampNeg) - 48) tw_62 rfl rfl rfl (stR_2 g ad (up2 σ 10 1 ((σ (6 + k1) (v2 + 1).toNatClampNeg) - 48)) (((up2 σ 10 1 ((σ (6 + k1) (v2 + 1).toNatClampNeg) - 48)) (6 + k1) (v2 + 2).toNatClampNeg) - 48)) dX0_takeText_27 (fun H locs Y => ?_)
  refine lv_aload_n hx hb dX0_takeText_30 rfl (lv_at hl 0 rfl) ?_
  refine lv_aload_n hx hb dX0_takeText_31 rfl (lv_at hl 1 rfl) ?_
  refine rgS X Y hk1 0 (v := .ref (ad (6 + k1))) tw_112 rfl dX0_takeText_32 ?_
  refine lv_iload_n hx hb dX0_takeText_35 rfl (lv_at hl 2 rfl) ?_
  refine lv_iconst (v := 3) hx hb dX0_takeText_36 (by decide) ?_
  refine lv_iadd hx hb dX0_takeText_37 ?_
  obtain ⟨hg3, h⟩ := og h
  refine ri X Y (lkA g ad (up2 (up2 σ 10 1 ((σ (6 + k1) (v2 + 1).toNatClampNeg) - 48)) 10 2 (((up2 σ 10 1 ((σ (6 + k1) (v2 + 1).toNatClampNeg) - 48)) (6 + k1) (v2 + 2).toNatClampNeg) - 48)) hk1) hg3 dX0_takeText_38 ?_
  refine lv_bipush (v := 48) hx hb dX0_takeText_39 (by decide) ?_
  refine lv_isub hx hb dX0_takeText_41 ?_
  refine rpR X Y 0 (v := ((up2 (up2 σ 10 1 ((σ (6 + k1) (v2 + 1).toNatClampNeg) - 48)) 10 2 (((up2 σ 10 1 ((σ (6 + k1) (v2 + 1).toNatClampNeg) - 48)) (6 + k1) (v2 + 2).toNatClampNeg) - 48)) (6 + k1) (v2 + 3).toNatClampNeg) - 48) tw_57 rfl rfl rfl (stR_0 g ad (up2 (up2 σ 10 1 ((σ (6 + k1) (v2 + 1).toNatClampNeg) - 48)) 10 2 (((up2 σ 10 1 ((σ (6 + k1) (v2 + 1).toNatClampNeg) - 48)) (6 + k1) (v2 + 2).toNatClampNeg) - 48)) (((up2 (up2 σ 10 1 ((σ (6 + k1) (v2 + 1).toNatClampNeg) - 48)) 10 2 (((up2 σ 10 1 ((σ (6 + k1) (v2 + 1).toNatClampNeg) - 48)) (6 + k1) (v2 + 2).toNatClampNeg) - 48)) (6 + k1) (v2 + 3).toNatClampNeg) - 48)) dX0_takeText_42 (fun H locs Y => ?_)
  refine lv_aload_n hx hb dX0_takeText_45 rfl (lv_at hl 0 rfl) ?_
  refine lv_iconst (v := 0) hx hb dX0_takeText_46 (by decide) ?_
  refine rpR X Y 3 (v := 0) tw_64 rfl rfl rfl (stR_3 g ad (up2 (up2 (up2 σ 10 1 ((σ (6 + k1) (v2 + 1).toNatClampNeg) - 48)) 10 2 (((up2 σ 10 1 ((σ (6 + k1) (v2 + 1).toNatClampNeg) - 48)) (6 + k1) (v2 + 2).toNatClampNeg) - 48)) 10 0 (((up2 (up2 σ 10 1 ((σ (6 + k1) (v2 + 1).toNatClampNeg) - 48)) 10 2 (((up2 σ 10 1 ((σ (6 + k1) (v2 + 1).toNatClampNeg) - 48)) (6 + k1) (v2 + 2).toNatClampNeg) - 48)) (6 + k1) (v2 + 3).toNatClampNeg) - 48)) 0) dX0_takeText_47 (fun H locs Y => ?_)
  refine lv_aload_n hx hb dX0_takeText_50 rfl (lv_at hl 0 rfl) ?_
  refine lv_iconst (v := 0) hx hb dX0_takeText_51 (by decide) ?_
  refine rpR X Y 6 (v := 0) tw_69 rfl rfl rfl (stR_6 g ad (up2 (up2 (up2 (up2 σ 10 1 ((σ (6 + k1) (v2 + 1).toNatClampNeg) - 48)) 10 2 (((up2 σ 10 1 ((σ (6 + k1) (v2 + 1).toNatClampNeg) - 48)) (6 + k1) (v2 + 2).toNatClampNeg) - 48)) 10 0 (((up2 (up2 σ 10 1 ((σ (6 + k1) (v2 + 1).toNatClampNeg) - 48)) 10 2 (((up2 σ 10 1 ((σ (6 + k1) (v2 + 1).toNatClampNeg) - 48)) (6 + k1) (v2 + 2).toNatClampNeg) - 48)) (6 + k1) (v2 + 3).toNatClampNeg) - 48)) 10 3 0) 0) dX0_takeText_52 (fun H locs Y => ?_)
  refine lv_iload_n hx hb dX0_takeText_55 rfl (lv_at hl 2 rfl) ?_
  refine lv_iconst (v := 4) hx hb dX0_takeText_56 (by decide) ?_
  refine lv_iadd hx hb dX0_takeText_57 ?_
  refine lv_istore_n (lv' := [(3, .int (v2 + 4)), (0, .ref (ad 10)), (1, .ref (ad (2 + k1))), (2, .int v2)]) hx hb dX0_takeText_58 rfl hl (by decide) rfl (fun ls hl => ?_)
  refine lv_iconst (v := 0) hx hb dX0_takeText_59 (by decide) ?_
  refine lv_istore (lv' := [(4, .int 0), (3, .int (v2 + 4)), (0, .ref (ad 10)), (1, .ref (ad (2 + k1))), (2, .int v2)]) hx hb dX0_takeText_60 hl (by decide) rfl (fun ls hl => ?_)
  exact (w_fX0_takeText_G62 X hr hlk hml n).1 (up2 (up2 (up2 (up2 (up2 σ 10 1 ((σ (6 + k1) (v2 + 1).toNatClampNeg) - 48)) 10 2 (((up2 σ 10 1 ((σ (6 + k1) (v2 + 1).toNatClampNeg) - 48)) (6 + k1) (v2 + 2).toNatClampNeg) - 48)) 10 0 (((up2 (up2 σ 10 1 ((σ (6 + k1) (v2 + 1).toNatClampNeg) - 48)) 10 2 (((up2 σ 10 1 ((σ (6 + k1) (v2 + 1).toNatClampNeg) - 48)) (6 + k1) (v2 + 2).toNatClampNeg) - 48)) (6 + k1) (v2 + 3).toNatClampNeg) - 48)) 10 3 0) 10 6 0) k1 hk1 (v2 + 4) 0 _ _ _ Y (lv_sub hl [2, 3, 1, 0] rfl) h
set_option maxHeartbeats 4000000 in
set_option maxRecDepth 100000 in
theorem w_fX0_allNotes_L4 {p : Program} {l : Launch} {e : Env} {s : State} {m : MethodId} {args : Array Value} {below : List Frame} {meth : Method} {c : Code} {D : va_G} {g : Nat → ClassId} {ad : Nat → Nat} {A : Nat → Prop} {r0 : Int32} (X : Cx p s m c args cX0_allNotes RX0 kX0_allNotes D g) (hr : meth.sig.returnType = (some .int)) (hlk : meth.locks = false) (hml : c.maxLocals = 4) : ∀ (n : Nat), ∀ (σ : St) (v1 : Int32) (v2 : Int32) (v3 : Int32) (H : Heap) (locs : List Loc) (ls : Array Slot), Hp D A s.heap H locs (WC g ad σ) → lv_has ls 4 [(0, .ref (ad 10)), (1, .int v1), (2, .int v2), (3, .int v3)] → fX0_allNotes_L4 n σ v1 v2 v3 = some r0 → W p l e (RM 0 0) s m args below meth c H locs 0 0 (MQ below (QI D g A (WC g ad σ) r0) args s 0 0 A) (F0 m 4 ls []) := by
  have hx := X.1
  have hb := X.2.1
  intro n
  induction n with
  | zero => intro σ v1 v2 v3 H locs ls Y hl h; cases (show none = _ from h)
  | succ n ih =>
    intro σ v1 v2 v3 H locs ls Y hl h
    rw [fX0_allNotes_L4] at h
    refine lv_iload_n hx hb dX0_allNotes_4 rfl (lv_at hl 3 rfl) ?_
    refine lv_aload_n hx hb dX0_allNotes_5 rfl (lv_at hl 0 rfl) ?_
    refine rgR X Y 0 (v := .int (σ 10 0)) tw_57 rfl dX0_allNotes_6 ?_
    refine lv_icmp_ge (tgt := 29) hx hb dX0_allNotes_9 (by decide) (fun c1 => ?_) (fun c1 => ?_)
    · replace h := ot c1 h
      refine lv_iload_n hx hb dX0_allNotes_29 rfl (lv_at hl 2 rfl) ?_
      obtain rfl := os1 h
      exact retI X Y hr hlk dX0_allNotes_30
    · replace h := oe c1 h
      refine lv_iload_n hx hb dX0_allNotes_12 rfl (lv_at hl 2 rfl) ?_
      refine lv_aload_n hx hb dX0_allNotes_13 rfl (lv_at hl 0 rfl) ?_
      refine rgR X Y 5 (v := .ref (ad 12)) tw_67 rfl dX0_allNotes_14 ?_
      refine lv_iload_n hx hb dX0_allNotes_17 rfl (lv_at hl 1 rfl) ?_
      obtain ⟨hg2, h⟩ := og h
      refine raN X Y hg2 dX0_allNotes_18 ?_
      refine lv_iload_n hx hb dX0_allNotes_19 rfl (lv_at hl 3 rfl) ?_
      obtain ⟨hg3, h⟩ := og h
      refine ri X Y (lkN g ad σ (clt hg2)) hg3 dX0_allNotes_20 ?_
      refine lv_iadd hx hb dX0_allNotes_21 ?_
      refine lv_istore_n (lv' := [(2, .int (v2 + (σ (13 + v1.toNatClampNeg) v3.toNatClampNeg))), (0, .ref (ad 10)), (1, .int v1), (3, .int v3)]) hx hb dX0_allNotes_22 rfl hl (by decide) rfl (fun ls hl => ?_)
      refine lv_iinc (v := v3 + 1) (lv' := [(3, .int (v3 + 1)), (2, .int (v2 + (σ (13 + v1.toNatClampNeg) v3.toNatClampNeg))), (0, .ref (ad 10)), (1, .int v1)]) hx hb dX0_allNotes_23 hl (k := 3) rfl rfl (by decide) rfl (fun ls hl => ?_)
      refine lv_goto (tgt := 4) hx hb dX0_allNotes_26 (by decide) ?_
      exact ih σ v1 (v2 + (σ (13 + v1.toNatClampNeg) v3.toNatClampNeg)) (v3 + 1) _ _ _ Y (lv_sub hl [2, 3, 1, 0] rfl) h
set_option maxHeartbeats 4000000 in
set_option maxRecDepth 100000 in
theorem c_fX0_allNotes (l : Launch) (D : va_G) (g : Nat → ClassId) (ad : Nat → Nat) (σ : St) (n : Nat) (v1 : Int32) {r0 : Int32} (h : fX0_allNotes n σ v1 = some r0) : MI l yX0_allNotes kX0_allNotes 0 0 D g (WC g ad σ) (WC g ad σ) [.ref (ad 10), .int v1] r0 := by
  intro sz
  refine Met.of2 (Qc := fun A => QI D g A (WC g ad σ) r0) (cc := cX0_allNotes) (maxL := 4) (ret := (some .int)) (own := RX0) (by decide) rfl rfl (Nat.le_of_ble_eq_true rfl) ?_
  intro p e s m below meth c A ls X hr hlk hml Y hl
  have hx := X.1
  have hb := X.2.1
  have hl : lv_has ls 4 [(0, .ref (ad 10)), (1, .int v1)] := hl
  rw [fX0_allNotes] at h
  refine lv_iconst (v := 0) hx hb dX0_allNotes_0 (by decide) ?_
  refine lv_istore_n (lv' := [(2, .int 0), (0, .ref (ad 10)), (1, .int v1)]) hx hb dX0_allNotes_1 rfl hl (by decide) rfl (fun ls hl => ?_)
  refine lv_iconst (v := 0) hx hb dX0_allNotes_2 (by decide) ?_
  refine lv_istore_n (lv' := [(3, .int 0), (2, .int 0), (0, .ref (ad 10)), (1, .int v1)]) hx hb dX0_allNotes_3 rfl hl (by decide) rfl (fun ls hl => ?_)
  exact w_fX0_allNotes_L4 X hr hlk hml n σ v1 0 0 _ _ _ Y (lv_sub hl [2, 3, 1, 0] rfl) h
set_option maxHeartbeats 4000000 in
set_option maxRecDepth 100000 in
theorem w_fX0_debtIf_L6 {p : Program} {l : Launch} {e : Env} {s : State} {m : MethodId} {args : Array Value} {below : List Frame} {meth : Method} {c : Code} {D : va_G} {g : Nat → ClassId} {ad : Nat → Nat} {A : Nat → Prop} {r0 : Int32} (X : Cx p s m c args cX0_debtIf RX0 kX0_debtIf D g) (hr : meth.sig.returnType = (some .int)) (hlk : meth.locks = false) (hml : c.maxLocals = 6) : ∀ (n : Nat), ∀ (σ : St) (v1 : Int32) (v2 : Int32) (v3 : Int32) (v4 : Int32) (v5 : Int32) (H : Heap) (locs : List Loc) (ls : Array Slot), Hp D A s.heap H locs (WC g ad σ) → lv_has ls 6 [(0, .ref (ad 10)), (1, .int v1), (2, .int v2), (3, .int v3), (4, .int v4), (5, .int v5)] → fX0_debtIf_L6 n σ v1 v2 v3 v4 v5 = some r0 → W p l e (RM 0 0) s m args below meth c H locs 0 0 (MQ below (QI D g A (WC g ad σ) r0) args s 0 0 A) (F0 m 6 ls []) := by
  have hx := X.1
  have hb := X.2.1
  intro n
  induction n with
  | zero => intro σ v1 v2 v3 v4 v5 H locs ls Y hl h; cases (show none = _ from h)
  | succ n ih =>
    intro σ v1 v2 v3 v4 v5 H locs ls Y hl h
    rw [fX0_debtIf_L6] at h
    refine lv_iload hx hb dX0_debtIf_6 (lv_at hl 5 rfl) ?_
    refine lv_aload_n hx hb dX0_debtIf_8 rfl (lv_at hl 0 rfl) ?_
    refine rgR X Y 0 (v := .int (σ 10 0)) tw_57 rfl dX0_debtIf_9 ?_
    refine lv_icmp_ge (tgt := 71) hx hb dX0_debtIf_12 (by decide) (fun c1 => ?_) (fun c1 => ?_)
    · replace h := ot c1 h
      refine lv_aload_n hx hb dX0_debtIf_71 rfl (lv_at hl 0 rfl) ?_
      refine rgR X Y 4 (v := .ref (ad 11)) tw_65 rfl dX0_debtIf_72 ?_
      refine lv_iload_n hx hb dX0_debtIf_75 rfl (lv_at hl 1 rfl) ?_
      obtain ⟨hg2, h⟩ := og h
      refine ri X Y (lkC_11 g ad σ) hg2 dX0_debtIf_76 ?_
      by_cases c3 : σ 11 v1.toNatClampNeg = 1
      · replace h := ot c3 h
        refine lv_lookup (tgt := 109) (off := 32) hx hb dX0_debtIf_77 (by decide) (by rw [c3]; decide) (by decide) ?_
        refine lv_iload hx hb dX0_debtIf_109 (lv_at hl 4 rfl) ?_
        refine lv_if_le (tgt := 121) hx hb dX0_debtIf_111 (by decide) (fun c4 => ?_) (fun c4 => ?_)
        · replace h := ot c4 h
          refine lv_iconst (v := 0) hx hb dX0_debtIf_121 (by decide) ?_
          obtain rfl := os1 h
          exact retI X Y hr hlk dX0_debtIf_122
        · replace h := oe c4 h
          refine lv_iload hx hb dX0_debtIf_114 (lv_at hl 4 rfl) ?_
          refine lv_iconst (v := 1) hx hb dX0_debtIf_116 (by decide) ?_
          refine lv_isub hx hb dX0_debtIf_117 ?_
          refine lv_goto (tgt := 122) hx hb dX0_debtIf_118 (by decide) ?_
          obtain rfl := os1 h
          exact retI X Y hr hlk dX0_debtIf_122
      · replace h := oe c3 h
        by_cases c5 : σ 11 v1.toNatClampNeg = 2
        · replace h := ot c5 h
          refine lv_lookup (tgt := 104) (off := 27) hx hb dX0_debtIf_77 (by decide) (by rw [c5]; decide) (by decide) ?_
          refine lv_iload hx hb dX0_debtIf_104 (lv_at hl 4 rfl) ?_
          refine lv_iconst (v := 2) hx hb dX0_debtIf_106 (by decide) ?_
          refine lv_idiv hx hb dX0_debtIf_107 (by decide) ?_
          obtain rfl := os1 h
          exact retI X Y hr hlk dX0_debtIf_108
        · replace h := oe c5 h
          refine lv_lookup (tgt := 123) (off := 46) hx hb dX0_debtIf_77 (by decide) (by rw [lv_osw c3 (show (1 : Int32).toInt = 1 by decide), lv_osw c5 (show (2 : Int32).toInt = 2 by decide)]; rfl) (by decide) ?_
          refine lv_iload hx hb dX0_debtIf_123 (lv_at hl 4 rfl) ?_
          obtain rfl := os1 h
          exact retI X Y hr hlk dX0_debtIf_125
    · replace h := oe c1 h
      refine lv_iload_n hx hb dX0_debtIf_15 rfl (lv_at hl 3 rfl) ?_
      refine lv_iload hx hb dX0_debtIf_16 (lv_at hl 5 rfl) ?_
      refine lv_ishr hx hb dX0_debtIf_18 ?_
      refine lv_iconst (v := 1) hx hb dX0_debtIf_19 (by decide) ?_
      refine lv_iand hx hb dX0_debtIf_20 ?_
      refine lv_if_ne (tgt := 65) hx hb dX0_debtIf_21 (by decide) (fun c6 => ?_) (fun c6 => ?_)
      · replace h := oe c6 h
        refine lv_iinc (v := v5 + 1) (lv' := [(5, .int (v5 + 1)), (0, .ref (ad 10)), (1, .int v1), (2, .int v2), (3, .int v3), (4, .int v4)]) hx hb dX0_debtIf_65 hl (k := 5) rfl rfl (by decide) rfl (fun ls hl => ?_)
        refine lv_goto (tgt := 6) hx hb dX0_debtIf_68 (by decide) ?_
        exact ih σ v1 v2 v3 v4 (v5 + 1) _ _ _ Y (lv_sub hl [1, 2, 3, 4, 5, 0] rfl) h
      · replace h := ot c6 h
        refine lv_iload hx hb dX0_debtIf_24 (lv_at hl 4 rfl) ?_
        refine lv_iload_n hx hb dX0_debtIf_26 rfl (lv_at hl 2 rfl) ?_
        refine lv_iload hx hb dX0_debtIf_27 (lv_at hl 5 rfl) ?_
        refine lv_ishr hx hb dX0_debtIf_29 ?_
        refine lv_iconst (v := 1) hx hb dX0_debtIf_30 (by decide) ?_
        refine lv_iand hx hb dX0_debtIf_31 ?_
        refine lv_iconst (v := 1) hx hb dX0_debtIf_32 (by decide) ?_
        refine lv_icmp_ne (tgt := 53) hx hb dX0_debtIf_33 (by decide) (fun c7 => ?_) (fun c7 => ?_)
        · replace h := oe c7 h
          refine lv_aload_n hx hb dX0_debtIf_53 rfl (lv_at hl 0 rfl) ?_
          refine rgR X Y 5 (v := .ref (ad 12)) tw_67 rfl dX0_debtIf_54 ?_
          refine lv_iload_n hx hb dX0_debtIf_57 rfl (lv_at hl 1 rfl) ?_
          obtain ⟨hg8, h⟩ := og h
          refine raN X Y hg8 dX0_debtIf_58 ?_
          refine lv_iload hx hb dX0_debtIf_59 (lv_at hl 5 rfl) ?_
          obtain ⟨hg9, h⟩ := og h
          refine ri X Y (lkN g ad σ (clt hg8)) hg9 dX0_debtIf_61 ?_
          refine lv_iadd hx hb dX0_debtIf_62 ?_
          refine lv_istore (lv' := [(4, .int (v4 + (σ (13 + v1.toNatClampNeg) v5.toNatClampNeg))), (0, .ref (ad 10)), (1, .int v1), (2, .int v2), (3, .int v3), (5, .int v5)]) hx hb dX0_debtIf_63 hl (by decide) rfl (fun ls hl => ?_)
          refine lv_iinc (v := v5 + 1) (lv' := [(5, .int (v5 + 1)), (4, .int (v4 + (σ (13 + v1.toNatClampNeg) v5.toNatClampNeg))), (0, .ref (ad 10)), (1, .int v1), (2, .int v2), (3, .int v3)]) hx hb dX0_debtIf_65 hl (k := 5) rfl rfl (by decide) rfl (fun ls hl => ?_)
          refine lv_goto (tgt := 6) hx hb dX0_debtIf_68 (by decide) ?_
          exact ih σ v1 v2 v3 (v4 + (σ (13 + v1.toNatClampNeg) v5.toNatClampNeg)) (v5 + 1) _ _ _ Y (lv_sub hl [2, 3, 4, 5, 1, 0] rfl) h
        · replace h := ot c7 h
          refine lv_aload_n hx hb dX0_debtIf_36 rfl (lv_at hl 0 rfl) ?_
          refine rgR X Y 2 (v := .int (σ 10 2)) tw_62 rfl dX0_debtIf_37 ?_
          refine lv_aload_n hx hb dX0_debtIf_40 rfl (lv_at hl 0 rfl) ?_
          refine rgR X Y 5 (v := .ref (ad 12)) tw_67 rfl dX0_debtIf_41 ?_
          refine lv_iload_n hx hb dX0_debtIf_44 rfl (lv_at hl 1 rfl) ?_
          obtain ⟨hg10, h⟩ := og h
          refine raN X Y hg10 dX0_debtIf_45 ?_
          refine lv_iload hx hb dX0_debtIf_46 (lv_at hl 5 rfl) ?_
          obtain ⟨hg11, h⟩ := og h
          refine ri X Y (lkN g ad σ (clt hg10)) hg11 dX0_debtIf_48 ?_
          refine lv_imul hx hb dX0_debtIf_49 ?_
          refine lv_goto (tgt := 62) hx hb dX0_debtIf_50 (by decide) ?_
          refine lv_iadd hx hb dX0_debtIf_62 ?_
          refine lv_istore (lv' := [(4, .int (v4 + ((σ 10 2) * (σ (13 + v1.toNatClampNeg) v5.toNatClampNeg)))), (0, .ref (ad 10)), (1, .int v1), (2, .int v2), (3, .int v3), (5, .int v5)]) hx hb dX0_debtIf_63 hl (by decide) rfl (fun ls hl => ?_)
          refine lv_iinc (v := v5 + 1) (lv' := [(5, .int (v5 + 1)), (4, .int (v4 + ((σ 10 2) * (σ (13 + v1.toNatClampNeg) v5.toNatClampNeg)))), (0, .ref (ad 10)), (1, .int v1), (2, .int v2), (3, .int v3)]) hx hb dX0_debtIf_65 hl (k := 5) rfl rfl (by decide) rfl (fun ls hl => ?_)
          refine lv_goto (tgt := 6) hx hb dX0_debtIf_68 (by decide) ?_
          exact ih σ v1 v2 v3 (v4 + ((σ 10 2) * (σ (13 + v1.toNatClampNeg) v5.toNatClampNeg))) (v5 + 1) _ _ _ Y (lv_sub hl [2, 3, 4, 5, 1, 0] rfl) h
set_option maxHeartbeats 4000000 in
set_option maxRecDepth 100000 in
theorem c_fX0_debtIf (l : Launch) (D : va_G) (g : Nat → ClassId) (ad : Nat → Nat) (σ : St) (n : Nat) (v1 : Int32) (v2 : Int32) (v3 : Int32) {r0 : Int32} (h : fX0_debtIf n σ v1 v2 v3 = some r0) : MI l yX0_debtIf kX0_debtIf 0 0 D g (WC g ad σ) (WC g ad σ) [.ref (ad 10), .int v1, .int v2, .int v3] r0 := by
  intro sz
  refine Met.of2 (Qc := fun A => QI D g A (WC g ad σ) r0) (cc := cX0_debtIf) (maxL := 6) (ret := (some .int)) (own := RX0) (by decide) rfl rfl (Nat.le_of_ble_eq_true rfl) ?_
  intro p e s m below meth c A ls X hr hlk hml Y hl
  have hx := X.1
  have hb := X.2.1
  have hl : lv_has ls 6 [(0, .ref (ad 10)), (1, .int v1), (2, .int v2), (3, .int v3)] := hl
  rw [fX0_debtIf] at h
  refine lv_iconst (v := 0) hx hb dX0_debtIf_0 (by decide) ?_
  refine lv_istore (lv' := [(4, .int 0), (0, .ref (ad 10)), (1, .int v1), (2, .int v2), (3, .int v3)]) hx hb dX0_debtIf_1 hl (by decide) rfl (fun ls hl => ?_)
  refine lv_iconst (v := 0) hx hb dX0_debtIf_3 (by decide) ?_
  refine lv_istore (lv' := [(5, .int 0), (4, .int 0), (0, .ref (ad 10)), (1, .int v1), (2, .int v2), (3, .int v3)]) hx hb dX0_debtIf_4 hl (by decide) rfl (fun ls hl => ?_)
  exact w_fX0_debtIf_L6 X hr hlk hml n σ v1 v2 v3 0 0 _ _ _ Y (lv_sub hl [2, 3, 4, 5, 1, 0] rfl) h
set_option maxHeartbeats 4000000 in
set_option maxRecDepth 100000 in
theorem w_fX0_pullersIf_L16 {p : Program} {l : Launch} {e : Env} {s : State} {m : MethodId} {args : Array Value} {below : List Frame} {meth : Method} {c : Code} {D : va_G} {g : Nat → ClassId} {ad : Nat → Nat} {A : Nat → Prop} {r0 : Int32} (X : Cx p s m c args cX0_pullersIf RX0 kX0_pullersIf D g) (hr : meth.sig.returnType = (some .int)) (hlk : meth.locks = false) (hml : c.maxLocals = 9) : ∀ (n : Nat), ∀ (σ : St) (v1 : Int32) (v2 : Int32) (v4 : Int32) (v5 : Int32) (v6 : Int32) (v7 : Int32) (H : Heap) (locs : List Loc) (ls : Array Slot), Hp D A s.heap H locs (WC g ad σ) → lv_has ls 9 [(0, .ref (ad 10)), (1, .int v1), (2, .int v2), (4, .int v4), (5, .int v5), (6, .int v6), (7, .int v7)] → fX0_pullersIf_L16 n σ v1 v2 v4 v5 v6 v7 = some r0 → W p l e (RM 1 25) s m args below meth c H locs 0 0 (MQ below (QI D g A (WC g ad σ) r0) args s 0 0 A) (F0 m 16 ls []) := by
  have hx := X.1
  have hb := X.2.1
  intro n
  induction n with
  | zero => intro σ v1 v2 v4 v5 v6 v7 H locs ls Y hl h; cases (show none = _ from h)
  | succ n ih =>
    intro σ v1 v2 v4 v5 v6 v7 H locs ls Y hl h
    rw [fX0_pullersIf_L16] at h
    refine lv_iload hx hb dX0_pullersIf_16 (lv_at hl 6 rfl) ?_
    refine lv_aload_n hx hb dX0_pullersIf_18 rfl (lv_at hl 0 rfl) ?_
    refine rgR X Y 0 (v := .int (σ 10 0)) tw_57 rfl dX0_pullersIf_19 ?_
    refine lv_icmp_ge (tgt := 97) hx hb dX0_pullersIf_22 (by decide) (fun c1 => ?_) (fun c1 => ?_)
    · replace h := ot c1 h
      refine lv_iload hx hb dX0_pullersIf_97 (lv_at hl 4 rfl) ?_
      obtain rfl := os1 h
      exact retI X Y hr hlk dX0_pullersIf_99
    · replace h := oe c1 h
      refine lv_iload hx hb dX0_pullersIf_25 (lv_at hl 5 rfl) ?_
      refine lv_iload hx hb dX0_pullersIf_27 (lv_at hl 6 rfl) ?_
      refine lv_ishr hx hb dX0_pullersIf_29 ?_
      refine lv_iconst (v := 1) hx hb dX0_pullersIf_30 (by decide) ?_
      refine lv_iand hx hb dX0_pullersIf_31 ?_
      refine lv_iconst (v := 1) hx hb dX0_pullersIf_32 (by decide) ?_
      refine lv_icmp_ne (tgt := 47) hx hb dX0_pullersIf_33 (by decide) (fun c2 => ?_) (fun c2 => ?_)
      · replace h := oe c2 h
        refine lv_iconst (v := 0) hx hb dX0_pullersIf_47 (by decide) ?_
        refine lv_istore (lv' := [(8, .int 0), (0, .ref (ad 10)), (1, .int v1), (2, .int v2), (4, .int v4), (5, .int v5), (6, .int v6), (7, .int v7)]) hx hb dX0_pullersIf_48 hl (by decide) rfl (fun ls hl => ?_)
        refine lv_iload hx hb dX0_pullersIf_50 (lv_at hl 0 rfl) ?_
        refine lv_iload hx hb dX0_pullersIf_52 (lv_at hl 4 rfl) ?_
        refine lv_icmp_le (tgt := 70) hx hb dX0_pullersIf_54 (by decide) (fun c3 => ?_) (fun c3 => ?_)
        · replace h := ot c3 h
          refine lv_iload hx hb dX0_pullersIf_70 (lv_at hl 0 rfl) ?_
          refine lv_if_le (tgt := 91) hx hb dX0_pullersIf_72 (by decide) (fun _ => ?_) (fun c9 => absurd c9 (by decide))
          refine lv_iinc (v := v7 + 1) (lv' := [(7, .int (v7 + 1)), (8, .int 0), (0, .ref (ad 10)), (1, .int v1), (2, .int v2), (4, .int v4), (5, .int v5), (6, .int v6)]) hx hb dX0_pullersIf_91 hl (k := 7) rfl rfl (by decide) rfl (fun ls hl => ?_)
          refine lv_goto (tgt := 16) hx hb dX0_pullersIf_94 (by decide) ?_
          exact ih σ v1 v2 v4 v5 v6 (v7 + 1) _ _ _ Y (lv_sub hl [2, 3, 4, 5, 6, 7, 0] rfl) h
        · replace h := oe c3 h
          refine lv_iload hx hb dX0_pullersIf_57 (lv_at hl 0 rfl) ?_
          refine lv_istore (lv' := [(4, .int 0), (8, .int 0), (0, .ref (ad 10)), (1, .int v1), (2, .int v2), (5, .int v5), (6, .int v6), (7, .int v7)]) hx hb dX0_pullersIf_59 hl (by decide) rfl (fun ls hl => ?_)
          refine lv_iconst (v := 1) hx hb dX0_pullersIf_61 (by decide) ?_
          refine lv_iload hx hb dX0_pullersIf_62 (lv_at hl 7 rfl) ?_
          refine lv_ishl hx hb dX0_pullersIf_64 ?_
          refine lv_istore (lv' := [(5, .int ((1 : Int32) <<< (v7 &&& 31))), (4, .int 0), (8, .int 0), (0, .ref (ad 10)), (1, .int v1), (2, .int v2), (6, .int v6), (7, .int v7)]) hx hb dX0_pullersIf_65 hl (by decide) rfl (fun ls hl => ?_)
          refine lv_goto (tgt := 91) hx hb dX0_pullersIf_67 (by decide) ?_
          refine lv_iinc (v := v7 + 1) (lv' := [(7, .int (v7 + 1)), (5, .int ((1 : Int32) <<< (v7 &&& 31))), (4, .int 0), (8, .int 0), (0, .ref (ad 10)), (1, .int v1), (2, .int v2), (6, .int v6)]) hx hb dX0_pullersIf_91 hl (k := 7) rfl rfl (by decide) rfl (fun ls hl => ?_)
          refine lv_goto (tgt := 16) hx hb dX0_pullersIf_94 (by decide) ?_
          exact ih σ v1 v2 0 ((1 : Int32) <<< (v7 &&& 31)) v6 (v7 + 1) _ _ _ Y (lv_sub hl [4, 5, 6, 2, 1, 7, 0] rfl) h
      · replace h := ot c2 h
        refine lv_aload_n hx hb dX0_pullersIf_36 rfl (lv_at hl 0 rfl) ?_
        refine lv_iload hx hb dX0_pullersIf_37 (lv_at hl 6 rfl) ?_
        refine lv_iload_n hx hb dX0_pullersIf_39 rfl (lv_at hl 1 rfl) ?_
        refine lv_iload_n hx hb dX0_pullersIf_40 rfl (lv_at hl 2 rfl) ?_
        obtain ⟨r5, hg4, h⟩ := ob h
        refine cVi X (hml.trans hl.1.symm) Y (c_fX0_debtIf l D g ad σ n v7 v1 v2 hg4) (lkR g ad σ) rfl (gs_X0_72 _) rfl fd_X0_debtIf ⟨Nat.le_of_ble_eq_true rfl, Nat.le_of_ble_eq_true rfl⟩ ⟨Nat.le_of_ble_eq_true rfl, Nat.le_of_ble_eq_true rfl⟩ (rest := []) rfl (Nat.le_of_ble_eq_true rfl) dX0_pullersIf_41 (fun H locs Y => ?_)
        refine lv_goto (tgt := 48) hx hb dX0_pullersIf_44 (by decide) ?_
        refine lv_istore (lv' := [(8, .int r5), (0, .ref (ad 10)), (1, .int v1), (2, .int v2), (4, .int v4), (5, .int v5), (6, .int v6), (7, .int v7)]) hx hb dX0_pullersIf_48 hl (by decide) rfl (fun ls hl => ?_)
        refine lv_iload hx hb dX0_pullersIf_50 (lv_at hl 0 rfl) ?_
        refine lv_iload hx hb dX0_pullersIf_52 (lv_at hl 4 rfl) ?_
        refine lv_icmp_le (tgt := 70) hx hb dX0_pullersIf_54 (by decide) (fun c6 => ?_) (fun c6 => ?_)
        · replace h := ot c6 h
          refine lv_iload hx hb dX0_pullersIf_70 (lv_at hl 0 rfl) ?_
          refine lv_if_le (tgt := 91) hx hb dX0_pullersIf_72 (by decide) (fun c7 => ?_) (fun c7 => ?_)
          · replace h := ot c7 h
            refine lv_iinc (v := v7 + 1) (lv' := [(7, .int (v7 + 1)), (8, .int r5), (0, .ref (ad 10)), (1, .int v1), (2, .int v2), (4, .int v4), (5, .int v5), (6, .int v6)]) hx hb dX0_pullersIf_91 hl (k := 7) rfl rfl (by decide) rfl (fun ls hl => ?_)
            refine lv_goto (tgt := 16) hx hb dX0_pullersIf_94 (by decide) ?_
            exact ih σ v1 v2 v4 v5 v6 (v7 + 1) _ _ _ Y (lv_sub hl [2, 3, 4, 5, 6, 7, 0] rfl) h
          · replace h := oe c7 h
            refine lv_iload hx hb dX0_pullersIf_75 (lv_at hl 0 rfl) ?_
            refine lv_iload hx hb dX0_pullersIf_77 (lv_at hl 4 rfl) ?_
            refine lv_icmp_ne (tgt := 91) hx hb dX0_pullersIf_79 (by decide) (fun c8 => ?_) (fun c8 => ?_)
            · replace h := oe c8 h
              refine lv_iinc (v := v7 + 1) (lv' := [(7, .int (v7 + 1)), (8, .int r5), (0, .ref (ad 10)), (1, .int v1), (2, .int v2), (4, .int v4), (5, .int v5), (6, .int v6)]) hx hb dX0_pullersIf_91 hl (k := 7) rfl rfl (by decide) rfl (fun ls hl => ?_)
              refine lv_goto (tgt := 16) hx hb dX0_pullersIf_94 (by decide) ?_
              exact ih σ v1 v2 v4 v5 v6 (v7 + 1) _ _ _ Y (lv_sub hl [2, 3, 4, 5, 6, 7, 0] rfl) h
            · replace h := ot c8 h
              refine lv_iload hx hb dX0_pullersIf_82 (lv_at hl 5 rfl) ?_
              refine lv_iconst (v := 1) hx hb dX0_pullersIf_84 (by decide) ?_
              refine lv_iload hx hb dX0_pullersIf_85 (lv_at hl 7 rfl) ?_
              refine lv_ishl hx hb dX0_pullersIf_87 ?_
              refine lv_ior hx hb dX0_pullersIf_88 ?_
              refine lv_istore (lv' := [(5, .int (v5 ||| ((1 : Int32) <<< (v7 &&& 31)))), (8, .int r5), (0, .ref (ad 10)), (1, .int v1), (2, .int v2), (4, .int v4), (6, .int v6), (7, .int v7)]) hx hb dX0_pullersIf_89 hl (by decide) rfl (fun ls hl => ?_)
              refine lv_iinc (v := v7 + 1) (lv' := [(7, .int (v7 + 1)), (5, .int (v5 ||| ((1 : Int32) <<< (v7 &&& 31)))), (8, .int r5), (0, .ref (ad 10)), (1, .int v1), (2, .int v2), (4, .int v4), (6, .int v6)]) hx hb dX0_pullersIf_91 hl (k := 7) rfl rfl (by decide) rfl (fun ls hl => ?_)
              refine lv_goto (tgt := 16) hx hb dX0_pullersIf_94 (by decide) ?_
              exact ih σ v1 v2 v4 (v5 ||| ((1 : Int32) <<< (v7 &&& 31))) v6 (v7 + 1) _ _ _ Y (lv_sub hl [3, 4, 5, 6, 1, 7, 0] rfl) h
        · replace h := oe c6 h
          refine lv_iload hx hb dX0_pullersIf_57 (lv_at hl 0 rfl) ?_
          refine lv_istore (lv' := [(4, .int r5), (8, .int r5), (0, .ref (ad 10)), (1, .int v1), (2, .int v2), (5, .int v5), (6, .int v6), (7, .int v7)]) hx hb dX0_pullersIf_59 hl (by decide) rfl (fun ls hl => ?_)
          refine lv_iconst (v := 1) hx hb dX0_pullersIf_61 (by decide) ?_
          refine lv_iload hx hb dX0_pullersIf_62 (lv_at hl 7 rfl) ?_
          refine lv_ishl hx hb dX0_pullersIf_64 ?_
          refine lv_istore (lv' := [(5, .int ((1 : Int32) <<< (v7 &&& 31))), (4, .int r5), (8, .int r5), (0, .ref (ad 10)), (1, .int v1), (2, .int v2), (6, .int v6), (7, .int v7)]) hx hb dX0_pullersIf_65 hl (by decide) rfl (fun ls hl => ?_)
          refine lv_goto (tgt := 91) hx hb dX0_pullersIf_67 (by decide) ?_
          refine lv_iinc (v := v7 + 1) (lv' := [(7, .int (v7 + 1)), (5, .int ((1 : Int32) <<< (v7 &&& 31))), (4, .int r5), (8, .int r5), (0, .ref (ad 10)), (1, .int v1), (2, .int v2), (6, .int v6)]) hx hb dX0_pullersIf_91 hl (k := 7) rfl rfl (by decide) rfl (fun ls hl => ?_)
          refine lv_goto (tgt := 16) hx hb dX0_pullersIf_94 (by decide) ?_
          exact ih σ v1 v2 r5 ((1 : Int32) <<< (v7 &&& 31)) v6 (v7 + 1) _ _ _ Y (lv_sub hl [4, 5, 6, 2, 1, 7, 0] rfl) h
set_option maxHeartbeats 4000000 in
set_option maxRecDepth 100000 in
theorem c_fX0_pullersIf (l : Launch) (D : va_G) (g : Nat → ClassId) (ad : Nat → Nat) (σ : St) (n : Nat) (v1 : Int32) (v2 : Int32) (v3 : Int32) {r0 : Int32} (h : fX0_pullersIf n σ v1 v2 v3 = some r0) : MI l yX0_pullersIf kX0_pullersIf 1 25 D g (WC g ad σ) (WC g ad σ) [.ref (ad 10), .int v1, .int v2, .int v3] r0 := by
  intro sz
  refine Met.of2 (Qc := fun A => QI D g A (WC g ad σ) r0) (cc := cX0_pullersIf) (maxL := 9) (ret := (some .int)) (own := RX0) (by decide) rfl rfl (Nat.le_of_ble_eq_true rfl) ?_
  intro p e s m below meth c A ls X hr hlk hml Y hl
  have hx := X.1
  have hb := X.2.1
  have hl : lv_has ls 9 [(0, .ref (ad 10)), (1, .int v1), (2, .int v2), (3, .int v3)] := hl
  rw [fX0_pullersIf] at h
  refine lv_iconst (v := 0) hx hb dX0_pullersIf_0 (by decide) ?_
  refine lv_istore (lv' := [(4, .int 0), (0, .ref (ad 10)), (1, .int v1), (2, .int v2), (3, .int v3)]) hx hb dX0_pullersIf_1 hl (by decide) rfl (fun ls hl => ?_)
  refine lv_iconst (v := 0) hx hb dX0_pullersIf_3 (by decide) ?_
  refine lv_istore (lv' := [(5, .int 0), (4, .int 0), (0, .ref (ad 10)), (1, .int v1), (2, .int v2), (3, .int v3)]) hx hb dX0_pullersIf_4 hl (by decide) rfl (fun ls hl => ?_)
  refine lv_iload_n hx hb dX0_pullersIf_6 rfl (lv_at hl 3 rfl) ?_
  refine lv_iload_n hx hb dX0_pullersIf_7 rfl (lv_at hl 5 rfl) ?_
  refine lv_iconst (v := (-1)) hx hb dX0_pullersIf_8 (by decide) ?_
  refine lv_ixor hx hb dX0_pullersIf_9 ?_
  refine lv_iand hx hb dX0_pullersIf_10 ?_
  refine lv_istore (lv' := [(6, .int (v1 &&& (v3 ^^^ (-1)))), (5, .int 0), (4, .int 0), (0, .ref (ad 10)), (1, .int v1), (2, .int v2), (3, .int v3)]) hx hb dX0_pullersIf_11 hl (by decide) rfl (fun ls hl => ?_)
  refine lv_iconst (v := 0) hx hb dX0_pullersIf_13 (by decide) ?_
  refine lv_istore (lv' := [(7, .int 0), (6, .int (v1 &&& (v3 ^^^ (-1)))), (5, .int 0), (4, .int 0), (0, .ref (ad 10)), (1, .int v1), (2, .int v2), (3, .int v3)]) hx hb dX0_pullersIf_14 hl (by decide) rfl (fun ls hl => ?_)
  exact w_fX0_pullersIf_L16 X hr hlk hml n σ v1 v2 0 0 (v1 &&& (v3 ^^^ (-1))) 0 _ _ _ Y (lv_sub hl [4, 5, 6, 3, 2, 1, 0] rfl) h
set_option maxHeartbeats 4000000 in
set_option maxRecDepth 100000 in
theorem c_fX0_pullersOf (l : Launch) (D : va_G) (g : Nat → ClassId) (ad : Nat → Nat) (σ : St) (n : Nat) (v1 : Int32) {r0 : Int32} (h : fX0_pullersOf n σ v1 = some r0) : MI l yX0_pullersOf kX0_pullersOf 2 53 D g (WC g ad σ) (WC g ad σ) [.ref (ad 10), .int v1] r0 := by
  intro sz
  refine Met.of2 (Qc := fun A => QI D g A (WC g ad σ) r0) (cc := cX0_pullersOf) (maxL := 2) (ret := (some .int)) (own := RX0) (by decide) rfl rfl (Nat.le_of_ble_eq_true rfl) ?_
  intro p e s m below meth c A ls X hr hlk hml Y hl
  have hx := X.1
  have hb := X.2.1
  have hl : lv_has ls 2 [(0, .ref (ad 10)), (1, .int v1)] := hl
  rw [fX0_pullersOf] at h
  refine lv_aload_n hx hb dX0_pullersOf_0 rfl (lv_at hl 0 rfl) ?_
  refine lv_iload_n hx hb dX0_pullersOf_1 rfl (lv_at hl 1 rfl) ?_
  refine lv_iconst (v := 0) hx hb dX0_pullersOf_2 (by decide) ?_
  refine lv_iconst (v := 0) hx hb dX0_pullersOf_3 (by decide) ?_
  obtain ⟨r2, hg1, h⟩ := ob h
  refine cVi X (hml.trans hl.1.symm) Y (c_fX0_pullersIf l D g ad σ n v1 0 0 hg1) (lkR g ad σ) rfl (gs_X0_68 _) rfl fd_X0_pullersIf ⟨Nat.le_of_ble_eq_true rfl, Nat.le_of_ble_eq_true rfl⟩ ⟨Nat.le_of_ble_eq_true rfl, Nat.le_of_ble_eq_true rfl⟩ (rest := []) rfl (Nat.le_of_ble_eq_true rfl) dX0_pullersOf_4 (fun H locs Y => ?_)
  obtain rfl := os1 h
  exact retI X Y hr hlk dX0_pullersOf_7
set_option maxHeartbeats 4000000 in
set_option maxRecDepth 100000 in
theorem c_fJ6_bitCount (l : Launch) (D : va_G) (g : Nat → ClassId) (W0 : va_W) (v0 : Int32) {r0 : Int32} (h : fJ6_bitCount v0 = some r0) : MI l yJ6_bitCount_0f7a4 kJ6_bitCount_0f7a4 0 0 D g (W0) (W0) [.int v0] r0 := by
  intro sz
  refine Met.of2 (Qc := fun A => QI D g A (W0) r0) (cc := cJ6_bitCount_0f7a4) (maxL := 1) (ret := (some .int)) (own := RJ6) (by decide) rfl rfl (Nat.le_of_ble_eq_true rfl) ?_
  intro p e s m below meth c A ls X hr hlk hml Y hl
  have hx := X.1
  have hb := X.2.1
  have hl : lv_has ls 1 [(0, .int v0)] := hl
  rw [fJ6_bitCount] at h
  refine lv_iload_n hx hb dJ6_bitCount_0f7a4_0 rfl (lv_at hl 0 rfl) ?_
  refine lv_iload_n hx hb dJ6_bitCount_0f7a4_1 rfl (lv_at hl 0 rfl) ?_
  refine lv_iconst (v := 1) hx hb dJ6_bitCount_0f7a4_2 (by decide) ?_
  refine lv_iushr (v := (v0.toUInt32 >>> ((1 : Int32).toUInt32 &&& Int32.toUInt32 31)).toInt32) hx hb dJ6_bitCount_0f7a4_3 rfl ?_
  refine lv_ldcw (v := 1431655765) hx hb X.2.2.1 (X.tb tw_268) dJ6_bitCount_0f7a4_4 ?_
  refine lv_iand hx hb dJ6_bitCount_0f7a4_7 ?_
  refine lv_isub hx hb dJ6_bitCount_0f7a4_8 ?_
  refine lv_istore_n (lv' := [(0, .int (v0 - (((v0.toUInt32 >>> ((1 : Int32).toUInt32 &&& Int32.toUInt32 31)).toInt32) &&& 1431655765)))]) hx hb dJ6_bitCount_0f7a4_9 rfl hl (by decide) rfl (fun ls hl => ?_)
  refine lv_iload_n hx hb dJ6_bitCount_0f7a4_10 rfl (lv_at hl 0 rfl) ?_
  refine lv_ldcw (v := 858993459) hx hb X.2.2.1 (X.tb tw_269) dJ6_bitCount_0f7a4_11 ?_
  refine lv_iand hx hb dJ6_bitCount_0f7a4_14 ?_
  refine lv_iload_n hx hb dJ6_bitCount_0f7a4_15 rfl (lv_at hl 0 rfl) ?_
  refine lv_iconst (v := 2) hx hb dJ6_bitCount_0f7a4_16 (by decide) ?_
  refine lv_iushr (v := ((v0 - (((v0.toUInt32 >>> ((1 : Int32).toUInt32 &&& Int32.toUInt32 31)).toInt32) &&& 1431655765)).toUInt32 >>> ((2 : Int32).toUInt32 &&& Int32.toUInt32 31)).toInt32) hx hb dJ6_bitCount_0f7a4_17 rfl ?_
  refine lv_ldcw (v := 858993459) hx hb X.2.2.1 (X.tb tw_269) dJ6_bitCount_0f7a4_18 ?_
  refine lv_iand hx hb dJ6_bitCount_0f7a4_21 ?_
  refine lv_iadd hx hb dJ6_bitCount_0f7a4_22 ?_
  refine lv_istore_n (lv' := [(0, .int (((v0 - (((v0.toUInt32 >>> ((1 : Int32).toUInt32 &&& Int32.toUInt32 31)).toInt32) &&& 1431655765)) &&& 858993459) + ((((v0 - (((v0.toUInt32 >>> ((1 : Int32).toUInt32 &&& Int32.toUInt32 31)).toInt32) &&& 1431655765)).toUInt32 >>> ((2 : Int32).toUInt32 &&& Int32.toUInt32 31)).toInt32) &&& 858993459)))]) hx hb dJ6_bitCount_0f7a4_23 rfl hl (by decide) rfl (fun ls hl => ?_)
  refine lv_iload_n hx hb dJ6_bitCount_0f7a4_24 rfl (lv_at hl 0 rfl) ?_
  refine lv_iload_n hx hb dJ6_bitCount_0f7a4_25 rfl (lv_at hl 0 rfl) ?_
  refine lv_iconst (v := 4) hx hb dJ6_bitCount_0f7a4_26 (by decide) ?_
  refine lv_iushr (v := ((((v0 - (((v0.toUInt32 >>> ((1 : Int32).toUInt32 &&& Int32.toUInt32 31)).toInt32) &&& 1431655765)) &&& 858993459) + ((((v0 - (((v0.toUInt32 >>> ((1 : Int32).toUInt32 &&& Int32.toUInt32 31)).toInt32) &&& 1431655765)).toUInt32 >>> ((2 : Int32).toUInt32 &&& Int32.toUInt32 31)).toInt32) &&& 858993459)).toUInt32 >>> ((4 : Int32).toUInt32 &&& Int32.toUInt32 31)).toInt32) hx hb dJ6_bitCount_0f7a4_27 rfl ?_
  refine lv_iadd hx hb dJ6_bitCount_0f7a4_28 ?_
  refine lv_ldcw (v := 252645135) hx hb X.2.2.1 (X.tb tw_270) dJ6_bitCount_0f7a4_29 ?_
  refine lv_iand hx hb dJ6_bitCount_0f7a4_32 ?_
  refine lv_istore_n (lv' := [(0, .int (((((v0 - (((v0.toUInt32 >>> ((1 : Int32).toUInt32 &&& Int32.toUInt32 31)).toInt32) &&& 1431655765)) &&& 858993459) + ((((v0 - (((v0.toUInt32 >>> ((1 : Int32).toUInt32 &&& Int32.toUInt32 31)).toInt32) &&& 1431655765)).toUInt32 >>> ((2 : Int32).toUInt32 &&& Int32.toUInt32 31)).toInt32) &&& 858993459)) + (((((v0 - (((v0.toUInt32 >>> ((1 : Int32).toUInt32 &&& Int32.toUInt32 31)).toInt32) &&& 1431655765)) &&& 858993459) + ((((v0 - (((v0.toUInt32 >>> ((1 : Int32).toUInt32 &&& Int32.toUInt32 31)).toInt32) &&& 1431655765)).toUInt32 >>> ((2 : Int32).toUInt32 &&& Int32.toUInt32 31)).toInt32) &&& 858993459)).toUInt32 >>> ((4 : Int32).toUInt32 &&& Int32.toUInt32 31)).toInt32)) &&& 252645135))]) hx hb dJ6_bitCount_0f7a4_33 rfl hl (by decide) rfl (fun ls hl => ?_)
  refine lv_iload_n hx hb dJ6_bitCount_0f7a4_34 rfl (lv_at hl 0 rfl) ?_
  refine lv_iload_n hx hb dJ6_bitCount_0f7a4_35 rfl (lv_at hl 0 rfl) ?_
  refine lv_bipush (v := 8) hx hb dJ6_bitCount_0f7a4_36 (by decide) ?_
  refine lv_iushr (v := ((((((v0 - (((v0.toUInt32 >>> ((1 : Int32).toUInt32 &&& Int32.toUInt32 31)).toInt32) &&& 1431655765)) &&& 858993459) + ((((v0 - (((v0.toUInt32 >>> ((1 : Int32).toUInt32 &&& Int32.toUInt32 31)).toInt32) &&& 1431655765)).toUInt32 >>> ((2 : Int32).toUInt32 &&& Int32.toUInt32 31)).toInt32) &&& 858993459)) + (((((v0 - (((v0.toUInt32 >>> ((1 : Int32).toUInt32 &&& Int32.toUInt32 31)).toInt32) &&& 1431655765)) &&& 858993459) + ((((v0 - (((v0.toUInt32 >>> ((1 : Int32).toUInt32 &&& Int32.toUInt32 31)).toInt32) &&& 1431655765)).toUInt32 >>> ((2 : Int32).toUInt32 &&& Int32.toUInt32 31)).toInt32) &&& 858993459)).toUInt32 >>> ((4 : Int32).toUInt32 &&& Int32.toUInt32 31)).toInt32)) &&& 252645135).toUInt32 >>> ((8 : Int32).toUInt32 &&& Int32.toUInt32 31)).toInt32) hx hb dJ6_bitCount_0f7a4_38 rfl ?_
  refine lv_iadd hx hb dJ6_bitCount_0f7a4_39 ?_
  refine lv_istore_n (lv' := [(0, .int ((((((v0 - (((v0.toUInt32 >>> ((1 : Int32).toUInt32 &&& Int32.toUInt32 31)).toInt32) &&& 1431655765)) &&& 858993459) + ((((v0 - (((v0.toUInt32 >>> ((1 : Int32).toUInt32 &&& Int32.toUInt32 31)).toInt32) &&& 1431655765)).toUInt32 >>> ((2 : Int32).toUInt32 &&& Int32.toUInt32 31)).toInt32) &&& 858993459)) + (((((v0 - (((v0.toUInt32 >>> ((1 : Int32).toUInt32 &&& Int32.toUInt32 31)).toInt32) &&& 1431655765)) &&& 858993459) + ((((v0 - (((v0.toUInt32 >>> ((1 : Int32).toUInt32 &&& Int32.toUInt32 31)).toInt32) &&& 1431655765)).toUInt32 >>> ((2 : Int32).toUInt32 &&& Int32.toUInt32 31)).toInt32) &&& 858993459)).toUInt32 >>> ((4 : Int32).toUInt32 &&& Int32.toUInt32 31)).toInt32)) &&& 252645135) + (((((((v0 - (((v0.toUInt32 >>> ((1 : Int32).toUInt32 &&& Int32.toUInt32 31)).toInt32) &&& 1431655765)) &&& 858993459) + ((((v0 - (((v0.toUInt32 >>> ((1 : Int32).toUInt32 &&& Int32.toUInt32 31)).toInt32) &&& 1431655765)).toUInt32 >>> ((2 : Int32).toUInt32 &&& Int32.toUInt32 31)).toInt32) &&& 858993459)) + (((((v0 - (((v0.toUInt32 >>> ((1 : Int32).toUInt32 &&& Int32.toUInt32 31)).toInt32) &&& 1431655765)) &&& 858993459) + ((((v0 - (((v0.toUInt32 >>> ((1 : Int32).toUInt32 &&& Int32.toUInt32 31)).toInt32) &&& 1431655765)).toUInt32 >>> ((2 : Int32).toUInt32 &&& Int32.toUInt32 31)).toInt32) &&& 858993459)).toUInt32 >>> ((4 : Int32).toUInt32 &&& Int32.toUInt32 31)).toInt32)) &&& 252645135).toUInt32 >>> ((8 : Int32).toUInt32 &&& Int32.toUInt32 31)).toInt32)))]) hx hb dJ6_bitCount_0f7a4_40 rfl hl (by decide) rfl (fun ls hl => ?_)
  refine lv_iload_n hx hb dJ6_bitCount_0f7a4_41 rfl (lv_at hl 0 rfl) ?_
  refine lv_iload_n hx hb dJ6_bitCount_0f7a4_42 rfl (lv_at hl 0 rfl) ?_
  refine lv_bipush (v := 16) hx hb dJ6_bitCount_0f7a4_43 (by decide) ?_
  refine lv_iushr (v := (((((((v0 - (((v0.toUInt32 >>> ((1 : Int32).toUInt32 &&& Int32.toUInt32 31)).toInt32) &&& 1431655765)) &&& 858993459) + ((((v0 - (((v0.toUInt32 >>> ((1 : Int32).toUInt32 &&& Int32.toUInt32 31)).toInt32) &&& 1431655765)).toUInt32 >>> ((2 : Int32).toUInt32 &&& Int32.toUInt32 31)).toInt32) &&& 858993459)) + (((((v0 - (((v0.toUInt32 >>> ((1 : Int32).toUInt32 &&& Int32.toUInt32 31)).toInt32) &&& 1431655765)) &&& 858993459) + ((((v0 - (((v0.toUInt32 >>> ((1 : Int32).toUInt32 &&& Int32.toUInt32 31)).toInt32) &&& 1431655765)).toUInt32 >>> ((2 : Int32).toUInt32 &&& Int32.toUInt32 31)).toInt32) &&& 858993459)).toUInt32 >>> ((4 : Int32).toUInt32 &&& Int32.toUInt32 31)).toInt32)) &&& 252645135) + (((((((v0 - (((v0.toUInt32 >>> ((1 : Int32).toUInt32 &&& Int32.toUInt32 31)).toInt32) &&& 1431655765)) &&& 858993459) + ((((v0 - (((v0.toUInt32 >>> ((1 : Int32).toUInt32 &&& Int32.toUInt32 31)).toInt32) &&& 1431655765)).toUInt32 >>> ((2 : Int32).toUInt32 &&& Int32.toUInt32 31)).toInt32) &&& 858993459)) + (((((v0 - (((v0.toUInt32 >>> ((1 : Int32).toUInt32 &&& Int32.toUInt32 31)).toInt32) &&& 1431655765)) &&& 858993459) + ((((v0 - (((v0.toUInt32 >>> ((1 : Int32).toUInt32 &&& Int32.toUInt32 31)).toInt32) &&& 1431655765)).toUInt32 >>> ((2 : Int32).toUInt32 &&& Int32.toUInt32 31)).toInt32) &&& 858993459)).toUInt32 >>> ((4 : Int32).toUInt32 &&& Int32.toUInt32 31)).toInt32)) &&& 252645135).toUInt32 >>> ((8 : Int32).toUInt32 &&& Int32.toUInt32 31)).toInt32)).toUInt32 >>> ((16 : Int32).toUInt32 &&& Int32.toUInt32 31)).toInt32) hx hb dJ6_bitCount_0f7a4_45 rfl ?_
  refine lv_iadd hx hb dJ6_bitCount_0f7a4_46 ?_
  refine lv_istore_n (lv' := [(0, .int (((((((v0 - (((v0.toUInt32 >>> ((1 : Int32).toUInt32 &&& Int32.toUInt32 31)).toInt32) &&& 1431655765)) &&& 858993459) + ((((v0 - (((v0.toUInt32 >>> ((1 : Int32).toUInt32 &&& Int32.toUInt32 31)).toInt32) &&& 1431655765)).toUInt32 >>> ((2 : Int32).toUInt32 &&& Int32.toUInt32 31)).toInt32) &&& 858993459)) + (((((v0 - (((v0.toUInt32 >>> ((1 : Int32).toUInt32 &&& Int32.toUInt32 31)).toInt32) &&& 1431655765)) &&& 858993459) + ((((v0 - (((v0.toUInt32 >>> ((1 : Int32).toUInt32 &&& Int32.toUInt32 31)).toInt32) &&& 1431655765)).toUInt32 >>> ((2 : Int32).toUInt32 &&& Int32.toUInt32 31)).toInt32) &&& 858993459)).toUInt32 >>> ((4 : Int32).toUInt32 &&& Int32.toUInt32 31)).toInt32)) &&& 252645135) + (((((((v0 - (((v0.toUInt32 >>> ((1 : Int32).toUInt32 &&& Int32.toUInt32 31)).toInt32) &&& 1431655765)) &&& 858993459) + ((((v0 - (((v0.toUInt32 >>> ((1 : Int32).toUInt32 &&& Int32.toUInt32 31)).toInt32) &&& 1431655765)).toUInt32 >>> ((2 : Int32).toUInt32 &&& Int32.toUInt32 31)).toInt32) &&& 858993459)) + (((((v0 - (((v0.toUInt32 >>> ((1 : Int32).toUInt32 &&& Int32.toUInt32 31)).toInt32) &&& 1431655765)) &&& 858993459) + ((((v0 - (((v0.toUInt32 >>> ((1 : Int32).toUInt32 &&& Int32.toUInt32 31)).toInt32) &&& 1431655765)).toUInt32 >>> ((2 : Int32).toUInt32 &&& Int32.toUInt32 31)).toInt32) &&& 858993459)).toUInt32 >>> ((4 : Int32).toUInt32 &&& Int32.toUInt32 31)).toInt32)) &&& 252645135).toUInt32 >>> ((8 : Int32).toUInt32 &&& Int32.toUInt32 31)).toInt32)) + ((((((((v0 - (((v0.toUInt32 >>> ((1 : Int32).toUInt32 &&& Int32.toUInt32 31)).toInt32) &&& 1431655765)) &&& 858993459) + ((((v0 - (((v0.toUInt32 >>> ((1 : Int32).toUInt32 &&& Int32.toUInt32 31)).toInt32) &&& 1431655765)).toUInt32 >>> ((2 : Int32).toUInt32 &&& Int32.toUInt32 31)).toInt32) &&& 858993459)) + (((((v0 - (((v0.toUInt32 >>> ((1 : Int32).toUInt32 &&& Int32.toUInt32 31)).toInt32) &&& 1431655765)) &&& 858993459) + ((((v0 - (((v0.toUInt32 >>> ((1 : Int32).toUInt32 &&& Int32.toUInt32 31)).toInt32) &&& 1431655765)).toUInt32 >>> ((2 : Int32).toUInt32 &&& Int32.toUInt32 31)).toInt32) &&& 858993459)).toUInt32 >>> ((4 : Int32).toUInt32 &&& Int32.toUInt32 31)).toInt32)) &&& 252645135) + (((((((v0 - (((v0.toUInt32 >>> ((1 : Int32).toUInt32 &&& Int32.toUInt32 31)).toInt32) &&& 1431655765)) &&& 858993459) + ((((v0 - (((v0.toUInt32 >>> ((1 : Int32).toUInt32 &&& Int32.toUInt32 31)).toInt32) &&& 1431655765)).toUInt32 >>> ((2 : Int32).toUInt32 &&& Int32.toUInt32 31)).toInt32) &&& 858993459)) + (((((v0 - (((v0.toUInt32 >>> ((1 : Int32).toUInt32 &&& Int32.toUInt32 31)).toInt32) &&& 1431655765)) &&& 858993459) + ((((v0 - (((v0.toUInt32 >>> ((1 : Int32).toUInt32 &&& Int32.toUInt32 31)).toInt32) &&& 1431655765)).toUInt32 >>> ((2 : Int32).toUInt32 &&& Int32.toUInt32 31)).toInt32) &&& 858993459)).toUInt32 >>> ((4 : Int32).toUInt32 &&& Int32.toUInt32 31)).toInt32)) &&& 252645135).toUInt32 >>> ((8 : Int32).toUInt32 &&& Int32.toUInt32 31)).toInt32)).toUInt32 >>> ((16 : Int32).toUInt32 &&& Int32.toUInt32 31)).toInt32)))]) hx hb dJ6_bitCount_0f7a4_47 rfl hl (by decide) rfl (fun ls hl => ?_)
  refine lv_iload_n hx hb dJ6_bitCount_0f7a4_48 rfl (lv_at hl 0 rfl) ?_
  refine lv_bipush (v := 63) hx hb dJ6_bitCount_0f7a4_49 (by decide) ?_
  refine lv_iand hx hb dJ6_bitCount_0f7a4_51 ?_
  obtain rfl := os1 h
  exact retI X Y hr hlk dJ6_bitCount_0f7a4_52
set_option maxHeartbeats 4000000 in
set_option maxRecDepth 100000 in
theorem c_fX0_isFair (l : Launch) (D : va_G) (g : Nat → ClassId) (ad : Nat → Nat) (σ : St) (n : Nat) (v1 : Int32) {r0 : Int32} (h : fX0_isFair n σ v1 = some r0) : MI l yX0_isFair kX0_isFair 3 74 D g (WC g ad σ) (WC g ad σ) [.ref (ad 10), .int v1] r0 := by
  intro sz
  refine Met.of2 (Qc := fun A => QI D g A (WC g ad σ) r0) (cc := cX0_isFair) (maxL := 3) (ret := (some .boolean)) (own := RX0) (by decide) rfl rfl (Nat.le_of_ble_eq_true rfl) ?_
  intro p e s m below meth c A ls X hr hlk hml Y hl
  have hx := X.1
  have hb := X.2.1
  have hl : lv_has ls 3 [(0, .ref (ad 10)), (1, .int v1)] := hl
  rw [fX0_isFair] at h
  refine lv_iload_n hx hb dX0_isFair_0 rfl (lv_at hl 1 rfl) ?_
  obtain ⟨r2, hg1, h⟩ := ob h
  refine cSi X (hml.trans hl.1.symm) Y (c_fJ6_bitCount l D g (WC g ad σ) v1 hg1) (gs_X0_75 _) rfl fd_J6_bitCount_0f7a4 ⟨Nat.le_of_ble_eq_true rfl, Nat.le_of_ble_eq_true rfl⟩ ⟨Nat.le_of_ble_eq_true rfl, Nat.le_of_ble_eq_true rfl⟩ (rest := []) rfl (Nat.le_of_ble_eq_true rfl) dX0_isFair_1 (fun H locs Y => ?_)
  refine lv_aload_n hx hb dX0_isFair_4 rfl (lv_at hl 0 rfl) ?_
  refine rgR X Y 1 (v := .int (σ 10 1)) tw_59 rfl dX0_isFair_5 ?_
  refine lv_icmp_le (tgt := 13) hx hb dX0_isFair_8 (by decide) (fun c3 => ?_) (fun c3 => ?_)
  · replace h := ot c3 h
    refine lv_aload_n hx hb dX0_isFair_13 rfl (lv_at hl 0 rfl) ?_
    refine lv_iload_n hx hb dX0_isFair_14 rfl (lv_at hl 1 rfl) ?_
    obtain ⟨r5, hg4, h⟩ := ob h
    refine cVi X (hml.trans hl.1.symm) Y (c_fX0_pullersOf l D g ad σ n v1 hg4) (lkR g ad σ) rfl (gs_X0_80 _) rfl fd_X0_pullersOf ⟨Nat.le_of_ble_eq_true rfl, Nat.le_of_ble_eq_true rfl⟩ ⟨Nat.le_of_ble_eq_true rfl, Nat.le_of_ble_eq_true rfl⟩ (rest := []) rfl (Nat.le_of_ble_eq_true rfl) dX0_isFair_15 (fun H locs Y => ?_)
    refine lv_istore_n (lv' := [(2, .int r5), (0, .ref (ad 10)), (1, .int v1)]) hx hb dX0_isFair_18 rfl hl (by decide) rfl (fun ls hl => ?_)
    refine lv_iload_n hx hb dX0_isFair_19 rfl (lv_at hl 0 rfl) ?_
    obtain ⟨r7, hg6, h⟩ := ob h
    refine cSi X (hml.trans hl.1.symm) Y (c_fJ6_bitCount l D g (WC g ad σ) r5 hg6) (gs_X0_75 _) rfl fd_J6_bitCount_0f7a4 ⟨Nat.le_of_ble_eq_true rfl, Nat.le_of_ble_eq_true rfl⟩ ⟨Nat.le_of_ble_eq_true rfl, Nat.le_of_ble_eq_true rfl⟩ (rest := []) rfl (Nat.le_of_ble_eq_true rfl) dX0_isFair_20 (fun H locs Y => ?_)
    refine lv_iconst (v := 1) hx hb dX0_isFair_23 (by decide) ?_
    refine lv_icmp_ne (tgt := 40) hx hb dX0_isFair_24 (by decide) (fun c8 => ?_) (fun c8 => ?_)
    · replace h := oe c8 h
      refine lv_iconst (v := 0) hx hb dX0_isFair_40 (by decide) ?_
      obtain rfl := os1 h
      exact retZ X Y hr hlk rfl dX0_isFair_41
    · replace h := ot c8 h
      refine lv_iload_n hx hb dX0_isFair_27 rfl (lv_at hl 0 rfl) ?_
      refine lv_aload_n hx hb dX0_isFair_28 rfl (lv_at hl 1 rfl) ?_
      refine rgR X Y 3 (v := .int (σ 10 3)) tw_64 rfl dX0_isFair_29 ?_
      refine lv_iand hx hb dX0_isFair_32 ?_
      refine lv_if_ne (tgt := 40) hx hb dX0_isFair_33 (by decide) (fun c9 => ?_) (fun c9 => ?_)
      · replace h := oe c9 h
        refine lv_iconst (v := 0) hx hb dX0_isFair_40 (by decide) ?_
        obtain rfl := os1 h
        exact retZ X Y hr hlk rfl dX0_isFair_41
      · replace h := ot c9 h
        refine lv_iconst (v := 1) hx hb dX0_isFair_36 (by decide) ?_
        refine lv_goto (tgt := 41) hx hb dX0_isFair_37 (by decide) ?_
        obtain rfl := os1 h
        exact retZ X Y hr hlk rfl dX0_isFair_41
  · replace h := oe c3 h
    refine lv_iconst (v := 0) hx hb dX0_isFair_11 (by decide) ?_
    obtain rfl := os1 h
    exact retZ X Y hr hlk rfl dX0_isFair_12
set_option maxHeartbeats 4000000 in
set_option maxRecDepth 100000 in
theorem w_fX0_areLoads_L3 {p : Program} {l : Launch} {e : Env} {s : State} {m : MethodId} {args : Array Value} {below : List Frame} {meth : Method} {c : Code} {D : va_G} {g : Nat → ClassId} {ad : Nat → Nat} {A : Nat → Prop} {r0 : Int32} (X : Cx p s m c args cX0_areLoads RX0 kX0_areLoads D g) (hr : meth.sig.returnType = (some .boolean)) (hlk : meth.locks = false) (hml : c.maxLocals = 5) : ∀ (n : Nat), ∀ (σ : St) (k1 : Nat) (hk1 : k1 < 4) (v2 : Int32) (v3 : Int32) (v4 : Int32) (H : Heap) (locs : List Loc) (ls : Array Slot), Hp D A s.heap H locs (WC g ad σ) → lv_has ls 5 [(0, .ref (ad 10)), (1, .ref (ad (2 + k1))), (2, .int v2), (3, .int v3), (4, .int v4)] → fX0_areLoads_L3 n σ k1 v2 v3 v4 = some r0 → W p l e (RM 2 41) s m args below meth c H locs 0 0 (MQ below (QI D g A (WC g ad σ) r0) args s 0 0 A) (F0 m 3 ls []) := by
  have hx := X.1
  have hb := X.2.1
  intro n
  induction n with
  | zero => intro σ k1 hk1 v2 v3 v4 H locs ls Y hl h; cases (show none = _ from h)
  | succ n ih =>
    intro σ k1 hk1 v2 v3 v4 H locs ls Y hl h
    rw [fX0_areLoads_L3] at h
    refine lv_iload hx hb dX0_areLoads_3 (lv_at hl 4 rfl) ?_
    refine lv_iload_n hx hb dX0_areLoads_5 rfl (lv_at hl 3 rfl) ?_
    refine lv_icmp_ge (tgt := 33) hx hb dX0_areLoads_6 (by decide) (fun c1 => ?_) (fun c1 => ?_)
    · replace h := ot c1 h
      refine lv_iconst (v := 1) hx hb dX0_areLoads_33 (by decide) ?_
      obtain rfl := os1 h
      exact retZ X Y hr hlk rfl dX0_areLoads_34
    · replace h := oe c1 h
      refine lv_aload_n hx hb dX0_areLoads_9 rfl (lv_at hl 0 rfl) ?_
      refine lv_aload_n hx hb dX0_areLoads_10 rfl (lv_at hl 1 rfl) ?_
      refine rgS X Y hk1 0 (v := .ref (ad (6 + k1))) tw_112 rfl dX0_areLoads_11 ?_
      refine lv_iload_n hx hb dX0_areLoads_14 rfl (lv_at hl 2 rfl) ?_
      refine lv_iload hx hb dX0_areLoads_15 (lv_at hl 4 rfl) ?_
      refine lv_iadd hx hb dX0_areLoads_17 ?_
      obtain ⟨hg2, h⟩ := og h
      refine ri X Y (lkA g ad σ hk1) hg2 dX0_areLoads_18 ?_
      obtain ⟨r4, hg3, h⟩ := ob h
      refine cVi X (hml.trans hl.1.symm) Y (c_fX0_isLoad l D g ad σ (σ (6 + k1) (v2 + v4).toNatClampNeg) hg3) (lkR g ad σ) rfl (gs_X0_83 _) rfl fd_X0_isLoad ⟨Nat.le_of_ble_eq_true rfl, Nat.le_of_ble_eq_true rfl⟩ ⟨Nat.le_of_ble_eq_true rfl, Nat.le_of_ble_eq_true rfl⟩ (rest := []) rfl (Nat.le_of_ble_eq_true rfl) dX0_areLoads_19 (fun H locs Y => ?_)
      refine lv_if_ne (tgt := 27) hx hb dX0_areLoads_22 (by decide) (fun c5 => ?_) (fun c5 => ?_)
      · replace h := oe c5 h
        refine lv_iinc (v := v4 + 1) (lv' := [(4, .int (v4 + 1)), (0, .ref (ad 10)), (1, .ref (ad (2 + k1))), (2, .int v2), (3, .int v3)]) hx hb dX0_areLoads_27 hl (k := 4) rfl rfl (by decide) rfl (fun ls hl => ?_)
        refine lv_goto (tgt := 3) hx hb dX0_areLoads_30 (by decide) ?_
        exact ih σ k1 hk1 v2 v3 (v4 + 1) _ _ _ Y (lv_sub hl [1, 2, 3, 4, 0] rfl) h
      · replace h := ot c5 h
        refine lv_iconst (v := 0) hx hb dX0_areLoads_25 (by decide) ?_
        obtain rfl := os1 h
        exact retZ X Y hr hlk rfl dX0_areLoads_26
set_option maxHeartbeats 4000000 in
set_option maxRecDepth 100000 in
theorem c_fX0_areLoads (l : Launch) (D : va_G) (g : Nat → ClassId) (ad : Nat → Nat) (σ : St) (n : Nat) (k1 : Nat) (hk1 : k1 < 4) (v2 : Int32) (v3 : Int32) {r0 : Int32} (h : fX0_areLoads n σ k1 v2 v3 = some r0) : MI l yX0_areLoads kX0_areLoads 2 41 D g (WC g ad σ) (WC g ad σ) [.ref (ad 10), .ref (ad (2 + k1)), .int v2, .int v3] r0 := by
  intro sz
  refine Met.of2 (Qc := fun A => QI D g A (WC g ad σ) r0) (cc := cX0_areLoads) (maxL := 5) (ret := (some .boolean)) (own := RX0) (by decide) rfl rfl (Nat.le_of_ble_eq_true rfl) ?_
  intro p e s m below meth c A ls X hr hlk hml Y hl
  have hx := X.1
  have hb := X.2.1
  have hl : lv_has ls 5 [(0, .ref (ad 10)), (1, .ref (ad (2 + k1))), (2, .int v2), (3, .int v3)] := hl
  rw [fX0_areLoads] at h
  refine lv_iconst (v := 0) hx hb dX0_areLoads_0 (by decide) ?_
  refine lv_istore (lv' := [(4, .int 0), (0, .ref (ad 10)), (1, .ref (ad (2 + k1))), (2, .int v2), (3, .int v3)]) hx hb dX0_areLoads_1 hl (by decide) rfl (fun ls hl => ?_)
  exact w_fX0_areLoads_L3 X hr hlk hml n σ k1 hk1 v2 v3 0 _ _ _ Y (lv_sub hl [1, 2, 3, 4, 0] rfl) h
set_option maxHeartbeats 4000000 in
set_option maxRecDepth 100000 in
theorem w_fX0_firstWrong_L6 {p : Program} {l : Launch} {e : Env} {s : State} {m : MethodId} {args : Array Value} {below : List Frame} {meth : Method} {c : Code} {D : va_G} {g : Nat → ClassId} {ad : Nat → Nat} {A : Nat → Prop} {r0 : Int32} (X : Cx p s m c args cX0_firstWrong RX0 kX0_firstWrong D g) (hr : meth.sig.returnType = (some .int)) (hlk : meth.locks = false) (hml : c.maxLocals = 7) : ∀ (n : Nat), ∀ (σ : St) (k1 : Nat) (hk1 : k1 < 4) (v2 : Int32) (v3 : Int32) (v4 : Int32) (v5 : Int32) (H : Heap) (locs : List Loc) (ls : Array Slot), Hp D A s.heap H locs (WC g ad σ) → lv_has ls 7 [(0, .ref (ad 10)), (1, .ref (ad (2 + k1))), (2, .int v2), (3, .int v3), (4, .int v4), (5, .int v5)] → fX0_firstWrong_L6 n σ k1 v2 v3 v4 v5 = some r0 → W p l e (RM 1 20) s m args below meth c H locs 0 0 (MQ below (QI D g A (WC g ad σ) r0) args s 0 0 A) (F0 m 6 ls []) := by
  have hx := X.1
  have hb := X.2.1
  intro n
  induction n with
  | zero => intro σ k1 hk1 v2 v3 v4 v5 H locs ls Y hl h; cases (show none = _ from h)
  | succ n ih =>
    intro σ k1 hk1 v2 v3 v4 v5 H locs ls Y hl h
    rw [fX0_firstWrong_L6] at h
    refine lv_iload hx hb dX0_firstWrong_6 (lv_at hl 5 rfl) ?_
    refine lv_iload_n hx hb dX0_firstWrong_8 rfl (lv_at hl 3 rfl) ?_
    refine lv_icmp_ge (tgt := 64) hx hb dX0_firstWrong_9 (by decide) (fun c1 => ?_) (fun c1 => ?_)
    · replace h := ot c1 h
      refine lv_bipush (v := (-9)) hx hb dX0_firstWrong_64 (by decide) ?_
      obtain rfl := os1 h
      exact retI X Y hr hlk dX0_firstWrong_66
    · replace h := oe c1 h
      refine lv_aload_n hx hb dX0_firstWrong_12 rfl (lv_at hl 1 rfl) ?_
      refine rgS X Y hk1 0 (v := .ref (ad (6 + k1))) tw_112 rfl dX0_firstWrong_13 ?_
      refine lv_iload_n hx hb dX0_firstWrong_16 rfl (lv_at hl 2 rfl) ?_
      refine lv_iload hx hb dX0_firstWrong_17 (lv_at hl 5 rfl) ?_
      refine lv_iadd hx hb dX0_firstWrong_19 ?_
      obtain ⟨hg2, h⟩ := og h
      refine ri X Y (lkA g ad σ hk1) hg2 dX0_firstWrong_20 ?_
      refine lv_istore (lv' := [(6, .int (σ (6 + k1) (v2 + v5).toNatClampNeg)), (0, .ref (ad 10)), (1, .ref (ad (2 + k1))), (2, .int v2), (3, .int v3), (4, .int v4), (5, .int v5)]) hx hb dX0_firstWrong_21 hl (by decide) rfl (fun ls hl => ?_)
      refine lv_iload hx hb dX0_firstWrong_23 (lv_at hl 0 rfl) ?_
      refine lv_if_eq (tgt := 48) hx hb dX0_firstWrong_25 (by decide) (fun c3 => ?_) (fun c3 => ?_)
      · replace h := ot c3 h
        refine lv_iload hx hb dX0_firstWrong_48 (lv_at hl 6 rfl) ?_
        obtain rfl := os1 h
        exact retI X Y hr hlk dX0_firstWrong_50
      · replace h := oe c3 h
        refine lv_iload hx hb dX0_firstWrong_28 (lv_at hl 0 rfl) ?_
        obtain ⟨r5, hg4, h⟩ := ob h
        refine cSi X (hml.trans hl.1.symm) Y (c_fJ6_bitCount l D g (WC g ad σ) (σ (6 + k1) (v2 + v5).toNatClampNeg) hg4) (gs_X0_75 _) rfl fd_J6_bitCount_0f7a4 ⟨Nat.le_of_ble_eq_true rfl, Nat.le_of_ble_eq_true rfl⟩ ⟨Nat.le_of_ble_eq_true rfl, Nat.le_of_ble_eq_true rfl⟩ (rest := []) rfl (Nat.le_of_ble_eq_true rfl) dX0_firstWrong_30 (fun H locs Y => ?_)
        refine lv_aload_n hx hb dX0_firstWrong_33 rfl (lv_at hl 1 rfl) ?_
        refine rgR X Y 1 (v := .int (σ 10 1)) tw_59 rfl dX0_firstWrong_34 ?_
        refine lv_icmp_gt (tgt := 48) hx hb dX0_firstWrong_37 (by decide) (fun c6 => ?_) (fun c6 => ?_)
        · replace h := ot c6 h
          refine lv_iload hx hb dX0_firstWrong_48 (lv_at hl 6 rfl) ?_
          obtain rfl := os1 h
          exact retI X Y hr hlk dX0_firstWrong_50
        · replace h := oe c6 h
          refine lv_iload hx hb dX0_firstWrong_40 (lv_at hl 0 rfl) ?_
          refine lv_iload hx hb dX0_firstWrong_42 (lv_at hl 5 rfl) ?_
          refine lv_iand hx hb dX0_firstWrong_44 ?_
          refine lv_if_eq (tgt := 51) hx hb dX0_firstWrong_45 (by decide) (fun c7 => ?_) (fun c7 => ?_)
          · replace h := ot c7 h
            refine lv_iload hx hb dX0_firstWrong_51 (lv_at hl 5 rfl) ?_
            refine lv_iload hx hb dX0_firstWrong_53 (lv_at hl 0 rfl) ?_
            refine lv_ior hx hb dX0_firstWrong_55 ?_
            refine lv_istore (lv' := [(4, .int (v4 ||| (σ (6 + k1) (v2 + v5).toNatClampNeg))), (6, .int (σ (6 + k1) (v2 + v5).toNatClampNeg)), (0, .ref (ad 10)), (1, .ref (ad (2 + k1))), (2, .int v2), (3, .int v3), (5, .int v5)]) hx hb dX0_firstWrong_56 hl (by decide) rfl (fun ls hl => ?_)
            refine lv_iinc (v := v5 + 1) (lv' := [(5, .int (v5 + 1)), (4, .int (v4 ||| (σ (6 + k1) (v2 + v5).toNatClampNeg))), (6, .int (σ (6 + k1) (v2 + v5).toNatClampNeg)), (0, .ref (ad 10)), (1, .ref (ad (2 + k1))), (2, .int v2), (3, .int v3)]) hx hb dX0_firstWrong_58 hl (k := 6) rfl rfl (by decide) rfl (fun ls hl => ?_)
            refine lv_goto (tgt := 6) hx hb dX0_firstWrong_61 (by decide) ?_
            exact ih σ k1 hk1 v2 v3 (v4 ||| (σ (6 + k1) (v2 + v5).toNatClampNeg)) (v5 + 1) _ _ _ Y (lv_sub hl [3, 4, 5, 6, 1, 0] rfl) h
          · replace h := oe c7 h
            refine lv_iload hx hb dX0_firstWrong_48 (lv_at hl 6 rfl) ?_
            obtain rfl := os1 h
            exact retI X Y hr hlk dX0_firstWrong_50
set_option maxHeartbeats 4000000 in
set_option maxRecDepth 100000 in
theorem c_fX0_firstWrong (l : Launch) (D : va_G) (g : Nat → ClassId) (ad : Nat → Nat) (σ : St) (n : Nat) (k1 : Nat) (hk1 : k1 < 4) (v2 : Int32) (v3 : Int32) {r0 : Int32} (h : fX0_firstWrong n σ k1 v2 v3 = some r0) : MI l yX0_firstWrong kX0_firstWrong 1 20 D g (WC g ad σ) (WC g ad σ) [.ref (ad 10), .ref (ad (2 + k1)), .int v2, .int v3] r0 := by
  intro sz
  refine Met.of2 (Qc := fun A => QI D g A (WC g ad σ) r0) (cc := cX0_firstWrong) (maxL := 7) (ret := (some .int)) (own := RX0) (by decide) rfl rfl (Nat.le_of_ble_eq_true rfl) ?_
  intro p e s m below meth c A ls X hr hlk hml Y hl
  have hx := X.1
  have hb := X.2.1
  have hl : lv_has ls 7 [(0, .ref (ad 10)), (1, .ref (ad (2 + k1))), (2, .int v2), (3, .int v3)] := hl
  rw [fX0_firstWrong] at h
  refine lv_iconst (v := 0) hx hb dX0_firstWrong_0 (by decide) ?_
  refine lv_istore (lv' := [(4, .int 0), (0, .ref (ad 10)), (1, .ref (ad (2 + k1))), (2, .int v2), (3, .int v3)]) hx hb dX0_firstWrong_1 hl (by decide) rfl (fun ls hl => ?_)
  refine lv_iconst (v := 0) hx hb dX0_firstWrong_3 (by decide) ?_
  refine lv_istore (lv' := [(5, .int 0), (4, .int 0), (0, .ref (ad 10)), (1, .ref (ad (2 + k1))), (2, .int v2), (3, .int v3)]) hx hb dX0_firstWrong_4 hl (by decide) rfl (fun ls hl => ?_)
  exact w_fX0_firstWrong_L6 X hr hlk hml n σ k1 hk1 v2 v3 0 0 _ _ _ Y (lv_sub hl [2, 3, 4, 5, 1, 0] rfl) h
set_option maxHeartbeats 4000000 in
set_option maxRecDepth 100000 in
theorem c_fX0_isSo (l : Launch) (D : va_G) (g : Nat → ClassId) (ad : Nat → Nat) (σ : St) (n : Nat) (v1 : Int32) (v2 : Int32) {r0 : Int32} (h : fX0_isSo n σ v1 v2 = some r0) : MI l yX0_isSo kX0_isSo 4 96 D g (WC g ad σ) (WC g ad σ) [.ref (ad 10), .int v1, .int v2] r0 := by
  intro sz
  refine Met.of2 (Qc := fun A => QI D g A (WC g ad σ) r0) (cc := cX0_isSo) (maxL := 3) (ret := (some .boolean)) (own := RX0) (by decide) rfl rfl (Nat.le_of_ble_eq_true rfl) ?_
  intro p e s m below meth c A ls X hr hlk hml Y hl
  have hx := X.1
  have hb := X.2.1
  have hl : lv_has ls 3 [(0, .ref (ad 10)), (1, .int v1), (2, .int v2)] := hl
  rw [fX0_isSo] at h
  refine lv_iload_n hx hb dX0_isSo_0 rfl (lv_at hl 2 rfl) ?_
  by_cases c1 : v2 = 0
  · replace h := ot c1 h
    refine lv_tableIn (tgt := 36) (off := 35) hx hb dX0_isSo_1 (by rw [c1]; decide) (by rw [c1]; decide) (by rw [c1]; rfl) (by decide) ?_
    refine lv_aload_n hx hb dX0_isSo_36 rfl (lv_at hl 0 rfl) ?_
    refine lv_iload_n hx hb dX0_isSo_37 rfl (lv_at hl 1 rfl) ?_
    obtain ⟨r3, hg2, h⟩ := ob h
    refine cVi X (hml.trans hl.1.symm) Y (c_fX0_isFair l D g ad σ n v1 hg2) (lkR g ad σ) rfl (gs_X0_86 _) rfl fd_X0_isFair ⟨Nat.le_of_ble_eq_true rfl, Nat.le_of_ble_eq_true rfl⟩ ⟨Nat.le_of_ble_eq_true rfl, Nat.le_of_ble_eq_true rfl⟩ (rest := []) rfl (Nat.le_of_ble_eq_true rfl) dX0_isSo_38 (fun H locs Y => ?_)
    obtain rfl := os1 h
    exact retZ X Y hr hlk (bz_fX0_isFair hg2) dX0_isSo_41
  · replace h := oe c1 h
    by_cases c4 : v2 = 1
    · replace h := ot c4 h
      refine lv_tableIn (tgt := 74) (off := 73) hx hb dX0_isSo_1 (by rw [c4]; decide) (by rw [c4]; decide) (by rw [c4]; rfl) (by decide) ?_
      refine lv_aload_n hx hb dX0_isSo_74 rfl (lv_at hl 0 rfl) ?_
      refine lv_iload_n hx hb dX0_isSo_75 rfl (lv_at hl 1 rfl) ?_
      obtain ⟨r6, hg5, h⟩ := ob h
      refine cVi X (hml.trans hl.1.symm) Y (c_fX0_pullersOf l D g ad σ n v1 hg5) (lkR g ad σ) rfl (gs_X0_80 _) rfl fd_X0_pullersOf ⟨Nat.le_of_ble_eq_true rfl, Nat.le_of_ble_eq_true rfl⟩ ⟨Nat.le_of_ble_eq_true rfl, Nat.le_of_ble_eq_true rfl⟩ (rest := []) rfl (Nat.le_of_ble_eq_true rfl) dX0_isSo_76 (fun H locs Y => ?_)
      refine lv_iload_n hx hb dX0_isSo_79 rfl (lv_at hl 2 rfl) ?_
      refine lv_bipush (v := 10) hx hb dX0_isSo_80 (by decide) ?_
      refine lv_isub hx hb dX0_isSo_82 ?_
      refine lv_ishr hx hb dX0_isSo_83 ?_
      refine lv_iconst (v := 1) hx hb dX0_isSo_84 (by decide) ?_
      refine lv_iand hx hb dX0_isSo_85 ?_
      refine lv_iconst (v := 1) hx hb dX0_isSo_86 (by decide) ?_
      refine lv_icmp_ne (tgt := 94) hx hb dX0_isSo_87 (by decide) (fun c7 => ?_) (fun c7 => ?_)
      · replace h := oe c7 h
        refine lv_iconst (v := 0) hx hb dX0_isSo_94 (by decide) ?_
        obtain rfl := os1 h
        exact retZ X Y hr hlk rfl dX0_isSo_95
      · replace h := ot c7 h
        refine lv_iconst (v := 1) hx hb dX0_isSo_90 (by decide) ?_
        refine lv_goto (tgt := 95) hx hb dX0_isSo_91 (by decide) ?_
        obtain rfl := os1 h
        exact retZ X Y hr hlk rfl dX0_isSo_95
    · replace h := oe c4 h
      by_cases c8 : v2 = 2
      · replace h := ot c8 h
        refine lv_tableIn (tgt := 74) (off := 73) hx hb dX0_isSo_1 (by rw [c8]; decide) (by rw [c8]; decide) (by rw [c8]; rfl) (by decide) ?_
        refine lv_aload_n hx hb dX0_isSo_74 rfl (lv_at hl 0 rfl) ?_
        refine lv_iload_n hx hb dX0_isSo_75 rfl (lv_at hl 1 rfl) ?_
        obtain ⟨r10, hg9, h⟩ := ob h
        refine cVi X (hml.trans hl.1.symm) Y (c_fX0_pullersOf l D g ad σ n v1 hg9) (lkR g ad σ) rfl (gs_X0_80 _) rfl fd_X0_pullersOf ⟨Nat.le_of_ble_eq_true rfl, Nat.le_of_ble_eq_true rfl⟩ ⟨Nat.le_of_ble_eq_true rfl, Nat.le_of_ble_eq_true rfl⟩ (rest := []) rfl (Nat.le_of_ble_eq_true rfl) dX0_isSo_76 (fun H locs Y => ?_)
        refine lv_iload_n hx hb dX0_isSo_79 rfl (lv_at hl 2 rfl) ?_
        refine lv_bipush (v := 10) hx hb dX0_isSo_80 (by decide) ?_
        refine lv_isub hx hb dX0_isSo_82 ?_
        refine lv_ishr hx hb dX0_isSo_83 ?_
        refine lv_iconst (v := 1) hx hb dX0_isSo_84 (by decide) ?_
        refine lv_iand hx hb dX0_isSo_85 ?_
        refine lv_iconst (v := 1) hx hb dX0_isSo_86 (by decide) ?_
        refine lv_icmp_ne (tgt := 94) hx hb dX0_isSo_87 (by decide) (fun c11 => ?_) (fun c11 => ?_)
        · replace h := oe c11 h
          refine lv_iconst (v := 0) hx hb dX0_isSo_94 (by decide) ?_
          obtain rfl := os1 h
          exact retZ X Y hr hlk rfl dX0_isSo_95
        · replace h := ot c11 h
          refine lv_iconst (v := 1) hx hb dX0_isSo_90 (by decide) ?_
          refine lv_goto (tgt := 95) hx hb dX0_isSo_91 (by decide) ?_
          obtain rfl := os1 h
          exact retZ X Y hr hlk rfl dX0_isSo_95
      · replace h := oe c8 h
        by_cases c12 : v2 = 3
        · replace h := ot c12 h
          refine lv_tableIn (tgt := 42) (off := 41) hx hb dX0_isSo_1 (by rw [c12]; decide) (by rw [c12]; decide) (by rw [c12]; rfl) (by decide) ?_
          refine lv_aload_n hx hb dX0_isSo_42 rfl (lv_at hl 0 rfl) ?_
          refine lv_iload_n hx hb dX0_isSo_43 rfl (lv_at hl 1 rfl) ?_
          obtain ⟨r14, hg13, h⟩ := ob h
          refine cVi X (hml.trans hl.1.symm) Y (c_fX0_pullersOf l D g ad σ n v1 hg13) (lkR g ad σ) rfl (gs_X0_80 _) rfl fd_X0_pullersOf ⟨Nat.le_of_ble_eq_true rfl, Nat.le_of_ble_eq_true rfl⟩ ⟨Nat.le_of_ble_eq_true rfl, Nat.le_of_ble_eq_true rfl⟩ (rest := []) rfl (Nat.le_of_ble_eq_true rfl) dX0_isSo_44 (fun H locs Y => ?_)
          obtain ⟨r16, hg15, h⟩ := ob h
          refine cSi X (hml.trans hl.1.symm) Y (c_fJ6_bitCount l D g (WC g ad σ) r14 hg15) (gs_X0_75 _) rfl fd_J6_bitCount_0f7a4 ⟨Nat.le_of_ble_eq_true rfl, Nat.le_of_ble_eq_true rfl⟩ ⟨Nat.le_of_ble_eq_true rfl, Nat.le_of_ble_eq_true rfl⟩ (rest := []) rfl (Nat.le_of_ble_eq_true rfl) dX0_isSo_47 (fun H locs Y => ?_)
          refine lv_iconst (v := 1) hx hb dX0_isSo_50 (by decide) ?_
          refine lv_icmp_le (tgt := 58) hx hb dX0_isSo_51 (by decide) (fun c17 => ?_) (fun c17 => ?_)
          · replace h := ot c17 h
            refine lv_iconst (v := 0) hx hb dX0_isSo_58 (by decide) ?_
            obtain rfl := os1 h
            exact retZ X Y hr hlk rfl dX0_isSo_59
          · replace h := oe c17 h
            refine lv_iconst (v := 1) hx hb dX0_isSo_54 (by decide) ?_
            refine lv_goto (tgt := 59) hx hb dX0_isSo_55 (by decide) ?_
            obtain rfl := os1 h
            exact retZ X Y hr hlk rfl dX0_isSo_59
        · replace h := oe c12 h
          by_cases c18 : v2 = 4
          · replace h := ot c18 h
            refine lv_tableIn (tgt := 60) (off := 59) hx hb dX0_isSo_1 (by rw [c18]; decide) (by rw [c18]; decide) (by rw [c18]; rfl) (by decide) ?_
            refine lv_aload_n hx hb dX0_isSo_60 rfl (lv_at hl 0 rfl) ?_
            refine lv_iload_n hx hb dX0_isSo_61 rfl (lv_at hl 1 rfl) ?_
            obtain ⟨r20, hg19, h⟩ := ob h
            refine cVi X (hml.trans hl.1.symm) Y (c_fX0_pullersOf l D g ad σ n v1 hg19) (lkR g ad σ) rfl (gs_X0_80 _) rfl fd_X0_pullersOf ⟨Nat.le_of_ble_eq_true rfl, Nat.le_of_ble_eq_true rfl⟩ ⟨Nat.le_of_ble_eq_true rfl, Nat.le_of_ble_eq_true rfl⟩ (rest := []) rfl (Nat.le_of_ble_eq_true rfl) dX0_isSo_62 (fun H locs Y => ?_)
            refine lv_if_ne (tgt := 72) hx hb dX0_isSo_65 (by decide) (fun c21 => ?_) (fun c21 => ?_)
            · replace h := oe c21 h
              refine lv_iconst (v := 0) hx hb dX0_isSo_72 (by decide) ?_
              obtain rfl := os1 h
              exact retZ X Y hr hlk rfl dX0_isSo_73
            · replace h := ot c21 h
              refine lv_iconst (v := 1) hx hb dX0_isSo_68 (by decide) ?_
              refine lv_goto (tgt := 73) hx hb dX0_isSo_69 (by decide) ?_
              obtain rfl := os1 h
              exact retZ X Y hr hlk rfl dX0_isSo_73
          · replace h := oe c18 h
            refine lv_tableOut (tgt := 74) hx hb dX0_isSo_1 (by have q0 := lv_neT c1 (show (0 : Int32).toInt = 0 by decide); have q1 := lv_neT c4 (show (1 : Int32).toInt = 1 by decide); have q2 := lv_neT c8 (show (2 : Int32).toInt = 2 by decide); have q3 := lv_neT c12 (show (3 : Int32).toInt = 3 by decide); have q4 := lv_neT c18 (show (4 : Int32).toInt = 4 by decide); omega) (by decide) ?_
            refine lv_aload_n hx hb dX0_isSo_74 rfl (lv_at hl 0 rfl) ?_
            refine lv_iload_n hx hb dX0_isSo_75 rfl (lv_at hl 1 rfl) ?_
            obtain ⟨r23, hg22, h⟩ := ob h
            refine cVi X (hml.trans hl.1.symm) Y (c_fX0_pullersOf l D g ad σ n v1 hg22) (lkR g ad σ) rfl (gs_X0_80 _) rfl fd_X0_pullersOf ⟨Nat.le_of_ble_eq_true rfl, Nat.le_of_ble_eq_true rfl⟩ ⟨Nat.le_of_ble_eq_true rfl, Nat.le_of_ble_eq_true rfl⟩ (rest := []) rfl (Nat.le_of_ble_eq_true rfl) dX0_isSo_76 (fun H locs Y => ?_)
            refine lv_iload_n hx hb dX0_isSo_79 rfl (lv_at hl 2 rfl) ?_
            refine lv_bipush (v := 10) hx hb dX0_isSo_80 (by decide) ?_
            refine lv_isub hx hb dX0_isSo_82 ?_
            refine lv_ishr hx hb dX0_isSo_83 ?_
            refine lv_iconst (v := 1) hx hb dX0_isSo_84 (by decide) ?_
            refine lv_iand hx hb dX0_isSo_85 ?_
            refine lv_iconst (v := 1) hx hb dX0_isSo_86 (by decide) ?_
            refine lv_icmp_ne (tgt := 94) hx hb dX0_isSo_87 (by decide) (fun c24 => ?_) (fun c24 => ?_)
            · replace h := oe c24 h
              refine lv_iconst (v := 0) hx hb dX0_isSo_94 (by decide) ?_
              obtain rfl := os1 h
              exact retZ X Y hr hlk rfl dX0_isSo_95
            · replace h := ot c24 h
              refine lv_iconst (v := 1) hx hb dX0_isSo_90 (by decide) ?_
              refine lv_goto (tgt := 95) hx hb dX0_isSo_91 (by decide) ?_
              obtain rfl := os1 h
              exact retZ X Y hr hlk rfl dX0_isSo_95
set_option maxHeartbeats 4000000 in
set_option maxRecDepth 100000 in
theorem c_fX0_canCrossBy (l : Launch) (D : va_G) (g : Nat → ClassId) (ad : Nat → Nat) (σ : St) (v1 : Int32) (v2 : Int32) {r0 : Int32} (h : fX0_canCrossBy σ v1 v2 = some r0) : MI l yX0_canCrossBy kX0_canCrossBy 0 0 D g (WC g ad σ) (WC g ad σ) [.ref (ad 10), .int v1, .int v2] r0 := by
  intro sz
  refine Met.of2 (Qc := fun A => QI D g A (WC g ad σ) r0) (cc := cX0_canCrossBy) (maxL := 3) (ret := (some .boolean)) (own := RX0) (by decide) rfl rfl (Nat.le_of_ble_eq_true rfl) ?_
  intro p e s m below meth c A ls X hr hlk hml Y hl
  have hx := X.1
  have hb := X.2.1
  have hl : lv_has ls 3 [(0, .ref (ad 10)), (1, .int v1), (2, .int v2)] := hl
  rw [fX0_canCrossBy] at h
  refine lv_iload_n hx hb dX0_canCrossBy_0 rfl (lv_at hl 1 rfl) ?_
  refine lv_iload_n hx hb dX0_canCrossBy_1 rfl (lv_at hl 2 rfl) ?_
  refine lv_iconst (v := (-1)) hx hb dX0_canCrossBy_2 (by decide) ?_
  refine lv_ixor hx hb dX0_canCrossBy_3 ?_
  refine lv_iand hx hb dX0_canCrossBy_4 ?_
  refine lv_if_ne (tgt := 34) hx hb dX0_canCrossBy_5 (by decide) (fun c1 => ?_) (fun c1 => ?_)
  · replace h := oe c1 h
    refine lv_iconst (v := 0) hx hb dX0_canCrossBy_34 (by decide) ?_
    obtain rfl := os1 h
    exact retZ X Y hr hlk rfl dX0_canCrossBy_35
  · replace h := ot c1 h
    refine lv_aload_n hx hb dX0_canCrossBy_8 rfl (lv_at hl 0 rfl) ?_
    refine rgR X Y 10 (v := .ref (ad 21)) tw_77 rfl dX0_canCrossBy_9 ?_
    refine lv_iload_n hx hb dX0_canCrossBy_12 rfl (lv_at hl 1 rfl) ?_
    obtain ⟨hg2, h⟩ := og h
    refine rz X Y (lkC_21 g ad σ) hg2 dX0_canCrossBy_13 ?_
    refine lv_if_eq (tgt := 34) hx hb dX0_canCrossBy_14 (by decide) (fun c3 => ?_) (fun c3 => ?_)
    · replace h := ot c3 h
      refine lv_iconst (v := 0) hx hb dX0_canCrossBy_34 (by decide) ?_
      obtain rfl := os1 h
      exact retZ X Y hr hlk rfl dX0_canCrossBy_35
    · replace h := oe c3 h
      refine lv_aload_n hx hb dX0_canCrossBy_17 rfl (lv_at hl 0 rfl) ?_
      refine rgR X Y 9 (v := .ref (ad 20)) tw_75 rfl dX0_canCrossBy_18 ?_
      refine lv_iload_n hx hb dX0_canCrossBy_21 rfl (lv_at hl 2 rfl) ?_
      refine lv_iload_n hx hb dX0_canCrossBy_22 rfl (lv_at hl 1 rfl) ?_
      refine lv_ixor hx hb dX0_canCrossBy_23 ?_
      obtain ⟨hg4, h⟩ := og h
      refine ri X Y (lkC_20 g ad σ) hg4 dX0_canCrossBy_24 ?_
      refine lv_bipush (v := (-9)) hx hb dX0_canCrossBy_25 (by decide) ?_
      refine lv_icmp_eq (tgt := 34) hx hb dX0_canCrossBy_27 (by decide) (fun c5 => ?_) (fun c5 => ?_)
      · replace h := ot c5 h
        refine lv_iconst (v := 0) hx hb dX0_canCrossBy_34 (by decide) ?_
        obtain rfl := os1 h
        exact retZ X Y hr hlk rfl dX0_canCrossBy_35
      · replace h := oe c5 h
        refine lv_iconst (v := 1) hx hb dX0_canCrossBy_30 (by decide) ?_
        refine lv_goto (tgt := 35) hx hb dX0_canCrossBy_31 (by decide) ?_
        obtain rfl := os1 h
        exact retZ X Y hr hlk rfl dX0_canCrossBy_35
