/-! CROSSINGS -/
theorem xo_d : ∀ s, s < 32 → ∀ l, l < 32 → ow l s = 0 → nI s ^^^ nI l = nI (ow s l) := by decide +kernel
theorem owlt : ∀ s, s < 32 → ∀ l, l < 32 → 1 ≤ l → ow l s = 0 → ow s l < s ∧ l ≤ s := by decide +kernel
theorem narb {r : Int32} (h : r = 0 ∨ r = 1) : vp_nar .boolean r = r := by rcases h with rfl | rfl <;> decide
def Fr (σ0 τ0 : St) (P lam : Nat) (fr : Nat → Int32) : Prop := ∀ l, l < 32 → (fr l = 0 ∨ fr l = 1) ∧ (∀ (σ : St) (n : Nat), Rr σ τ0 P lam → 12 ≤ n → fX0_isFair n σ (nI l) = some (fr l)) ∧ (∀ (τ : St) (n : Nat), Rr σ0 τ P lam → τ 0 18 = 0 → τ 0 19 = 0 → 12 ≤ n → fX4_isFair n τ (nI l) = some (fr l))
theorem fr_ex {σ0 τ0 : St} {P lam : Nat} (h : Rr σ0 τ0 P lam) (tw : τ0 0 18 = 0) (tf : τ0 0 19 = 0) : ∃ fr, Fr σ0 τ0 P lam fr := by
  have key : ∀ l : Nat, ∃ r : Int32, l < 32 → (r = 0 ∨ r = 1) ∧ (∀ (σ : St) (n : Nat), Rr σ τ0 P lam → 12 ≤ n → fX0_isFair n σ (nI l) = some r) ∧ (∀ (τ : St) (n : Nat), Rr σ0 τ P lam → τ 0 18 = 0 → τ 0 19 = 0 → 12 ≤ n → fX4_isFair n τ (nI l) = some r) := by
    intro l
    by_cases hl : l < 32
    · obtain ⟨r, hr, a, b⟩ := fair_R h hl tw tf (show 12 ≤ 12 by decide) (show 12 ≤ 12 by decide)
      refine ⟨r, fun _ => ⟨hr, fun σ n hs hn => ?_, fun τ n ht t1 t2 hn => ?_⟩⟩
      · obtain ⟨r2, -, a2, b2⟩ := fair_R hs hl tw tf hn (show 12 ≤ 12 by decide)
        rw [b] at b2
        rw [a2, Option.some.inj b2]
      · obtain ⟨r2, -, a2, b2⟩ := fair_R ht hl t1 t2 (show 12 ≤ 12 by decide) hn
        rw [a] at a2
        rw [b2, Option.some.inj a2]
    · exact ⟨0, fun q => absurd q hl⟩
  obtain ⟨f, hf⟩ := Classical.skolem.mp key
  exact ⟨f, hf⟩
def Tv (T fr : Nat → Int32) (j : Nat) : Prop := (j ≠ 0 ∧ T j = -9) ∨ ∃ w, w ≤ j ∧ T j = nI w ∧ (j ≠ 0 → 1 ≤ w ∧ ∃ l, 1 ≤ l ∧ l ≤ j ∧ ow l j = 0 ∧ ¬ fr l = 0 ∧ T (ow j l) = nI (w - 1))
theorem Tv.of {T T' fr : Nat → Int32} {j : Nat} (hj : j < 32) (h : Tv T fr j) (e : ∀ i, i ≤ j → T' i = T i) : Tv T' fr j := by
  rcases h with h | ⟨w, h1, h2, h3⟩
  · exact Or.inl ⟨h.1, by rw [e j (Nat.le_refl _)]; exact h.2⟩
  · refine Or.inr ⟨w, h1, by rw [e j (Nat.le_refl _)]; exact h2, fun hj0 => ?_⟩
    obtain ⟨g1, l, g2, g3, g4, g5, g6⟩ := h3 hj0
    have := (owlt j hj l (by omega) g2 g4).1
    exact ⟨g1, l, g2, g3, g4, g5, by rw [e _ (by omega)]; exact g6⟩
def Iv (σ0 τ0 σ τ : St) (fr : Nat → Int32) (s : Nat) : Prop := (∀ z j, z ≠ 20 → z ≠ 21 → σ z j = σ0 z j) ∧ (∀ z j, z ≠ 11 → τ z j = τ0 z j) ∧ (∀ j, j < s → σ 20 j = τ 11 j) ∧ (∀ j, 1 ≤ j → j < s → σ 21 j = fr j) ∧ ∀ j, j < s → Tv (τ 11) fr j
theorem Iv.rs {σ0 τ0 σ τ : St} {fr : Nat → Int32} {s P lam : Nat} (h : Iv σ0 τ0 σ τ fr s) (hr : Rr σ0 τ0 P lam) : Rr σ τ0 P lam := hr.mv (fun _ _ => h.1 _ _ (by decide) (by decide)) (fun _ => h.1 _ _ (by decide) (by decide)) (fun _ _ _ => h.1 _ _ (by omega) (by omega)) (fun _ _ _ => rfl) (fun _ => rfl) (fun _ => rfl) (fun _ => rfl)
theorem Iv.rt {σ0 τ0 σ τ : St} {fr : Nat → Int32} {s P lam : Nat} (h : Iv σ0 τ0 σ τ fr s) (hr : Rr σ0 τ0 P lam) : Rr σ0 τ P lam := hr.mv (fun _ _ => rfl) (fun _ => rfl) (fun _ _ _ => rfl) (fun _ _ _ => h.2.1 _ _ (by decide)) (fun _ => h.2.1 _ _ (by decide)) (fun _ => h.2.1 _ _ (by decide)) (fun _ => h.2.1 _ _ (by decide))
theorem Iv.st {σ0 τ0 σ τ : St} {fr : Nat → Int32} {s v l : Nat} (h : Iv σ0 τ0 σ τ fr (s + 1)) (hs : s < 32) (h1 : 1 ≤ l) (h2 : l ≤ s) (h3 : ow l s = 0) (h4 : ¬ fr l = 0) (h5 : τ 11 (ow s l) = nI v) (hv : v ≤ ow s l) : Iv σ0 τ0 (up2 σ 20 s (nI (v + 1))) (up2 τ 11 s (nI (v + 1))) fr (s + 1) := by
  obtain ⟨a, b, c, d, e⟩ := h
  have hlt := (owlt s hs l (by omega) h1 h3).1
  refine ⟨fun z j z1 z2 => by rw [upz z1]; exact a z j z1 z2, fun z j z1 => by rw [upz z1]; exact b z j z1, fun j hj => ?_, fun j j1 j2 => by rw [upz (by decide)]; exact d j j1 j2, fun j hj => ?_⟩
  · by_cases q : j = s
    · subst q; rw [upe, upe]
    · rw [upj q, upj q]; exact c j hj
  · by_cases q : j = s
    · subst q
      refine Or.inr ⟨v + 1, by omega, upe, fun _ => ⟨by omega, l, h1, h2, h3, h4, ?_⟩⟩
      rw [upj (by omega), Nat.add_sub_cancel]; exact h5
    · exact (e j hj).of (by omega) (fun i hi => upj (by omega))
theorem few_I {σ0 τ0 : St} {P lam : Nat} {fr : Nat → Int32} (hr : Rr σ0 τ0 P lam) (tw : τ0 0 18 = 0) (tf : τ0 0 19 = 0) (hfr : Fr σ0 τ0 P lam fr) {s : Nat} (hs1 : 1 ≤ s) (hs : s < 32) (al : Int32) : ∀ (c l n1 n2 : Nat) (σ τ : St), Iv σ0 τ0 σ τ fr (s + 1) → 1 ≤ l → l + c = s + 1 → c + 20 ≤ n1 → c + 20 ≤ n2 →
    ∃ σ' τ' n3 n4, Iv σ0 τ0 σ' τ' fr (s + 1) ∧ n1 ≤ n3 + c + 1 ∧ n2 ≤ n4 + c + 1 ∧ fX0_findFewest_G14 n1 1 σ al (nI s) (nI l) = fX0_findFewest_G14 n3 0 σ' al (nI (s + 1)) 0 ∧ fX4_findFewest_G9 n2 1 τ (nI s) (nI l) = fX4_findFewest_G9 n4 0 τ' (nI (s + 1)) 0 := by
  intro c
  induction c with
  | zero =>
    intro l n1 n2 σ τ h hl1 hl hn1 hn2
    obtain ⟨m1, rfl⟩ : ∃ m, n1 = m + 1 := ⟨n1 - 1, by omega⟩
    obtain ⟨m2, rfl⟩ : ∃ m, n2 = m + 1 := ⟨n2 - 1, by omega⟩
    refine ⟨σ, τ, m1, m2, h, by omega, by omega, ?_, ?_⟩
    · rw [fX0_findFewest_G14, if_neg (by decide), if_pos (nI_lt (by omega) (by omega)), nI_1]
    · rw [fX4_findFewest_G9, if_neg (by decide), if_pos (nI_lt (by omega) (by omega)), nI_1]
  | succ c ih =>
    intro l n1 n2 σ τ h hl1 hl hn1 hn2
    obtain ⟨m1, rfl⟩ : ∃ m, n1 = m + 1 := ⟨n1 - 1, by omega⟩
    obtain ⟨m2, rfl⟩ : ∃ m, n2 = m + 1 := ⟨n2 - 1, by omega⟩
    have hl32 : l < 32 := by omega
    have next : ∀ σ1 τ1, Iv σ0 τ0 σ1 τ1 fr (s + 1) → ∃ σ' τ' n3 n4, Iv σ0 τ0 σ' τ' fr (s + 1) ∧ m1 + 1 ≤ n3 + (c + 1) + 1 ∧ m2 + 1 ≤ n4 + (c + 1) + 1 ∧ fX0_findFewest_G14 m1 1 σ1 al (nI s) (nI (l + 1)) = fX0_findFewest_G14 n3 0 σ' al (nI (s + 1)) 0 ∧ fX4_findFewest_G9 m2 1 τ1 (nI s) (nI (l + 1)) = fX4_findFewest_G9 n4 0 τ' (nI (s + 1)) 0 := by
      intro σ1 τ1 h1
      obtain ⟨σ', τ', n3, n4, g1, g2, g3, g4, g5⟩ := ih (l + 1) m1 m2 σ1 τ1 h1 (by omega) (by omega) (by omega) (by omega)
      exact ⟨σ', τ', n3, n4, g1, by omega, by omega, g4, g5⟩
    have fm := (hfr l hl32).2.2 τ m2 (h.rt hr) (by rw [h.2.1 _ _ (by decide)]; exact tw) (by rw [h.2.1 _ _ (by decide)]; exact tf) (by omega)
    have d21 := h.2.2.2.1 l hl1 (by omega)
    rw [fX0_findFewest_G14, fX4_findFewest_G9, if_neg (show ¬ (1 : Nat) = 0 by decide), if_neg (show ¬ (1 : Nat) = 0 by decide)]
    simp only [ltF (show l ≤ s by omega) (show s < 2 ^ 31 by omega), if_false, fX0_canCrossBy, nI_1, cN (show l < 2 ^ 31 by omega), gP (show l < 32 by omega) (by decide), d21, fm, Option.bind_some]
    by_cases c1 : ow l s = 0
    · have c1' : nI l &&& (nI s ^^^ (-1)) = 0 := by rw [ow_d l hl32 s hs, c1]; rfl
      have hx := xo_d s hs l hl32 c1
      have hxl := owlt s hs l hl32 hl1 c1
      simp only [if_pos c1', ow_d s hs l hl32, hx, cN (show ow s l < 2 ^ 31 by omega), gP (show ow s l < 32 by omega) (by decide), if_false, cN (show s < 2 ^ 31 by omega), gP (show s < 32 by omega) (by decide), h.2.2.1 _ (show ow s l < s + 1 by omega), h.2.2.1 _ (show s < s + 1 by omega)]
      by_cases c2 : fr l = 0
      · simp only [if_pos c2, Option.bind_some, if_true]; exact next σ τ h
      · simp only [if_neg c2]
        by_cases c3 : τ 11 (ow s l) = -9
        · simp only [if_pos c3, Option.bind_some, if_true]; exact next σ τ h
        · simp only [if_neg c3, Option.bind_some, i10, if_false]
          obtain ⟨v, hv1, hv2⟩ : ∃ v, v ≤ ow s l ∧ τ 11 (ow s l) = nI v := by
            rcases h.2.2.2.2 _ (show ow s l < s + 1 by omega) with ⟨-, q⟩ | ⟨w, q1, q2, -⟩
            · exact absurd q c3
            · exact ⟨w, q1, q2⟩
          have hst := h.st hs hl1 (by omega) c1 c2 hv2 hv1
          rw [hv2, nI_1]
          by_cases c4 : τ 11 s = -9
          · simp only [if_pos c4]; exact next _ _ hst
          · simp only [if_neg c4]
            by_cases c5 : τ 11 s ≤ nI (v + 1)
            · have c5' : ¬ nI (v + 1) < τ 11 s := Int32.not_lt.mpr c5
              simp only [if_pos c5, if_neg c5']
              refine next _ _ ?_
              obtain ⟨a, b, c', d, e⟩ := h
              refine ⟨fun z j z1 z2 => by rw [upz z1]; exact a z j z1 z2, b, fun j hj => ?_, fun j j1 j2 => by rw [upz (by decide)]; exact d j j1 j2, e⟩
              by_cases q : j = s
              · subst q; rw [upe]
              · rw [upj q]; exact c' j hj
            · have c5' : nI (v + 1) < τ 11 s := Int32.not_le.mp c5
              simp only [if_neg c5, if_pos c5']; exact next _ _ hst
    · have c1' : ¬ nI l &&& (nI s ^^^ (-1)) = 0 := by
        rw [ow_d l hl32 s hs]
        exact fun q => c1 ((nI_eq (Nat.lt_trans (ow_lt l hl32 s hs) (by decide)) (by decide)).mp (q.trans n0.symm))
      simp only [if_neg c1', Option.bind_some, if_true]
      exact next σ τ h
theorem few_O {σ0 τ0 : St} {P lam : Nat} {fr : Nat → Int32} (hr : Rr σ0 τ0 P lam) (tw : τ0 0 18 = 0) (tf : τ0 0 19 = 0) (hfr : Fr σ0 τ0 P lam fr) : ∀ (c s n1 n2 : Nat) (σ τ : St), Iv σ0 τ0 σ τ fr s → 1 ≤ s → s + c = 2 ^ P → 36 * c + 40 ≤ n1 → 36 * c + 40 ≤ n2 →
    ∃ σ' τ', Iv σ0 τ0 σ' τ' fr (2 ^ P) ∧ fX0_findFewest_G14 n1 0 σ (nI (2 ^ P - 1)) (nI s) 0 = some σ' ∧ fX4_findFewest_G9 n2 0 τ (nI s) 0 = some τ' := by
  have h5 : P ≤ 5 := hr.1
  have h32 := p32 h5
  intro c
  induction c with
  | zero =>
    intro s n1 n2 σ τ h hs1 hs hn1 hn2
    obtain ⟨m1, rfl⟩ : ∃ m, n1 = m + 1 := ⟨n1 - 1, by omega⟩
    obtain ⟨m2, rfl⟩ : ∃ m, n2 = m + 1 := ⟨n2 - 1, by omega⟩
    have : s = 2 ^ P := by omega
    subst this
    refine ⟨σ, τ, h, ?_, ?_⟩
    · rw [fX0_findFewest_G14, if_pos rfl, if_pos (nI_lt (by omega) (by omega))]
    · rw [fX4_findFewest_G9, if_pos rfl, h.2.1 _ _ (by decide), hr.2.2.2.1, all5 P h5, if_pos Int32.le_rfl]
  | succ c ih =>
    intro s n1 n2 σ τ h hs1 hs hn1 hn2
    obtain ⟨m1, rfl⟩ : ∃ m, n1 = m + 1 := ⟨n1 - 1, by omega⟩
    obtain ⟨m2, rfl⟩ : ∃ m, n2 = m + 1 := ⟨n2 - 1, by omega⟩
    have hs32 : s < 32 := by omega
    have fc := (hfr s hs32).2.1 σ m1 (h.rs hr) (by omega)
    have nb := narb (hfr s hs32).1
    rw [fX0_findFewest_G14, if_pos rfl, if_neg (nI_nlt (by omega) (by omega)), fc, fX4_findFewest_G9, if_pos rfl, h.2.1 _ _ (by decide), hr.2.2.2.1, all5 P h5, if_neg (nI_ge (by omega) (by omega))]
    simp only [Option.bind_some, cN (show s < 2 ^ 31 by omega), gP (show s < 32 by omega) (by decide), if_false, nb]
    have h1 : Iv σ0 τ0 (up2 (up2 σ 21 s (fr s)) 20 s (-9)) (up2 τ 11 s (-9)) fr (s + 1) := by
      obtain ⟨a, b, c', d, e⟩ := h
      refine ⟨fun z j z1 z2 => by rw [upz z1, upz z2]; exact a z j z1 z2, fun z j z1 => by rw [upz z1]; exact b z j z1, fun j hj => ?_, fun j j1 j2 => ?_, fun j hj => ?_⟩
      · by_cases q : j = s
        · subst q; rw [upe, upe]
        · rw [upj q, upz (by decide), upj q]; exact c' j (by omega)
      · rw [upz (by decide)]
        by_cases q : j = s
        · subst q; rw [upe]
        · rw [upj q]; exact d j j1 (by omega)
      · by_cases q : j = s
        · subst q; exact Or.inl ⟨by omega, upe⟩
        · exact (e j (by omega)).of (by omega) (fun i hi => upj (by omega))
    obtain ⟨σ', τ', n3, n4, g1, g2, g3, g4, g5⟩ := few_I hr tw tf hfr hs1 hs32 (nI (2 ^ P - 1)) s 1 m1 m2 _ _ h1 (by omega) (by omega) (by omega) (by omega)
    rw [n1] at g4 g5
    rw [g4, g5]
    exact ih (s + 1) n3 n4 σ' τ' g1 (by omega) (by omega) (by omega) (by omega)
theorem few_R {σ0 τ0 : St} {P lam : Nat} {fr : Nat → Int32} (hr : Rr σ0 τ0 P lam) (tw : τ0 0 18 = 0) (tf : τ0 0 19 = 0) (hfr : Fr σ0 τ0 P lam fr) {a1 a2 : Nat} (hn1 : 1300 ≤ a1) (hn2 : 1300 ≤ a2) : ∃ σ' τ', Iv σ0 τ0 σ' τ' fr (2 ^ P) ∧ fX0_findFewest a1 σ0 = some σ' ∧ fX4_findFewest a2 τ0 = some τ' ∧ τ' 11 0 = 0 := by
  have h32 := p32 hr.1
  have h1p : 1 ≤ 2 ^ P := Nat.one_le_two_pow
  have e0 : (0 : Int32).toNatClampNeg = 0 := rfl
  have g0 : ((0 : Int32) < 0 ∨ 32 ≤ (0 : Nat)) = False := eq_false (by decide)
  have h0 : Iv σ0 τ0 (up2 σ0 20 0 0) (up2 τ0 11 0 0) fr 1 := by
    refine ⟨fun z j z1 z2 => upz z1, fun z j z1 => upz z1, fun j hj => ?_, fun j j1 j2 => by omega, fun j hj => ?_⟩
    · have : j = 0 := by omega
      subst this; rw [upe, upe]
    · have : j = 0 := by omega
      subst this
      exact Or.inr ⟨0, by omega, upe, fun q => absurd rfl q⟩
  obtain ⟨σ', τ', a, b, c⟩ := few_O hr tw tf hfr (2 ^ P - 1) 1 a1 a2 _ _ h0 (by omega) (by omega) (by omega) (by omega)
  refine ⟨σ', τ', a, ?_, ?_, ?_⟩
  · rw [fX0_findFewest, evb hr]
    simp only [Option.bind_some, e0, g0, if_false]
    rw [n1] at b
    exact b
  · rw [fX4_findFewest]
    simp only [e0, g0, if_false]
    rw [n1] at c
    exact c
  · rcases a.2.2.2.2 0 (by omega) with ⟨q, -⟩ | ⟨w, q1, q2, -⟩
    · exact absurd rfl q
    · rw [q2, show w = 0 by omega]; rfl
theorem first_L {σ0 τ0 σ τ : St} {P lam : Nat} {fr : Nat → Int32} (hr : Rr σ0 τ0 P lam) (tw : τ0 0 18 = 0) (tf : τ0 0 19 = 0) (hfr : Fr σ0 τ0 P lam fr) (h : Iv σ0 τ0 σ τ fr (2 ^ P)) {t v k : Nat} (ht : t < 2 ^ P) (hv : τ 11 t = nI v) (hv1 : 1 ≤ v) (hv2 : v ≤ t) (hk1 : 1 ≤ k) (hk2 : k ≤ t) (hk3 : ow k t = 0) (hk4 : ¬ fr k = 0) (hk5 : τ 11 (ow t k) = nI (v - 1)) : ∀ (c l a1 a2 : Nat), 1 ≤ l → l + c = k → c + 20 ≤ a1 → c + 20 ≤ a2 →
    ∃ d, 1 ≤ d ∧ d ≤ t ∧ ow d t = 0 ∧ τ 11 (ow t d) = nI (v - 1) ∧ fX0_firstLoadOf_L2 a1 σ (nI t) (nI l) = some (nI d) ∧ fX4_firstLoad_L2 a2 τ (nI t) (nI l) = some (nI d) := by
  have h32 := p32 hr.1
  have ht32 : t < 32 := by omega
  intro c
  induction c with
  | zero =>
    intro l a1 a2 hl1 hl hn1 hn2
    obtain ⟨m1, rfl⟩ : ∃ m, a1 = m + 1 := ⟨a1 - 1, by omega⟩
    obtain ⟨m2, rfl⟩ : ∃ m, a2 = m + 1 := ⟨a2 - 1, by omega⟩
    have : l = k := by omega
    subst this
    have hl32 : l < 32 := by omega
    have fm := (hfr l hl32).2.2 τ m2 (h.rt hr) (by rw [h.2.1 _ _ (by decide)]; exact tw) (by rw [h.2.1 _ _ (by decide)]; exact tf) (by omega)
    have d21 := h.2.2.2.1 l hl1 (by omega)
    have c1' : nI l &&& (nI t ^^^ (-1)) = 0 := by rw [ow_d l hl32 t ht32, hk3]; rfl
    have hx := xo_d t ht32 l hl32 hk3
    have hxl := owlt t ht32 l hl32 hl1 hk3
    refine ⟨l, hl1, hk2, hk3, hk5, ?_, ?_⟩
    · simp only [fX0_firstLoadOf_L2, fX0_canCrossBy, ltF (show l ≤ t by omega) (show t < 2 ^ 31 by omega), if_false, if_pos c1', cN (show l < 2 ^ 31 by omega), gP (show l < 32 by omega) (by decide), d21, if_neg hk4, hx, cN (show ow t l < 2 ^ 31 by omega), gP (show ow t l < 32 by omega) (by decide), h.2.2.1 _ (show ow t l < 2 ^ P by omega), h.2.2.1 _ ht, hk5, if_neg (nIne9 (show v - 1 < 2 ^ 31 by omega)), Option.bind_some, i10, cN (show t < 2 ^ 31 by omega), gP (show t < 32 by omega) (by decide), nI_1, hv, eqT (show v - 1 + 1 = v by omega), if_true]
    · simp only [fX4_firstLoad_L2, if_pos c1', fm, Option.bind_some, if_neg hk4, ow_d t ht32 l hl32, cN (show ow t l < 2 ^ 31 by omega), gP (show ow t l < 32 by omega) (by decide), if_false, cN (show t < 2 ^ 31 by omega), gP (show t < 32 by omega) (by decide), hk5, hv]
      rw [if_pos (by rw [← n1, pk_sub hv1])]
  | succ c ih =>
    intro l a1 a2 hl1 hl hn1 hn2
    obtain ⟨m1, rfl⟩ : ∃ m, a1 = m + 1 := ⟨a1 - 1, by omega⟩
    obtain ⟨m2, rfl⟩ : ∃ m, a2 = m + 1 := ⟨a2 - 1, by omega⟩
    have hl32 : l < 32 := by omega
    have next := ih (l + 1) m1 m2 (by omega) (by omega) (by omega) (by omega)
    have fm := (hfr l hl32).2.2 τ m2 (h.rt hr) (by rw [h.2.1 _ _ (by decide)]; exact tw) (by rw [h.2.1 _ _ (by decide)]; exact tf) (by omega)
    have d21 := h.2.2.2.1 l hl1 (by omega)
    simp only [fX0_firstLoadOf_L2, fX4_firstLoad_L2, fX0_canCrossBy, ltF (show l ≤ t by omega) (show t < 2 ^ 31 by omega), if_false, cN (show l < 2 ^ 31 by omega), gP (show l < 32 by omega) (by decide), d21, fm, Option.bind_some, nI_1]
    by_cases c1 : ow l t = 0
    · have c1' : nI l &&& (nI t ^^^ (-1)) = 0 := by rw [ow_d l hl32 t ht32, c1]; rfl
      have hx := xo_d t ht32 l hl32 c1
      have hxl := owlt t ht32 l hl32 hl1 c1
      simp only [if_pos c1', hx, ow_d t ht32 l hl32, cN (show ow t l < 2 ^ 31 by omega), gP (show ow t l < 32 by omega) (by decide), if_false, cN (show t < 2 ^ 31 by omega), gP (show t < 32 by omega) (by decide), h.2.2.1 _ (show ow t l < 2 ^ P by omega), h.2.2.1 _ ht, hv]
      by_cases c2 : fr l = 0
      · simp only [if_pos c2, Option.bind_some, if_true]; exact next
      · simp only [if_neg c2]
        have em : nI v - 1 = nI (v - 1) := by rw [← n1, pk_sub hv1]
        rcases h.2.2.2.2 _ (show ow t l < 2 ^ P by omega) with ⟨-, q⟩ | ⟨w, q1, q2, -⟩
        · have : ¬ (-9 : Int32) = nI (v - 1) := fun e => nIne9 (show v - 1 < 2 ^ 31 by omega) e.symm
          simp only [q, em, if_neg this, Option.bind_some, if_true]
          exact next
        · simp only [q2, em, if_neg (nIne9 (show w < 2 ^ 31 by omega)), Option.bind_some, i10, if_false, nI_1]
          by_cases c3 : w = v - 1
          · subst c3
            simp only [if_true, eqT (show v - 1 + 1 = v by omega)]
            exact ⟨l, hl1, by omega, c1, q2, rfl, rfl⟩
          · simp only [eqF c3 (show w < 2 ^ 31 by omega) (show v - 1 < 2 ^ 31 by omega), eqF (show w + 1 ≠ v by omega) (show w + 1 < 2 ^ 31 by omega) (show v < 2 ^ 31 by omega), if_false]
            exact next
    · have c1' : ¬ nI l &&& (nI t ^^^ (-1)) = 0 := by
        rw [ow_d l hl32 t ht32]
        exact fun q => c1 ((nI_eq (Nat.lt_trans (ow_lt l hl32 t ht32) (by decide)) (by decide)).mp (q.trans n0.symm))
      simp only [if_neg c1', Option.bind_some, if_true]
      exact next
theorem first_R {σ0 τ0 σ τ : St} {P lam : Nat} {fr : Nat → Int32} (hr : Rr σ0 τ0 P lam) (tw : τ0 0 18 = 0) (tf : τ0 0 19 = 0) (hfr : Fr σ0 τ0 P lam fr) (h : Iv σ0 τ0 σ τ fr (2 ^ P)) {t v : Nat} (ht : t < 2 ^ P) (hv : τ 11 t = nI v) (hv0 : v < 2 ^ 31) (hv1 : 1 ≤ v) {a1 a2 : Nat} (hn1 : 60 ≤ a1) (hn2 : 60 ≤ a2) :
    ∃ d, 1 ≤ d ∧ d ≤ t ∧ ow d t = 0 ∧ τ 11 (ow t d) = nI (v - 1) ∧ fX0_firstLoadOf a1 σ (nI t) = some (nI d) ∧ fX4_firstLoad a2 τ (nI t) = some (nI d) := by
  have h32 := p32 hr.1
  rcases h.2.2.2.2 t ht with ⟨-, q⟩ | ⟨w, q1, q2, q3⟩
  · rw [hv] at q; exact absurd q (nIne9 hv0)
  · have hw : w = v := (nI_eq (by omega) hv0).mp (q2.symm.trans hv)
    subst hw
    obtain ⟨g1, k, g2, g3, g4, g5, g6⟩ := q3 (by omega)
    exact first_L hr tw tf hfr h ht hv hv1 q1 g2 g3 g4 g5 g6 (k - 1) 1 a1 a2 (by omega) (by omega) (by omega) (by omega)
theorem rows_L {σ0 τ0 σ τ : St} {P lam : Nat} {fr : Nat → Int32} (hr : Rr σ0 τ0 P lam) (tw : τ0 0 18 = 0) (tf : τ0 0 19 = 0) (hfr : Fr σ0 τ0 P lam fr) (h : Iv σ0 τ0 σ τ fr (2 ^ P)) {k : Nat} (hk : k < 5) : ∀ (c row t v a1 a2 : Nat) (last : Int32), t < 2 ^ P → τ 11 t = nI v → v < 2 ^ 31 → c ≤ v → row + c = k + 1 → c + 70 ≤ a1 → c + 70 ≤ a2 →
    ∃ r, fX0_loadOfCross_L10 a1 σ (nI k) (nI t) last (nI row) = some r ∧ fX4_cross_L65 a2 τ (nI k) (nI t) last (nI row) = some (r, τ) := by
  have h32 := p32 hr.1
  intro c
  induction c with
  | zero =>
    intro row t v a1 a2 last ht hv hv0 hcv hrow hn1 hn2
    obtain ⟨m1, rfl⟩ : ∃ m, a1 = m + 1 := ⟨a1 - 1, by omega⟩
    obtain ⟨m2, rfl⟩ : ∃ m, a2 = m + 1 := ⟨a2 - 1, by omega⟩
    simp only [fX0_loadOfCross_L10, fX4_cross_L65, ltT (show k < row by omega) (show row < 2 ^ 31 by omega), if_true]
    exact ⟨_, rfl, rfl⟩
  | succ c ih =>
    intro row t v a1 a2 last ht hv hv0 hcv hrow hn1 hn2
    obtain ⟨m1, rfl⟩ : ∃ m, a1 = m + 1 := ⟨a1 - 1, by omega⟩
    obtain ⟨m2, rfl⟩ : ∃ m, a2 = m + 1 := ⟨a2 - 1, by omega⟩
    obtain ⟨d, d1, d2, d3, d4, d5, d6⟩ := first_R hr tw tf hfr h ht hv hv0 (by omega) (show 60 ≤ m1 by omega) (show 60 ≤ m2 by omega)
    have hx := xo_d t (by omega) d (by omega) d3
    have hxl := owlt t (by omega) d (by omega) d1 d3
    simp only [fX0_loadOfCross_L10, fX4_cross_L65, ltF (show row ≤ k by omega) (show k < 2 ^ 31 by omega), if_false, d5, d6, Option.bind_some, hx, ow_d t (show t < 32 by omega) d (show d < 32 by omega), nI_1]
    exact ih (row + 1) (ow t d) (v - 1) m1 m2 (nI d) (by omega) d4 (by omega) (by omega) (by omega) (by omega) (by omega)
theorem q_cross {σ τ : St} (h : Rl σ τ) (x : Int32) : ∃ r σ' τ', fX3_cross 1300 σ x = some (r, σ') ∧ fX4_cross 1300 τ x = some (r, τ') ∧ Rl σ' τ' := by
  obtain ⟨P, lam, rd, hr, hd, hs, hz⟩ := id h
  have h5 : P ≤ 5 := hr.1
  have h32 := p32 h5
  have h1p : 1 ≤ 2 ^ P := Nat.one_le_two_pow
  rw [fX3_cross, fX4_cross, wi]
  rcases the hr with ⟨a, b⟩ | ⟨a, b, hP0⟩
  · rw [a, if_pos b]; exact ⟨_, _, _, rfl, rfl, h⟩
  · rw [a, if_neg b]
    simp only [if_true, if_false, Option.bind_some, i10, i01, im1, im2, im3, im9]
    by_cases c0 : x < -1
    · simp only [if_pos c0, if_true, if_false, Option.bind_some, i10, i01, im1, im2, im3, im9]; exact ⟨_, _, _, rfl, rfl, h⟩
    · by_cases c1 : x < 5
      · have c1' : ¬ 4 < x := by
          rw [Int32.lt_iff_toInt_lt] at *
          have e5 : (5 : Int32).toInt = 5 := by decide
          have e4 : (4 : Int32).toInt = 4 := by decide
          omega
        obtain ⟨fr, hfr⟩ := fr_ex hr hz.2.2.1 hz.2.2.2
        obtain ⟨σ', τ', iv, f1, f2, f3⟩ := few_R hr hz.2.2.1 hz.2.2.2 hfr (show 1300 ≤ 1300 by decide) (show 1300 ≤ 1300 by decide)
        have fin : Rl σ' τ' := by
          obtain ⟨ia, ib, -⟩ := iv
          refine ⟨P, lam, rd, hr.mv (fun _ _ => ia _ _ (by decide) (by decide)) (fun _ => ia _ _ (by decide) (by decide)) (fun _ _ _ => ia _ _ (by omega) (by omega)) (fun _ _ _ => ib _ _ (by decide)) (fun _ => ib _ _ (by decide)) (fun _ => ib _ _ (by decide)) (fun _ => ib _ _ (by decide)), hd.mv (ia _ _ (by decide) (by decide)) (fun _ _ => ia _ _ (by decide) (by decide)) (fun _ _ => ia _ _ (by decide) (by decide)) (ib _ _ (by decide)) (fun _ _ => ib _ _ (by decide)) (fun _ _ => ib _ _ (by decide)), hs.mv (fun _ _ _ => ia _ _ (by omega) (by omega)) (fun _ => ib _ _ (by decide)) (fun _ => ib _ _ (by decide)) (fun _ => ib _ _ (by decide)), hz.mv (ia _ _ (by decide) (by decide)) (ia _ _ (by decide) (by decide)) (ib _ _ (by decide)) (ib _ _ (by decide)) (ib _ _ (by decide)) (ib _ _ (by decide))⟩
        have ev := evb (iv.rs hr)
        have h5t : τ' 0 5 = nI P := by rw [iv.2.1 _ _ (by decide)]; exact hr.2.2.2.1
        have ea : ((1 : Int32) <<< (nI P &&& 31)) - 1 = nI (2 ^ P - 1) := by rw [all5 P h5, ← n1, pk_sub h1p]
        simp only [if_neg c0, if_pos c1, if_neg c1', if_true, if_false, Option.bind_some, i10, i01, im1, im2, im3, im9, f1, f2, ev, h5t, ea, cN (show 2 ^ P - 1 < 2 ^ 31 by omega), gP (show 2 ^ P - 1 < 32 by omega) (by decide), iv.2.2.1 _ (show 2 ^ P - 1 < 2 ^ P by omega)]
        rcases iv.2.2.2.2 _ (show 2 ^ P - 1 < 2 ^ P by omega) with ⟨-, q⟩ | ⟨w, q1, q2, -⟩
        · simp only [q, if_true]
          by_cases cm : x = -1
          · simp only [if_pos cm]; exact ⟨_, _, _, rfl, rfl, fin⟩
          · have c9 : ¬ x < -9 := fun g => c0 (by
              rw [Int32.lt_iff_toInt_lt] at *
              have e9 : (-9 : Int32).toInt = -9 := by decide
              have e1 : (-1 : Int32).toInt = -1 := by decide
              omega)
            simp only [if_neg cm, if_neg c9]; exact ⟨_, _, _, rfl, rfl, fin⟩
        · simp only [q2, if_neg (nIne9 (show w < 2 ^ 31 by omega))]
          by_cases cm : x = -1
          · simp only [if_pos cm]; exact ⟨_, _, _, rfl, rfl, fin⟩
          · simp only [if_neg cm]
            have cp : ¬ x < 0 := by
              intro g
              apply cm
              apply Int32.toInt_inj.mp
              rw [Int32.lt_iff_toInt_lt] at *
              have e1 : (-1 : Int32).toInt = -1 := by decide
              rw [zeroI] at g
              omega
            obtain ⟨k, hk, rfl⟩ := nI_of2 (M := 4) (n := 4) (by decide) cp (Int32.not_lt.mp c1')
            by_cases ck : w ≤ k
            · simp only [leT ck (show k < 2 ^ 31 by omega), ltF ck (show k < 2 ^ 31 by omega), if_true, if_false]; exact ⟨_, _, _, rfl, rfl, fin⟩
            · simp only [leF (show k < w by omega) (show w < 2 ^ 31 by omega), ltT (show k < w by omega) (show w < 2 ^ 31 by omega), if_true, if_false, fX0_loadOfCross, ev, Option.bind_some]
              obtain ⟨r, g1, g2⟩ := rows_L hr hz.2.2.1 hz.2.2.2 hfr iv (show k < 5 by omega) (k + 1) 0 (2 ^ P - 1) w 1300 1300 0 (by omega) q2 (by omega) (by omega) (by omega) (by omega) (by omega)
              rw [n0] at g1 g2
              rw [g1, g2]
              exact ⟨_, _, _, rfl, rfl, fin⟩
      · have c1' : 4 < x := by
          rw [Int32.lt_iff_toInt_lt] at *
          have e5 : (5 : Int32).toInt = 5 := by decide
          have e4 : (4 : Int32).toInt = 4 := by decide
          omega
        simp only [if_neg c0, if_neg c1, if_pos c1', if_true, if_false, Option.bind_some, i10, i01, im1, im2, im3, im9]; exact ⟨_, _, _, rfl, rfl, h⟩
