/-! LOADS THAT ARE TOLD -/
def Pu (σ0 τ0 : St) (P lam : Nat) (pu : Nat → Nat) : Prop := ∀ l, l < 32 → pu l < 2 ^ P ∧ (∀ (σ : St) (n : Nat), Rr σ τ0 P lam → 12 ≤ n → fX0_pullersOf n σ (nI l) = some (nI (pu l))) ∧ (∀ (τ : St) (n : Nat), Rr σ0 τ P lam → τ 0 18 = 0 → τ 0 19 = 0 → 12 ≤ n → fX4_pullersOf n τ (nI l) = some (nI (pu l)))
theorem pu_ex {σ0 τ0 : St} {P lam : Nat} (h : Rr σ0 τ0 P lam) (tw : τ0 0 18 = 0) (tf : τ0 0 19 = 0) : ∃ pu, Pu σ0 τ0 P lam pu := by
  have key : ∀ l : Nat, ∃ u : Nat, l < 32 → u < 2 ^ P ∧ (∀ (σ : St) (n : Nat), Rr σ τ0 P lam → 12 ≤ n → fX0_pullersOf n σ (nI l) = some (nI u)) ∧ (∀ (τ : St) (n : Nat), Rr σ0 τ P lam → τ 0 18 = 0 → τ 0 19 = 0 → 12 ≤ n → fX4_pullersOf n τ (nI l) = some (nI u)) := by
    intro l
    by_cases hl : l < 32
    · obtain ⟨u, hu, -, a, b⟩ := pull_0 h hl tw tf (show 12 ≤ 12 by decide) (show 12 ≤ 12 by decide)
      refine ⟨u, fun _ => ⟨hu, fun σ n hs hn => ?_, fun τ n ht t1 t2 hn => ?_⟩⟩
      · obtain ⟨r2, -, -, a2, b2⟩ := pull_0 hs hl tw tf hn (show 12 ≤ 12 by decide)
        rw [b] at b2
        rw [a2, Option.some.inj b2]
      · obtain ⟨r2, -, -, a2, b2⟩ := pull_0 ht hl t1 t2 (show 12 ≤ 12 by decide) hn
        rw [a] at a2
        rw [b2, Option.some.inj a2]
    · exact ⟨0, fun q => absurd q hl⟩
  obtain ⟨f, hf⟩ := Classical.skolem.mp key
  exact ⟨f, hf⟩
def cnt (f : Nat → Bool) : Nat → Int32
  | 0 => 0
  | a + 1 => if f a = true then cnt f a + 1 else cnt f a
def orr (ld : Nat → Nat) : Nat → Int32
  | 0 => 0
  | a + 1 => orr ld a ||| nI (ld a)
def fQ (pu ld : Nat → Nat) (j : Nat) : Bool := decide (1 < pc 5 (pu (ld j)))
def fD (pu ld : Nat → Nat) (j : Nat) : Bool := decide (pu (ld j) = 0)
def fP (pu ld : Nat → Nat) (p j : Nat) : Bool := decide (pu (ld j) / 2 ^ p % 2 = 1)
def fF (fr : Nat → Int32) (ld : Nat → Nat) (j : Nat) : Bool := decide (¬ fr (ld j) = 0)
def Ag (τ0 τ : St) : Prop := ∀ z j, ¬ (z = 0 ∧ 20 ≤ j ∧ j ≤ 23) → z ≠ 10 → τ z j = τ0 z j
def GI (P : Nat) (fr : Nat → Int32) (pu ld : Nat → Nat) (τ : St) (a : Nat) : Prop := τ 0 20 = cnt (fF fr ld) a ∧ τ 0 21 = cnt (fQ pu ld) a ∧ τ 0 22 = cnt (fD pu ld) a ∧ τ 0 23 = orr ld a ∧ ∀ p, p < P → τ 10 p = cnt (fP pu ld p) a
theorem Ag.rt {σ0 τ0 τ : St} {P lam : Nat} (h : Ag τ0 τ) (hr : Rr σ0 τ0 P lam) : Rr σ0 τ P lam := hr.mv (fun _ _ => rfl) (fun _ => rfl) (fun _ _ _ => rfl) (fun _ _ _ => h _ _ (by omega) (by decide)) (fun _ => h _ _ (by omega) (by decide)) (fun _ => h _ _ (by omega) (by decide)) (fun _ => h _ _ (by omega) (by decide))
theorem pul_L {P : Nat} (h5 : P ≤ 5) {u : Nat} (hu : u < 32) (b mm aa : Int32) : ∀ (c p n : Nat) (τ : St), τ 0 5 = nI P → p + c = P → c < n → ∃ τ' n3, n ≤ n3 + c + 1 ∧ fX4_goLoads_G42 n 1 τ b mm aa (nI u) (nI p) = fX4_goLoads_G42 n3 0 τ' b mm (aa + 1) 0 0 ∧ (∀ z j, z ≠ 10 → τ' z j = τ z j) ∧ ∀ q, q < P → τ' 10 q = if p ≤ q ∧ u / 2 ^ q % 2 = 1 then τ 10 q + 1 else τ 10 q := by
  intro c
  induction c with
  | zero =>
    intro p n τ h2 hp hn
    obtain ⟨m, rfl⟩ : ∃ m, n = m + 1 := ⟨n - 1, by omega⟩
    refine ⟨τ, m, by omega, ?_, fun _ _ _ => rfl, fun q hq => by rw [if_neg (by omega)]⟩
    rw [fX4_goLoads_G42, if_neg (by decide), h2, if_pos (nI_le (by omega) (by omega))]
  | succ c ih =>
    intro p n τ h2 hp hn
    obtain ⟨m, rfl⟩ : ∃ m, n = m + 1 := ⟨n - 1, by omega⟩
    rw [fX4_goLoads_G42, if_neg (by decide)]
    simp only [h2, leF (show p < P by omega) (show P < 2 ^ 31 by omega), if_false, cN (show p < 2 ^ 31 by omega), gP (show p < 5 by omega) (by decide), nI_1, add0]
    rcases b01 u p with cb | cb
    · obtain ⟨τ', n3, g1, g2, g3, g4⟩ := ih (p + 1) m (up2 τ 10 p (τ 10 p)) (by rw [upz (by decide)]; exact h2) (by omega) (by omega)
      simp only [of0 hu (show p < 5 by omega) cb, Option.bind_some, if_true]
      refine ⟨τ', n3, by omega, g2, fun z j hz => by rw [g3 z j hz, upz hz], fun q hq => ?_⟩
      rw [g4 q hq]
      by_cases e : q = p
      · subst e; rw [if_neg (by omega), upe, if_neg (by omega)]
      · rw [upj e]
        by_cases e2 : p + 1 ≤ q ∧ u / 2 ^ q % 2 = 1
        · rw [if_pos e2, if_pos ⟨by omega, e2.2⟩]
        · rw [if_neg e2, if_neg (fun g => e2 ⟨by omega, g.2⟩)]
    · obtain ⟨τ', n3, g1, g2, g3, g4⟩ := ih (p + 1) m (up2 τ 10 p (τ 10 p + 1)) (by rw [upz (by decide)]; exact h2) (by omega) (by omega)
      simp only [of1 hu (show p < 5 by omega) cb, Option.bind_some, i10, if_false]
      refine ⟨τ', n3, by omega, g2, fun z j hz => by rw [g3 z j hz, upz hz], fun q hq => ?_⟩
      rw [g4 q hq]
      by_cases e : q = p
      · subst e; rw [if_neg (by omega), upe, if_pos ⟨by omega, cb⟩]
      · rw [upj e]
        by_cases e2 : p + 1 ≤ q ∧ u / 2 ^ q % 2 = 1
        · rw [if_pos e2, if_pos ⟨by omega, e2.2⟩]
        · rw [if_neg e2, if_neg (fun g => e2 ⟨by omega, g.2⟩)]
theorem go_L {σ0 τ0 : St} {P lam k i m : Nat} {fr : Nat → Int32} {pu ld : Nat → Nat} (hr : Rr σ0 τ0 P lam) (tw : τ0 0 18 = 0) (tf : τ0 0 19 = 0) (hfr : Fr σ0 τ0 P lam fr) (hpu : Pu σ0 τ0 P lam pu) (hk : k < 4) (him : i + m ≤ 60) (hc : ∀ j, j < m → ld j < 2 ^ P ∧ σ0 (6 + k) (i + j) = nI (ld j) ∧ τ0 3 (60 * k + i + j) = nI (ld j)) :
    ∀ (c a n1 n2 : Nat) (τ : St), Ag τ0 τ → GI P fr pu ld τ a → a + c = m → c + 30 ≤ n1 → 8 * c + 30 ≤ n2 →
      ∃ τ', Ag τ0 τ' ∧ ((∃ w, w < 60 ∧ fX0_firstWrong_L6 n1 σ0 k (nI i) (nI m) (orr ld a) (nI a) = some (nI w) ∧ fX4_goLoads_G42 n2 0 τ (nI (60 * k + i)) (nI m) (nI a) 0 0 = some (nI w, τ')) ∨ (fX0_firstWrong_L6 n1 σ0 k (nI i) (nI m) (orr ld a) (nI a) = some (-9) ∧ fX4_goLoads_G42 n2 0 τ (nI (60 * k + i)) (nI m) (nI a) 0 0 = some (-9, τ') ∧ GI P fr pu ld τ' m)) := by
  have h5 : P ≤ 5 := hr.1
  have h32 := p32 h5
  intro c
  induction c with
  | zero =>
    intro a n1 n2 τ hA hG ha hn1 hn2
    obtain ⟨m1, rfl⟩ : ∃ m, n1 = m + 1 := ⟨n1 - 1, by omega⟩
    obtain ⟨m2, rfl⟩ : ∃ m, n2 = m + 1 := ⟨n2 - 1, by omega⟩
    have : a = m := by omega
    subst this
    refine ⟨τ, hA, Or.inr ⟨?_, ?_, hG⟩⟩
    · rw [fX0_firstWrong_L6, if_pos Int32.le_rfl]
    · rw [fX4_goLoads_G42, if_pos rfl, if_pos Int32.le_rfl]
  | succ c ih =>
    intro a n1 n2 τ hA hG ha hn1 hn2
    obtain ⟨m1, rfl⟩ : ∃ m, n1 = m + 1 := ⟨n1 - 1, by omega⟩
    obtain ⟨m2, rfl⟩ : ∃ m, n2 = m + 1 := ⟨n2 - 1, by omega⟩
    obtain ⟨hl, e1, e2⟩ := hc a (by omega)
    have hl32 : ld a < 32 := by omega
    have e2' : τ 3 (60 * k + i + a) = nI (ld a) := by rw [hA _ _ (by omega) (by decide)]; exact e2
    have hroom : σ0 10 1 = τ0 0 6 := hr.2.2.2.2.1
    have hroom' : τ 0 6 = τ0 0 6 := hA _ _ (by omega) (by decide)
    obtain ⟨q20, q21, q22, q23, q10⟩ := hG
    have hrt := hA.rt hr
    have tw' : τ 0 18 = 0 := by rw [hA _ _ (by omega) (by decide)]; exact tw
    have tf' : τ 0 19 = 0 := by rw [hA _ _ (by omega) (by decide)]; exact tf
    have hA2 : Ag τ0 (up2 τ 0 23 (orr ld a ||| nI (ld a))) := fun z j g1 g2 => by rw [up2e, if_neg (by omega)]; exact hA z j g1 g2
    have pm := (hpu (ld a) hl32).2.2 τ m2 hrt tw' tf' (by omega)
    have fm := (hfr (ld a) hl32).2.2 _ m2 (hA2.rt hr) (by rw [upj (by decide)]; exact tw') (by rw [upj (by decide)]; exact tf') (by omega)
    have hu := (hpu (ld a) hl32).1
    have hu32 : pu (ld a) < 32 := by omega
    rw [fX0_firstWrong_L6, fX4_goLoads_G42, if_pos (show (0 : Nat) = 0 from rfl)]
    simp only [leF (show a < m by omega) (show m < 2 ^ 31 by omega), if_false, nI_add, nI_1, cN (show i + a < 2 ^ 31 by omega), gP (show i + a < 60 by omega) (by decide), cN (show 60 * k + i + a < 2 ^ 31 by omega), gP (show 60 * k + i + a < 240 by omega) (by decide), e1, e2', bitc (ld a) hl32, sizeN hl32 (show 6 ≤ m2 by omega), sizeN hu32 (show 6 ≤ m2 by omega), Option.bind_some, hroom, hroom', q23, pm, fm]
    by_cases c0 : nI (ld a) = 0
    · simp only [if_pos c0]; exact ⟨τ, hA, Or.inl ⟨a, by omega, rfl, rfl⟩⟩
    · simp only [if_neg c0]
      by_cases c1 : τ0 0 6 < nI (pc 5 (ld a))
      · simp only [if_pos c1]; exact ⟨τ, hA, Or.inl ⟨a, by omega, rfl, rfl⟩⟩
      · simp only [if_neg c1]
        by_cases c2 : nI (ld a) &&& orr ld a = 0
        · simp only [if_pos c2]
          simp (disch := omega) only [upj, upz, upe, q20, q21, q22, add0]
          have fin : ∀ F Q D : Int32, F = cnt (fF fr ld) (a + 1) → Q = cnt (fQ pu ld) (a + 1) → D = cnt (fD pu ld) (a + 1) → ∃ τ', Ag τ0 τ' ∧ ((∃ w, w < 60 ∧ fX0_firstWrong_L6 m1 σ0 k (nI i) (nI m) (orr ld a ||| nI (ld a)) (nI (a + 1)) = some (nI w) ∧ fX4_goLoads_G42 m2 1 (up2 (up2 (up2 (up2 τ 0 23 (orr ld a ||| nI (ld a))) 0 20 F) 0 21 Q) 0 22 D) (nI (60 * k + i)) (nI m) (nI a) (nI (pu (ld a))) 0 = some (nI w, τ')) ∨ (fX0_firstWrong_L6 m1 σ0 k (nI i) (nI m) (orr ld a ||| nI (ld a)) (nI (a + 1)) = some (-9) ∧ fX4_goLoads_G42 m2 1 (up2 (up2 (up2 (up2 τ 0 23 (orr ld a ||| nI (ld a))) 0 20 F) 0 21 Q) 0 22 D) (nI (60 * k + i)) (nI m) (nI a) (nI (pu (ld a))) 0 = some (-9, τ') ∧ GI P fr pu ld τ' m)) := by
            intro F Q D hF hQ hD
            obtain ⟨τ1, n3, g1, g2, g3, g4⟩ := pul_L h5 hu32 (nI (60 * k + i)) (nI m) (nI a) P 0 m2 (up2 (up2 (up2 (up2 τ 0 23 (orr ld a ||| nI (ld a))) 0 20 F) 0 21 Q) 0 22 D) (by simp (disch := omega) only [upj]; rw [hA _ _ (by omega) (by decide)]; exact hr.2.2.2.1) (by omega) (by omega)
            rw [n0, nI_1] at g2
            rw [g2]
            have hA1 : Ag τ0 τ1 := fun z j w1 w2 => by
              rw [g3 z j w2, up2e, if_neg (by omega), up2e, if_neg (by omega), up2e, if_neg (by omega), up2e, if_neg (by omega)]
              exact hA z j w1 w2
            have hG1 : GI P fr pu ld τ1 (a + 1) := by
              refine ⟨?_, ?_, ?_, ?_, fun p hp => ?_⟩
              · rw [g3 _ _ (by decide), upj (by decide), upj (by decide), upe]; exact hF
              · rw [g3 _ _ (by decide), upj (by decide), upe]; exact hQ
              · rw [g3 _ _ (by decide), upe]; exact hD
              · rw [g3 _ _ (by decide), upj (by decide), upj (by decide), upj (by decide), upe]; rfl
              · rw [g4 p hp, upz (by decide), upz (by decide), upz (by decide), upz (by decide), q10 p hp, cnt]
                by_cases e : pu (ld a) / 2 ^ p % 2 = 1
                · rw [if_pos ⟨by omega, e⟩, if_pos (by rw [fP]; exact decide_eq_true e)]
                · rw [if_neg (fun g => e g.2), if_neg (by rw [fP, decide_eq_false e]; decide)]
            exact ih (a + 1) m1 n3 τ1 hA1 hG1 (by omega) (by omega) (by omega)
          have kF : ∀ r, r = fr (ld a) → (r = 0 → cnt (fF fr ld) a = cnt (fF fr ld) (a + 1)) ∧ (¬ r = 0 → cnt (fF fr ld) a + 1 = cnt (fF fr ld) (a + 1)) := by
            intro r hr0
            subst hr0
            exact ⟨fun g => by rw [cnt, if_neg (by simp [fF, g])], fun g => by rw [cnt, if_pos (by simp [fF, g])]⟩
          have kQ : (nI (pc 5 (pu (ld a))) ≤ 1 → cnt (fQ pu ld) a = cnt (fQ pu ld) (a + 1)) ∧ (¬ nI (pc 5 (pu (ld a))) ≤ 1 → cnt (fQ pu ld) a + 1 = cnt (fQ pu ld) (a + 1)) := by
            have hp5 := pcle _ hu32
            refine ⟨fun g => ?_, fun g => ?_⟩
            · have : ¬ 1 < pc 5 (pu (ld a)) := fun q => nI_ge (b := pc 5 (pu (ld a))) q (by omega) g
              rw [cnt, if_neg (by simp [fQ, this])]
            · have : 1 < pc 5 (pu (ld a)) := by
                rcases Nat.lt_or_ge 1 (pc 5 (pu (ld a))) with q | q
                · exact q
                · exact absurd (nI_le (b := 1) q (by decide)) g
              rw [cnt, if_pos (by simp [fQ, this])]
          have kD : (nI (pu (ld a)) = 0 → cnt (fD pu ld) a + 1 = cnt (fD pu ld) (a + 1)) ∧ (¬ nI (pu (ld a)) = 0 → cnt (fD pu ld) a = cnt (fD pu ld) (a + 1)) := by
            refine ⟨fun g => ?_, fun g => ?_⟩
            · have : pu (ld a) = 0 := (nI_eq (by omega) (by omega)).mp (g.trans n0.symm)
              rw [cnt, if_pos (by simp [fD, this])]
            · have : ¬ pu (ld a) = 0 := fun q => g (by rw [q]; rfl)
              rw [cnt, if_neg (by simp [fD, this])]
          by_cases d1 : fr (ld a) = 0
          · simp only [if_pos d1]
            by_cases d2 : nI (pc 5 (pu (ld a))) ≤ 1
            · simp only [if_pos d2]
              by_cases d3 : nI (pu (ld a)) = 0
              · simp only [if_pos d3]; exact fin _ _ _ ((kF _ rfl).1 d1) (kQ.1 d2) (kD.1 d3)
              · simp only [if_neg d3]; exact fin _ _ _ ((kF _ rfl).1 d1) (kQ.1 d2) (kD.2 d3)
            · simp only [if_neg d2]
              by_cases d3 : nI (pu (ld a)) = 0
              · simp only [if_pos d3]; exact fin _ _ _ ((kF _ rfl).1 d1) (kQ.2 d2) (kD.1 d3)
              · simp only [if_neg d3]; exact fin _ _ _ ((kF _ rfl).1 d1) (kQ.2 d2) (kD.2 d3)
          · simp only [if_neg d1]
            by_cases d2 : nI (pc 5 (pu (ld a))) ≤ 1
            · simp only [if_pos d2]
              by_cases d3 : nI (pu (ld a)) = 0
              · simp only [if_pos d3]; exact fin _ _ _ ((kF _ rfl).2 d1) (kQ.1 d2) (kD.1 d3)
              · simp only [if_neg d3]; exact fin _ _ _ ((kF _ rfl).2 d1) (kQ.1 d2) (kD.2 d3)
            · simp only [if_neg d2]
              by_cases d3 : nI (pu (ld a)) = 0
              · simp only [if_pos d3]; exact fin _ _ _ ((kF _ rfl).2 d1) (kQ.2 d2) (kD.1 d3)
              · simp only [if_neg d3]; exact fin _ _ _ ((kF _ rfl).2 d1) (kQ.2 d2) (kD.2 d3)
        · simp only [if_neg c2]; exact ⟨τ, hA, Or.inl ⟨a, by omega, rfl, rfl⟩⟩
