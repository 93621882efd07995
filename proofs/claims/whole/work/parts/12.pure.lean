def fX0_isThere (σ : St) : Option Int32 :=
  if σ 10 0 ≤ 0 then
    (some 0)
  else
    (some 1)
def fX0_isPerson (σ : St) (v1 : Int32) : Option Int32 :=
  if v1 < 0 then
    (some 0)
  else
    (if σ 10 0 ≤ v1 then
      (some 0)
    else
      (some 1))
def fX0_isPair (σ : St) (v1 : Int32) (v2 : Int32) : Option Int32 :=
  (fX0_isPerson σ v1).bind fun r2 =>
  if r2 = 0 then
    (some 0)
  else
    ((fX0_isPerson σ v2).bind fun r5 =>
    if r5 = 0 then
      (some 0)
    else
      (if v1 = v2 then
        (some 0)
      else
        (some 1)))
def fX0_everybody (σ : St) : Option Int32 :=
  some (((1 : Int32) <<< ((σ 10 0) &&& 31)) - 1)
def fX0_isLoad (σ : St) (v1 : Int32) : Option Int32 :=
  if v1 < 0 then
    (some 0)
  else
    ((fX0_everybody σ).bind fun r3 =>
    if r3 < v1 then
      (some 0)
    else
      (some 1))
def fX2_kindOf (v0 : Int32) : Option Int32 :=
  if v0 = 98 then
    (some 2)
  else
    (if v0 = 102 then
      (some 1)
    else
      (if v0 = 114 then
        (some 0)
      else
        (some (-9))))
def fX0_takeText_G62 : Nat → Nat → St → Nat → Int32 → Int32 → Int32 → Option St
  | 0, _, _, _, _, _, _ => none
  | n + 1, lab, σ, k1, v3, v4, v5 =>
    if lab = 0 then
      (if σ 10 0 ≤ v4 then
        (some σ)
      else
        (if v3 + 1 < 0 ∨ 60 ≤ (v3 + 1).toNatClampNeg then none else
        (fX2_kindOf (σ (6 + k1) (v3 + 1).toNatClampNeg)).bind fun r7 =>
        if v4 < 0 ∨ 5 ≤ v4.toNatClampNeg then none else
        if v3 + 2 < 0 ∨ 60 ≤ (v3 + 2).toNatClampNeg then none else
        fX0_takeText_G62 n 1 (up2 (up2 σ 11 v4.toNatClampNeg r7) 10 3 (((up2 σ 11 v4.toNatClampNeg r7) 10 3) ||| ((((up2 σ 11 v4.toNatClampNeg r7) (6 + k1) (v3 + 2).toNatClampNeg) - 48) <<< (v4 &&& 31)))) k1 (v3 + 3) v4 0))
    else 
      (if σ 10 0 ≤ v5 then
        (fX0_takeText_G62 n 0 σ k1 (v3 + (σ 10 0)) (v4 + 1) 0)
      else
        (if v4 < 0 ∨ 5 ≤ v4.toNatClampNeg then none else
        if v3 + v5 < 0 ∨ 60 ≤ (v3 + v5).toNatClampNeg then none else
        if v5 < 0 ∨ 5 ≤ v5.toNatClampNeg then none else
        fX0_takeText_G62 n 1 (up2 σ (13 + v4.toNatClampNeg) v5.toNatClampNeg ((σ (6 + k1) (v3 + v5).toNatClampNeg) - 48)) k1 v3 v4 (v5 + 1)))
def fX0_takeText (n : Nat) (σ : St) (k1 : Nat) (v2 : Int32) : Option St :=
  if v2 + 1 < 0 ∨ 60 ≤ (v2 + 1).toNatClampNeg then none else
  if v2 + 2 < 0 ∨ 60 ≤ (v2 + 2).toNatClampNeg then none else
  if v2 + 3 < 0 ∨ 60 ≤ (v2 + 3).toNatClampNeg then none else
  fX0_takeText_G62 n 0 (up2 (up2 (up2 (up2 (up2 σ 10 1 ((σ (6 + k1) (v2 + 1).toNatClampNeg) - 48)) 10 2 (((up2 σ 10 1 ((σ (6 + k1) (v2 + 1).toNatClampNeg) - 48)) (6 + k1) (v2 + 2).toNatClampNeg) - 48)) 10 0 (((up2 (up2 σ 10 1 ((σ (6 + k1) (v2 + 1).toNatClampNeg) - 48)) 10 2 (((up2 σ 10 1 ((σ (6 + k1) (v2 + 1).toNatClampNeg) - 48)) (6 + k1) (v2 + 2).toNatClampNeg) - 48)) (6 + k1) (v2 + 3).toNatClampNeg) - 48)) 10 3 0) 10 6 0) k1 (v2 + 4) 0 0
def fX0_allNotes_L4 : Nat → St → Int32 → Int32 → Int32 → Option Int32
  | 0, _, _, _, _ => none
  | n + 1, σ, v1, v2, v3 =>
    if σ 10 0 ≤ v3 then
      (some v2)
    else
      (if v1 < 0 ∨ 5 ≤ v1.toNatClampNeg then none else
      if v3 < 0 ∨ 5 ≤ v3.toNatClampNeg then none else
      fX0_allNotes_L4 n σ v1 (v2 + (σ (13 + v1.toNatClampNeg) v3.toNatClampNeg)) (v3 + 1))
def fX0_allNotes (n : Nat) (σ : St) (v1 : Int32) : Option Int32 :=
  fX0_allNotes_L4 n σ v1 0 0
def fX0_debtIf_L6 : Nat → St → Int32 → Int32 → Int32 → Int32 → Int32 → Option Int32
  | 0, _, _, _, _, _, _ => none
  | n + 1, σ, v1, v2, v3, v4, v5 =>
    if σ 10 0 ≤ v5 then
      (if v1 < 0 ∨ 5 ≤ v1.toNatClampNeg then none else
      if σ 11 v1.toNatClampNeg = 1 then
        (if v4 ≤ 0 then
          (some 0)
        else
          (some (v4 - 1)))
      else
        (if σ 11 v1.toNatClampNeg = 2 then
          (some (v4 / 2))
        else
          (some v4)))
    else
      (if (v3 >>> (v5 &&& 31)) &&& 1 = 0 then
        (if (v2 >>> (v5 &&& 31)) &&& 1 = 1 then
          (if v1 < 0 ∨ 5 ≤ v1.toNatClampNeg then none else
          if v5 < 0 ∨ 5 ≤ v5.toNatClampNeg then none else
          fX0_debtIf_L6 n σ v1 v2 v3 (v4 + ((σ 10 2) * (σ (13 + v1.toNatClampNeg) v5.toNatClampNeg))) (v5 + 1))
        else
          (if v1 < 0 ∨ 5 ≤ v1.toNatClampNeg then none else
          if v5 < 0 ∨ 5 ≤ v5.toNatClampNeg then none else
          fX0_debtIf_L6 n σ v1 v2 v3 (v4 + (σ (13 + v1.toNatClampNeg) v5.toNatClampNeg)) (v5 + 1)))
      else
        (fX0_debtIf_L6 n σ v1 v2 v3 v4 (v5 + 1)))
def fX0_debtIf (n : Nat) (σ : St) (v1 : Int32) (v2 : Int32) (v3 : Int32) : Option Int32 :=
  fX0_debtIf_L6 n σ v1 v2 v3 0 0
def fX0_pullersIf_L16 : Nat → St → Int32 → Int32 → Int32 → Int32 → Int32 → Int32 → Option Int32
  | 0, _, _, _, _, _, _, _ => none
  | n + 1, σ, v1, v2, v4, v5, v6, v7 =>
    if σ 10 0 ≤ v7 then
      (some v5)
    else
      (if (v6 >>> (v7 &&& 31)) &&& 1 = 1 then
        ((fX0_debtIf n σ v7 v1 v2).bind fun r5 =>
        if r5 ≤ v4 then
          (if r5 ≤ 0 then
            (fX0_pullersIf_L16 n σ v1 v2 v4 v5 v6 (v7 + 1))
          else
            (if r5 = v4 then
              (fX0_pullersIf_L16 n σ v1 v2 v4 (v5 ||| ((1 : Int32) <<< (v7 &&& 31))) v6 (v7 + 1))
            else
              (fX0_pullersIf_L16 n σ v1 v2 v4 v5 v6 (v7 + 1))))
        else
          (fX0_pullersIf_L16 n σ v1 v2 r5 ((1 : Int32) <<< (v7 &&& 31)) v6 (v7 + 1)))
      else
        (if 0 ≤ v4 then
          (fX0_pullersIf_L16 n σ v1 v2 v4 v5 v6 (v7 + 1))
        else
          (fX0_pullersIf_L16 n σ v1 v2 0 ((1 : Int32) <<< (v7 &&& 31)) v6 (v7 + 1))))
def fX0_pullersIf (n : Nat) (σ : St) (v1 : Int32) (v2 : Int32) (v3 : Int32) : Option Int32 :=
  fX0_pullersIf_L16 n σ v1 v2 0 0 (v1 &&& (v3 ^^^ (-1))) 0
def fX0_pullersOf (n : Nat) (σ : St) (v1 : Int32) : Option Int32 :=
  (fX0_pullersIf n σ v1 0 0).bind fun r2 =>
  some r2
def fJ6_bitCount (v0 : Int32) : Option Int32 :=
  some ((((((((v0 - (((v0.toUInt32 >>> ((1 : Int32).toUInt32 &&& Int32.toUInt32 31)).toInt32) &&& 1431655765)) &&& 858993459) + ((((v0 - (((v0.toUInt32 >>> ((1 : Int32).toUInt32 &&& Int32.toUInt32 31)).toInt32) &&& 1431655765)).toUInt32 >>> ((2 : Int32).toUInt32 &&& Int32.toUInt32 31)).toInt32) &&& 858993459)) + (((((v0 - (((v0.toUInt32 >>> ((1 : Int32).toUInt32 &&& Int32.toUInt32 31)).toInt32) &&& 1431655765)) &&& 858993459) + ((((v0 - (((v0.toUInt32 >>> ((1 : Int32).toUInt32 &&& Int32.toUInt32 31)).toInt32) &&& 1431655765)).toUInt32 >>> ((2 : Int32).toUInt32 &&& Int32.toUInt32 31)).toInt32) &&& 858993459)).toUInt32 >>> ((4 : Int32).toUInt32 &&& Int32.toUInt32 31)).toInt32)) &&& 252645135) + (((((((v0 - (((v0.toUInt32 >>> ((1 : Int32).toUInt32 &&& Int32.toUInt32 31)).toInt32) &&& 1431655765)) &&& 858993459) + ((((v0 - (((v0.toUInt32 >>> ((1 : Int32).toUInt32 &&& Int32.toUInt32 31)).toInt32) &&& 1431655765)).toUInt32 >>> ((2 : Int32).toUInt32 &&& Int32.toUInt32 31)).toInt32) &&& 858993459)) + (((((v0 - (((v0.toUInt32 >>> ((1 : Int32).toUInt32 &&& Int32.toUInt32 31)).toInt32) &&& 1431655765)) &&& 858993459) + ((((v0 - (((v0.toUInt32 >>> ((1 : Int32).toUInt32 &&& Int32.toUInt32 31)).toInt32) &&& 1431655765)).toUInt32 >>> ((2 : Int32).toUInt32 &&& Int32.toUInt32 31)).toInt32) &&& 858993459)).toUInt32 >>> ((4 : Int32).toUInt32 &&& Int32.toUInt32 31)).toInt32)) &&& 252645135).toUInt32 >>> ((8 : Int32).toUInt32 &&& Int32.toUInt32 31)).toInt32)) + ((((((((v0 - (((v0.toUInt32 >>> ((1 : Int32).toUInt32 &&& Int32.toUInt32 31)).toInt32) &&& 1431655765)) &&& 858993459) + ((((v0 - (((v0.toUInt32 >>> ((1 : Int32).toUInt32 &&& Int32.toUInt32 31)).toInt32) &&& 1431655765)).toUInt32 >>> ((2 : Int32).toUInt32 &&& Int32.toUInt32 31)).toInt32) &&& 858993459)) + (((((v0 - (((v0.toUInt32 >>> ((1 : Int32).toUInt32 &&& Int32.toUInt32 31)).toInt32) &&& 1431655765)) &&& 858993459) + ((((v0 - (((v0.toUInt32 >>> ((1 : Int32).toUInt32 &&& Int32.toUInt32 31)).toInt32) &&& 1431655765)).toUInt32 >>> ((2 : Int32).toUInt32 &&& Int32.toUInt32 31)).toInt32) &&& 858993459)).toUInt32 >>> ((4 : Int32).toUInt32 &&& Int32.toUInt32 31)).toInt32)) &&& 252645135) + (((((((v0 - (((v0.toUInt32 >>> ((1 : Int32).toUInt32 &&& Int32.toUInt32 31)).toInt32) &&& 1431655765)) &&& 858993459) + ((((v0 - (((v0.toUInt32 >>> ((1 : Int32).toUInt32 &&& Int32.toUInt32 31)).toInt32) &&& 1431655765)).toUInt32 >>> ((2 : Int32).toUInt32 &&& Int32.toUInt32 31)).toInt32) &&& 858993459)) + (((((v0 - (((v0.toUInt32 >>> ((1 : Int32).toUInt32 &&& Int32.toUInt32 31)).toInt32) &&& 1431655765)) &&& 858993459) + ((((v0 - (((v0.toUInt32 >>> ((1 : Int32).toUInt32 &&& Int32.toUInt32 31)).toInt32) &&& 1431655765)).toUInt32 >>> ((2 : Int32).toUInt32 &&& Int32.toUInt32 31)).toInt32) &&& 858993459)).toUInt32 >>> ((4 : Int32).toUInt32 &&& Int32.toUInt32 31)).toInt32)) &&& 252645135).toUInt32 >>> ((8 : Int32).toUInt32 &&& Int32.toUInt32 31)).toInt32)).toUInt32 >>> ((16 : Int32).toUInt32 &&& Int32.toUInt32 31)).toInt32)) &&& 63)
def fX0_isFair (n : Nat) (σ : St) (v1 : Int32) : Option Int32 :=
  (fJ6_bitCount v1).bind fun r2 =>
  if r2 ≤ σ 10 1 then
    ((fX0_pullersOf n σ v1).bind fun r5 =>
    (fJ6_bitCount r5).bind fun r7 =>
    if r7 = 1 then
      (if r5 &&& (σ 10 3) = 0 then
        (some 1)
      else
        (some 0))
    else
      (some 0))
  else
    (some 0)
def fX0_areLoads_L3 : Nat → St → Nat → Int32 → Int32 → Int32 → Option Int32
  | 0, _, _, _, _, _ => none
  | n + 1, σ, k1, v2, v3, v4 =>
    if v3 ≤ v4 then
      (some 1)
    else
      (if v2 + v4 < 0 ∨ 60 ≤ (v2 + v4).toNatClampNeg then none else
      (fX0_isLoad σ (σ (6 + k1) (v2 + v4).toNatClampNeg)).bind fun r4 =>
      if r4 = 0 then
        (some 0)
      else
        (fX0_areLoads_L3 n σ k1 v2 v3 (v4 + 1)))
def fX0_areLoads (n : Nat) (σ : St) (k1 : Nat) (v2 : Int32) (v3 : Int32) : Option Int32 :=
  fX0_areLoads_L3 n σ k1 v2 v3 0
def fX0_firstWrong_L6 : Nat → St → Nat → Int32 → Int32 → Int32 → Int32 → Option Int32
  | 0, _, _, _, _, _, _ => none
  | n + 1, σ, k1, v2, v3, v4, v5 =>
    if v3 ≤ v5 then
      (some (-9))
    else
      (if v2 + v5 < 0 ∨ 60 ≤ (v2 + v5).toNatClampNeg then none else
      if σ (6 + k1) (v2 + v5).toNatClampNeg = 0 then
        (some v5)
      else
        ((fJ6_bitCount (σ (6 + k1) (v2 + v5).toNatClampNeg)).bind fun r5 =>
        if σ 10 1 < r5 then
          (some v5)
        else
          (if (σ (6 + k1) (v2 + v5).toNatClampNeg) &&& v4 = 0 then
            (fX0_firstWrong_L6 n σ k1 v2 v3 (v4 ||| (σ (6 + k1) (v2 + v5).toNatClampNeg)) (v5 + 1))
          else
            (some v5))))
def fX0_firstWrong (n : Nat) (σ : St) (k1 : Nat) (v2 : Int32) (v3 : Int32) : Option Int32 :=
  fX0_firstWrong_L6 n σ k1 v2 v3 0 0
def fX0_isSo (n : Nat) (σ : St) (v1 : Int32) (v2 : Int32) : Option Int32 :=
  if v2 = 0 then
    ((fX0_isFair n σ v1).bind fun r3 =>
    some r3)
  else
    (if v2 = 1 then
      ((fX0_pullersOf n σ v1).bind fun r6 =>
      if (r6 >>> ((v2 - 10) &&& 31)) &&& 1 = 1 then
        (some 1)
      else
        (some 0))
    else
      (if v2 = 2 then
        ((fX0_pullersOf n σ v1).bind fun r10 =>
        if (r10 >>> ((v2 - 10) &&& 31)) &&& 1 = 1 then
          (some 1)
        else
          (some 0))
      else
        (if v2 = 3 then
          ((fX0_pullersOf n σ v1).bind fun r14 =>
          (fJ6_bitCount r14).bind fun r16 =>
          if r16 ≤ 1 then
            (some 0)
          else
            (some 1))
        else
          (if v2 = 4 then
            ((fX0_pullersOf n σ v1).bind fun r20 =>
            if r20 = 0 then
              (some 1)
            else
              (some 0))
          else
            ((fX0_pullersOf n σ v1).bind fun r23 =>
            if (r23 >>> ((v2 - 10) &&& 31)) &&& 1 = 1 then
              (some 1)
            else
              (some 0))))))
def fX0_canCrossBy (σ : St) (v1 : Int32) (v2 : Int32) : Option Int32 :=
  if v1 &&& (v2 ^^^ (-1)) = 0 then
    (if v1 < 0 ∨ 32 ≤ v1.toNatClampNeg then none else
    if σ 21 v1.toNatClampNeg = 0 then
      (some 0)
    else
      (if v2 ^^^ v1 < 0 ∨ 32 ≤ (v2 ^^^ v1).toNatClampNeg then none else
      if σ 20 (v2 ^^^ v1).toNatClampNeg = (-9) then
        (some 0)
      else
        (some 1)))
  else
    (some 0)
def fX0_findFewest_G14 : Nat → Nat → St → Int32 → Int32 → Int32 → Option St
  | 0, _, _, _, _, _ => none
  | n + 1, lab, σ, v1, v2, v3 =>
    if lab = 0 then
      (if v1 < v2 then
        (some σ)
      else
        ((fX0_isFair n σ v2).bind fun r6 =>
        if v2 < 0 ∨ 32 ≤ v2.toNatClampNeg then none else
        if v2 < 0 ∨ 32 ≤ v2.toNatClampNeg then none else
        fX0_findFewest_G14 n 1 (up2 (up2 σ 21 v2.toNatClampNeg (vp_nar .boolean r6)) 20 v2.toNatClampNeg (-9)) v1 v2 1))
    else 
      (if v2 < v3 then
        (fX0_findFewest_G14 n 0 σ v1 (v2 + 1) 0)
      else
        ((fX0_canCrossBy σ v3 v2).bind fun r11 =>
        if r11 = 0 then
          (fX0_findFewest_G14 n 1 σ v1 v2 (v3 + 1))
        else
          (if v2 ^^^ v3 < 0 ∨ 32 ≤ (v2 ^^^ v3).toNatClampNeg then none else
          if v2 < 0 ∨ 32 ≤ v2.toNatClampNeg then none else
          if σ 20 v2.toNatClampNeg = (-9) then
            (if v2 < 0 ∨ 32 ≤ v2.toNatClampNeg then none else
            fX0_findFewest_G14 n 1 (up2 σ 20 v2.toNatClampNeg ((σ 20 (v2 ^^^ v3).toNatClampNeg) + 1)) v1 v2 (v3 + 1))
          else
            (if v2 < 0 ∨ 32 ≤ v2.toNatClampNeg then none else
            if v2 < 0 ∨ 32 ≤ v2.toNatClampNeg then none else
            fX0_findFewest_G14 n 1 (up2 σ 20 v2.toNatClampNeg (if (σ 20 (v2 ^^^ v3).toNatClampNeg) + 1 < σ 20 v2.toNatClampNeg then (σ 20 (v2 ^^^ v3).toNatClampNeg) + 1 else σ 20 v2.toNatClampNeg)) v1 v2 (v3 + 1)))))
def fX0_findFewest (n : Nat) (σ : St) : Option St :=
  (fX0_everybody σ).bind fun r2 =>
  if (0 : Int32) < 0 ∨ 32 ≤ (0 : Int32).toNatClampNeg then none else
  fX0_findFewest_G14 n 0 (up2 σ 20 ((0 : Int32).toNatClampNeg) 0) r2 1 0
def fX0_firstLoadOf_L2 : Nat → St → Int32 → Int32 → Option Int32
  | 0, _, _, _ => none
  | n + 1, σ, v1, v2 =>
    if v1 < v2 then
      (some 0)
    else
      ((fX0_canCrossBy σ v2 v1).bind fun r3 =>
      if r3 = 0 then
        (fX0_firstLoadOf_L2 n σ v1 (v2 + 1))
      else
        (if v1 ^^^ v2 < 0 ∨ 32 ≤ (v1 ^^^ v2).toNatClampNeg then none else
        if v1 < 0 ∨ 32 ≤ v1.toNatClampNeg then none else
        if (σ 20 (v1 ^^^ v2).toNatClampNeg) + 1 = σ 20 v1.toNatClampNeg then
          (some v2)
        else
          (fX0_firstLoadOf_L2 n σ v1 (v2 + 1))))
def fX0_firstLoadOf (n : Nat) (σ : St) (v1 : Int32) : Option Int32 :=
  fX0_firstLoadOf_L2 n σ v1 1
def fX0_loadOfCross_L10 : Nat → St → Int32 → Int32 → Int32 → Int32 → Option Int32
  | 0, _, _, _, _, _ => none
  | n + 1, σ, v1, v2, v3, v4 =>
    if v1 < v4 then
      (some v3)
    else
      ((fX0_firstLoadOf n σ v2).bind fun r5 =>
      fX0_loadOfCross_L10 n σ v1 (v2 ^^^ r5) r5 (v4 + 1))
def fX0_loadOfCross (n : Nat) (σ : St) (v1 : Int32) : Option Int32 :=
  (fX0_everybody σ).bind fun r2 =>
  fX0_loadOfCross_L10 n σ v1 r2 0 0
def fX0_lenderOf_L3 : Nat → St → Int32 → Int32 → Int32 → Int32 → Option (Int32 × St)
  | 0, _, _, _, _, _ => none
  | n + 1, σ, v1, v2, v3, v4 =>
    if σ 10 0 ≤ v4 then
      (some ((-9), σ))
    else
      (if v1 < 0 ∨ 5 ≤ v1.toNatClampNeg then none else
      if v4 < 0 ∨ 5 ≤ v4.toNatClampNeg then none else
      if v4 = v1 then
        (fX0_lenderOf_L3 n σ v1 v2 v3 (v4 + 1))
      else
        (if 9 < (σ (13 + v1.toNatClampNeg) v4.toNatClampNeg) + v3 then
          (fX0_lenderOf_L3 n σ v1 v2 v3 (v4 + 1))
        else
          (if v1 < 0 ∨ 5 ≤ v1.toNatClampNeg then none else
          if v4 < 0 ∨ 5 ≤ v4.toNatClampNeg then none else
          (fX0_pullersOf n (up2 σ (13 + v1.toNatClampNeg) v4.toNatClampNeg ((σ (13 + v1.toNatClampNeg) v4.toNatClampNeg) + v3)) v2).bind fun r9 =>
          if r9 = (1 : Int32) <<< (v1 &&& 31) then
            (if v1 < 0 ∨ 5 ≤ v1.toNatClampNeg then none else
            if v4 < 0 ∨ 5 ≤ v4.toNatClampNeg then none else
            some (v4, (up2 (up2 σ (13 + v1.toNatClampNeg) v4.toNatClampNeg ((σ (13 + v1.toNatClampNeg) v4.toNatClampNeg) + v3)) (13 + v1.toNatClampNeg) v4.toNatClampNeg (σ (13 + v1.toNatClampNeg) v4.toNatClampNeg))))
          else
            (if v1 < 0 ∨ 5 ≤ v1.toNatClampNeg then none else
            if v4 < 0 ∨ 5 ≤ v4.toNatClampNeg then none else
            fX0_lenderOf_L3 n (up2 (up2 σ (13 + v1.toNatClampNeg) v4.toNatClampNeg ((σ (13 + v1.toNatClampNeg) v4.toNatClampNeg) + v3)) (13 + v1.toNatClampNeg) v4.toNatClampNeg (σ (13 + v1.toNatClampNeg) v4.toNatClampNeg)) v1 v2 v3 (v4 + 1)))))
def fX0_lenderOf (n : Nat) (σ : St) (v1 : Int32) (v2 : Int32) (v3 : Int32) : Option (Int32 × St) :=
  fX0_lenderOf_L3 n σ v1 v2 v3 0
def fX0_areReadingsSo_L2 : Nat → St → Int32 → Option Int32
  | 0, _, _ => none
  | n + 1, σ, v1 =>
    if σ 10 6 ≤ v1 then
      (some 1)
    else
      (if v1 < 0 ∨ 8 ≤ v1.toNatClampNeg then none else
      (fX0_pullersOf n σ (σ 18 v1.toNatClampNeg)).bind fun r4 =>
      if v1 < 0 ∨ 8 ≤ v1.toNatClampNeg then none else
      if r4 = σ 19 v1.toNatClampNeg then
        (fX0_areReadingsSo_L2 n σ (v1 + 1))
      else
        (some 0))
def fX0_areReadingsSo (n : Nat) (σ : St) : Option Int32 :=
  fX0_areReadingsSo_L2 n σ 0
def fX0_notesThatFit_L15 : Nat → St → Int32 → Int32 → Int32 → Int32 → Int32 → Option (Int32 × St)
  | 0, _, _, _, _, _, _ => none
  | n + 1, σ, v1, v2, v3, v4, v5 =>
    if 9 < v5 then
      (if v1 < 0 ∨ 5 ≤ v1.toNatClampNeg then none else
      if v2 < 0 ∨ 5 ≤ v2.toNatClampNeg then none else
      some (v4, (up2 σ (13 + v1.toNatClampNeg) v2.toNatClampNeg v3)))
    else
      (if v1 < 0 ∨ 5 ≤ v1.toNatClampNeg then none else
      if v2 < 0 ∨ 5 ≤ v2.toNatClampNeg then none else
      (fX0_areReadingsSo n (up2 σ (13 + v1.toNatClampNeg) v2.toNatClampNeg v5)).bind fun r9 =>
      if r9 = 0 then
        (fX0_notesThatFit_L15 n (up2 σ (13 + v1.toNatClampNeg) v2.toNatClampNeg v5) v1 v2 v3 (v4 ||| 0) (v5 + 1))
      else
        (fX0_notesThatFit_L15 n (up2 σ (13 + v1.toNatClampNeg) v2.toNatClampNeg v5) v1 v2 v3 (v4 ||| ((1 : Int32) <<< (v5 &&& 31))) (v5 + 1)))
def fX0_notesThatFit (n : Nat) (σ : St) (v1 : Int32) (v2 : Int32) : Option (Int32 × St) :=
  if v1 < 0 ∨ 5 ≤ v1.toNatClampNeg then none else
  if v2 < 0 ∨ 5 ≤ v2.toNatClampNeg then none else
  fX0_notesThatFit_L15 n σ v1 v2 (σ (13 + v1.toNatClampNeg) v2.toNatClampNeg) 0 0
def fX0_kindsThatFit_L12 : Nat → St → Int32 → Int32 → Int32 → Int32 → Option (Int32 × St)
  | 0, _, _, _, _, _ => none
  | n + 1, σ, v1, v2, v3, v4 =>
    if 2 < v4 then
      (if v1 < 0 ∨ 5 ≤ v1.toNatClampNeg then none else
      some (v3, (up2 σ 11 v1.toNatClampNeg v2)))
    else
      (if v1 < 0 ∨ 5 ≤ v1.toNatClampNeg then none else
      (fX0_areReadingsSo n (up2 σ 11 v1.toNatClampNeg v4)).bind fun r6 =>
      if r6 = 0 then
        (fX0_kindsThatFit_L12 n (up2 σ 11 v1.toNatClampNeg v4) v1 v2 (v3 ||| 0) (v4 + 1))
      else
        (fX0_kindsThatFit_L12 n (up2 σ 11 v1.toNatClampNeg v4) v1 v2 (v3 ||| ((1 : Int32) <<< (v4 &&& 31))) (v4 + 1)))
def fX0_kindsThatFit (n : Nat) (σ : St) (v1 : Int32) : Option (Int32 × St) :=
  if v1 < 0 ∨ 5 ≤ v1.toNatClampNeg then none else
  fX0_kindsThatFit_L12 n σ v1 (σ 11 v1.toNatClampNeg) 0 0
def fX0_timesThatFit_L9 : Nat → St → Int32 → Int32 → Int32 → Option (Int32 × St)
  | 0, _, _, _, _ => none
  | n + 1, σ, v1, v2, v3 =>
    if 3 < v3 then
      (some (v2, (up2 σ 10 2 v1)))
    else
      ((fX0_areReadingsSo n (up2 σ 10 2 v3)).bind fun r3 =>
      if r3 = 0 then
        (fX0_timesThatFit_L9 n (up2 σ 10 2 v3) v1 (v2 ||| 0) (v3 + 1))
      else
        (fX0_timesThatFit_L9 n (up2 σ 10 2 v3) v1 (v2 ||| ((1 : Int32) <<< (v3 &&& 31))) (v3 + 1)))
def fX0_timesThatFit (n : Nat) (σ : St) : Option (Int32 × St) :=
  fX0_timesThatFit_L9 n σ (σ 10 2) 0 1
def fX0_wetSetsWithPuller_L11 : Nat → St → Int32 → Int32 → Int32 → Int32 → Int32 → Option Int32
  | 0, _, _, _, _, _, _ => none
  | n + 1, σ, v1, v2, v3, v4, v5 =>
    if v3 < v5 then
      (some v4)
    else
      ((fX0_pullersIf n σ v2 0 v5).bind fun r5 =>
      fX0_wetSetsWithPuller_L11 n σ v1 v2 v3 (v4 + ((r5 >>> (v1 &&& 31)) &&& 1)) (v5 + 1))
def fX0_wetSetsWithPuller (n : Nat) (σ : St) (v1 : Int32) (v2 : Int32) : Option Int32 :=
  (fX0_everybody σ).bind fun r2 =>
  fX0_wetSetsWithPuller_L11 n σ v1 v2 r2 0 0
def fX1_startRow_L17 : Nat → St → Nat → Int32 → Option St
  | 0, _, _, _ => none
  | n + 1, σ, k0, v3 =>
    if 60 ≤ v3 then
      (some σ)
    else
      (if v3 < 0 ∨ 60 ≤ v3.toNatClampNeg then none else
      fX1_startRow_L17 n (up2 σ (6 + k0) v3.toNatClampNeg 0) k0 (v3 + 1))
def fX1_startRow (n : Nat) (σ : St) (k0 : Nat) (v1 : Int32) (v2 : Int32) : Option St :=
  fX1_startRow_L17 n (up2 (up2 (up2 σ (2 + k0) 1 1) (2 + k0) 2 v1) (2 + k0) 3 v2) k0 0
def fX1_faultAs (σ : St) (k0 : Nat) (v1 : Int32) : Option Int32 :=
  if σ (2 + k0) 1 = 0 then
    (some 1)
  else
    (if σ (2 + k0) 2 = v1 then
      (some 0)
    else
      (some 2))
def fX1_hasCell (σ : St) (k0 : Nat) (v1 : Int32) : Option Int32 :=
  if v1 < 0 then
    (some 0)
  else
    (if σ (2 + k0) 3 ≤ v1 then
      (some 0)
    else
      (some 1))
def fX1_hasCells (σ : St) (k0 : Nat) (v1 : Int32) (v2 : Int32) : Option Int32 :=
  if v1 < 0 then
    (some 0)
  else
    (if σ (2 + k0) 3 < v1 then
      (some 0)
    else
      (if v2 < 0 then
        (some 0)
      else
        (if (σ (2 + k0) 3) - v1 < v2 then
          (some 0)
        else
          (some 1))))
def fX1_store (σ : St) (k0 : Nat) (v1 : Int32) (v2 : Int32) : Option St :=
  if σ (2 + k0) 2 = 0 then
    (if v1 < 0 ∨ 60 ≤ v1.toNatClampNeg then none else
    some (up2 σ (6 + k0) v1.toNatClampNeg v2.toInt8.toInt32))
  else
    (if σ (2 + k0) 2 = 1 then
      (if v1 < 0 ∨ 60 ≤ v1.toNatClampNeg then none else
      some (up2 σ (6 + k0) v1.toNatClampNeg v2.toInt16.toInt32))
    else
      (if v1 < 0 ∨ 60 ≤ v1.toNatClampNeg then none else
      some (up2 σ (6 + k0) v1.toNatClampNeg v2)))
def fX2_isDigit (v0 : Int32) (v1 : Int32) (v2 : Int32) : Option Int32 :=
  if v0 < (48 : Int32) + v1 then
    (some 0)
  else
    (if (48 : Int32) + v2 < v0 then
      (some 0)
    else
      (some 1))
def fX2_goesOnInPerson (v0 : Int32) (v1 : Int32) (v2 : Int32) : Option Int32 :=
  if (3 : Int32) + v2 = 0 then none else
  if (3 : Int32) + v2 = 0 then none else
  if v0 - v0 / ((3 : Int32) + v2) * ((3 : Int32) + v2) = 0 then
    (if v1 = 44 then
      (some 1)
    else
      (some 0))
  else
    (if v0 - v0 / ((3 : Int32) + v2) * ((3 : Int32) + v2) = 1 then
      ((fX2_kindOf v1).bind fun r7 =>
      if r7 = (-9) then
        (some 0)
      else
        (some 1))
    else
      (if v0 - v0 / ((3 : Int32) + v2) * ((3 : Int32) + v2) = 2 then
        ((fX2_isDigit v1 0 1).bind fun r11 =>
        some r11)
      else
        (if (v0 - v0 / ((3 : Int32) + v2) * ((3 : Int32) + v2)) - 3 = v0 / ((3 : Int32) + v2) then
          ((fX2_isDigit v1 0 0).bind fun r16 =>
          some r16)
        else
          ((fX2_isDigit v1 0 9).bind fun r14 =>
          some r14))))
def fX2_goesOn (v0 : Int32) (v1 : Int32) (v2 : Int32) : Option Int32 :=
  if v0 = 0 then
    (if v1 = 111 then
      (some 1)
    else
      (some 0))
  else
    (if v0 = 1 then
      ((fX2_isDigit v1 1 3).bind fun r5 =>
      some r5)
    else
      (if v0 = 2 then
        ((fX2_isDigit v1 1 3).bind fun r8 =>
        some r8)
      else
        (if v0 = 3 then
          ((fX2_isDigit v1 2 5).bind fun r11 =>
          some r11)
        else
          ((fX2_goesOnInPerson (v0 - 4) v1 v2).bind fun r13 =>
          some r13))))
def fX2_firstFault_L8 : Nat → St → Nat → Int32 → Int32 → Int32 → Int32 → Int32 → Option Int32
  | 0, _, _, _, _, _, _, _ => none
  | n + 1, σ, k0, v1, v2, v3, v4, v5 =>
    if v2 ≤ v5 then
      (if v4 ≤ v2 then
        (some (-9))
      else
        (some v2))
    else
      (if v1 + v5 < 0 ∨ 60 ≤ (v1 + v5).toNatClampNeg then none else
      if v4 ≤ v5 then
        (some v5)
      else
        ((fX2_goesOn v5 (σ (6 + k0) (v1 + v5).toNatClampNeg) v3).bind fun r6 =>
        if r6 = 0 then
          (some v5)
        else
          (if v5 = 3 then
            (fX2_firstFault_L8 n σ k0 v1 v2 ((σ (6 + k0) (v1 + v5).toNatClampNeg) - 48) ((4 : Int32) + (((σ (6 + k0) (v1 + v5).toNatClampNeg) - 48) * ((3 : Int32) + ((σ (6 + k0) (v1 + v5).toNatClampNeg) - 48)))) (v5 + 1))
          else
            (fX2_firstFault_L8 n σ k0 v1 v2 v3 v4 (v5 + 1)))))
def fX2_firstFault (n : Nat) (σ : St) (k0 : Nat) (v1 : Int32) (v2 : Int32) : Option Int32 :=
  fX2_firstFault_L8 n σ k0 v1 v2 0 4 0
def fX3_isSheet (v0 : Int32) : Option Int32 :=
  if v0 < 0 then
    (some 0)
  else
    (if 4 ≤ v0 then
      (some 0)
    else
      (some 1))
def fX3_isLane (v0 : Int32) : Option Int32 :=
  if v0 < 0 then
    (some 0)
  else
    (if 2 < v0 then
      (some 0)
    else
      (some 1))
def fX3_faulted (σ : St) (v1 : Int32) : Option (Int32 × St) :=
  some (((-10) : Int32) - v1, (up2 σ 0 3 v1))
def fX3_river (n : Nat) (σ : St) (v1 : Int32) (v2 : Int32) (v3 : Int32) (v4 : Int32) : Option (Int32 × St) :=
  (fX3_isSheet v1).bind fun r2 =>
  if r2 = 0 then
    (some ((-1), (up2 σ 0 3 0)))
  else
    ((fX3_isLane v2).bind fun r5 =>
    if r5 = 0 then
      (some ((-2), (up2 σ 0 3 0)))
    else
      (if v1 < 0 ∨ 4 ≤ v1.toNatClampNeg then none else
      (fX1_faultAs (up2 σ 0 3 0) v1.toNatClampNeg v2).bind fun r9 =>
      if r9 = 0 then
        (if 0 ≤ v4 then
          (if r9 = 0 then
            ((fX1_hasCells (up2 σ 0 3 0) v1.toNatClampNeg v3 v4).bind fun r44 =>
            if r44 = 0 then
              (bind2 (fX3_faulted (up2 σ 0 3 0) 3) fun r55 σ55 =>
              some (r55, σ55))
            else
              (if r9 = 0 then
                ((fX2_firstFault n (up2 σ 0 3 0) v1.toNatClampNeg v3 v4).bind fun r48 =>
                if r48 = (-9) then
                  ((fX0_takeText n (up2 σ 0 3 0) v1.toNatClampNeg v3).bind fun σ51 =>
                  some (σ51 10 0, σ51))
                else
                  (some (((-100) : Int32) - r48, (up2 σ 0 3 0))))
              else
                (bind2 (fX3_faulted (up2 σ 0 3 0) r9) fun r53 σ53 =>
                some (r53, σ53))))
          else
            (if r9 = 0 then
              ((fX2_firstFault n (up2 σ 0 3 0) v1.toNatClampNeg v3 v4).bind fun r37 =>
              if r37 = (-9) then
                ((fX0_takeText n (up2 σ 0 3 0) v1.toNatClampNeg v3).bind fun σ40 =>
                some (σ40 10 0, σ40))
              else
                (some (((-100) : Int32) - r37, (up2 σ 0 3 0))))
            else
              (bind2 (fX3_faulted (up2 σ 0 3 0) r9) fun r42 σ42 =>
              some (r42, σ42))))
        else
          (bind2 (fX3_faulted (up2 σ 0 3 0) 4) fun r57 σ57 =>
          some (r57, σ57)))
      else
        (if r9 = 0 then
          ((fX1_hasCells (up2 σ 0 3 0) v1.toNatClampNeg v3 v4).bind fun r21 =>
          if r21 = 0 then
            (bind2 (fX3_faulted (up2 σ 0 3 0) 3) fun r32 σ32 =>
            some (r32, σ32))
          else
            (if r9 = 0 then
              ((fX2_firstFault n (up2 σ 0 3 0) v1.toNatClampNeg v3 v4).bind fun r25 =>
              if r25 = (-9) then
                ((fX0_takeText n (up2 σ 0 3 0) v1.toNatClampNeg v3).bind fun σ28 =>
                some (σ28 10 0, σ28))
              else
                (some (((-100) : Int32) - r25, (up2 σ 0 3 0))))
            else
              (bind2 (fX3_faulted (up2 σ 0 3 0) r9) fun r30 σ30 =>
              some (r30, σ30))))
        else
          (if r9 = 0 then
            ((fX2_firstFault n (up2 σ 0 3 0) v1.toNatClampNeg v3 v4).bind fun r14 =>
            if r14 = (-9) then
              ((fX0_takeText n (up2 σ 0 3 0) v1.toNatClampNeg v3).bind fun σ17 =>
              some (σ17 10 0, σ17))
            else
              (some (((-100) : Int32) - r14, (up2 σ 0 3 0))))
          else
            (bind2 (fX3_faulted (up2 σ 0 3 0) r9) fun r19 σ19 =>
            some (r19, σ19))))))
def fX3_ofPerson (n : Nat) (σ : St) (v1 : Int32) (v2 : Int32) : Option Int32 :=
  (fX0_isPerson σ v1).bind fun r2 =>
  if r2 = 0 then
    (some (-1))
  else
    (if v2 = 0 then
      (if v1 < 0 ∨ 5 ≤ v1.toNatClampNeg then none else
      some (σ 11 v1.toNatClampNeg))
    else
      (if v2 = 1 then
        (some (((σ 10 3) >>> (v1 &&& 31)) &&& 1))
      else
        (if v2 = 2 then
          ((fX0_allNotes n σ v1).bind fun r9 =>
          some r9)
        else
          (some (-2)))))
def fX3_owes (σ : St) (v1 : Int32) (v2 : Int32) : Option Int32 :=
  (fX0_isPerson σ v1).bind fun r2 =>
  if r2 = 0 then
    (some (-1))
  else
    ((fX0_isPerson σ v2).bind fun r5 =>
    if r5 = 0 then
      (some (-1))
    else
      (if v1 < 0 ∨ 5 ≤ v1.toNatClampNeg then none else
      if v2 < 0 ∨ 5 ≤ v2.toNatClampNeg then none else
      some (σ (13 + v1.toNatClampNeg) v2.toNatClampNeg)))
def fX3_lend (σ : St) (v1 : Int32) (v2 : Int32) (v3 : Int32) : Option (Int32 × St) :=
  (fX0_isPair σ v1 v2).bind fun r2 =>
  if r2 = 0 then
    (some ((-1), σ))
  else
    (if v3 < 0 then
      (some ((-2), σ))
    else
      (if v3 ≤ 9 then
        (if v1 < 0 ∨ 5 ≤ v1.toNatClampNeg then none else
        if v2 < 0 ∨ 5 ≤ v2.toNatClampNeg then none else
        if v1 < 0 ∨ 5 ≤ v1.toNatClampNeg then none else
        if v2 < 0 ∨ 5 ≤ v2.toNatClampNeg then none else
        some (σ (13 + v1.toNatClampNeg) v2.toNatClampNeg, (up2 σ (13 + v1.toNatClampNeg) v2.toNatClampNeg v3)))
      else
        (some ((-2), σ))))
def fX3_count (σ : St) (v1 : Int32) : Option (Int32 × St) :=
  if v1 < 1 then
    (some ((-2), σ))
  else
    (if v1 ≤ 3 then
      ((fX0_isThere σ).bind fun r4 =>
      if r4 = 0 then
        (some ((-3), σ))
      else
        (some (σ 10 2, (up2 σ 10 2 v1))))
    else
      (some ((-2), σ)))
def fX3_build (σ : St) (v1 : Int32) : Option (Int32 × St) :=
  if v1 < 1 then
    (some ((-2), σ))
  else
    (if v1 ≤ 3 then
      ((fX0_isThere σ).bind fun r4 =>
      if r4 = 0 then
        (some ((-3), σ))
      else
        (some (σ 10 1, (up2 σ 10 1 v1))))
    else
      (some ((-2), σ)))
def fX3_refusalOfOneIn (σ : St) (v1 : Int32) (v2 : Int32) (v3 : Int32) : Option Int32 :=
  (fX0_isPerson σ v1).bind fun r2 =>
  if r2 = 0 then
    (some (-1))
  else
    ((fX0_isLoad σ v2).bind fun r5 =>
    if r5 = 0 then
      (some (-2))
    else
      (if v3 = 0 then
        (some (-2))
      else
        (if (v2 >>> (v1 &&& 31)) &&& 1 = 1 then
          (some 0)
        else
          (some (-3)))))
def fX3_debt (n : Nat) (σ : St) (v1 : Int32) (v2 : Int32) : Option Int32 :=
  (fX3_refusalOfOneIn σ v1 v2 1).bind fun r2 =>
  if r2 = 0 then
    ((fX0_debtIf n σ v1 v2 0).bind fun r5 =>
    some r5)
  else
    (some r2)
def fX3_refusalOfLoad (σ : St) (v1 : Int32) : Option Int32 :=
  (fX0_isThere σ).bind fun r2 =>
  if r2 = 0 then
    (some (-3))
  else
    ((fX0_isLoad σ v1).bind fun r5 =>
    if r5 = 0 then
      (some (-2))
    else
      (some 0))
def fX3_pullers (n : Nat) (σ : St) (v1 : Int32) : Option Int32 :=
  (fX3_refusalOfLoad σ v1).bind fun r2 =>
  if r2 = 0 then
    ((fX0_pullersOf n σ v1).bind fun r5 =>
    some r5)
  else
    (some r2)
def fX3_fair (n : Nat) (σ : St) (v1 : Int32) : Option Int32 :=
  (fX3_refusalOfLoad σ v1).bind fun r2 =>
  if r2 = 0 then
    ((fX0_isFair n σ v1).bind fun r5 =>
    if r5 = 0 then
      (some 0)
    else
      (some 1))
  else
    (some r2)
def fX3_isLoadsQuestion (v0 : Int32) : Option Int32 :=
  if v0 < 0 then
    (if v0 < 10 then
      (some 0)
    else
      (if 15 ≤ v0 then
        (some 0)
      else
        (some 1)))
  else
    (if v0 ≤ 4 then
      (some 1)
    else
      (if v0 < 10 then
        (some 0)
      else
        (if 15 ≤ v0 then
          (some 0)
        else
          (some 1))))
def fX3_ofLoads_L31 : Nat → St → Nat → Int32 → Int32 → Int32 → Int32 → Int32 → Option Int32
  | 0, _, _, _, _, _, _, _ => none
  | n + 1, σ, k1, v2, v3, v4, v5, v6 =>
    if v3 ≤ v6 then
      (some v5)
    else
      (if v2 + v6 < 0 ∨ 60 ≤ (v2 + v6).toNatClampNeg then none else
      if v4 = 2 then
        (fX3_ofLoads_L31 n σ k1 v2 v3 v4 (v5 ||| (σ (6 + k1) (v2 + v6).toNatClampNeg)) (v6 + 1))
      else
        ((fX0_isSo n σ (σ (6 + k1) (v2 + v6).toNatClampNeg) v4).bind fun r9 =>
        if r9 = 0 then
          (fX3_ofLoads_L31 n σ k1 v2 v3 v4 v5 (v6 + 1))
        else
          (fX3_ofLoads_L31 n σ k1 v2 v3 v4 (v5 + 1) (v6 + 1))))
def fX3_ofLoads (n : Nat) (σ : St) (k1 : Nat) (v2 : Int32) (v3 : Int32) (v4 : Int32) : Option Int32 :=
  if v4 < 10 then
    (fX3_ofLoads_L31 n σ k1 v2 v3 v4 0 0)
  else
    ((fX0_isPerson σ (v4 - 10)).bind fun r3 =>
    if r3 = 0 then
      (some (-9))
    else
      (fX3_ofLoads_L31 n σ k1 v2 v3 v4 0 0))
def fX3_loads (n : Nat) (σ : St) (v1 : Int32) (v2 : Int32) (v3 : Int32) (v4 : Int32) (v5 : Int32) : Option (Int32 × St) :=
  (fX3_isSheet v1).bind fun r2 =>
  if r2 = 0 then
    (some ((-1), (up2 σ 0 3 0)))
  else
    ((fX3_isLane v2).bind fun r5 =>
    if r5 = 0 then
      (some ((-2), (up2 σ 0 3 0)))
    else
      (if v4 < 0 then
        (some ((-2), (up2 σ 0 3 0)))
      else
        (if 20 < v4 then
          (some ((-2), (up2 σ 0 3 0)))
        else
          ((fX3_isLoadsQuestion v5).bind fun r10 =>
          if r10 = 0 then
            (some ((-2), (up2 σ 0 3 0)))
          else
            (if v1 < 0 ∨ 4 ≤ v1.toNatClampNeg then none else
            (fX1_faultAs (up2 σ 0 3 0) v1.toNatClampNeg v2).bind fun r14 =>
            if r14 = 0 then
              ((fX1_hasCells (up2 σ 0 3 0) v1.toNatClampNeg v3 v4).bind fun r32 =>
              if r32 = 0 then
                (bind2 (fX3_faulted (up2 σ 0 3 0) 3) fun r50 σ50 =>
                some (r50, σ50))
              else
                (if r14 = 0 then
                  ((fX0_isThere (up2 σ 0 3 0)).bind fun r36 =>
                  if r36 = 0 then
                    (some ((-3), (up2 σ 0 3 0)))
                  else
                    ((fX0_areLoads n (up2 σ 0 3 0) v1.toNatClampNeg v3 v4).bind fun r39 =>
                    if r39 = 0 then
                      (some ((-2), (up2 σ 0 3 0)))
                    else
                      ((fX0_firstWrong n (up2 σ 0 3 0) v1.toNatClampNeg v3 v4).bind fun r42 =>
                      if v5 = 1 then
                        (some (r42, (up2 σ 0 3 0)))
                      else
                        (if r42 = (-9) then
                          ((fX3_ofLoads n (up2 σ 0 3 0) v1.toNatClampNeg v3 v4 v5).bind fun r46 =>
                          some (r46, (up2 σ 0 3 0)))
                        else
                          (some (((-100) : Int32) - r42, (up2 σ 0 3 0)))))))
                else
                  (bind2 (fX3_faulted (up2 σ 0 3 0) r14) fun r48 σ48 =>
                  some (r48, σ48))))
            else
              (if r14 = 0 then
                ((fX0_isThere (up2 σ 0 3 0)).bind fun r18 =>
                if r18 = 0 then
                  (some ((-3), (up2 σ 0 3 0)))
                else
                  ((fX0_areLoads n (up2 σ 0 3 0) v1.toNatClampNeg v3 v4).bind fun r21 =>
                  if r21 = 0 then
                    (some ((-2), (up2 σ 0 3 0)))
                  else
                    ((fX0_firstWrong n (up2 σ 0 3 0) v1.toNatClampNeg v3 v4).bind fun r24 =>
                    if v5 = 1 then
                      (some (r24, (up2 σ 0 3 0)))
                    else
                      (if r24 = (-9) then
                        ((fX3_ofLoads n (up2 σ 0 3 0) v1.toNatClampNeg v3 v4 v5).bind fun r28 =>
                        some (r28, (up2 σ 0 3 0)))
                      else
                        (some (((-100) : Int32) - r24, (up2 σ 0 3 0)))))))
              else
                (bind2 (fX3_faulted (up2 σ 0 3 0) r14) fun r30 σ30 =>
                some (r30, σ30))))))))
def fX3_cross (n : Nat) (σ : St) (v1 : Int32) : Option (Int32 × St) :=
  (fX0_isThere σ).bind fun r2 =>
  if r2 = 0 then
    (some ((-3), σ))
  else
    (if v1 < (-1) then
      (some ((-2), σ))
    else
      (if v1 < 5 then
        ((fX0_findFewest n σ).bind fun σ7 =>
        (fX0_everybody σ7).bind fun r9 =>
        if r9 < 0 ∨ 32 ≤ r9.toNatClampNeg then none else
        if σ7 20 r9.toNatClampNeg = (-9) then
          (some ((-9), σ7))
        else
          (if v1 = (-1) then
            (some (σ7 20 r9.toNatClampNeg, σ7))
          else
            (if σ7 20 r9.toNatClampNeg ≤ v1 then
              (some ((-9), σ7))
            else
              ((fX0_loadOfCross n σ7 v1).bind fun r15 =>
              some (r15, σ7)))))
      else
        (some ((-2), σ))))
def fX3_loan_L58 : Nat → St → Int32 → Int32 → Int32 → Int32 → Option (Int32 × St)
  | 0, _, _, _, _, _ => none
  | n + 1, σ, v1, v2, v3, v5 =>
    if 9 < v5 then
      (some ((-9), σ))
    else
      (bind2 (fX0_lenderOf n σ v1 v2 v5) fun r26 σ26 =>
      if r26 = (-9) then
        (fX3_loan_L58 n σ26 v1 v2 v3 (v5 + 1))
      else
        (if v3 = 0 then
          (some (v5, σ26))
        else
          (some (r26, σ26))))
def fX3_loan (n : Nat) (σ : St) (v1 : Int32) (v2 : Int32) (v3 : Int32) : Option (Int32 × St) :=
  if v3 = 0 then
    ((fX3_refusalOfOneIn σ v1 v2 1).bind fun r3 =>
    if r3 = 0 then
      ((fX0_pullersOf n σ v2).bind fun r6 =>
      if r6 = (1 : Int32) <<< (v1 &&& 31) then
        (if v3 = 0 then
          (some (0, σ))
        else
          (some ((-9), σ)))
      else
        (fX3_loan_L58 n σ v1 v2 v3 1))
    else
      (some (r3, σ)))
  else
    (if v3 = 1 then
      ((fX3_refusalOfOneIn σ v1 v2 1).bind fun r18 =>
      if r18 = 0 then
        ((fX0_pullersOf n σ v2).bind fun r21 =>
        if r21 = (1 : Int32) <<< (v1 &&& 31) then
          (if v3 = 0 then
            (some (0, σ))
          else
            (some ((-9), σ)))
        else
          (fX3_loan_L58 n σ v1 v2 v3 1))
      else
        (some (r18, σ)))
    else
      ((fX3_refusalOfOneIn σ v1 v2 0).bind fun r11 =>
      if r11 = 0 then
        ((fX0_pullersOf n σ v2).bind fun r14 =>
        if r14 = (1 : Int32) <<< (v1 &&& 31) then
          (if v3 = 0 then
            (some (0, σ))
          else
            (some ((-9), σ)))
        else
          (fX3_loan_L58 n σ v1 v2 v3 1))
      else
        (some (r11, σ))))
def fX3_forgave_L18 : Nat → St → Int32 → Int32 → Int32 → Option Int32
  | 0, _, _, _, _ => none
  | n + 1, σ, v1, v3, v4 =>
    if v1 < v4 then
      (some v3)
    else
      (if v3 = (-9) then
        (if v4 &&& (v1 ^^^ (-1)) = 0 then
          ((fX0_pullersIf n σ v1 v4 0).bind fun r8 =>
          if r8 = 0 then
            (fX3_forgave_L18 n σ v1 v4 (v4 + 1))
          else
            (fX3_forgave_L18 n σ v1 v3 (v4 + 1)))
        else
          (fX3_forgave_L18 n σ v1 v3 (v4 + 1)))
      else
        ((fJ6_bitCount v4).bind fun r11 =>
        (fJ6_bitCount v3).bind fun r13 =>
        if r13 ≤ r11 then
          (if v4 &&& (v1 ^^^ (-1)) = 0 then
            (fX3_forgave_L18 n σ v1 v3 (v4 + 1))
          else
            (fX3_forgave_L18 n σ v1 v3 (v4 + 1)))
        else
          (if v4 &&& (v1 ^^^ (-1)) = 0 then
            ((fX0_pullersIf n σ v1 v4 0).bind fun r18 =>
            if r18 = 0 then
              (fX3_forgave_L18 n σ v1 v4 (v4 + 1))
            else
              (fX3_forgave_L18 n σ v1 v3 (v4 + 1)))
          else
            (fX3_forgave_L18 n σ v1 v3 (v4 + 1)))))
def fX3_forgave (n : Nat) (σ : St) (v1 : Int32) : Option Int32 :=
  (fX3_refusalOfLoad σ v1).bind fun r2 =>
  if r2 = 0 then
    (fX3_forgave_L18 n σ v1 (-9) 0)
  else
    (some r2)
def fX3_reading (σ : St) (v1 : Int32) (v2 : Int32) : Option (Int32 × St) :=
  (fX3_refusalOfLoad σ v1).bind fun r2 =>
  if r2 = 0 then
    (if v2 &&& (v1 ^^^ (-1)) = 0 then
      (if σ 10 6 < 8 then
        (if σ 10 6 < 0 ∨ 8 ≤ (σ 10 6).toNatClampNeg then none else
        if σ 10 6 < 0 ∨ 8 ≤ (σ 10 6).toNatClampNeg then none else
        some (σ 10 6, (up2 (up2 (up2 σ 18 ((σ 10 6).toNatClampNeg) v1) 19 ((σ 10 6).toNatClampNeg) v2) 10 6 ((σ 10 6) + 1))))
      else
        (some ((-4), σ)))
    else
      (some ((-2), σ)))
  else
    (some (r2, σ))
def fX3_back (σ : St) (v1 : Int32) : Option (Int32 × St) :=
  if v1 < 0 then
    (some ((-2), σ))
  else
    (if v1 ≤ σ 10 6 then
      (some ((up2 σ 10 6 ((σ 10 6) - v1)) 10 6, (up2 σ 10 6 ((σ 10 6) - v1))))
    else
      (some ((-2), σ)))
def fX3_notes (n : Nat) (σ : St) (v1 : Int32) (v2 : Int32) : Option (Int32 × St) :=
  (fX0_isPair σ v1 v2).bind fun r2 =>
  if r2 = 0 then
    (some ((-1), σ))
  else
    (bind2 (fX0_notesThatFit n σ v1 v2) fun r5 σ5 =>
    some (r5, σ5))
def fX3_kinds (n : Nat) (σ : St) (v1 : Int32) : Option (Int32 × St) :=
  (fX0_isPerson σ v1).bind fun r2 =>
  if r2 = 0 then
    (some ((-1), σ))
  else
    (bind2 (fX0_kindsThatFit n σ v1) fun r5 σ5 =>
    some (r5, σ5))
def fX3_often (n : Nat) (σ : St) : Option (Int32 × St) :=
  (fX0_isThere σ).bind fun r2 =>
  if r2 = 0 then
    (some ((-3), σ))
  else
    (bind2 (fX0_timesThatFit n σ) fun r5 σ5 =>
    some (r5, σ5))
def fX3_odds_L52 : Nat → St → Int32 → Int32 → Int32 → Int32 → Option Int64
  | 0, _, _, _, _, _ => none
  | n + 1, σ, v3, v4, v5, v6 =>
    if σ 10 0 ≤ v6 then
      (if v3 = 0 then
        (some v4.toInt64)
      else
        (some v5.toInt64))
    else
      (if v4 - v4 / 2 * 2 = 0 then
        (fX3_odds_L52 n σ v3 (v4 / 2) (v5 / 2) (v6 + 1))
      else
        (fX3_odds_L52 n σ v3 v4 v5 (v6 + 1)))
def fX3_odds (n : Nat) (σ : St) (v1 : Int32) (v2 : Int32) (v3 : Int32) : Option Int64 :=
  if v3 = 0 then
    ((fX3_refusalOfOneIn σ v1 v2 1).bind fun r3 =>
    if r3 = 0 then
      ((fX0_wetSetsWithPuller n σ v1 v2).bind fun r6 =>
      fX3_odds_L52 n σ v3 r6 ((1 : Int32) <<< ((σ 10 0) &&& 31)) 0)
    else
      (some (-9223372036854775808)))
  else
    (if v3 = 1 then
      ((fX3_refusalOfOneIn σ v1 v2 1).bind fun r14 =>
      if r14 = 0 then
        ((fX0_wetSetsWithPuller n σ v1 v2).bind fun r17 =>
        fX3_odds_L52 n σ v3 r17 ((1 : Int32) <<< ((σ 10 0) &&& 31)) 0)
      else
        (some (-9223372036854775808)))
    else
      ((fX3_refusalOfOneIn σ v1 v2 0).bind fun r9 =>
      if r9 = 0 then
        ((fX0_wetSetsWithPuller n σ v1 v2).bind fun r12 =>
        fX3_odds_L52 n σ v3 r12 ((1 : Int32) <<< ((σ 10 0) &&& 31)) 0)
      else
        (some (-9223372036854775808))))
def fX3_sheet (n : Nat) (σ : St) (v1 : Int32) (v2 : Int32) (v3 : Int32) : Option (Int32 × St) :=
  (fX3_isSheet v1).bind fun r2 =>
  if r2 = 0 then
    (some ((-1), (up2 σ 0 3 0)))
  else
    ((fX3_isLane v2).bind fun r5 =>
    if r5 = 0 then
      (some ((-2), (up2 σ 0 3 0)))
    else
      (if v3 ≤ 60 then
        (if 0 ≤ v3 then
          (if v1 < 0 ∨ 4 ≤ v1.toNatClampNeg then none else
          (fX1_startRow n (up2 σ 0 3 0) v1.toNatClampNeg v2 v3).bind fun σ11 =>
          some (1, σ11))
        else
          (bind2 (fX3_faulted (up2 σ 0 3 0) 4) fun r13 σ13 =>
          some (r13, σ13)))
      else
        (some ((-2), (up2 σ 0 3 0)))))
def fX3_lose (σ : St) (v1 : Int32) : Option (Int32 × St) :=
  (fX3_isSheet v1).bind fun r2 =>
  if r2 = 0 then
    (some ((-1), σ))
  else
    (if v1 < 0 ∨ 4 ≤ v1.toNatClampNeg then none else
    if σ (2 + v1.toNatClampNeg) 1 = 0 then
      (if v1 < 0 ∨ 4 ≤ v1.toNatClampNeg then none else
      some (0, (up2 σ (2 + v1.toNatClampNeg) 1 0)))
    else
      (if v1 < 0 ∨ 4 ≤ v1.toNatClampNeg then none else
      some (1, (up2 σ (2 + v1.toNatClampNeg) 1 0))))
def fX3_put (σ : St) (v1 : Int32) (v2 : Int32) (v3 : Int32) : Option (Int32 × St) :=
  (fX3_isSheet v1).bind fun r2 =>
  if r2 = 0 then
    (some ((-1), (up2 σ 0 3 0)))
  else
    (if v1 < 0 ∨ 4 ≤ v1.toNatClampNeg then none else
    if (up2 σ 0 3 0) (2 + v1.toNatClampNeg) 1 = 0 then
      (bind2 (fX3_faulted (up2 σ 0 3 0) 1) fun r14 σ14 =>
      some (r14, σ14))
    else
      ((fX1_hasCell (up2 σ 0 3 0) v1.toNatClampNeg v2).bind fun r7 =>
      if r7 = 0 then
        (bind2 (fX3_faulted (up2 σ 0 3 0) 3) fun r12 σ12 =>
        some (r12, σ12))
      else
        ((fX1_store (up2 σ 0 3 0) v1.toNatClampNeg v2 v3).bind fun σ10 =>
        some (1, σ10))))
def fX3_cell (σ : St) (v1 : Int32) (v2 : Int32) (v3 : Int32) : Option (Int64 × St) :=
  (fX3_isSheet v1).bind fun r2 =>
  if r2 = 0 then
    (some ((-9223372036854775808), (up2 σ 0 3 0)))
  else
    ((fX3_isLane v3).bind fun r5 =>
    if r5 = 0 then
      (some ((-9223372036854775808), (up2 σ 0 3 0)))
    else
      (if v1 < 0 ∨ 4 ≤ v1.toNatClampNeg then none else
      (fX1_faultAs (up2 σ 0 3 0) v1.toNatClampNeg v3).bind fun r9 =>
      if r9 = 0 then
        ((fX1_hasCell (up2 σ 0 3 0) v1.toNatClampNeg v2).bind fun r14 =>
        if r14 = 0 then
          (some ((-9223372036854775808), (up2 (up2 σ 0 3 0) 0 3 3)))
        else
          (if r9 = 0 then
            (if v2 < 0 ∨ 60 ≤ v2.toNatClampNeg then none else
            some (((up2 σ 0 3 0) (6 + v1.toNatClampNeg) v2.toNatClampNeg).toInt64, (up2 σ 0 3 0)))
          else
            (some ((-9223372036854775808), (up2 (up2 σ 0 3 0) 0 3 r9)))))
      else
        (if r9 = 0 then
          (if v2 < 0 ∨ 60 ≤ v2.toNatClampNeg then none else
          some (((up2 σ 0 3 0) (6 + v1.toNatClampNeg) v2.toNatClampNeg).toInt64, (up2 σ 0 3 0)))
        else
          (some ((-9223372036854775808), (up2 (up2 σ 0 3 0) 0 3 r9))))))
def fX3_copy (σ : St) (v1 : Int32) (v2 : Int32) (v3 : Int32) (v4 : Int32) (v5 : Int32) : Option (Int32 × St) :=
  (fX3_isSheet v1).bind fun r2 =>
  if r2 = 0 then
    (some ((-1), (up2 σ 0 3 0)))
  else
    ((fX3_isSheet v3).bind fun r5 =>
    if r5 = 0 then
      (some ((-1), (up2 σ 0 3 0)))
    else
      (if v1 < 0 ∨ 4 ≤ v1.toNatClampNeg then none else
      if v3 < 0 ∨ 4 ≤ v3.toNatClampNeg then none else
      if (up2 σ 0 3 0) (2 + v1.toNatClampNeg) 1 = 0 then
        (bind2 (fX3_faulted (up2 σ 0 3 0) 1) fun r11 σ11 =>
        some (r11, σ11))
      else
        (if (up2 σ 0 3 0) (2 + v3.toNatClampNeg) 1 = 0 then
          (bind2 (fX3_faulted (up2 σ 0 3 0) 1) fun r28 σ28 =>
          some (r28, σ28))
        else
          (if (up2 σ 0 3 0) (2 + v1.toNatClampNeg) 2 = (up2 σ 0 3 0) (2 + v3.toNatClampNeg) 2 then
            ((fX1_hasCells (up2 σ 0 3 0) v1.toNatClampNeg v2 v5).bind fun r15 =>
            if r15 = 0 then
              (bind2 (fX3_faulted (up2 σ 0 3 0) 3) fun r18 σ18 =>
              some (r18, σ18))
            else
              ((fX1_hasCells (up2 σ 0 3 0) v3.toNatClampNeg v4 v5).bind fun r20 =>
              if r20 = 0 then
                (bind2 (fX3_faulted (up2 σ 0 3 0) 3) fun r24 σ24 =>
                some (r24, σ24))
              else
                (if v2 < 0 ∨ v4 < 0 ∨ v5 < 0 ∨ 60 < v2.toNatClampNeg + v5.toNatClampNeg ∨ 60 < v4.toNatClampNeg + v5.toNatClampNeg then none else
                some (v5, (upA (up2 σ 0 3 0) (6 + v3.toNatClampNeg) (va_cpy ((up2 σ 0 3 0) (6 + v1.toNatClampNeg)) ((up2 σ 0 3 0) (6 + v3.toNatClampNeg)) v2.toNatClampNeg v4.toNatClampNeg v5.toNatClampNeg))))))
          else
            (bind2 (fX3_faulted (up2 σ 0 3 0) 2) fun r26 σ26 =>
            some (r26, σ26))))))
def fX3_leaveTrace (σ : St) (v1 : Int32) : Option St :=
  some (up2 σ 0 2 (((31 : Int32) * (σ 0 2)) + v1))
def fX3_riderTells (n : Nat) (σ : St) (v1 : Int32) : Option (Int32 × St) :=
  (fX3_leaveTrace σ 1).bind fun σ2 =>
  (fX0_allNotes n σ2 v1).bind fun r4 =>
  some (r4, σ2)
def fX3_friendTells (n : Nat) (σ : St) (v1 : Int32) : Option (Int32 × St) :=
  (fX3_leaveTrace σ 2).bind fun σ2 =>
  bind2 (fX3_riderTells n σ2 v1) fun r4 σ4 =>
  some (r4 + 100, σ4)
def fX3_bankerTells (n : Nat) (σ : St) (v1 : Int32) : Option (Int32 × St) :=
  (fX3_leaveTrace σ 3).bind fun σ2 =>
  bind2 (fX3_friendTells n σ2 v1) fun r4 σ4 =>
  bind2 (fX3_riderTells n σ4 v1) fun r6 σ6 =>
  some (r4 + r6, σ6)
def fX3_tell (n : Nat) (σ : St) (v1 : Int32) : Option (Int32 × St) :=
  (fX0_isPerson σ v1).bind fun r2 =>
  if r2 = 0 then
    (some ((-1), σ))
  else
    (if v1 < 0 ∨ 5 ≤ v1.toNatClampNeg then none else
    if σ 11 v1.toNatClampNeg = 1 then
      (bind2 (fX3_friendTells n σ v1) fun r7 σ7 =>
      some (r7, σ7))
    else
      (if σ 11 v1.toNatClampNeg = 2 then
        (bind2 (fX3_bankerTells n σ v1) fun r10 σ10 =>
        some (r10, σ10))
      else
        (bind2 (fX3_riderTells n σ v1) fun r12 σ12 =>
        some (r12, σ12))))
def fX3_bankerIsHailed (σ : St) : Option (Int32 × St) :=
  (fX3_leaveTrace σ 5).bind fun σ2 =>
  some (40, σ2)
def fX3_lentHail (σ : St) (v1 : Int32) : Option (Int32 × St) :=
  (fX3_leaveTrace σ 4).bind fun σ2 =>
  some (v1, σ2)
def fX3_hail (σ : St) (v1 : Int32) : Option (Int32 × St) :=
  (fX0_isPerson σ v1).bind fun r2 =>
  if r2 = 0 then
    (some ((-1), σ))
  else
    (if v1 < 0 ∨ 5 ≤ v1.toNatClampNeg then none else
    if σ 11 v1.toNatClampNeg = 2 then
      (bind2 (fX3_bankerIsHailed σ) fun r9 σ9 =>
      some (r9, σ9))
    else
      (bind2 (fX3_lentHail σ v1) fun r7 σ7 =>
      some (r7, σ7)))
def fX3_as (σ : St) (v1 : Int32) (v2 : Int32) : Option (Int32 × St) :=
  (fX0_isPerson (up2 σ 0 3 0) v1).bind fun r2 =>
  if r2 = 0 then
    (some ((-1), (up2 σ 0 3 0)))
  else
    (if v2 < 0 then
      (some ((-2), (up2 σ 0 3 0)))
    else
      (if v2 ≤ 2 then
        (if v1 < 0 ∨ 5 ≤ v1.toNatClampNeg then none else
        if v2 ≤ (up2 σ 0 3 0) 11 v1.toNatClampNeg then
          (some (1, (up2 σ 0 3 0)))
        else
          (bind2 (fX3_faulted (up2 σ 0 3 0) 2) fun r9 σ9 =>
          some (r9, σ9)))
      else
        (some ((-2), (up2 σ 0 3 0)))))
def fX3_trace (σ : St) : Option Int32 :=
  some (σ 0 2)
def fX3_fault (σ : St) : Option Int32 :=
  some (σ 0 3)
def fX3_many (σ : St) (v1 : Int32) : Option Int32 :=
  if v1 = 0 then
    (some (σ 10 0))
  else
    (if v1 = 1 then
      (some (σ 10 1))
    else
      (if v1 = 2 then
        (some (σ 10 2))
      else
        (if v1 = 3 then
          (some (σ 10 6))
        else
          (some (-2)))))
def fX4_fails (σ : St) (v1 : Int32) : Option (Int32 × St) :=
  some (((-10) : Int32) - v1, (up2 σ 0 0 v1))
def fX4_lost (σ : St) (v1 : Int32) : Option (Int64 × St) :=
  some ((-9223372036854775808), (up2 σ 0 0 v1))
def fX4_within (v0 : Int32) (v1 : Int32) (v2 : Int32) : Option Int32 :=
  if v0 < v1 then
    (some 0)
  else
    (if v2 < v0 then
      (some 0)
    else
      (some 1))
def fX4_isSheet (v0 : Int32) : Option Int32 :=
  (fX4_within v0 0 3).bind fun r2 =>
  some r2
def fX4_isSort (v0 : Int32) : Option Int32 :=
  (fX4_within v0 0 2).bind fun r2 =>
  some r2
def fX4_against (σ : St) (v1 : Int32) (v2 : Int32) (v3 : Int32) (v4 : Int32) : Option Int32 :=
  if v1 < 0 ∨ 4 ≤ v1.toNatClampNeg then none else
  if σ 1 v1.toNatClampNeg = (-9) then
    (if v1 < 0 ∨ 4 ≤ v1.toNatClampNeg then none else
    if σ 1 v1.toNatClampNeg = (-9) then
      (some 1)
    else
      (if 0 ≤ v4 then
        (if v3 < 0 then
          (some 3)
        else
          (if v1 < 0 ∨ 4 ≤ v1.toNatClampNeg then none else
          if σ 2 v1.toNatClampNeg < v3 then
            (some 3)
          else
            (if v1 < 0 ∨ 4 ≤ v1.toNatClampNeg then none else
            if v4 ≤ (σ 2 v1.toNatClampNeg) - v3 then
              (some 0)
            else
              (some 3))))
      else
        (some 4)))
  else
    (if v1 < 0 ∨ 4 ≤ v1.toNatClampNeg then none else
    if σ 1 v1.toNatClampNeg = v2 then
      (if v1 < 0 ∨ 4 ≤ v1.toNatClampNeg then none else
      if σ 1 v1.toNatClampNeg = (-9) then
        (some 1)
      else
        (if 0 ≤ v4 then
          (if v3 < 0 then
            (some 3)
          else
            (if v1 < 0 ∨ 4 ≤ v1.toNatClampNeg then none else
            if σ 2 v1.toNatClampNeg < v3 then
              (some 3)
            else
              (if v1 < 0 ∨ 4 ≤ v1.toNatClampNeg then none else
              if v4 ≤ (σ 2 v1.toNatClampNeg) - v3 then
                (some 0)
              else
                (some 3))))
        else
          (some 4)))
    else
      (some 2))
def fX4_isPerson (σ : St) (v1 : Int32) : Option Int32 :=
  if v1 < 0 then
    (some 0)
  else
    (if σ 0 5 ≤ v1 then
      (some 0)
    else
      (some 1))
def fX4_isSet (σ : St) (v1 : Int32) : Option Int32 :=
  if v1 < 0 then
    (some 0)
  else
    (if (1 : Int32) <<< ((σ 0 5) &&& 31) ≤ v1 then
      (some 0)
    else
      (some 1))
def fX4_isOf (v0 : Int32) (v1 : Int32) : Option Int32 :=
  if (v0 >>> (v1 &&& 31)) &&& 1 = 1 then
    (some 1)
  else
    (some 0)
def fX4_digit (σ : St) (v1 : Int32) (v2 : Int32) (v3 : Int32) : Option (Int32 × St) :=
  if v1 ≤ σ 0 11 then
    (some ((-9), σ))
  else
    (if σ 0 11 < 0 ∨ 240 ≤ (σ 0 11).toNatClampNeg then none else
    (fX4_within (σ 3 (σ 0 11).toNatClampNeg) ((48 : Int32) + v2) ((48 : Int32) + v3)).bind fun r4 =>
    if r4 = 0 then
      (some ((-9), σ))
    else
      (if ((up2 σ 0 11 ((σ 0 11) + 1)) 0 11) - 1 < 0 ∨ 240 ≤ (((up2 σ 0 11 ((σ 0 11) + 1)) 0 11) - 1).toNatClampNeg then none else
      some (((up2 σ 0 11 ((σ 0 11) + 1)) 3 (((up2 σ 0 11 ((σ 0 11) + 1)) 0 11) - 1).toNatClampNeg) - 48, (up2 σ 0 11 ((σ 0 11) + 1)))))
def fX4_isSign (σ : St) (v1 : Int32) (v2 : Int32) : Option (Int32 × St) :=
  if v1 ≤ σ 0 11 then
    (some (0, σ))
  else
    (if σ 0 11 < 0 ∨ 240 ≤ (σ 0 11).toNatClampNeg then none else
    if σ 3 (σ 0 11).toNatClampNeg = v2 then
      (some (1, (up2 σ 0 11 ((σ 0 11) + 1))))
    else
      (some (0, σ)))
def fX4_readPerson_L112 : Nat → St → Int32 → Int32 → Int32 → Option (Int32 × St)
  | 0, _, _, _, _ => none
  | n + 1, σ, v1, v2, v4 =>
    if σ 0 14 ≤ v4 then
      (some (1, σ))
    else
      (if v4 = v2 then
        (bind2 (fX4_digit σ v1 0 0) fun r54 σ54 =>
        if ((5 : Int32) * v2) + v4 < 0 ∨ 25 ≤ (((5 : Int32) * v2) + v4).toNatClampNeg then none else
        if ((5 : Int32) * v2) + v4 < 0 ∨ 25 ≤ (((5 : Int32) * v2) + v4).toNatClampNeg then none else
        if (up2 σ54 9 ((((5 : Int32) * v2) + v4).toNatClampNeg) r54) 9 (((5 : Int32) * v2) + v4).toNatClampNeg = (-9) then
          (some (0, (up2 σ54 9 ((((5 : Int32) * v2) + v4).toNatClampNeg) r54)))
        else
          (fX4_readPerson_L112 n (up2 σ54 9 ((((5 : Int32) * v2) + v4).toNatClampNeg) r54) v1 v2 (v4 + 1)))
      else
        (bind2 (fX4_digit σ v1 0 9) fun r49 σ49 =>
        if ((5 : Int32) * v2) + v4 < 0 ∨ 25 ≤ (((5 : Int32) * v2) + v4).toNatClampNeg then none else
        if ((5 : Int32) * v2) + v4 < 0 ∨ 25 ≤ (((5 : Int32) * v2) + v4).toNatClampNeg then none else
        if (up2 σ49 9 ((((5 : Int32) * v2) + v4).toNatClampNeg) r49) 9 (((5 : Int32) * v2) + v4).toNatClampNeg = (-9) then
          (some (0, (up2 σ49 9 ((((5 : Int32) * v2) + v4).toNatClampNeg) r49)))
        else
          (fX4_readPerson_L112 n (up2 σ49 9 ((((5 : Int32) * v2) + v4).toNatClampNeg) r49) v1 v2 (v4 + 1))))
def fX4_readPerson (n : Nat) (σ : St) (v1 : Int32) (v2 : Int32) : Option (Int32 × St) :=
  if v1 ≤ σ 0 11 then
    (if v2 < 0 ∨ 5 ≤ v2.toNatClampNeg then none else
    if v2 < 0 ∨ 5 ≤ v2.toNatClampNeg then none else
    if (up2 σ 7 v2.toNatClampNeg (-9)) 7 v2.toNatClampNeg = (-9) then
      (some (0, (up2 σ 7 v2.toNatClampNeg (-9))))
    else
      (bind2 (fX4_digit (up2 (up2 σ 7 v2.toNatClampNeg (-9)) 0 11 (((up2 σ 7 v2.toNatClampNeg (-9)) 0 11) + 1)) v1 0 1) fun r6 σ6 =>
      if v2 < 0 ∨ 5 ≤ v2.toNatClampNeg then none else
      if v2 < 0 ∨ 5 ≤ v2.toNatClampNeg then none else
      if (up2 σ6 8 v2.toNatClampNeg r6) 8 v2.toNatClampNeg = (-9) then
        (some (0, (up2 σ6 8 v2.toNatClampNeg r6)))
      else
        (fX4_readPerson_L112 n (up2 σ6 8 v2.toNatClampNeg r6) v1 v2 0)))
  else
    (if σ 0 11 < 0 ∨ 240 ≤ (σ 0 11).toNatClampNeg then none else
    if σ 3 (σ 0 11).toNatClampNeg = 114 then
      (if v2 < 0 ∨ 5 ≤ v2.toNatClampNeg then none else
      if v2 < 0 ∨ 5 ≤ v2.toNatClampNeg then none else
      if (up2 σ 7 v2.toNatClampNeg 0) 7 v2.toNatClampNeg = (-9) then
        (some (0, (up2 σ 7 v2.toNatClampNeg 0)))
      else
        (bind2 (fX4_digit (up2 (up2 σ 7 v2.toNatClampNeg 0) 0 11 (((up2 σ 7 v2.toNatClampNeg 0) 0 11) + 1)) v1 0 1) fun r42 σ42 =>
        if v2 < 0 ∨ 5 ≤ v2.toNatClampNeg then none else
        if v2 < 0 ∨ 5 ≤ v2.toNatClampNeg then none else
        if (up2 σ42 8 v2.toNatClampNeg r42) 8 v2.toNatClampNeg = (-9) then
          (some (0, (up2 σ42 8 v2.toNatClampNeg r42)))
        else
          (fX4_readPerson_L112 n (up2 σ42 8 v2.toNatClampNeg r42) v1 v2 0)))
    else
      (if σ 3 (σ 0 11).toNatClampNeg = 102 then
        (if v2 < 0 ∨ 5 ≤ v2.toNatClampNeg then none else
        if v2 < 0 ∨ 5 ≤ v2.toNatClampNeg then none else
        if (up2 σ 7 v2.toNatClampNeg 1) 7 v2.toNatClampNeg = (-9) then
          (some (0, (up2 σ 7 v2.toNatClampNeg 1)))
        else
          (bind2 (fX4_digit (up2 (up2 σ 7 v2.toNatClampNeg 1) 0 11 (((up2 σ 7 v2.toNatClampNeg 1) 0 11) + 1)) v1 0 1) fun r34 σ34 =>
          if v2 < 0 ∨ 5 ≤ v2.toNatClampNeg then none else
          if v2 < 0 ∨ 5 ≤ v2.toNatClampNeg then none else
          if (up2 σ34 8 v2.toNatClampNeg r34) 8 v2.toNatClampNeg = (-9) then
            (some (0, (up2 σ34 8 v2.toNatClampNeg r34)))
          else
            (fX4_readPerson_L112 n (up2 σ34 8 v2.toNatClampNeg r34) v1 v2 0)))
      else
        (if σ 3 (σ 0 11).toNatClampNeg = 98 then
          (if v2 < 0 ∨ 5 ≤ v2.toNatClampNeg then none else
          if v2 < 0 ∨ 5 ≤ v2.toNatClampNeg then none else
          if (up2 σ 7 v2.toNatClampNeg 2) 7 v2.toNatClampNeg = (-9) then
            (some (0, (up2 σ 7 v2.toNatClampNeg 2)))
          else
            (bind2 (fX4_digit (up2 (up2 σ 7 v2.toNatClampNeg 2) 0 11 (((up2 σ 7 v2.toNatClampNeg 2) 0 11) + 1)) v1 0 1) fun r26 σ26 =>
            if v2 < 0 ∨ 5 ≤ v2.toNatClampNeg then none else
            if v2 < 0 ∨ 5 ≤ v2.toNatClampNeg then none else
            if (up2 σ26 8 v2.toNatClampNeg r26) 8 v2.toNatClampNeg = (-9) then
              (some (0, (up2 σ26 8 v2.toNatClampNeg r26)))
            else
              (fX4_readPerson_L112 n (up2 σ26 8 v2.toNatClampNeg r26) v1 v2 0)))
        else
          (if v2 < 0 ∨ 5 ≤ v2.toNatClampNeg then none else
          if v2 < 0 ∨ 5 ≤ v2.toNatClampNeg then none else
          if (up2 σ 7 v2.toNatClampNeg (-9)) 7 v2.toNatClampNeg = (-9) then
            (some (0, (up2 σ 7 v2.toNatClampNeg (-9))))
          else
            (bind2 (fX4_digit (up2 (up2 σ 7 v2.toNatClampNeg (-9)) 0 11 (((up2 σ 7 v2.toNatClampNeg (-9)) 0 11) + 1)) v1 0 1) fun r18 σ18 =>
            if v2 < 0 ∨ 5 ≤ v2.toNatClampNeg then none else
            if v2 < 0 ∨ 5 ≤ v2.toNatClampNeg then none else
            if (up2 σ18 8 v2.toNatClampNeg r18) 8 v2.toNatClampNeg = (-9) then
              (some (0, (up2 σ18 8 v2.toNatClampNeg r18)))
            else
              (fX4_readPerson_L112 n (up2 σ18 8 v2.toNatClampNeg r18) v1 v2 0))))))
def fX4_readRiver_L80 : Nat → St → Int32 → Int32 → Option (Int32 × St)
  | 0, _, _, _ => none
  | n + 1, σ, v1, v2 =>
    if σ 0 14 ≤ v2 then
      (if σ 0 11 = v1 then
        (some (1, σ))
      else
        (some (0, σ)))
    else
      (bind2 (fX4_isSign σ v1 44) fun r16 σ16 =>
      if r16 = 0 then
        (some (0, σ16))
      else
        (bind2 (fX4_readPerson n σ16 v1 v2) fun r19 σ19 =>
        if r19 = 0 then
          (some (0, σ19))
        else
          (fX4_readRiver_L80 n σ19 v1 (v2 + 1))))
def fX4_readRiver (n : Nat) (σ : St) (v1 : Int32) : Option (Int32 × St) :=
  bind2 (fX4_isSign σ v1 111) fun r2 σ2 =>
  if r2 = 0 then
    (some (0, σ2))
  else
    (bind2 (fX4_digit σ2 v1 1 3) fun r5 σ5 =>
    if (up2 σ5 0 12 r5) 0 12 = (-9) then
      (some (0, (up2 σ5 0 12 r5)))
    else
      (bind2 (fX4_digit (up2 σ5 0 12 r5) v1 1 3) fun r8 σ8 =>
      if (up2 σ8 0 13 r8) 0 13 = (-9) then
        (some (0, (up2 σ8 0 13 r8)))
      else
        (bind2 (fX4_digit (up2 σ8 0 13 r8) v1 2 5) fun r11 σ11 =>
        if (up2 σ11 0 14 r11) 0 14 = (-9) then
          (some (0, (up2 σ11 0 14 r11)))
        else
          (fX4_readRiver_L80 n (up2 σ11 0 14 r11) v1 0))))
def fX4_takeRiver_G26 : Nat → Nat → St → Int32 → Int32 → Option St
  | 0, _, _, _, _ => none
  | n + 1, lab, σ, v1, v2 =>
    if lab = 0 then
      (if σ 0 5 ≤ v1 then
        (some (up2 σ 0 26 0))
      else
        (if v1 < 0 ∨ 5 ≤ v1.toNatClampNeg then none else
        if v1 < 0 ∨ 5 ≤ v1.toNatClampNeg then none else
        if v1 < 0 ∨ 5 ≤ v1.toNatClampNeg then none else
        if v1 < 0 ∨ 5 ≤ v1.toNatClampNeg then none else
        fX4_takeRiver_G26 n 1 (up2 (up2 σ 4 v1.toNatClampNeg (σ 7 v1.toNatClampNeg)) 5 v1.toNatClampNeg ((up2 σ 4 v1.toNatClampNeg (σ 7 v1.toNatClampNeg)) 8 v1.toNatClampNeg)) v1 0))
    else 
      (if σ 0 5 ≤ v2 then
        (fX4_takeRiver_G26 n 0 σ (v1 + 1) 0)
      else
        (if ((5 : Int32) * v1) + v2 < 0 ∨ 25 ≤ (((5 : Int32) * v1) + v2).toNatClampNeg then none else
        if ((5 : Int32) * v1) + v2 < 0 ∨ 25 ≤ (((5 : Int32) * v1) + v2).toNatClampNeg then none else
        fX4_takeRiver_G26 n 1 (up2 σ 6 ((((5 : Int32) * v1) + v2).toNatClampNeg) (σ 9 (((5 : Int32) * v1) + v2).toNatClampNeg)) v1 (v2 + 1)))
def fX4_takeRiver (n : Nat) (σ : St) : Option St :=
  fX4_takeRiver_G26 n 0 (up2 (up2 (up2 σ 0 5 (σ 0 14)) 0 6 ((up2 σ 0 5 (σ 0 14)) 0 12)) 0 7 ((up2 (up2 σ 0 5 (σ 0 14)) 0 6 ((up2 σ 0 5 (σ 0 14)) 0 12)) 0 13)) 0 0
def fX4_river (n : Nat) (σ : St) (v1 : Int32) (v2 : Int32) (v3 : Int32) (v4 : Int32) : Option (Int32 × St) :=
  (fX4_isSheet v1).bind fun r2 =>
  if r2 = 0 then
    (some ((-1), (up2 σ 0 0 0)))
  else
    ((fX4_isSort v2).bind fun r5 =>
    if r5 = 0 then
      (some ((-2), (up2 σ 0 0 0)))
    else
      ((fX4_against (up2 σ 0 0 0) v1 v2 v3 v4).bind fun r8 =>
      if r8 = 0 then
        (bind2 (fX4_readRiver n (up2 (up2 σ 0 0 0) 0 11 (((60 : Int32) * v1) + v3)) ((((60 : Int32) * v1) + v3) + v4)) fun r11 σ11 =>
        if r11 = 0 then
          (some (((-100) : Int32) - ((σ11 0 11) - (((60 : Int32) * v1) + v3)), σ11))
        else
          ((fX4_takeRiver n σ11).bind fun σ14 =>
          some (σ14 0 5, σ14)))
      else
        (bind2 (fX4_fails (up2 σ 0 0 0) r8) fun r16 σ16 =>
        some (r16, σ16))))
def fX4_allOf_L4 : Nat → St → Int32 → Int32 → Int32 → Option Int32
  | 0, _, _, _, _ => none
  | n + 1, σ, v1, v2, v3 =>
    if σ 0 5 ≤ v3 then
      (some v2)
    else
      (if ((5 : Int32) * v1) + v3 < 0 ∨ 25 ≤ (((5 : Int32) * v1) + v3).toNatClampNeg then none else
      fX4_allOf_L4 n σ v1 (v2 + (σ 6 (((5 : Int32) * v1) + v3).toNatClampNeg)) (v3 + 1))
def fX4_allOf (n : Nat) (σ : St) (v1 : Int32) : Option Int32 :=
  fX4_allOf_L4 n σ v1 0 0
def fX4_ofPerson (n : Nat) (σ : St) (v1 : Int32) (v2 : Int32) : Option Int32 :=
  (fX4_isPerson σ v1).bind fun r2 =>
  if r2 = 0 then
    (some (-1))
  else
    (if v2 = 0 then
      (if v1 < 0 ∨ 5 ≤ v1.toNatClampNeg then none else
      some (σ 4 v1.toNatClampNeg))
    else
      (if v2 = 1 then
        (if v1 < 0 ∨ 5 ≤ v1.toNatClampNeg then none else
        some (σ 5 v1.toNatClampNeg))
      else
        (if v2 = 2 then
          ((fX4_allOf n σ v1).bind fun r8 =>
          some r8)
        else
          (some (-2)))))
def fX4_owes (σ : St) (v1 : Int32) (v2 : Int32) : Option Int32 :=
  (fX4_isPerson σ v1).bind fun r2 =>
  if r2 = 0 then
    (some (-1))
  else
    ((fX4_isPerson σ v2).bind fun r5 =>
    if r5 = 0 then
      (some (-1))
    else
      (if ((5 : Int32) * v1) + v2 < 0 ∨ 25 ≤ (((5 : Int32) * v1) + v2).toNatClampNeg then none else
      some (σ 6 (((5 : Int32) * v1) + v2).toNatClampNeg)))
def fX4_isNote (σ : St) (v1 : Int32) (v2 : Int32) : Option Int32 :=
  (fX4_isPerson σ v1).bind fun r2 =>
  if r2 = 0 then
    (some 0)
  else
    ((fX4_isPerson σ v2).bind fun r5 =>
    if r5 = 0 then
      (some 0)
    else
      (if v1 = v2 then
        (some 0)
      else
        (some 1)))
def fX4_lend (σ : St) (v1 : Int32) (v2 : Int32) (v3 : Int32) : Option (Int32 × St) :=
  (fX4_isNote σ v1 v2).bind fun r2 =>
  if r2 = 0 then
    (some ((-1), σ))
  else
    ((fX4_within v3 0 9).bind fun r5 =>
    if r5 = 0 then
      (some ((-2), σ))
    else
      (if ((5 : Int32) * v1) + v2 < 0 ∨ 25 ≤ (((5 : Int32) * v1) + v2).toNatClampNeg then none else
      if ((5 : Int32) * v1) + v2 < 0 ∨ 25 ≤ (((5 : Int32) * v1) + v2).toNatClampNeg then none else
      some (σ 6 (((5 : Int32) * v1) + v2).toNatClampNeg, (up2 σ 6 ((((5 : Int32) * v1) + v2).toNatClampNeg) v3))))
def fX4_count (σ : St) (v1 : Int32) : Option (Int32 × St) :=
  (fX4_within v1 1 3).bind fun r2 =>
  if r2 = 0 then
    (some ((-2), σ))
  else
    (if σ 0 5 = 0 then
      (some ((-3), σ))
    else
      (some (σ 0 7, (up2 σ 0 7 v1))))
def fX4_build (σ : St) (v1 : Int32) : Option (Int32 × St) :=
  (fX4_within v1 1 3).bind fun r2 =>
  if r2 = 0 then
    (some ((-2), σ))
  else
    (if σ 0 5 = 0 then
      (some ((-3), σ))
    else
      (some (σ 0 6, (up2 σ 0 6 v1))))
def fX4_debtOf_L5 : Nat → St → Int32 → Int32 → Int32 → Int32 → Option Int32
  | 0, _, _, _, _, _ => none
  | n + 1, σ, v1, v2, v3, v4 =>
    if σ 0 5 ≤ v4 then
      (if v1 < 0 ∨ 5 ≤ v1.toNatClampNeg then none else
      if σ 4 v1.toNatClampNeg = 1 then
        (if v3 ≤ 0 then
          (some 0)
        else
          (some (v3 - 1)))
      else
        (if v1 < 0 ∨ 5 ≤ v1.toNatClampNeg then none else
        if σ 4 v1.toNatClampNeg = 0 then
          (some v3)
        else
          (some (v3 / 2))))
    else
      ((fX4_isOf (σ 0 18) v1).bind fun r8 =>
      if r8 = 0 then
        ((fX4_isOf (σ 0 19) v4).bind fun r14 =>
        if r14 = 0 then
          (if ((5 : Int32) * v1) + v4 < 0 ∨ 25 ≤ (((5 : Int32) * v1) + v4).toNatClampNeg then none else
          (fX4_isOf v2 v4).bind fun r18 =>
          if r18 = 0 then
            (fX4_debtOf_L5 n σ v1 v2 (v3 + (σ 6 (((5 : Int32) * v1) + v4).toNatClampNeg)) (v4 + 1))
          else
            (fX4_debtOf_L5 n σ v1 v2 (v3 + ((σ 0 7) * (σ 6 (((5 : Int32) * v1) + v4).toNatClampNeg))) (v4 + 1)))
        else
          ((fX4_isOf v2 v4).bind fun r21 =>
          if r21 = 0 then
            (fX4_debtOf_L5 n σ v1 v2 (v3 + 0) (v4 + 1))
          else
            (fX4_debtOf_L5 n σ v1 v2 (v3 + ((σ 0 7) * 0)) (v4 + 1))))
      else
        ((fX4_isOf v2 v4).bind fun r11 =>
        if r11 = 0 then
          (fX4_debtOf_L5 n σ v1 v2 (v3 + 0) (v4 + 1))
        else
          (fX4_debtOf_L5 n σ v1 v2 (v3 + ((σ 0 7) * 0)) (v4 + 1))))
def fX4_debtOf (n : Nat) (σ : St) (v1 : Int32) (v2 : Int32) : Option Int32 :=
  fX4_debtOf_L5 n σ v1 v2 0 0
def fX4_pullersOf_L7 : Nat → St → Int32 → Int32 → Int32 → Int32 → Option Int32
  | 0, _, _, _, _, _ => none
  | n + 1, σ, v1, v2, v3, v4 =>
    if σ 0 5 ≤ v4 then
      (some v3)
    else
      ((fX4_isOf v1 v4).bind fun r3 =>
      if r3 = 0 then
        (if 0 ≤ v2 then
          (if 0 = v2 then
            (fX4_pullersOf_L7 n σ v1 v2 (v3 ||| ((1 : Int32) <<< (v4 &&& 31))) (v4 + 1))
          else
            (fX4_pullersOf_L7 n σ v1 v2 (v3 ||| 0) (v4 + 1)))
        else
          (fX4_pullersOf_L7 n σ v1 0 ((0 : Int32) ||| ((1 : Int32) <<< (v4 &&& 31))) (v4 + 1)))
      else
        ((fX4_debtOf n σ v4 v1).bind fun r8 =>
        if r8 ≤ v2 then
          (if r8 = v2 then
            (fX4_pullersOf_L7 n σ v1 v2 (v3 ||| ((1 : Int32) <<< (v4 &&& 31))) (v4 + 1))
          else
            (fX4_pullersOf_L7 n σ v1 v2 (v3 ||| 0) (v4 + 1)))
        else
          (if r8 = r8 then
            (fX4_pullersOf_L7 n σ v1 r8 ((0 : Int32) ||| ((1 : Int32) <<< (v4 &&& 31))) (v4 + 1))
          else
            (fX4_pullersOf_L7 n σ v1 r8 ((0 : Int32) ||| 0) (v4 + 1)))))
def fX4_pullersOf (n : Nat) (σ : St) (v1 : Int32) : Option Int32 :=
  fX4_pullersOf_L7 n σ v1 1 0 0
def fX4_size_L4 : Nat → Int32 → Int32 → Option Int32
  | 0, _, _ => none
  | n + 1, v1, v2 =>
    if v2 ≤ 0 then
      (some v1)
    else
      (fX4_size_L4 n (v1 + (v2 &&& 1)) (v2 >>> (1 &&& 31)))
def fX4_size (n : Nat) (v0 : Int32) : Option Int32 :=
  fX4_size_L4 n 0 v0
def fX4_isFair_L33 : Nat → St → Int32 → Int32 → Option Int32
  | 0, _, _, _ => none
  | n + 1, σ, v2, v3 =>
    if σ 0 5 ≤ v3 then
      (some 1)
    else
      ((fX4_isOf v2 v3).bind fun r12 =>
      if r12 = 0 then
        (fX4_isFair_L33 n σ v2 (v3 + 1))
      else
        (if v3 < 0 ∨ 5 ≤ v3.toNatClampNeg then none else
        if σ 5 v3.toNatClampNeg = 1 then
          (some 0)
        else
          (fX4_isFair_L33 n σ v2 (v3 + 1))))
def fX4_isFair (n : Nat) (σ : St) (v1 : Int32) : Option Int32 :=
  (fX4_pullersOf n σ v1).bind fun r2 =>
  if v1 = 0 then
    (some 0)
  else
    ((fX4_size n v1).bind fun r5 =>
    if σ 0 6 < r5 then
      (some 0)
    else
      ((fX4_size n r2).bind fun r8 =>
      if r8 = 1 then
        (fX4_isFair_L33 n σ r2 0)
      else
        (some 0)))
def fX4_debt (n : Nat) (σ : St) (v1 : Int32) (v2 : Int32) : Option Int32 :=
  (fX4_isPerson σ v1).bind fun r2 =>
  if r2 = 0 then
    (some (-1))
  else
    ((fX4_isSet σ v2).bind fun r5 =>
    if r5 = 0 then
      (some (-2))
    else
      ((fX4_isOf v2 v1).bind fun r8 =>
      if r8 = 0 then
        (some (-3))
      else
        ((fX4_debtOf n σ v1 v2).bind fun r11 =>
        some r11)))
def fX4_pullers (n : Nat) (σ : St) (v1 : Int32) : Option Int32 :=
  if σ 0 5 = 0 then
    (some (-3))
  else
    ((fX4_isSet σ v1).bind fun r3 =>
    if r3 = 0 then
      (some (-2))
    else
      ((fX4_pullersOf n σ v1).bind fun r6 =>
      some r6))
def fX4_fair (n : Nat) (σ : St) (v1 : Int32) : Option Int32 :=
  if σ 0 5 = 0 then
    (some (-3))
  else
    ((fX4_isSet σ v1).bind fun r3 =>
    if r3 = 0 then
      (some (-2))
    else
      ((fX4_isFair n σ v1).bind fun r6 =>
      if r6 = 0 then
        (some 0)
      else
        (some 1)))
def fX4_goLoads_G42 : Nat → Nat → St → Int32 → Int32 → Int32 → Int32 → Int32 → Option (Int32 × St)
  | 0, _, _, _, _, _, _, _ => none
  | n + 1, lab, σ, v1, v2, v3, v5, v6 =>
    if lab = 0 then
      (if v2 ≤ v3 then
        (some ((-9), σ))
      else
        (if v1 + v3 < 0 ∨ 240 ≤ (v1 + v3).toNatClampNeg then none else
        if σ 3 (v1 + v3).toNatClampNeg = 0 then
          (some (v3, σ))
        else
          ((fX4_size n (σ 3 (v1 + v3).toNatClampNeg)).bind fun r7 =>
          if σ 0 6 < r7 then
            (some (v3, σ))
          else
            (if (σ 3 (v1 + v3).toNatClampNeg) &&& (σ 0 23) = 0 then
              ((fX4_pullersOf n σ (σ 3 (v1 + v3).toNatClampNeg)).bind fun r11 =>
              (fX4_isFair n (up2 σ 0 23 ((σ 0 23) ||| (σ 3 (v1 + v3).toNatClampNeg))) (σ 3 (v1 + v3).toNatClampNeg)).bind fun r13 =>
              if r13 = 0 then
                ((fX4_size n r11).bind fun r16 =>
                if r16 ≤ 1 then
                  (if r11 = 0 then
                    (fX4_goLoads_G42 n 1 (up2 (up2 (up2 (up2 σ 0 23 ((σ 0 23) ||| (σ 3 (v1 + v3).toNatClampNeg))) 0 20 (((up2 σ 0 23 ((σ 0 23) ||| (σ 3 (v1 + v3).toNatClampNeg))) 0 20) + 0)) 0 21 (((up2 (up2 σ 0 23 ((σ 0 23) ||| (σ 3 (v1 + v3).toNatClampNeg))) 0 20 (((up2 σ 0 23 ((σ 0 23) ||| (σ 3 (v1 + v3).toNatClampNeg))) 0 20) + 0)) 0 21) + 0)) 0 22 (((up2 (up2 (up2 σ 0 23 ((σ 0 23) ||| (σ 3 (v1 + v3).toNatClampNeg))) 0 20 (((up2 σ 0 23 ((σ 0 23) ||| (σ 3 (v1 + v3).toNatClampNeg))) 0 20) + 0)) 0 21 (((up2 (up2 σ 0 23 ((σ 0 23) ||| (σ 3 (v1 + v3).toNatClampNeg))) 0 20 (((up2 σ 0 23 ((σ 0 23) ||| (σ 3 (v1 + v3).toNatClampNeg))) 0 20) + 0)) 0 21) + 0)) 0 22) + 1)) v1 v2 v3 r11 0)
                  else
                    (fX4_goLoads_G42 n 1 (up2 (up2 (up2 (up2 σ 0 23 ((σ 0 23) ||| (σ 3 (v1 + v3).toNatClampNeg))) 0 20 (((up2 σ 0 23 ((σ 0 23) ||| (σ 3 (v1 + v3).toNatClampNeg))) 0 20) + 0)) 0 21 (((up2 (up2 σ 0 23 ((σ 0 23) ||| (σ 3 (v1 + v3).toNatClampNeg))) 0 20 (((up2 σ 0 23 ((σ 0 23) ||| (σ 3 (v1 + v3).toNatClampNeg))) 0 20) + 0)) 0 21) + 0)) 0 22 (((up2 (up2 (up2 σ 0 23 ((σ 0 23) ||| (σ 3 (v1 + v3).toNatClampNeg))) 0 20 (((up2 σ 0 23 ((σ 0 23) ||| (σ 3 (v1 + v3).toNatClampNeg))) 0 20) + 0)) 0 21 (((up2 (up2 σ 0 23 ((σ 0 23) ||| (σ 3 (v1 + v3).toNatClampNeg))) 0 20 (((up2 σ 0 23 ((σ 0 23) ||| (σ 3 (v1 + v3).toNatClampNeg))) 0 20) + 0)) 0 21) + 0)) 0 22) + 0)) v1 v2 v3 r11 0))
                else
                  (if r11 = 0 then
                    (fX4_goLoads_G42 n 1 (up2 (up2 (up2 (up2 σ 0 23 ((σ 0 23) ||| (σ 3 (v1 + v3).toNatClampNeg))) 0 20 (((up2 σ 0 23 ((σ 0 23) ||| (σ 3 (v1 + v3).toNatClampNeg))) 0 20) + 0)) 0 21 (((up2 (up2 σ 0 23 ((σ 0 23) ||| (σ 3 (v1 + v3).toNatClampNeg))) 0 20 (((up2 σ 0 23 ((σ 0 23) ||| (σ 3 (v1 + v3).toNatClampNeg))) 0 20) + 0)) 0 21) + 1)) 0 22 (((up2 (up2 (up2 σ 0 23 ((σ 0 23) ||| (σ 3 (v1 + v3).toNatClampNeg))) 0 20 (((up2 σ 0 23 ((σ 0 23) ||| (σ 3 (v1 + v3).toNatClampNeg))) 0 20) + 0)) 0 21 (((up2 (up2 σ 0 23 ((σ 0 23) ||| (σ 3 (v1 + v3).toNatClampNeg))) 0 20 (((up2 σ 0 23 ((σ 0 23) ||| (σ 3 (v1 + v3).toNatClampNeg))) 0 20) + 0)) 0 21) + 1)) 0 22) + 1)) v1 v2 v3 r11 0)
                  else
                    (fX4_goLoads_G42 n 1 (up2 (up2 (up2 (up2 σ 0 23 ((σ 0 23) ||| (σ 3 (v1 + v3).toNatClampNeg))) 0 20 (((up2 σ 0 23 ((σ 0 23) ||| (σ 3 (v1 + v3).toNatClampNeg))) 0 20) + 0)) 0 21 (((up2 (up2 σ 0 23 ((σ 0 23) ||| (σ 3 (v1 + v3).toNatClampNeg))) 0 20 (((up2 σ 0 23 ((σ 0 23) ||| (σ 3 (v1 + v3).toNatClampNeg))) 0 20) + 0)) 0 21) + 1)) 0 22 (((up2 (up2 (up2 σ 0 23 ((σ 0 23) ||| (σ 3 (v1 + v3).toNatClampNeg))) 0 20 (((up2 σ 0 23 ((σ 0 23) ||| (σ 3 (v1 + v3).toNatClampNeg))) 0 20) + 0)) 0 21 (((up2 (up2 σ 0 23 ((σ 0 23) ||| (σ 3 (v1 + v3).toNatClampNeg))) 0 20 (((up2 σ 0 23 ((σ 0 23) ||| (σ 3 (v1 + v3).toNatClampNeg))) 0 20) + 0)) 0 21) + 1)) 0 22) + 0)) v1 v2 v3 r11 0)))
              else
                ((fX4_size n r11).bind fun r21 =>
                if r21 ≤ 1 then
                  (if r11 = 0 then
                    (fX4_goLoads_G42 n 1 (up2 (up2 (up2 (up2 σ 0 23 ((σ 0 23) ||| (σ 3 (v1 + v3).toNatClampNeg))) 0 20 (((up2 σ 0 23 ((σ 0 23) ||| (σ 3 (v1 + v3).toNatClampNeg))) 0 20) + 1)) 0 21 (((up2 (up2 σ 0 23 ((σ 0 23) ||| (σ 3 (v1 + v3).toNatClampNeg))) 0 20 (((up2 σ 0 23 ((σ 0 23) ||| (σ 3 (v1 + v3).toNatClampNeg))) 0 20) + 1)) 0 21) + 0)) 0 22 (((up2 (up2 (up2 σ 0 23 ((σ 0 23) ||| (σ 3 (v1 + v3).toNatClampNeg))) 0 20 (((up2 σ 0 23 ((σ 0 23) ||| (σ 3 (v1 + v3).toNatClampNeg))) 0 20) + 1)) 0 21 (((up2 (up2 σ 0 23 ((σ 0 23) ||| (σ 3 (v1 + v3).toNatClampNeg))) 0 20 (((up2 σ 0 23 ((σ 0 23) ||| (σ 3 (v1 + v3).toNatClampNeg))) 0 20) + 1)) 0 21) + 0)) 0 22) + 1)) v1 v2 v3 r11 0)
                  else
                    (fX4_goLoads_G42 n 1 (up2 (up2 (up2 (up2 σ 0 23 ((σ 0 23) ||| (σ 3 (v1 + v3).toNatClampNeg))) 0 20 (((up2 σ 0 23 ((σ 0 23) ||| (σ 3 (v1 + v3).toNatClampNeg))) 0 20) + 1)) 0 21 (((up2 (up2 σ 0 23 ((σ 0 23) ||| (σ 3 (v1 + v3).toNatClampNeg))) 0 20 (((up2 σ 0 23 ((σ 0 23) ||| (σ 3 (v1 + v3).toNatClampNeg))) 0 20) + 1)) 0 21) + 0)) 0 22 (((up2 (up2 (up2 σ 0 23 ((σ 0 23) ||| (σ 3 (v1 + v3).toNatClampNeg))) 0 20 (((up2 σ 0 23 ((σ 0 23) ||| (σ 3 (v1 + v3).toNatClampNeg))) 0 20) + 1)) 0 21 (((up2 (up2 σ 0 23 ((σ 0 23) ||| (σ 3 (v1 + v3).toNatClampNeg))) 0 20 (((up2 σ 0 23 ((σ 0 23) ||| (σ 3 (v1 + v3).toNatClampNeg))) 0 20) + 1)) 0 21) + 0)) 0 22) + 0)) v1 v2 v3 r11 0))
                else
                  (if r11 = 0 then
                    (fX4_goLoads_G42 n 1 (up2 (up2 (up2 (up2 σ 0 23 ((σ 0 23) ||| (σ 3 (v1 + v3).toNatClampNeg))) 0 20 (((up2 σ 0 23 ((σ 0 23) ||| (σ 3 (v1 + v3).toNatClampNeg))) 0 20) + 1)) 0 21 (((up2 (up2 σ 0 23 ((σ 0 23) ||| (σ 3 (v1 + v3).toNatClampNeg))) 0 20 (((up2 σ 0 23 ((σ 0 23) ||| (σ 3 (v1 + v3).toNatClampNeg))) 0 20) + 1)) 0 21) + 1)) 0 22 (((up2 (up2 (up2 σ 0 23 ((σ 0 23) ||| (σ 3 (v1 + v3).toNatClampNeg))) 0 20 (((up2 σ 0 23 ((σ 0 23) ||| (σ 3 (v1 + v3).toNatClampNeg))) 0 20) + 1)) 0 21 (((up2 (up2 σ 0 23 ((σ 0 23) ||| (σ 3 (v1 + v3).toNatClampNeg))) 0 20 (((up2 σ 0 23 ((σ 0 23) ||| (σ 3 (v1 + v3).toNatClampNeg))) 0 20) + 1)) 0 21) + 1)) 0 22) + 1)) v1 v2 v3 r11 0)
                  else
                    (fX4_goLoads_G42 n 1 (up2 (up2 (up2 (up2 σ 0 23 ((σ 0 23) ||| (σ 3 (v1 + v3).toNatClampNeg))) 0 20 (((up2 σ 0 23 ((σ 0 23) ||| (σ 3 (v1 + v3).toNatClampNeg))) 0 20) + 1)) 0 21 (((up2 (up2 σ 0 23 ((σ 0 23) ||| (σ 3 (v1 + v3).toNatClampNeg))) 0 20 (((up2 σ 0 23 ((σ 0 23) ||| (σ 3 (v1 + v3).toNatClampNeg))) 0 20) + 1)) 0 21) + 1)) 0 22 (((up2 (up2 (up2 σ 0 23 ((σ 0 23) ||| (σ 3 (v1 + v3).toNatClampNeg))) 0 20 (((up2 σ 0 23 ((σ 0 23) ||| (σ 3 (v1 + v3).toNatClampNeg))) 0 20) + 1)) 0 21 (((up2 (up2 σ 0 23 ((σ 0 23) ||| (σ 3 (v1 + v3).toNatClampNeg))) 0 20 (((up2 σ 0 23 ((σ 0 23) ||| (σ 3 (v1 + v3).toNatClampNeg))) 0 20) + 1)) 0 21) + 1)) 0 22) + 0)) v1 v2 v3 r11 0))))
            else
              (some (v3, σ))))))
    else 
      (if σ 0 5 ≤ v6 then
        (fX4_goLoads_G42 n 0 σ v1 v2 (v3 + 1) 0 0)
      else
        (if v6 < 0 ∨ 5 ≤ v6.toNatClampNeg then none else
        (fX4_isOf v5 v6).bind fun r28 =>
        if r28 = 0 then
          (if v6 < 0 ∨ 5 ≤ v6.toNatClampNeg then none else
          fX4_goLoads_G42 n 1 (up2 σ 10 v6.toNatClampNeg ((σ 10 v6.toNatClampNeg) + 0)) v1 v2 v3 v5 (v6 + 1))
        else
          (if v6 < 0 ∨ 5 ≤ v6.toNatClampNeg then none else
          fX4_goLoads_G42 n 1 (up2 σ 10 v6.toNatClampNeg ((σ 10 v6.toNatClampNeg) + 1)) v1 v2 v3 v5 (v6 + 1))))
def fX4_goLoads_L22 : Nat → St → Int32 → Int32 → Int32 → Option (Int32 × St)
  | 0, _, _, _, _ => none
  | n + 1, σ, v1, v2, v3 =>
    if 5 ≤ v3 then
      (fX4_goLoads_G42 n 0 σ v1 v2 0 0 0)
    else
      (if v3 < 0 ∨ 5 ≤ v3.toNatClampNeg then none else
      fX4_goLoads_L22 n (up2 σ 10 v3.toNatClampNeg 0) v1 v2 (v3 + 1))
def fX4_goLoads (n : Nat) (σ : St) (v1 : Int32) (v2 : Int32) : Option (Int32 × St) :=
  fX4_goLoads_L22 n (up2 (up2 (up2 (up2 σ 0 20 0) 0 21 0) 0 22 0) 0 23 0) v1 v2 0
def fX4_tellLoads (σ : St) (v1 : Int32) : Option Int32 :=
  if v1 = 0 then
    (some (σ 0 20))
  else
    (if v1 = 1 then
      ((fX4_isPerson σ (v1 - 10)).bind fun r4 =>
      if r4 = 0 then
        (some (-9))
      else
        (if v1 - 10 < 0 ∨ 5 ≤ (v1 - 10).toNatClampNeg then none else
        some (σ 10 (v1 - 10).toNatClampNeg)))
    else
      (if v1 = 2 then
        (some (σ 0 23))
      else
        (if v1 = 3 then
          (some (σ 0 21))
        else
          (if v1 = 4 then
            (some (σ 0 22))
          else
            ((fX4_isPerson σ (v1 - 10)).bind fun r11 =>
            if r11 = 0 then
              (some (-9))
            else
              (if v1 - 10 < 0 ∨ 5 ≤ (v1 - 10).toNatClampNeg then none else
              some (σ 10 (v1 - 10).toNatClampNeg)))))))
def fX4_loads_L101 : Nat → St → Int32 → Int32 → Int32 → Int32 → Option (Int32 × St)
  | 0, _, _, _, _, _ => none
  | n + 1, σ, v4, v5, v7, v8 =>
    if v4 ≤ v8 then
      (bind2 (fX4_goLoads n σ v7 v4) fun r30 σ30 =>
      if v5 = 1 then
        (some (r30, σ30))
      else
        (if r30 = (-9) then
          ((fX4_tellLoads σ30 v5).bind fun r34 =>
          some (r34, σ30))
        else
          (some (((-100) : Int32) - r30, σ30))))
    else
      (if v7 + v8 < 0 ∨ 240 ≤ (v7 + v8).toNatClampNeg then none else
      (fX4_isSet σ (σ 3 (v7 + v8).toNatClampNeg)).bind fun r37 =>
      if r37 = 0 then
        (some ((-2), σ))
      else
        (fX4_loads_L101 n σ v4 v5 v7 (v8 + 1)))
def fX4_loads (n : Nat) (σ : St) (v1 : Int32) (v2 : Int32) (v3 : Int32) (v4 : Int32) (v5 : Int32) : Option (Int32 × St) :=
  (fX4_isSheet v1).bind fun r2 =>
  if r2 = 0 then
    (some ((-1), (up2 σ 0 0 0)))
  else
    ((fX4_isSort v2).bind fun r5 =>
    if r5 = 0 then
      (some ((-2), (up2 σ 0 0 0)))
    else
      ((fX4_within v4 0 20).bind fun r8 =>
      if r8 = 0 then
        (some ((-2), (up2 σ 0 0 0)))
      else
        ((fX4_within v5 0 4).bind fun r11 =>
        if r11 = 0 then
          ((fX4_within v5 10 14).bind fun r20 =>
          if r20 = 0 then
            (some ((-2), (up2 σ 0 0 0)))
          else
            ((fX4_against (up2 σ 0 0 0) v1 v2 v3 v4).bind fun r23 =>
            if r23 = 0 then
              (if (up2 σ 0 0 0) 0 5 = 0 then
                (some ((-3), (up2 σ 0 0 0)))
              else
                (fX4_loads_L101 n (up2 σ 0 0 0) v4 v5 (((60 : Int32) * v1) + v3) 0))
            else
              (bind2 (fX4_fails (up2 σ 0 0 0) r23) fun r27 σ27 =>
              some (r27, σ27))))
        else
          ((fX4_against (up2 σ 0 0 0) v1 v2 v3 v4).bind fun r14 =>
          if r14 = 0 then
            (if (up2 σ 0 0 0) 0 5 = 0 then
              (some ((-3), (up2 σ 0 0 0)))
            else
              (fX4_loads_L101 n (up2 σ 0 0 0) v4 v5 (((60 : Int32) * v1) + v3) 0))
          else
            (bind2 (fX4_fails (up2 σ 0 0 0) r14) fun r18 σ18 =>
            some (r18, σ18))))))
def fX4_findFewest_G9 : Nat → Nat → St → Int32 → Int32 → Option St
  | 0, _, _, _, _ => none
  | n + 1, lab, σ, v1, v2 =>
    if lab = 0 then
      (if (1 : Int32) <<< ((σ 0 5) &&& 31) ≤ v1 then
        (some σ)
      else
        (if v1 < 0 ∨ 32 ≤ v1.toNatClampNeg then none else
        fX4_findFewest_G9 n 1 (up2 σ 11 v1.toNatClampNeg (-9)) v1 1))
    else 
      (if v1 < v2 then
        (fX4_findFewest_G9 n 0 σ (v1 + 1) 0)
      else
        (if v2 &&& (v1 ^^^ (-1)) = 0 then
          ((fX4_isFair n σ v2).bind fun r7 =>
          if r7 = 0 then
            (fX4_findFewest_G9 n 1 σ v1 (v2 + 1))
          else
            (if v1 &&& (v2 ^^^ (-1)) < 0 ∨ 32 ≤ (v1 &&& (v2 ^^^ (-1))).toNatClampNeg then none else
            if σ 11 (v1 &&& (v2 ^^^ (-1))).toNatClampNeg = (-9) then
              (fX4_findFewest_G9 n 1 σ v1 (v2 + 1))
            else
              (if v1 < 0 ∨ 32 ≤ v1.toNatClampNeg then none else
              if σ 11 v1.toNatClampNeg = (-9) then
                (if v1 < 0 ∨ 32 ≤ v1.toNatClampNeg then none else
                fX4_findFewest_G9 n 1 (up2 σ 11 v1.toNatClampNeg ((σ 11 (v1 &&& (v2 ^^^ (-1))).toNatClampNeg) + 1)) v1 (v2 + 1))
              else
                (if v1 < 0 ∨ 32 ≤ v1.toNatClampNeg then none else
                if σ 11 v1.toNatClampNeg ≤ (σ 11 (v1 &&& (v2 ^^^ (-1))).toNatClampNeg) + 1 then
                  (fX4_findFewest_G9 n 1 σ v1 (v2 + 1))
                else
                  (if v1 < 0 ∨ 32 ≤ v1.toNatClampNeg then none else
                  fX4_findFewest_G9 n 1 (up2 σ 11 v1.toNatClampNeg ((σ 11 (v1 &&& (v2 ^^^ (-1))).toNatClampNeg) + 1)) v1 (v2 + 1))))))
        else
          (fX4_findFewest_G9 n 1 σ v1 (v2 + 1))))
def fX4_findFewest (n : Nat) (σ : St) : Option St :=
  if (0 : Int32) < 0 ∨ 32 ≤ (0 : Int32).toNatClampNeg then none else
  fX4_findFewest_G9 n 0 (up2 σ 11 ((0 : Int32).toNatClampNeg) 0) 1 0
def fX4_firstLoad_L2 : Nat → St → Int32 → Int32 → Option Int32
  | 0, _, _, _ => none
  | n + 1, σ, v1, v2 =>
    if v2 &&& (v1 ^^^ (-1)) = 0 then
      ((fX4_isFair n σ v2).bind fun r3 =>
      if r3 = 0 then
        (fX4_firstLoad_L2 n σ v1 (v2 + 1))
      else
        (if v1 &&& (v2 ^^^ (-1)) < 0 ∨ 32 ≤ (v1 &&& (v2 ^^^ (-1))).toNatClampNeg then none else
        if v1 < 0 ∨ 32 ≤ v1.toNatClampNeg then none else
        if σ 11 (v1 &&& (v2 ^^^ (-1))).toNatClampNeg = (σ 11 v1.toNatClampNeg) - 1 then
          (some v2)
        else
          (fX4_firstLoad_L2 n σ v1 (v2 + 1))))
    else
      (fX4_firstLoad_L2 n σ v1 (v2 + 1))
def fX4_firstLoad (n : Nat) (σ : St) (v1 : Int32) : Option Int32 :=
  fX4_firstLoad_L2 n σ v1 1
def fX4_cross_L65 : Nat → St → Int32 → Int32 → Int32 → Int32 → Option (Int32 × St)
  | 0, _, _, _, _, _ => none
  | n + 1, σ, v1, v2, v3, v4 =>
    if v1 < v4 then
      (some (v3, σ))
    else
      ((fX4_firstLoad n σ v2).bind fun r13 =>
      fX4_cross_L65 n σ v1 (v2 &&& (r13 ^^^ (-1))) r13 (v4 + 1))
def fX4_cross (n : Nat) (σ : St) (v1 : Int32) : Option (Int32 × St) :=
  if σ 0 5 = 0 then
    (some ((-3), σ))
  else
    ((fX4_within v1 (-1) 4).bind fun r3 =>
    if r3 = 0 then
      (some ((-2), σ))
    else
      ((fX4_findFewest n σ).bind fun σ6 =>
      if v1 = (-1) then
        (if ((1 : Int32) <<< ((σ6 0 5) &&& 31)) - 1 < 0 ∨ 32 ≤ (((1 : Int32) <<< ((σ6 0 5) &&& 31)) - 1).toNatClampNeg then none else
        some (σ6 11 (((1 : Int32) <<< ((σ6 0 5) &&& 31)) - 1).toNatClampNeg, σ6))
      else
        (if ((1 : Int32) <<< ((σ6 0 5) &&& 31)) - 1 < 0 ∨ 32 ≤ (((1 : Int32) <<< ((σ6 0 5) &&& 31)) - 1).toNatClampNeg then none else
        if v1 < σ6 11 (((1 : Int32) <<< ((σ6 0 5) &&& 31)) - 1).toNatClampNeg then
          (fX4_cross_L65 n σ6 v1 (((1 : Int32) <<< ((σ6 0 5) &&& 31)) - 1) 0 0)
        else
          (some ((-9), σ6)))))
def fX4_pullsBy (n : Nat) (σ : St) (v1 : Int32) (v2 : Int32) (v3 : Int32) (v4 : Int32) : Option (Int32 × St) :=
  if ((5 : Int32) * v1) + v2 < 0 ∨ 25 ≤ (((5 : Int32) * v1) + v2).toNatClampNeg then none else
  if (σ 6 (((5 : Int32) * v1) + v2).toNatClampNeg) + v3 ≤ 9 then
    (if ((5 : Int32) * v1) + v2 < 0 ∨ 25 ≤ (((5 : Int32) * v1) + v2).toNatClampNeg then none else
    (fX4_pullersOf n (up2 σ 6 ((((5 : Int32) * v1) + v2).toNatClampNeg) ((σ 6 (((5 : Int32) * v1) + v2).toNatClampNeg) + v3)) v4).bind fun r5 =>
    if r5 = (1 : Int32) <<< (v1 &&& 31) then
      (if ((5 : Int32) * v1) + v2 < 0 ∨ 25 ≤ (((5 : Int32) * v1) + v2).toNatClampNeg then none else
      some (1, (up2 (up2 σ 6 ((((5 : Int32) * v1) + v2).toNatClampNeg) ((σ 6 (((5 : Int32) * v1) + v2).toNatClampNeg) + v3)) 6 ((((5 : Int32) * v1) + v2).toNatClampNeg) (σ 6 (((5 : Int32) * v1) + v2).toNatClampNeg))))
    else
      (if ((5 : Int32) * v1) + v2 < 0 ∨ 25 ≤ (((5 : Int32) * v1) + v2).toNatClampNeg then none else
      some (0, (up2 (up2 σ 6 ((((5 : Int32) * v1) + v2).toNatClampNeg) ((σ 6 (((5 : Int32) * v1) + v2).toNatClampNeg) + v3)) 6 ((((5 : Int32) * v1) + v2).toNatClampNeg) (σ 6 (((5 : Int32) * v1) + v2).toNatClampNeg)))))
  else
    (some (0, σ))
def fX4_loan_G66 : Nat → Nat → St → Int32 → Int32 → Int32 → Int32 → Int32 → Option (Int32 × St)
  | 0, _, _, _, _, _, _, _ => none
  | n + 1, lab, σ, v1, v2, v3, v4, v5 =>
    if lab = 0 then
      (if 9 < v4 then
        (some ((-9), σ))
      else
        (fX4_loan_G66 n 1 σ v1 v2 v3 v4 0))
    else 
      (if σ 0 5 ≤ v5 then
        (fX4_loan_G66 n 0 σ v1 v2 v3 (v4 + 1) 0)
      else
        (if v5 = v1 then
          (fX4_loan_G66 n 1 σ v1 v2 v3 v4 (v5 + 1))
        else
          (bind2 (fX4_pullsBy n σ v1 v5 v4 v2) fun r21 σ21 =>
          if r21 = 0 then
            (fX4_loan_G66 n 1 σ21 v1 v2 v3 v4 (v5 + 1))
          else
            (if v3 = 0 then
              (some (v4, σ21))
            else
              (some (v5, σ21))))))
def fX4_loan (n : Nat) (σ : St) (v1 : Int32) (v2 : Int32) (v3 : Int32) : Option (Int32 × St) :=
  (fX4_isPerson σ v1).bind fun r2 =>
  if r2 = 0 then
    (some ((-1), σ))
  else
    ((fX4_isSet σ v2).bind fun r5 =>
    if r5 = 0 then
      (some ((-2), σ))
    else
      ((fX4_within v3 0 1).bind fun r8 =>
      if r8 = 0 then
        (some ((-2), σ))
      else
        ((fX4_isOf v2 v1).bind fun r11 =>
        if r11 = 0 then
          (some ((-3), σ))
        else
          ((fX4_pullersOf n σ v2).bind fun r14 =>
          if r14 = (1 : Int32) <<< (v1 &&& 31) then
            (if v3 = 0 then
              (some (0, σ))
            else
              (some ((-9), σ)))
          else
            (fX4_loan_G66 n 0 σ v1 v2 v3 1 0)))))
def fX4_forgave_L26 : Nat → St → Int32 → Int32 → Int32 → Option (Int32 × St)
  | 0, _, _, _, _ => none
  | n + 1, σ, v1, v2, v3 =>
    if v1 < v3 then
      (some (v2, (up2 σ 0 19 0)))
    else
      (if v3 &&& (v1 ^^^ (-1)) = 0 then
        (if v2 = (-9) then
          ((fX4_pullersOf n (up2 σ 0 19 v3) v1).bind fun r9 =>
          if r9 = 0 then
            (fX4_forgave_L26 n (up2 σ 0 19 v3) v1 v3 (v3 + 1))
          else
            (fX4_forgave_L26 n (up2 σ 0 19 v3) v1 v2 (v3 + 1)))
        else
          ((fX4_size n v3).bind fun r12 =>
          (fX4_size n v2).bind fun r14 =>
          if r14 ≤ r12 then
            (fX4_forgave_L26 n σ v1 v2 (v3 + 1))
          else
            ((fX4_pullersOf n (up2 σ 0 19 v3) v1).bind fun r17 =>
            if r17 = 0 then
              (fX4_forgave_L26 n (up2 σ 0 19 v3) v1 v3 (v3 + 1))
            else
              (fX4_forgave_L26 n (up2 σ 0 19 v3) v1 v2 (v3 + 1)))))
      else
        (fX4_forgave_L26 n σ v1 v2 (v3 + 1)))
def fX4_forgave (n : Nat) (σ : St) (v1 : Int32) : Option (Int32 × St) :=
  if σ 0 5 = 0 then
    (some ((-3), σ))
  else
    ((fX4_isSet σ v1).bind fun r3 =>
    if r3 = 0 then
      (some ((-2), σ))
    else
      (fX4_forgave_L26 n σ v1 (-9) 0))
def fX4_reading (σ : St) (v1 : Int32) (v2 : Int32) : Option (Int32 × St) :=
  if σ 0 5 = 0 then
    (some ((-3), σ))
  else
    ((fX4_isSet σ v1).bind fun r3 =>
    if r3 = 0 then
      (some ((-2), σ))
    else
      (if v2 < 0 then
        (some ((-2), σ))
      else
        (if v2 &&& (v1 ^^^ (-1)) = 0 then
          (if σ 0 26 = 8 then
            (some ((-4), σ))
          else
            (if σ 0 26 < 0 ∨ 8 ≤ (σ 0 26).toNatClampNeg then none else
            if (up2 σ 12 ((σ 0 26).toNatClampNeg) v1) 0 26 < 0 ∨ 8 ≤ ((up2 σ 12 ((σ 0 26).toNatClampNeg) v1) 0 26).toNatClampNeg then none else
            some (((up2 (up2 (up2 σ 12 ((σ 0 26).toNatClampNeg) v1) 13 (((up2 σ 12 ((σ 0 26).toNatClampNeg) v1) 0 26).toNatClampNeg) v2) 0 26 (((up2 (up2 σ 12 ((σ 0 26).toNatClampNeg) v1) 13 (((up2 σ 12 ((σ 0 26).toNatClampNeg) v1) 0 26).toNatClampNeg) v2) 0 26) + 1)) 0 26) - 1, (up2 (up2 (up2 σ 12 ((σ 0 26).toNatClampNeg) v1) 13 (((up2 σ 12 ((σ 0 26).toNatClampNeg) v1) 0 26).toNatClampNeg) v2) 0 26 (((up2 (up2 σ 12 ((σ 0 26).toNatClampNeg) v1) 13 (((up2 σ 12 ((σ 0 26).toNatClampNeg) v1) 0 26).toNatClampNeg) v2) 0 26) + 1)))))
        else
          (some ((-2), σ)))))
def fX4_back (σ : St) (v1 : Int32) : Option (Int32 × St) :=
  (fX4_within v1 0 (σ 0 26)).bind fun r2 =>
  if r2 = 0 then
    (some ((-2), σ))
  else
    (some ((up2 σ 0 26 ((σ 0 26) - v1)) 0 26, (up2 σ 0 26 ((σ 0 26) - v1))))
def fX4_areSo_L2 : Nat → St → Int32 → Option Int32
  | 0, _, _ => none
  | n + 1, σ, v1 =>
    if σ 0 26 ≤ v1 then
      (some 1)
    else
      (if v1 < 0 ∨ 8 ≤ v1.toNatClampNeg then none else
      (fX4_pullersOf n σ (σ 12 v1.toNatClampNeg)).bind fun r4 =>
      if v1 < 0 ∨ 8 ≤ v1.toNatClampNeg then none else
      if r4 = σ 13 v1.toNatClampNeg then
        (fX4_areSo_L2 n σ (v1 + 1))
      else
        (some 0))
def fX4_areSo (n : Nat) (σ : St) : Option Int32 :=
  fX4_areSo_L2 n σ 0
def fX4_notes_L28 : Nat → St → Int32 → Int32 → Int32 → Int32 → Int32 → Option (Int32 × St)
  | 0, _, _, _, _, _, _ => none
  | n + 1, σ, v1, v2, v3, v4, v5 =>
    if 9 < v5 then
      (if ((5 : Int32) * v1) + v2 < 0 ∨ 25 ≤ (((5 : Int32) * v1) + v2).toNatClampNeg then none else
      some (v4, (up2 σ 6 ((((5 : Int32) * v1) + v2).toNatClampNeg) v3)))
    else
      (if ((5 : Int32) * v1) + v2 < 0 ∨ 25 ≤ (((5 : Int32) * v1) + v2).toNatClampNeg then none else
      (fX4_areSo n (up2 σ 6 ((((5 : Int32) * v1) + v2).toNatClampNeg) v5)).bind fun r9 =>
      if r9 = 0 then
        (fX4_notes_L28 n (up2 σ 6 ((((5 : Int32) * v1) + v2).toNatClampNeg) v5) v1 v2 v3 (v4 ||| 0) (v5 + 1))
      else
        (fX4_notes_L28 n (up2 σ 6 ((((5 : Int32) * v1) + v2).toNatClampNeg) v5) v1 v2 v3 (v4 ||| ((1 : Int32) <<< (v5 &&& 31))) (v5 + 1)))
def fX4_notes (n : Nat) (σ : St) (v1 : Int32) (v2 : Int32) : Option (Int32 × St) :=
  (fX4_isNote σ v1 v2).bind fun r2 =>
  if r2 = 0 then
    (some ((-1), σ))
  else
    (if ((5 : Int32) * v1) + v2 < 0 ∨ 25 ≤ (((5 : Int32) * v1) + v2).toNatClampNeg then none else
    fX4_notes_L28 n σ v1 v2 (σ 6 (((5 : Int32) * v1) + v2).toNatClampNeg) 0 0)
def fX4_kinds_L22 : Nat → St → Int32 → Int32 → Int32 → Int32 → Option (Int32 × St)
  | 0, _, _, _, _, _ => none
  | n + 1, σ, v1, v2, v3, v4 =>
    if 3 ≤ v4 then
      (if v1 < 0 ∨ 5 ≤ v1.toNatClampNeg then none else
      some (v3, (up2 σ 4 v1.toNatClampNeg v2)))
    else
      (if v1 < 0 ∨ 5 ≤ v1.toNatClampNeg then none else
      (fX4_areSo n (up2 σ 4 v1.toNatClampNeg v4)).bind fun r9 =>
      if r9 = 0 then
        (fX4_kinds_L22 n (up2 σ 4 v1.toNatClampNeg v4) v1 v2 (v3 ||| 0) (v4 + 1))
      else
        (fX4_kinds_L22 n (up2 σ 4 v1.toNatClampNeg v4) v1 v2 (v3 ||| ((1 : Int32) <<< (v4 &&& 31))) (v4 + 1)))
def fX4_kinds (n : Nat) (σ : St) (v1 : Int32) : Option (Int32 × St) :=
  (fX4_isPerson σ v1).bind fun r2 =>
  if r2 = 0 then
    (some ((-1), σ))
  else
    (if v1 < 0 ∨ 5 ≤ v1.toNatClampNeg then none else
    fX4_kinds_L22 n σ v1 (σ 4 v1.toNatClampNeg) 0 0)
def fX4_often_L19 : Nat → St → Int32 → Int32 → Int32 → Option (Int32 × St)
  | 0, _, _, _, _ => none
  | n + 1, σ, v1, v2, v3 =>
    if 3 < v3 then
      (some (v2, (up2 σ 0 7 v1)))
    else
      ((fX4_areSo n (up2 σ 0 7 v3)).bind fun r4 =>
      if r4 = 0 then
        (fX4_often_L19 n (up2 σ 0 7 v3) v1 (v2 ||| 0) (v3 + 1))
      else
        (fX4_often_L19 n (up2 σ 0 7 v3) v1 (v2 ||| ((1 : Int32) <<< (v3 &&& 31))) (v3 + 1)))
def fX4_often (n : Nat) (σ : St) : Option (Int32 × St) :=
  if σ 0 5 = 0 then
    (some ((-3), σ))
  else
    (fX4_often_L19 n σ (σ 0 7) 0 1)
def fX4_inLeastTerms_L6 : Nat → Int64 → Int64 → Int32 → Int64 → Int64 → Option Int64
  | 0, _, _, _, _, _ => none
  | n + 1, v0, v2, v4, v5, v7 =>
    if lg_cmp v7 0 = 0 then
      (if v4 = 0 then
        (if v5 = 0 then none else
        some (v0 / v5))
      else
        (if v5 = 0 then none else
        some (v2 / v5)))
    else
      (if v7 = 0 then none else
      fX4_inLeastTerms_L6 n v0 v2 v4 v7 (v5 - v5 / v7 * v7))
def fX4_inLeastTerms (n : Nat) (v0 : Int64) (v2 : Int64) (v4 : Int32) : Option Int64 :=
  fX4_inLeastTerms_L6 n v0 v2 v4 v0 v2
def fX4_odds_L53 : Nat → St → Int32 → Int32 → Int32 → Int32 → Int32 → Option (Int64 × St)
  | 0, _, _, _, _, _, _ => none
  | n + 1, σ, v1, v2, v3, v4, v5 =>
    if v5 ≤ σ 0 18 then
      ((fX4_inLeastTerms n v4.toInt64 v5.toInt64 v3).bind fun r15 =>
      some (r15, (up2 σ 0 18 0)))
    else
      ((fX4_pullersOf n σ v2).bind fun r17 =>
      (fX4_isOf r17 v1).bind fun r19 =>
      if r19 = 0 then
        (fX4_odds_L53 n (up2 σ 0 18 ((σ 0 18) + 1)) v1 v2 v3 (v4 + 0) v5)
      else
        (fX4_odds_L53 n (up2 σ 0 18 ((σ 0 18) + 1)) v1 v2 v3 (v4 + 1) v5))
def fX4_odds (n : Nat) (σ : St) (v1 : Int32) (v2 : Int32) (v3 : Int32) : Option (Int64 × St) :=
  (fX4_isPerson σ v1).bind fun r2 =>
  if r2 = 0 then
    (some ((-9223372036854775808), σ))
  else
    ((fX4_isSet σ v2).bind fun r5 =>
    if r5 = 0 then
      (some ((-9223372036854775808), σ))
    else
      ((fX4_within v3 0 1).bind fun r8 =>
      if r8 = 0 then
        (some ((-9223372036854775808), σ))
      else
        ((fX4_isOf v2 v1).bind fun r11 =>
        if r11 = 0 then
          (some ((-9223372036854775808), σ))
        else
          (fX4_odds_L53 n (up2 σ 0 18 0) v1 v2 v3 0 ((1 : Int32) <<< ((σ 0 5) &&& 31))))))
def fX4_sheet_L57 : Nat → St → Int32 → Int32 → Option (Int32 × St)
  | 0, _, _, _ => none
  | n + 1, σ, v1, v4 =>
    if 60 ≤ v4 then
      (some (1, σ))
    else
      (if ((60 : Int32) * v1) + v4 < 0 ∨ 240 ≤ (((60 : Int32) * v1) + v4).toNatClampNeg then none else
      fX4_sheet_L57 n (up2 σ 3 ((((60 : Int32) * v1) + v4).toNatClampNeg) 0) v1 (v4 + 1))
def fX4_sheet (n : Nat) (σ : St) (v1 : Int32) (v2 : Int32) (v3 : Int32) : Option (Int32 × St) :=
  (fX4_isSheet v1).bind fun r2 =>
  if r2 = 0 then
    (some ((-1), (up2 σ 0 0 0)))
  else
    ((fX4_isSort v2).bind fun r5 =>
    if r5 = 0 then
      (some ((-2), (up2 σ 0 0 0)))
    else
      (if v3 ≤ 60 then
        (if 0 ≤ v3 then
          (if v1 < 0 ∨ 4 ≤ v1.toNatClampNeg then none else
          if v1 < 0 ∨ 4 ≤ v1.toNatClampNeg then none else
          fX4_sheet_L57 n (up2 (up2 (up2 σ 0 0 0) 1 v1.toNatClampNeg v2) 2 v1.toNatClampNeg v3) v1 0)
        else
          (bind2 (fX4_fails (up2 σ 0 0 0) 4) fun r12 σ12 =>
          some (r12, σ12)))
      else
        (some ((-2), (up2 σ 0 0 0)))))
def fX4_lose (σ : St) (v1 : Int32) : Option (Int32 × St) :=
  (fX4_isSheet v1).bind fun r2 =>
  if r2 = 0 then
    (some ((-1), σ))
  else
    (if v1 < 0 ∨ 4 ≤ v1.toNatClampNeg then none else
    if σ 1 v1.toNatClampNeg = (-9) then
      (if v1 < 0 ∨ 4 ≤ v1.toNatClampNeg then none else
      some (0, (up2 σ 1 v1.toNatClampNeg (-9))))
    else
      (if v1 < 0 ∨ 4 ≤ v1.toNatClampNeg then none else
      some (1, (up2 σ 1 v1.toNatClampNeg (-9)))))
def fX4_put (σ : St) (v1 : Int32) (v2 : Int32) (v3 : Int32) : Option (Int32 × St) :=
  (fX4_isSheet v1).bind fun r2 =>
  if r2 = 0 then
    (some ((-1), (up2 σ 0 0 0)))
  else
    (if v1 < 0 ∨ 4 ≤ v1.toNatClampNeg then none else
    if (up2 σ 0 0 0) 1 v1.toNatClampNeg = (-9) then
      (bind2 (fX4_fails (up2 σ 0 0 0) 1) fun r20 σ20 =>
      some (r20, σ20))
    else
      (if v1 < 0 ∨ 4 ≤ v1.toNatClampNeg then none else
      (fX4_within v2 0 (((up2 σ 0 0 0) 2 v1.toNatClampNeg) - 1)).bind fun r8 =>
      if r8 = 0 then
        (bind2 (fX4_fails (up2 σ 0 0 0) 3) fun r18 σ18 =>
        some (r18, σ18))
      else
        (if v1 < 0 ∨ 4 ≤ v1.toNatClampNeg then none else
        if (up2 σ 0 0 0) 1 v1.toNatClampNeg = 0 then
          (if ((60 : Int32) * v1) + v2 < 0 ∨ 240 ≤ (((60 : Int32) * v1) + v2).toNatClampNeg then none else
          some (1, (up2 (up2 σ 0 0 0) 3 ((((60 : Int32) * v1) + v2).toNatClampNeg) v3.toInt8.toInt32)))
        else
          (if v1 < 0 ∨ 4 ≤ v1.toNatClampNeg then none else
          if (up2 σ 0 0 0) 1 v1.toNatClampNeg = 1 then
            (if ((60 : Int32) * v1) + v2 < 0 ∨ 240 ≤ (((60 : Int32) * v1) + v2).toNatClampNeg then none else
            some (1, (up2 (up2 σ 0 0 0) 3 ((((60 : Int32) * v1) + v2).toNatClampNeg) v3.toInt16.toInt32)))
          else
            (if ((60 : Int32) * v1) + v2 < 0 ∨ 240 ≤ (((60 : Int32) * v1) + v2).toNatClampNeg then none else
            some (1, (up2 (up2 σ 0 0 0) 3 ((((60 : Int32) * v1) + v2).toNatClampNeg) v3)))))))
def fX4_cell (σ : St) (v1 : Int32) (v2 : Int32) (v3 : Int32) : Option (Int64 × St) :=
  (fX4_isSheet v1).bind fun r2 =>
  if r2 = 0 then
    (some ((-9223372036854775808), (up2 σ 0 0 0)))
  else
    ((fX4_isSort v3).bind fun r5 =>
    if r5 = 0 then
      (some ((-9223372036854775808), (up2 σ 0 0 0)))
    else
      (if v1 < 0 ∨ 4 ≤ v1.toNatClampNeg then none else
      if (up2 σ 0 0 0) 1 v1.toNatClampNeg = (-9) then
        (if v1 < 0 ∨ 4 ≤ v1.toNatClampNeg then none else
        if (up2 σ 0 0 0) 1 v1.toNatClampNeg = (-9) then
          (bind2 (fX4_lost (up2 σ 0 0 0) 1) fun r19 σ19 =>
          some (r19, σ19))
        else
          (if v1 < 0 ∨ 4 ≤ v1.toNatClampNeg then none else
          (fX4_within v2 0 (((up2 σ 0 0 0) 2 v1.toNatClampNeg) - 1)).bind fun r13 =>
          if r13 = 0 then
            (bind2 (fX4_lost (up2 σ 0 0 0) 3) fun r17 σ17 =>
            some (r17, σ17))
          else
            (if ((60 : Int32) * v1) + v2 < 0 ∨ 240 ≤ (((60 : Int32) * v1) + v2).toNatClampNeg then none else
            some (((up2 σ 0 0 0) 3 (((60 : Int32) * v1) + v2).toNatClampNeg).toInt64, (up2 σ 0 0 0)))))
      else
        (if v1 < 0 ∨ 4 ≤ v1.toNatClampNeg then none else
        if (up2 σ 0 0 0) 1 v1.toNatClampNeg = v3 then
          (if v1 < 0 ∨ 4 ≤ v1.toNatClampNeg then none else
          if (up2 σ 0 0 0) 1 v1.toNatClampNeg = (-9) then
            (bind2 (fX4_lost (up2 σ 0 0 0) 1) fun r32 σ32 =>
            some (r32, σ32))
          else
            (if v1 < 0 ∨ 4 ≤ v1.toNatClampNeg then none else
            (fX4_within v2 0 (((up2 σ 0 0 0) 2 v1.toNatClampNeg) - 1)).bind fun r26 =>
            if r26 = 0 then
              (bind2 (fX4_lost (up2 σ 0 0 0) 3) fun r30 σ30 =>
              some (r30, σ30))
            else
              (if ((60 : Int32) * v1) + v2 < 0 ∨ 240 ≤ (((60 : Int32) * v1) + v2).toNatClampNeg then none else
              some (((up2 σ 0 0 0) 3 (((60 : Int32) * v1) + v2).toNatClampNeg).toInt64, (up2 σ 0 0 0)))))
        else
          (bind2 (fX4_lost (up2 σ 0 0 0) 2) fun r34 σ34 =>
          some (r34, σ34)))))
def fX4_copy_L166 : Nat → St → Int32 → Int32 → Int32 → Int32 → Int32 → Int32 → Int32 → Option (Int32 × St)
  | 0, _, _, _, _, _, _, _, _ => none
  | n + 1, σ, v1, v2, v3, v4, v5, v7, v8 =>
    if v5 ≤ v8 then
      (some (v5, σ))
    else
      (if v7 = 0 then
        (if (((60 : Int32) * v1) + v2) + v8 < 0 ∨ 240 ≤ ((((60 : Int32) * v1) + v2) + v8).toNatClampNeg then none else
        if (((60 : Int32) * v3) + v4) + v8 < 0 ∨ 240 ≤ ((((60 : Int32) * v3) + v4) + v8).toNatClampNeg then none else
        fX4_copy_L166 n (up2 σ 3 (((((60 : Int32) * v3) + v4) + v8).toNatClampNeg) (σ 3 ((((60 : Int32) * v1) + v2) + v8).toNatClampNeg)) v1 v2 v3 v4 v5 v7 (v8 + 1))
      else
        (if (((60 : Int32) * v1) + v2) + ((v5 - 1) - v8) < 0 ∨ 240 ≤ ((((60 : Int32) * v1) + v2) + ((v5 - 1) - v8)).toNatClampNeg then none else
        if (((60 : Int32) * v3) + v4) + ((v5 - 1) - v8) < 0 ∨ 240 ≤ ((((60 : Int32) * v3) + v4) + ((v5 - 1) - v8)).toNatClampNeg then none else
        fX4_copy_L166 n (up2 σ 3 (((((60 : Int32) * v3) + v4) + ((v5 - 1) - v8)).toNatClampNeg) (σ 3 ((((60 : Int32) * v1) + v2) + ((v5 - 1) - v8)).toNatClampNeg)) v1 v2 v3 v4 v5 v7 (v8 + 1)))
def fX4_copy (n : Nat) (σ : St) (v1 : Int32) (v2 : Int32) (v3 : Int32) (v4 : Int32) (v5 : Int32) : Option (Int32 × St) :=
  (fX4_isSheet v1).bind fun r2 =>
  if r2 = 0 then
    (some ((-1), (up2 σ 0 0 0)))
  else
    ((fX4_isSheet v3).bind fun r5 =>
    if r5 = 0 then
      (some ((-1), (up2 σ 0 0 0)))
    else
      (if v1 < 0 ∨ 4 ≤ v1.toNatClampNeg then none else
      if (up2 σ 0 0 0) 1 v1.toNatClampNeg = (-9) then
        (bind2 (fX4_fails (up2 σ 0 0 0) 1) fun r10 σ10 =>
        some (r10, σ10))
      else
        (if v3 < 0 ∨ 4 ≤ v3.toNatClampNeg then none else
        if (up2 σ 0 0 0) 1 v3.toNatClampNeg = (-9) then
          (bind2 (fX4_fails (up2 σ 0 0 0) 1) fun r45 σ45 =>
          some (r45, σ45))
        else
          (if v1 < 0 ∨ 4 ≤ v1.toNatClampNeg then none else
          if v3 < 0 ∨ 4 ≤ v3.toNatClampNeg then none else
          if (up2 σ 0 0 0) 1 v1.toNatClampNeg = (up2 σ 0 0 0) 1 v3.toNatClampNeg then
            (if v2 < 0 then
              (bind2 (fX4_fails (up2 σ 0 0 0) 3) fun r18 σ18 =>
              some (r18, σ18))
            else
              (if v4 < 0 then
                (bind2 (fX4_fails (up2 σ 0 0 0) 3) fun r21 σ21 =>
                some (r21, σ21))
              else
                (if v5 < 0 then
                  (bind2 (fX4_fails (up2 σ 0 0 0) 3) fun r24 σ24 =>
                  some (r24, σ24))
                else
                  (if v1 < 0 ∨ 4 ≤ v1.toNatClampNeg then none else
                  if (up2 σ 0 0 0) 2 v1.toNatClampNeg < v2 then
                    (bind2 (fX4_fails (up2 σ 0 0 0) 3) fun r28 σ28 =>
                    some (r28, σ28))
                  else
                    (if v3 < 0 ∨ 4 ≤ v3.toNatClampNeg then none else
                    if (up2 σ 0 0 0) 2 v3.toNatClampNeg < v4 then
                      (bind2 (fX4_fails (up2 σ 0 0 0) 3) fun r32 σ32 =>
                      some (r32, σ32))
                    else
                      (if v1 < 0 ∨ 4 ≤ v1.toNatClampNeg then none else
                      if ((up2 σ 0 0 0) 2 v1.toNatClampNeg) - v2 < v5 then
                        (bind2 (fX4_fails (up2 σ 0 0 0) 3) fun r36 σ36 =>
                        some (r36, σ36))
                      else
                        (if v3 < 0 ∨ 4 ≤ v3.toNatClampNeg then none else
                        if v5 ≤ ((up2 σ 0 0 0) 2 v3.toNatClampNeg) - v4 then
                          (if v4 ≤ v2 then
                            (fX4_copy_L166 n (up2 σ 0 0 0) v1 v2 v3 v4 v5 0 0)
                          else
                            (fX4_copy_L166 n (up2 σ 0 0 0) v1 v2 v3 v4 v5 1 0))
                        else
                          (bind2 (fX4_fails (up2 σ 0 0 0) 3) fun r41 σ41 =>
                          some (r41, σ41)))))))))
          else
            (bind2 (fX4_fails (up2 σ 0 0 0) 2) fun r43 σ43 =>
            some (r43, σ43))))))
def fX4_begins (σ : St) (v1 : Int32) : Option St :=
  some (up2 σ 0 1 (((31 : Int32) * (σ 0 1)) + v1))
def fX4_tell (n : Nat) (σ : St) (v1 : Int32) : Option (Int32 × St) :=
  (fX4_isPerson σ v1).bind fun r2 =>
  if r2 = 0 then
    (some ((-1), σ))
  else
    ((fX4_allOf n σ v1).bind fun r5 =>
    if v1 < 0 ∨ 5 ≤ v1.toNatClampNeg then none else
    if σ 4 v1.toNatClampNeg = 1 then
      ((fX4_begins σ 2).bind fun σ9 =>
      (fX4_begins σ9 1).bind fun σ11 =>
      some (r5 + 100, σ11))
    else
      (if σ 4 v1.toNatClampNeg = 2 then
        ((fX4_begins σ 3).bind fun σ14 =>
        (fX4_begins σ14 2).bind fun σ16 =>
        (fX4_begins σ16 1).bind fun σ18 =>
        (fX4_begins σ18 1).bind fun σ20 =>
        some (((2 : Int32) * r5) + 100, σ20))
      else
        ((fX4_begins σ 1).bind fun σ22 =>
        some (r5, σ22))))
def fX4_hail (σ : St) (v1 : Int32) : Option (Int32 × St) :=
  (fX4_isPerson σ v1).bind fun r2 =>
  if r2 = 0 then
    (some ((-1), σ))
  else
    (if v1 < 0 ∨ 5 ≤ v1.toNatClampNeg then none else
    if σ 4 v1.toNatClampNeg = 2 then
      ((fX4_begins σ 5).bind fun σ11 =>
      if v1 < 0 ∨ 5 ≤ v1.toNatClampNeg then none else
      if σ11 4 v1.toNatClampNeg = 2 then
        (some (40, σ11))
      else
        (some (v1, σ11)))
    else
      ((fX4_begins σ 4).bind fun σ7 =>
      if v1 < 0 ∨ 5 ≤ v1.toNatClampNeg then none else
      if σ7 4 v1.toNatClampNeg = 2 then
        (some (40, σ7))
      else
        (some (v1, σ7))))
def fX4_as (σ : St) (v1 : Int32) (v2 : Int32) : Option (Int32 × St) :=
  (fX4_isPerson (up2 σ 0 0 0) v1).bind fun r2 =>
  if r2 = 0 then
    (some ((-1), (up2 σ 0 0 0)))
  else
    ((fX4_within v2 0 2).bind fun r5 =>
    if r5 = 0 then
      (some ((-2), (up2 σ 0 0 0)))
    else
      (if v1 < 0 ∨ 5 ≤ v1.toNatClampNeg then none else
      if (up2 σ 0 0 0) 4 v1.toNatClampNeg < v2 then
        (bind2 (fX4_fails (up2 σ 0 0 0) 2) fun r10 σ10 =>
        some (r10, σ10))
      else
        (some (1, (up2 σ 0 0 0)))))
def fX4_trace (σ : St) : Option Int32 :=
  some (σ 0 1)
def fX4_fault (σ : St) : Option Int32 :=
  some (σ 0 0)
def fX4_many (σ : St) (v1 : Int32) : Option Int32 :=
  if v1 = 0 then
    (some (σ 0 5))
  else
    (if v1 = 1 then
      (some (σ 0 6))
    else
      (if v1 = 2 then
        (some (σ 0 7))
      else
        (if v1 = 3 then
          (some (σ 0 26))
        else
          (some (-2)))))
