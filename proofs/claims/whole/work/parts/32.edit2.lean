theorem qG_all (bo : Nat → Option Nat) : ∀ m k v, (∀ k', k ≤ k' → k' < k + m → (bo k').isSome = true) → 1 ≤ m ∨ v = 1 → qG bo m k v = 1
  | 0, _, v, _, h => h.resolve_left (by omega)
  | m + 1, k, v, hb, h => qG_all bo m (k + 1) _ (fun k' h1 h2 => hb k' (by omega) (by omega)) (Or.inr (by rw [if_pos (hb k (by omega) (by omega))]))
section
variable {X : pf_M}
theorem sx_rd {i q d z : Nat} {cb R : Bool} {br : Nat → Option Nat} (hz8 : z ≤ 8) (hz : X 25 i 3 = nI z) (hb16 : ∀ k b, br k = some b → b < 16) (hm : fX2_mayRead i d X = if R then 1 else 0)
    (hbo : R = true → ∀ k, k < z → fX2_byteOver i (nI k) (2 * d) X = ov (br k)) (hcb : fX2_combines i X = if cb then 1 else 0) :
    ∃ g, fX2_readInto i q d X = some (if R then qG br z 0 0 else 0, pf_upf X 28 q g) ∧ ∀ k, k < 8 → g k = if R = true ∧ k < z then rdo cb (X 12 d) (X 28 q k) (br k) else X 28 q k := by
  unfold fX2_readInto
  cases R with
  | false =>
    rw [hm]
    refine ⟨X 28 q, ?_, fun k hk => ?_⟩
    · rw [pf_upf_id]; rfl
    · rw [if_neg (fun w => by cases w.1)]
  | true =>
    rw [hm]
    obtain ⟨g', a1, a2, a3⟩ := sx_readL (X := X) (i := i) (q := q) (d := d) (z := z) (cb := cb) (br := br) hz8 hz hb16 (fun g k hk => hbo rfl k hk) (fun g => hcb) z 0 pf_fu 0 (X 28 q) (by omega) (by unfold pf_fu; omega) (Or.inl rfl)
    rw [pf_upf_id] at a1
    refine ⟨g', ?_, fun k hk => ?_⟩
    · exact a1
    · by_cases hkz : k < z
      · rw [if_pos ⟨rfl, hkz⟩]
        exact a3 k (by omega) hkz
      · rw [if_neg (fun w => hkz w.2)]
        exact a2 k (by omega)
theorem sx_wr {i q d z : Nat} {W : Bool} {bw : Nat → Option Nat} (hz8 : z ≤ 8) (hz : X 25 i 3 = nI z) (hb16 : ∀ k b, bw k = some b → 4 ≤ b ∧ b < 16) (hinj : ∀ k k' b, bw k = some b → bw k' = some b → k = k') (hm : fX2_mayWrite i d X = if W then 1 else 0)
    (hbo : W = true → ∀ k, k < z → fX2_byteOver i (nI k) (2 * d + 1) X = ov (bw k)) :
    ∃ g, fX2_writeFrom i q d X = some (if W then qG bw z 0 0 else 0, pf_upf X 12 d g) ∧ (∀ b, (W = false ∨ ∀ k, k < z → ¬ bw k = some b) → g b = X 12 d b) ∧ (W = true → ∀ k b, k < z → bw k = some b → g b = X 29 q k) := by
  unfold fX2_writeFrom
  cases W with
  | false =>
    rw [hm]
    refine ⟨X 12 d, ?_, fun b _ => rfl, fun w => by cases w⟩
    rw [pf_upf_id]; rfl
  | true =>
    rw [hm]
    obtain ⟨g', a1, a2, a3⟩ := sx_writeL (X := X) (i := i) (q := q) (d := d) (z := z) (bw := bw) hz8 hz hb16 hinj (fun g k hk => hbo rfl k hk) z 0 pf_fu 0 (X 12 d) (by omega) (by unfold pf_fu; omega) (Or.inl rfl)
    rw [pf_upf_id] at a1
    refine ⟨g', a1, fun b h => a2 b (fun k' _ h2 => h.resolve_left (by intro w; cases w) k' h2), fun _ k b h1 h2 => a3 k b (by omega) h1 h2⟩
def fR (R : Bool) (br : Nat → Option Nat) (z : Nat) : Int32 := if R then qG br z 0 0 else 0
def fW (kd : Nat) (W : Bool) (bw : Nat → Option Nat) (z : Nat) : Int32 := if (if W then qG bw z 0 0 else 0) = 0 then 0 else if kd = 1 then 1 else 2
theorem fR_01 (R : Bool) (br : Nat → Option Nat) (z : Nat) : fR R br z = 0 ∨ fR R br z = 1 := by
  unfold fR
  cases R
  · exact Or.inl rfl
  · exact qG_01 br z 0 0 (Or.inl rfl)
/-- what a datagram that means the device does to it -/
def eX (q d z : Nat) (cb R W : Bool) (br bw : Nat → Option Nat) (u : Int32) (X X' : pf_M) : Prop :=
  (∀ k i, ¬ (k = 27 ∧ i = q) → ¬ (k = 28 ∧ i = q) → k ≠ 29 → ¬ (k = 12 ∧ i = d) → X' k i = X k i) ∧
  (∀ k, k < 8 → X' 28 q k = if R = true ∧ k < z then rdo cb (X 12 d) (X 28 q k) (br k) else X 28 q k) ∧
  (∀ b, (W = false ∨ ∀ k, k < z → ¬ bw k = some b) → X' 12 d b = X 12 d b) ∧ (W = true → ∀ k b, k < z → bw k = some b → X' 12 d b = X 28 q k) ∧ X' 27 q 2 = X 27 q 2 + u
theorem sx_wr80 {i q d z kd : Nat} {W : Bool} {bw : Nat → Option Nat} (hz8 : z ≤ 8) (hz : X 25 i 3 = nI z) (hb16 : ∀ k b, bw k = some b → 4 ≤ b ∧ b < 16) (hinj : ∀ k k' b, bw k = some b → bw k' = some b → k = k')
    (hm : kd ≠ 0 → fX2_mayWrite i d X = if W then 1 else 0) (hW0 : kd = 0 → W = false) (hbo : W = true → ∀ k, k < z → fX2_byteOver i (nI k) (2 * d + 1) X = ov (bw k)) :
    ∃ g, jX2_edit_80 i q d (if kd = 1 then 0 else 1) (if kd = 0 then 0 else 1) X = some (pf_up (pf_upf X 12 d g) 27 q 2 (X 27 q 2 + fW kd W bw z)) ∧ (∀ b, (W = false ∨ ∀ k, k < z → ¬ bw k = some b) → g b = X 12 d b) ∧ (W = true → ∀ k b, k < z → bw k = some b → g b = X 29 q k) := by
  unfold jX2_edit_80 jX2_edit_109
  have keep : ∀ g : Nat → Int32, pf_up (pf_upf X 12 d g) 27 q 2 (X 27 q 2) = pf_upf X 12 d g := fun g => pf_up_self (pf_upf X 12 d g) 27 q 2
  by_cases h0 : kd = 0
  · have hW := hW0 h0
    subst h0 hW
    refine ⟨X 12 d, ?_, fun b _ => rfl, fun w => by cases w⟩
    have : fW 0 false bw z = 0 := rfl
    rw [this, Int32.add_zero, keep, pf_upf_id]
    rfl
  · obtain ⟨g, a1, a2, a3⟩ := sx_wr (X := X) (i := i) (q := q) (d := d) hz8 hz hb16 hinj (hm h0) hbo
    refine ⟨g, ?_, a2, a3⟩
    rw [if_neg h0, a1]
    unfold fW
    simp only [si_10, if_false, Option.bind_some]
    by_cases hw : (if W = true then qG bw z 0 0 else 0) = 0
    · rw [if_pos hw, if_pos hw, Int32.add_zero, keep]
    · rw [if_neg hw, if_neg hw]
      by_cases h1 : kd = 1
      · rw [if_pos h1, if_pos h1, if_pos rfl]
        rfl
      · rw [if_neg h1, if_neg h1, if_neg (by decide)]
        rfl
theorem sx_edit {i q d z kd : Nat} {cb R W : Bool} {br bw : Nat → Option Nat} (hkd : kd < 3) (hz8 : z ≤ 8) (hz : X 25 i 3 = nI z) (hb16 : ∀ k b, br k = some b → b < 16) (hw16 : ∀ k b, bw k = some b → 4 ≤ b ∧ b < 16) (hinj : ∀ k k' b, bw k = some b → bw k' = some b → k = k')
    (hR : kd ≠ 1 → fX2_mayRead i d X = if R then 1 else 0) (hR0 : kd = 1 → R = false) (hW : kd ≠ 0 → fX2_mayWrite i d X = if W then 1 else 0) (hW0 : kd = 0 → W = false)
    (hbr : R = true → ∀ k, k < z → fX2_byteOver i (nI k) (2 * d) X = ov (br k)) (hbw : W = true → ∀ k, k < z → fX2_byteOver i (nI k) (2 * d + 1) X = ov (bw k)) (hcb : fX2_combines i X = if cb then 1 else 0) :
    ∃ X', jX2_edit_38 i q d (nI kd) (if kd = 1 then 0 else 1) X = some X' ∧ eX q d z cb R W br bw (fR R br z + fW kd W bw z) X X' := by
  have hn : (if nI kd = (0 : Int32) then jX2_edit_50 i q d (if kd = 1 then 0 else 1) 0 X else jX2_edit_50 i q d (if kd = 1 then 0 else 1) 1 X) = jX2_edit_50 i q d (if kd = 1 then 0 else 1) (if kd = 0 then 0 else 1) X := by
    by_cases h0 : kd = 0
    · subst h0; rfl
    · rw [if_neg (nI_ne0 (by omega) (by omega)), if_neg h0]
  unfold jX2_edit_38
  rw [hn]
  unfold jX2_edit_50 fX0_arrive
  have c28 : ∀ k, k < 8 → pf_upf X 29 q (va_cpy (X 28 q) (X 29 q) (0 : Int32).toNatClampNeg (0 : Int32).toNatClampNeg (8 : Int32).toNatClampNeg) 29 q k = X 28 q k := fun k hk => by
    rw [pf_upf_s]
    exact cpy_v _ _ hk
  generalize hX1 : pf_upf X 29 q (va_cpy (X 28 q) (X 29 q) (0 : Int32).toNatClampNeg (0 : Int32).toNatClampNeg (8 : Int32).toNatClampNeg) = X1 at c28
  have f1 : ∀ k i, k ≠ 29 → X1 k i = X k i := fun k i hk => by rw [← hX1]; exact pf_upf_k _ hk
  have g25 : X1 25 = X 25 := by rw [← hX1]; rfl
  have g12 : X1 12 = X 12 := by rw [← hX1]; rfl
  have g28 : X1 28 = X 28 := by rw [← hX1]; rfl
  have g27 : X1 27 = X 27 := by rw [← hX1]; rfl
  have m1 : fX2_mayRead i d X1 = fX2_mayRead i d X := by rw [← hX1]; rfl
  have m3 : ∀ k o, fX2_byteOver i (nI k) o X1 = fX2_byteOver i (nI k) o X := fun k o => by rw [← hX1]; rfl
  have m4 : fX2_combines i X1 = fX2_combines i X := by rw [← hX1]; rfl
  have m2 : fX2_mayWrite i d X1 = fX2_mayWrite i d X := by rw [← hX1]; rfl
  by_cases h1 : kd = 1
  · have hRf := hR0 h1
    subst h1 hRf
    obtain ⟨g, a1, a2, a3⟩ := sx_wr80 (X := X1) (i := i) (q := q) (d := d) (z := z) (kd := 1) (W := W) (bw := bw) hz8 (by rw [g25]; exact hz) hw16 hinj (fun h => by rw [m2]; exact hW h) hW0 (fun h k hk => by rw [m3]; exact hbw h k hk)
    have a1' : jX2_edit_80 i q d 0 1 X1 = _ := a1
    refine ⟨_, a1', ?_, ?_, ?_, ?_, ?_⟩
    · intro k i' h1 h2 h3 h4
      rw [pf_up_o _ h1]
      unfold pf_upf
      rw [if_neg h4]
      exact f1 k i' h3
    · intro k hk
      rw [if_neg (fun w => by cases w.1)]
      show X1 28 q k = _
      rw [g28]
    · intro b hb
      show pf_upf X1 12 d g 12 d b = _
      rw [pf_upf_s, a2 b hb, g12]
    · intro hw k b hk hb
      show pf_upf X1 12 d g 12 d b = _
      have := hw16 k b hb
      rw [pf_upf_s, a3 hw k b hk hb, c28 k (by omega)]
    · rw [pf_up_s, g27]
      have : fR false br z = 0 := rfl
      rw [this, Int32.zero_add]
  · obtain ⟨g, b1, b2⟩ := sx_rd (X := X1) (i := i) (q := q) (d := d) (z := z) (cb := cb) (R := R) (br := br) hz8 (by rw [g25]; exact hz) hb16 (by rw [m1]; exact hR h1) (fun h k hk => by rw [m3]; exact hbr h k hk) (by rw [m4]; exact hcb)
    rw [if_neg h1, if_neg (by decide), b1, Option.bind_some]
    have hstep : (if (if R = true then qG br z 0 0 else 0, pf_upf X1 28 q g).1 = 0 then jX2_edit_80 i q d 1 (if kd = 0 then 0 else 1) (if R = true then qG br z 0 0 else 0, pf_upf X1 28 q g).2 else jX2_edit_80 i q d 1 (if kd = 0 then 0 else 1) (pf_up (if R = true then qG br z 0 0 else 0, pf_upf X1 28 q g).2 27 q 2 ((if R = true then qG br z 0 0 else 0, pf_upf X1 28 q g).2 27 q 2 + 1))) = jX2_edit_80 i q d 1 (if kd = 0 then 0 else 1) (pf_up (pf_upf X1 28 q g) 27 q 2 (X1 27 q 2 + fR R br z)) := by
      rcases fR_01 R br z with h | h
      · have h' : (if R = true then qG br z 0 0 else 0) = 0 := h
        rw [if_pos h', h, Int32.add_zero]
        have : pf_up (pf_upf X1 28 q g) 27 q 2 (X1 27 q 2) = pf_upf X1 28 q g := pf_up_self (pf_upf X1 28 q g) 27 q 2
        rw [this]
      · have h' : (if R = true then qG br z 0 0 else 0) = 1 := h
        simp only [h', si_10, if_false]
        rw [h]
        rfl
    rw [hstep]
    obtain ⟨g', a1, a2, a3⟩ := sx_wr80 (X := pf_up (pf_upf X1 28 q g) 27 q 2 (X1 27 q 2 + fR R br z)) (i := i) (q := q) (d := d) (z := z) (kd := kd) (W := W) (bw := bw) hz8 (by show X1 25 i 3 = _; rw [g25]; exact hz) hw16 hinj (fun h => (show fX2_mayWrite i d (pf_up (pf_upf X1 28 q g) 27 q 2 (X1 27 q 2 + fR R br z)) = fX2_mayWrite i d X1 from rfl).trans (by rw [m2]; exact hW h)) hW0 (fun h k hk => (show fX2_byteOver i (nI k) (2 * d + 1) (pf_up (pf_upf X1 28 q g) 27 q 2 (X1 27 q 2 + fR R br z)) = fX2_byteOver i (nI k) (2 * d + 1) X1 from rfl).trans (by rw [m3]; exact hbw h k hk))
    rw [if_neg h1] at a1
    refine ⟨_, a1, ?_, ?_, ?_, ?_, ?_⟩
    · intro k i' h1 h2 h3 h4
      rw [pf_up_o _ h1]
      unfold pf_upf
      rw [if_neg h4, pf_up_o _ h1, if_neg h2]
      exact f1 k i' h3
    · intro k hk
      show pf_upf X1 28 q g 28 q k = _
      rw [pf_upf_s, b2 k hk, g28, g12]
    · intro b hb
      show pf_upf _ 12 d g' 12 d b = _
      rw [pf_upf_s, a2 b hb]
      show X1 12 d b = _
      rw [g12]
    · intro hw k b hk hb
      show pf_upf _ 12 d g' 12 d b = _
      rw [pf_upf_s, a3 hw k b hk hb]
      exact c28 k (by omega)
    · rw [pf_up_s]
      show pf_up (pf_upf X1 28 q g) 27 q 2 (X1 27 q 2 + fR R br z) 27 q 2 + _ = _
      rw [pf_up_s, g27, Int32.add_assoc]
end
