def ov : Option Nat → Int32
  | some b => nI b
  | none => -4
def bM (Y : pf_M) (o x : Nat) : Option Nat := if (Y 55 0 o).toNatClampNeg ≤ x ∧ x < (Y 55 0 o).toNatClampNeg + (Y 56 0 o).toNatClampNeg then some ((Y 57 0 o).toNatClampNeg + (x - (Y 55 0 o).toNatClampNeg)) else none
def qG (bo : Nat → Option Nat) : Nat → Nat → Int32 → Int32
  | 0, _, v => v
  | m + 1, k, v => qG bo m (k + 1) (if (bo k).isSome then 1 else v)
theorem qG_01 (bo : Nat → Option Nat) : ∀ m k v, (v = 0 ∨ v = 1) → (qG bo m k v = 0 ∨ qG bo m k v = 1)
  | 0, _, _, h => h
  | m + 1, k, v, h => qG_01 bo m (k + 1) _ (by
    split
    · exact Or.inr rfl
    · exact h)
theorem qG_1 (bo : Nat → Option Nat) (hb : ∀ k, (bo k).isSome = true) : ∀ m k v, 1 ≤ m ∨ v = 1 → qG bo m k v = 1
  | 0, _, v, h => h.resolve_left (by omega)
  | m + 1, k, v, h => qG_1 bo hb m (k + 1) _ (Or.inr (by rw [if_pos (hb k)]))
def rd (cb : Bool) (old byte : Int32) : Int32 := if cb then old ||| byte else byte
def rdo (cb : Bool) (src : Nat → Int32) (old : Int32) : Option Nat → Int32
  | some b => rd cb old (src b)
  | none => old
theorem ov_in {bo : Option Nat} {lo : Nat} (h : ∀ b, bo = some b → lo ≤ b ∧ b < 16) (hl : lo ≤ 15) : fX11_isWithin (ov bo) (nI lo) 15 = if bo.isSome then 1 else 0 := by
  rw [si_wi]
  cases bo with
  | none => rw [if_neg (fun w => by have h1 := w.1; have h2 := nI_pos' (n := lo) (by omega); exact absurd (Int32.le_trans h2 h1) (by decide))]; rfl
  | some b =>
    have := h b rfl
    rw [if_pos ⟨(nI_leI (by omega) (by omega)).mpr this.1, (nI_leI (b := 15) (by omega) (by omega)).mpr (by omega)⟩]; rfl
theorem ov_m4 (bo : Option Nat) (h : ∀ b, bo = some b → b < 16) : (ov bo = -4) = (bo = none) := by
  cases bo with
  | none => exact propext ⟨fun _ => rfl, fun _ => rfl⟩
  | some b =>
    refine propext ⟨fun w => ?_, fun w => by cases w⟩
    have h1 := nI_pos (n := b) (by have := h b rfl; omega)
    have w2 : nI b = -4 := w
    rw [w2] at h1
    exact absurd (show (-4 : Int32) < 0 by decide) h1
section
variable {X Y : pf_M} {n t k : Nat}
theorem sMo.v {o : Nat} (h : sMo X Y o) : ∃ p z b : Nat, z ≤ 8 ∧ (1 ≤ z → p + z ≤ 32 ∧ b + z ≤ 16 ∧ (o % 2 = 1 → 4 ≤ b)) ∧ (Y 55 0 o).toNatClampNeg = p ∧ (Y 56 0 o).toNatClampNeg = z ∧ (Y 57 0 o).toNatClampNeg = b ∧ Y 56 0 o = nI z ∧ X 13 o 1 = nI z ∧ 0 ≤ Y 55 0 o ∧ (1 ≤ z → Y 55 0 o = nI p ∧ X 13 o 0 = nI p ∧ X 13 o 2 = nI b ∧ Y 57 0 o = nI b) := by
  obtain ⟨h1, ⟨h2, h3⟩ | ⟨p, z, b, a1, a2, a3, a4, a5, a6, a7, a8, a9, a10⟩⟩ := h
  · refine ⟨_, 0, _, by omega, fun w => by omega, rfl, by rw [h2]; rfl, rfl, h2, h1.trans h2, h3, fun w => by omega⟩
  · exact ⟨p, z, b, a2, fun _ => ⟨a3, a4, a5⟩, by rw [a8, si_cl (by omega)], by rw [a6, si_cl (by omega)], by rw [a10, si_cl (by omega)], a6, h1.trans a6, by rw [a8]; exact Int32.not_lt.mp (nI_pos (by omega)), fun _ => ⟨a8, a7, a9, a10⟩⟩
theorem bM_b {o x b : Nat} (h : sMo X Y o) (hb : bM Y o x = some b) : b < 16 ∧ (o % 2 = 1 → 4 ≤ b) := by
  obtain ⟨p, z, b0, h1, h2, h3, h4, h5, -⟩ := h.v
  unfold bM at hb
  rw [h3, h4, h5] at hb
  split at hb
  · rename_i hc
    cases hb
    have := h2 (by omega)
    exact ⟨by omega, fun w => by have := this.2.2 w; omega⟩
  · cases hb
theorem bM_inj {o x x' b : Nat} (hb : bM Y o x = some b) (hb' : bM Y o x' = some b) : x = x' := by
  unfold bM at hb hb'
  split at hb
  · split at hb'
    · have := Option.some.inj (hb.trans hb'.symm)
      omega
    · cases hb'
  · cases hb
theorem sx_over {o x : Nat} (h : sMo X Y o) (hx : x < 1000) : fX7_byteOver o (nI x) X = ov (bM Y o x) := by
  obtain ⟨p, z, b, h1, h2, h3, h4, h5, h6, h7, h8, h9⟩ := h.v
  unfold fX7_byteOver bM
  rw [h3, h4, h5, h7]
  by_cases hz : z = 0
  · subst hz
    rw [if_neg (show ¬ (p ≤ x ∧ x < p + 0) by omega)]
    split
    · rfl
    · rename_i hc
      rw [if_pos]
      · rfl
      · rw [nI_0, Int32.add_zero]
        exact Int32.not_lt.mp hc
  · obtain ⟨g1, g2, g3, g4⟩ := h9 (by omega)
    have := h2 (by omega)
    rw [g2, g3, nI_add]
    by_cases c1 : x < p
    · rw [if_pos ((nI_ltI (by omega) (by omega)).mpr c1), if_neg (by omega)]; rfl
    · rw [if_neg (fun w => c1 ((nI_ltI (by omega) (by omega)).mp w))]
      by_cases c2 : p + z ≤ x
      · rw [if_pos ((nI_leI (by omega) (by omega)).mpr c2), if_neg (by omega)]; rfl
      · rw [if_neg (fun w => c2 ((nI_leI (by omega) (by omega)).mp w)), if_pos (by omega), nI_subI (by omega), nI_add]
        rfl
theorem sy_over {d e x : Nat} (h : sMo X Y (2 * d + e)) (hd : 2 * d + e < 16) (hx : x < 1000) : fX12_byteOver (nI d) (nI e) (nI x) Y = some (ov (bM Y (2 * d + e) x)) := by
  obtain ⟨p, z, b, h1, h2, h3, h4, h5, h6, h7, h8, h9⟩ := h.v
  unfold fX12_byteOver bM
  rw [si_2d, si_pin2 hd (by decide), si_cl (by omega)]
  simp only [if_true, si_in, si_z, h3, h4, h5]
  rw [h6]
  by_cases hz : z = 0
  · subst hz
    have hf : ¬ (Y 55 0 (2 * d + e) ≤ nI x ∧ nI x ≤ Y 55 0 (2 * d + e) + nI 0 - 1) := by
      rw [nI_0, Int32.add_zero]
      rintro ⟨w1, w2⟩
      grind
    rw [if_pos hf, if_neg (show ¬ (p ≤ x ∧ x < p + 0) by omega)]
    rfl
  · obtain ⟨g1, g2, g3, g4⟩ := h9 (by omega)
    have := h2 (by omega)
    rw [g1, g4, nI_add, show p + z = (p + z - 1) + 1 by omega, nI_pred]
    by_cases c : p ≤ x ∧ x < p + z
    · rw [if_neg (not_not_intro ⟨(nI_leI (by omega) (by omega)).mpr c.1, (nI_leI (by omega) (by omega)).mpr (by omega)⟩), nI_add, nI_subI (by omega), if_pos (by omega)]
      refine congrArg some (congrArg nI ?_)
      omega
    · rw [if_pos (fun w => c (by have w1 := (nI_leI (by omega) (by omega)).mp w.1; have w2 := (nI_leI (by omega) (by omega)).mp w.2; omega)), if_neg (by omega)]
      rfl
/-- the class reads into the datagram -/
theorem sx_readL {i q d z : Nat} {cb : Bool} {br : Nat → Option Nat} (hz8 : z ≤ 8) (hz : X 25 i 3 = nI z) (hb16 : ∀ k b, br k = some b → b < 16)
    (hbo : ∀ g, ∀ k, k < z → fX2_byteOver i (nI k) (2 * d) (pf_upf X 28 q g) = ov (br k)) (hcb : ∀ g, fX2_combines i (pf_upf X 28 q g) = if cb then 1 else 0) :
    ∀ (m k f : Nat) (v : Int32) (g : Nat → Int32), k + m = z → m < f → (v = 0 ∨ v = 1) → ∃ g', lX2_readInto_15 i q d f v (nI k) (pf_upf X 28 q g) = some (qG br m k v, pf_upf X 28 q g') ∧ (∀ k', k' < k ∨ z ≤ k' → g' k' = g k') ∧ ∀ k', k ≤ k' → k' < z → g' k' = rdo cb (X 12 d) (g k') (br k') := by
  intro m
  induction m with
  | zero =>
    intro k f v g hk hf hv
    obtain ⟨f, rfl⟩ : ∃ g, f = g + 1 := ⟨f - 1, by omega⟩
    obtain rfl : k = z := by omega
    have e25 : pf_upf X 28 q g 25 i 3 = nI k := hz
    rw [lX2_readInto_15, e25, if_pos (Int32.le_refl _)]
    refine ⟨g, ?_, fun _ _ => rfl, fun k' h1 h2 => by omega⟩
    rcases hv with rfl | rfl <;> rfl
  | succ m ih =>
    intro k f v g hk hf hv
    obtain ⟨f, rfl⟩ : ∃ g, f = g + 1 := ⟨f - 1, by omega⟩
    have e25 : pf_upf X 28 q g 25 i 3 = nI z := hz
    have e12 : pf_upf X 28 q g 12 d = X 12 d := rfl
    rw [lX2_readInto_15, e25, if_neg (fun w => by have := (nI_leI (by omega) (by omega)).mp w; omega), hbo g k (by omega), show fX11_isWithin (ov (br k)) 0 15 = _ from ov_in (lo := 0) (fun b hb => ⟨Nat.zero_le b, hb16 k b hb⟩) (by omega), hcb, e12]
    unfold jX2_readInto_88 jX2_readInto_85 jX2_readInto_88
    cases hb : br k with
    | none =>
      simp only [Option.isSome_none, if_true, nI_1, Bool.false_eq_true, if_false]
      obtain ⟨g', a1, a2, a3⟩ := ih (k + 1) f v g (by omega) (by omega) hv
      refine ⟨g', ?_, fun k' h => a2 k' (by omega), fun k' h1 h2 => ?_⟩
      · rw [a1, qG, hb]
        rfl
      · by_cases hkk : k' = k
        · subst hkk
          rw [a2 k' (by omega), hb]
          rfl
        · exact a3 k' (by omega) h2
    | some b =>
      have hb1 := hb16 k b hb
      have h28 : pf_upf X 28 q g 28 q k = g k := by rw [pf_upf_s]
      simp only [Option.isSome_some, if_true, si_10, if_false, nI_1, ov, si_pin2 (show b < 16 by omega) (by decide), si_pin2 (show k < 8 by omega) (by decide), si_cl (show b < 2 ^ 31 by omega), si_cl (show k < 2 ^ 31 by omega), pf_upf_up, h28]
      have hcc : ∀ A B : Option (Int32 × pf_M), (if (if cb = true then (1 : Int32) else 0) = 0 then A else B) = if cb = true then B else A := by
        intro A B
        cases cb <;> rfl
      rw [hcc]
      obtain ⟨g', a1, a2, a3⟩ := ih (k + 1) f 1 (upd g k (rd cb (g k) (X 12 d b))) (by omega) (by omega) (Or.inr rfl)
      refine ⟨g', ?_, fun k' h => ?_, fun k' h1 h2 => ?_⟩
      · rw [qG, hb]
        refine Eq.trans ?_ a1
        cases cb <;> rfl
      · rw [a2 k' (by omega), upd_n _ _ (by omega)]
      · by_cases hkk : k' = k
        · subst hkk
          rw [a2 k' (by omega), hb, upd_s]
          rfl
        · rw [a3 k' (by omega) h2, upd_n _ _ hkk]
/-- the class writes from the datagram -/
theorem sx_writeL {i q d z : Nat} {bw : Nat → Option Nat} (hz8 : z ≤ 8) (hz : X 25 i 3 = nI z) (hb16 : ∀ k b, bw k = some b → 4 ≤ b ∧ b < 16) (hinj : ∀ k k' b, bw k = some b → bw k' = some b → k = k')
    (hbo : ∀ g, ∀ k, k < z → fX2_byteOver i (nI k) (2 * d + 1) (pf_upf X 12 d g) = ov (bw k)) :
    ∀ (m k f : Nat) (v : Int32) (g : Nat → Int32), k + m = z → m < f → (v = 0 ∨ v = 1) → ∃ g', lX2_writeFrom_15 i q d f v (nI k) (pf_upf X 12 d g) = some (qG bw m k v, pf_upf X 12 d g') ∧ (∀ b, (∀ k', k ≤ k' → k' < z → ¬ bw k' = some b) → g' b = g b) ∧ ∀ k' b, k ≤ k' → k' < z → bw k' = some b → g' b = X 29 q k' := by
  intro m
  induction m with
  | zero =>
    intro k f v g hk hf hv
    obtain ⟨f, rfl⟩ : ∃ g, f = g + 1 := ⟨f - 1, by omega⟩
    obtain rfl : k = z := by omega
    have e25 : pf_upf X 12 d g 25 i 3 = nI k := hz
    rw [lX2_writeFrom_15, e25, if_pos (Int32.le_refl _)]
    refine ⟨g, ?_, fun _ _ => rfl, fun k' b h1 h2 => by omega⟩
    rcases hv with rfl | rfl <;> rfl
  | succ m ih =>
    intro k f v g hk hf hv
    obtain ⟨f, rfl⟩ : ∃ g, f = g + 1 := ⟨f - 1, by omega⟩
    have e25 : pf_upf X 12 d g 25 i 3 = nI z := hz
    have e29 : pf_upf X 12 d g 29 q = X 29 q := rfl
    have e4 := ov_in (lo := 4) (hb16 k) (by omega)
    rw [lX2_writeFrom_15, e25, if_neg (fun w => by have := (nI_leI (by omega) (by omega)).mp w; omega), hbo g k (by omega), show fX11_isWithin (ov (bw k)) 4 15 = _ from e4, e29]
    unfold jX2_writeFrom_63
    cases hb : bw k with
    | none =>
      simp only [Option.isSome_none, if_true, nI_1, Bool.false_eq_true, if_false]
      obtain ⟨g', a1, a2, a3⟩ := ih (k + 1) f v g (by omega) (by omega) hv
      refine ⟨g', ?_, fun b h => a2 b (fun k' h1 h2 => h k' (by omega) h2), fun k' b h1 h2 h3 => ?_⟩
      · rw [a1, qG, hb]
        rfl
      · by_cases hkk : k' = k
        · subst hkk
          rw [hb] at h3
          cases h3
        · exact a3 k' b (by omega) h2 h3
    | some b =>
      have hb1 := hb16 k b hb
      simp only [Option.isSome_some, if_true, si_10, if_false, nI_1, ov, si_pin2 (show b < 16 by omega) (by decide), si_pin2 (show k < 8 by omega) (by decide), si_cl (show b < 2 ^ 31 by omega), si_cl (show k < 2 ^ 31 by omega), pf_upf_up]
      obtain ⟨g', a1, a2, a3⟩ := ih (k + 1) f 1 (upd g b (X 29 q k)) (by omega) (by omega) (Or.inr rfl)
      refine ⟨g', ?_, fun b' h => ?_, fun k' b' h1 h2 h3 => ?_⟩
      · rw [a1, qG, hb]
        rfl
      · rw [a2 b' (fun k' h1 h2 => h k' (by omega) h2), upd_n _ _ (fun w => h k (by omega) (by omega) (by rw [hb, w]))]
      · by_cases hkk : k' = k
        · subst hkk
          rw [hb] at h3
          cases h3
          rw [a2 b (fun k'' h4 h5 h6 => by have := hinj _ _ _ hb h6; omega), upd_s]
        · exact a3 k' b' (by omega) h2 h3
end
