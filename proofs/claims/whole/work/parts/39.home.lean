def jv (Y : pf_M) (j k : Nat) : Int32 := if Y 64 0 j = 7 ∨ Y 64 0 j = 9 then Y 69 0 (8 * j + k) ||| Y 69 0 (32 + 8 * j + k) else if Y 69 0 (8 * j + k) = Y 68 0 (8 * j + k) then Y 69 0 (32 + 8 * j + k) else Y 69 0 (8 * j + k)
theorem jv_eq {Y Y' : pf_M} {j k : Nat} (h1 : Y' 64 0 = Y 64 0) (h2 : Y' 68 0 = Y 68 0) (h3 : Y' 69 0 = Y 69 0) : jv Y' j k = jv Y j k := by
  unfold jv
  rw [h1, h2, h3]
theorem sy_join1 {i : Nat} (hi : i < 4) (kx : pf_M → Option pf_M) : ∀ (m k f : Nat) (Y : pf_M), k + m = 8 → m < f → ∃ Y', lX12_joins_55 (nI i) kx f (nI k) Y = kx Y' ∧ (∀ q, q ≠ 73 → Y' q 0 = Y q 0) ∧ (∀ a, (a < 8 * i + k ∨ 8 * i + 8 ≤ a) → Y' 73 0 a = Y 73 0 a) ∧ ∀ k', k ≤ k' → k' < 8 → Y' 73 0 (8 * i + k') = jv Y i k' := by
  intro m
  induction m with
  | zero =>
    intro k f Y hk hf
    obtain ⟨f, rfl⟩ : ∃ g, f = g + 1 := ⟨f - 1, by omega⟩
    obtain rfl : k = 8 := by omega
    rw [lX12_joins_55, if_pos (by decide)]
    exact ⟨Y, rfl, fun _ _ => rfl, fun _ _ => rfl, fun k' h1 h2 => by omega⟩
  | succ m ih =>
    intro k f Y hk hf
    obtain ⟨f, rfl⟩ : ∃ g, f = g + 1 := ⟨f - 1, by omega⟩
    have e1 : (8 : Int32) * nI i + nI k = nI (8 * i + k) := by rw [show (8 : Int32) = nI 8 from rfl, nI_mul, nI_add]
    have e2 : (32 : Int32) + (8 : Int32) * nI i + nI k = nI (32 + 8 * i + k) := by rw [show (32 : Int32) = nI 32 from rfl, show (8 : Int32) = nI 8 from rfl, nI_mul, nI_add, nI_add]
    have hstep : lX12_joins_55 (nI i) kx (f + 1) (nI k) Y = lX12_joins_55 (nI i) kx f (nI (k + 1)) (pf_up Y 73 0 (8 * i + k) (jv Y i k)) := by
      rw [lX12_joins_55, if_neg (fun w => by have := (nI_leI (a := 8) (by omega) (by omega)).mp w; omega)]
      unfold jX12_joins_111 jX12_joins_116 jX12_joins_161 jv
      simp only [e1, e2, si_pin2 (show 8 * i + k < 64 by omega) (by decide), si_pin2 (show 32 + 8 * i + k < 64 by omega) (by decide), si_pin2 (show 8 * i + k < 32 by omega) (by decide), si_pin2 hi (by decide), if_true, si_cl (show i < 2 ^ 31 by omega), si_cl (show 8 * i + k < 2 ^ 31 by omega), si_cl (show 32 + 8 * i + k < 2 ^ 31 by omega), si_10, if_false, nI_1]
      by_cases h7 : Y 64 0 i = 7
      · rw [if_pos h7, if_pos (Or.inl h7)]
      · by_cases h9 : Y 64 0 i = 9
        · rw [if_neg h7, if_pos h9, if_pos (Or.inr h9)]
        · rw [if_neg h7, if_neg h9, if_neg (show ¬ (Y 64 0 i = 7 ∨ Y 64 0 i = 9) from fun w => w.elim h7 h9)]
          by_cases hp : Y 69 0 (8 * i + k) = Y 68 0 (8 * i + k)
          · rw [if_pos hp, if_pos hp]
          · rw [if_neg hp, if_neg hp]
    rw [hstep]
    obtain ⟨Y', a1, a2, a3, a4⟩ := ih (k + 1) f (pf_up Y 73 0 (8 * i + k) (jv Y i k)) (by omega) (by omega)
    refine ⟨Y', a1, fun q hq => (a2 q hq).trans (pf_up_k _ hq), fun a ha => ?_, fun k' h1 h2 => ?_⟩
    · rw [a3 a (by omega), pf_up_j _ _ _ _ _ _ (by omega)]
    · by_cases hkk : k' = k
      · subst hkk
        rw [a3 _ (by omega), pf_up_s]
      · rw [a4 k' (by omega) h2]
        exact jv_eq rfl rfl rfl
theorem sy_join (kx : pf_M → Option pf_M) : ∀ (m i f : Nat) (Y : pf_M), i + m = 4 → m < f → ∃ Y', lX12_joins_2 kx f (nI i) Y = kx Y' ∧ (∀ q, q ≠ 71 → q ≠ 72 → q ≠ 73 → Y' q 0 = Y q 0) ∧ (∀ a, a < i → Y' 71 0 a = Y 71 0 a ∧ Y' 72 0 a = Y 72 0 a) ∧ (∀ a, a < 8 * i → Y' 73 0 a = Y 73 0 a) ∧
    ∀ j, i ≤ j → j < 4 → Y' 71 0 j = (if Y 64 0 j = 0 then 0 else Y 67 0 j) ∧ Y' 72 0 j = Y 70 0 j + Y 70 0 (4 + j) ∧ ∀ k, k < 8 → Y' 73 0 (8 * j + k) = jv Y j k := by
  intro m
  induction m with
  | zero =>
    intro i f Y hi hf
    obtain ⟨f, rfl⟩ : ∃ g, f = g + 1 := ⟨f - 1, by omega⟩
    obtain rfl : i = 4 := by omega
    rw [lX12_joins_2, if_pos (by decide)]
    exact ⟨Y, rfl, fun _ _ _ _ => rfl, fun _ _ => ⟨rfl, rfl⟩, fun _ _ => rfl, fun j h1 h2 => by omega⟩
  | succ m ih =>
    intro i f Y hi hf
    obtain ⟨f, rfl⟩ : ∃ g, f = g + 1 := ⟨f - 1, by omega⟩
    have e4 : (4 : Int32) + nI i = nI (4 + i) := by rw [show (4 : Int32) = nI 4 from rfl, nI_add]
    obtain ⟨Z, b1, b2, b3, b4⟩ := sy_join1 (i := i) (by omega) (fun u16_Me55 => lX12_joins_2 kx f (nI (i + 1)) u16_Me55) 8 0 pf_fu (pf_up (pf_up Y 71 0 i (if Y 64 0 i = 0 then 0 else Y 67 0 i)) 72 0 i (Y 70 0 i + Y 70 0 (4 + i))) (by omega) (by unfold pf_fu; omega)
    obtain ⟨Y', a1, a2, a3, a4, a5⟩ := ih (i + 1) f Z (by omega) (by omega)
    have f1 : ∀ q, q ≠ 71 → q ≠ 72 → q ≠ 73 → Z q 0 = Y q 0 := fun q h1 h2 h3 => by rw [b2 q h3, pf_up_k _ h2, pf_up_k _ h1]
    have f71 : Z 71 0 = upd (Y 71 0) i (if Y 64 0 i = 0 then 0 else Y 67 0 i) := by rw [b2 71 (by decide)]; rfl
    have f72 : Z 72 0 = upd (Y 72 0) i (Y 70 0 i + Y 70 0 (4 + i)) := by rw [b2 72 (by decide)]; rfl
    refine ⟨Y', ?_, fun q h1 h2 h3 => (a2 q h1 h2 h3).trans (f1 q h1 h2 h3), fun a ha => ?_, fun a ha => ?_, fun j h1 h2 => ?_⟩
    · rw [lX12_joins_2, if_neg (fun w => by have := (nI_leI (a := 4) (by omega) (by omega)).mp w; omega)]
      unfold jX12_joins_31
      have e70 : ∀ v, pf_up Y 71 0 i v 70 0 = Y 70 0 := fun _ => rfl
      simp only [si_pin2 (show i < 4 by omega) (by decide), si_pin2 (show i < 8 by omega) (by decide), e4, si_pin2 (show 4 + i < 8 by omega) (by decide), if_true, si_cl (show i < 2 ^ 31 by omega), si_cl (show 4 + i < 2 ^ 31 by omega), e70, nI_1]
      have b1' : lX12_joins_55 (nI i) (fun u16_Me55 => lX12_joins_2 kx f (nI (i + 1)) u16_Me55) pf_fu 0 (pf_up (pf_up Y 71 0 i (if Y 64 0 i = 0 then 0 else Y 67 0 i)) 72 0 i (Y 70 0 i + Y 70 0 (4 + i))) = lX12_joins_2 kx f (nI (i + 1)) Z := b1
      by_cases h0 : Y 64 0 i = 0
      · rw [if_pos h0] at b1' ⊢
        exact b1'.trans a1
      · rw [if_neg h0] at b1' ⊢
        exact b1'.trans a1
    · rw [(a3 a (by omega)).1, (a3 a (by omega)).2, f71, f72, upd_n _ _ (by omega), upd_n _ _ (by omega)]
      exact ⟨rfl, rfl⟩
    · rw [a4 a (by omega), b3 a (by omega)]
      rfl
    · by_cases hji : j = i
      · subst hji
        refine ⟨?_, ?_, fun k hk => ?_⟩
        · rw [(a3 j (by omega)).1, f71, upd_s]
        · rw [(a3 j (by omega)).2, f72, upd_s]
        · rw [a4 _ (by omega), b4 k (by omega) hk]
          exact jv_eq rfl rfl rfl
      · obtain ⟨c1, c2, c3⟩ := a5 j (by omega) h2
        rw [f1 64 (by decide) (by decide) (by decide), f1 67 (by decide) (by decide) (by decide)] at c1
        rw [f1 70 (by decide) (by decide) (by decide)] at c2
        refine ⟨c1, c2, fun k hk => ?_⟩
        rw [c3 k hk]
        exact jv_eq (f1 64 (by decide) (by decide) (by decide)) (f1 68 (by decide) (by decide) (by decide)) (f1 69 (by decide) (by decide) (by decide))
/-- what comes home to the class -/
def hv (X : pf_M) (cut : Bool) (i k : Nat) : Int32 := if cut then (if X 25 i 0 = 7 ∨ X 25 i 0 = 9 then X 28 (2 * i) k ||| X 28 (2 * i + 1) k else if X 28 (2 * i) k = X 26 i k then X 28 (2 * i + 1) k else X 28 (2 * i) k) else X 28 (2 * i) k
theorem hv_eq {X X' : pf_M} {cut : Bool} {i k : Nat} (h1 : X' 25 i 0 = X 25 i 0) (h2 : X' 26 i = X 26 i) (h3 : X' 28 = X 28) : hv X' cut i k = hv X cut i k := by
  unfold hv
  rw [h1, h2, h3]
theorem sx_joined {X : pf_M} {i k : Nat} (hk : k < 8) : fX2_joinedByte i (nI k) X = some (hv X true i k) := by
  unfold fX2_joinedByte fX2_combines hv
  simp only [si_pin2 hk (by decide), if_true, si_cl (show k < 2 ^ 31 by omega)]
  by_cases h7 : X 25 i 0 = 7
  · rw [if_pos h7, if_pos (Or.inl h7), if_neg (by decide)]
  · by_cases h9 : X 25 i 0 = 9
    · rw [if_neg h7, if_pos h9, if_pos (Or.inr h9), if_neg (by decide)]
    · rw [if_neg h7, if_neg h9, if_neg (show ¬ (X 25 i 0 = 7 ∨ X 25 i 0 = 9) from fun w => w.elim h7 h9), if_pos rfl]
      by_cases hp : X 28 (2 * i) k = X 26 i k
      · rw [if_pos hp, if_pos hp]
      · rw [if_neg hp, if_neg hp]
theorem sx_comeL {X : pf_M} {i z : Nat} {cut : Bool} (hz8 : z ≤ 8) (hz : X 25 i 9 = nI z) : ∀ (m k f : Nat) (g : Nat → Int32), k + m = z → m < f → ∃ g', lX2_comeHome_54 i (if cut then 1 else 0) f (nI k) (pf_upf X 30 i g) = some (pf_upf X 30 i g') ∧ (∀ a, a < k → g' a = g a) ∧ ∀ k', k ≤ k' → k' < z → g' k' = hv X cut i k' := by
  intro m
  induction m with
  | zero =>
    intro k f g hk hf
    obtain ⟨f, rfl⟩ : ∃ g, f = g + 1 := ⟨f - 1, by omega⟩
    obtain rfl : k = z := by omega
    have e : pf_upf X 30 i g 25 i 9 = nI k := hz
    rw [lX2_comeHome_54, e, if_pos (Int32.le_refl _)]
    exact ⟨g, rfl, fun _ _ => rfl, fun k' h1 h2 => by omega⟩
  | succ m ih =>
    intro k f g hk hf
    obtain ⟨f, rfl⟩ : ∃ g, f = g + 1 := ⟨f - 1, by omega⟩
    have e : pf_upf X 30 i g 25 i 9 = nI z := hz
    have e28 : pf_upf X 30 i g 28 (2 * i) k = X 28 (2 * i) k := rfl
    have hstep : lX2_comeHome_54 i (if cut then 1 else 0) (f + 1) (nI k) (pf_upf X 30 i g) = lX2_comeHome_54 i (if cut then 1 else 0) f (nI (k + 1)) (pf_upf X 30 i (upd g k (hv X cut i k))) := by
      rw [lX2_comeHome_54, e, if_neg (fun w => by have := (nI_leI (by omega) (by omega)).mp w; omega)]
      unfold jX2_comeHome_88
      rw [sx_joined (show k < 8 by omega), Option.bind_some]
      simp only [si_pin2 (show k < 8 by omega) (by decide), if_true, si_cl (show k < 2 ^ 31 by omega), e28, nI_1, pf_upf_up]
      cases cut with
      | false => rfl
      | true => rfl
    rw [hstep]
    obtain ⟨g', a1, a2, a3⟩ := ih (k + 1) f (upd g k (hv X cut i k)) (by omega) (by omega)
    refine ⟨g', a1, fun a ha => ?_, fun k' h1 h2 => ?_⟩
    · rw [a2 a (by omega), upd_n _ _ (by omega)]
    · by_cases hkk : k' = k
      · subst hkk
        rw [a2 _ (by omega), upd_s]
      · exact a3 k' (by omega) h2
theorem sx_come {X : pf_M} {i z : Nat} {cut : Bool} (hz8 : z ≤ 8) (hz : (if X 25 i 0 = 0 then 0 else X 25 i 3) = nI z) : ∃ X', fX2_comeHome i (if cut then 1 else 0) X = some X' ∧ (∀ k j, ¬ (k = 25 ∧ j = i) → ¬ (k = 30 ∧ j = i) → X' k j = X k j) ∧ (∀ f, f ≠ 8 → f ≠ 9 → X' 25 i f = X 25 i f) ∧ X' 25 i 9 = nI z ∧ X' 25 i 8 = (if cut then X 27 (2 * i) 2 + X 27 (2 * i + 1) 2 else X 27 (2 * i) 2) ∧ ∀ k, k < z → X' 30 i k = hv X cut i k := by
  have h16 : fX2_comeHome i (if cut then 1 else 0) X = jX2_comeHome_16 i (if cut then 1 else 0) i (nI z) X := by
    unfold fX2_comeHome
    rw [← hz]
    by_cases h0 : X 25 i 0 = 0
    · rw [if_pos h0, if_pos h0]
    · rw [if_neg h0, if_neg h0]
  have h49 : jX2_comeHome_16 i (if cut then 1 else 0) i (nI z) X = lX2_comeHome_54 i (if cut then 1 else 0) pf_fu 0 (pf_up (pf_up X 25 i 9 (nI z)) 25 i 8 (if cut then X 27 (2 * i) 2 + X 27 (2 * i + 1) 2 else X 27 (2 * i) 2)) := by
    unfold jX2_comeHome_16 jX2_comeHome_49
    have e27 : ∀ v j, pf_up X 25 i 9 v 27 j = X 27 j := fun _ _ => rfl
    cases cut with
    | false => simp only [Bool.false_eq_true, if_false, if_true, e27]
    | true => simp only [if_true, si_10, if_false, e27]
  obtain ⟨g', a1, a2, a3⟩ := sx_comeL (X := pf_up (pf_up X 25 i 9 (nI z)) 25 i 8 (if cut then X 27 (2 * i) 2 + X 27 (2 * i + 1) 2 else X 27 (2 * i) 2)) (i := i) (z := z) (cut := cut) hz8 (by rw [pf_up_j _ _ _ _ _ _ (by decide), pf_up_s]) z 0 pf_fu (X 30 i) (by omega) (by unfold pf_fu; omega)
  have hid : pf_upf (pf_up (pf_up X 25 i 9 (nI z)) 25 i 8 (if cut then X 27 (2 * i) 2 + X 27 (2 * i + 1) 2 else X 27 (2 * i) 2)) 30 i (X 30 i) = pf_up (pf_up X 25 i 9 (nI z)) 25 i 8 (if cut then X 27 (2 * i) 2 + X 27 (2 * i + 1) 2 else X 27 (2 * i) 2) := pf_upf_id (pf_up (pf_up X 25 i 9 (nI z)) 25 i 8 (if cut then X 27 (2 * i) 2 + X 27 (2 * i + 1) 2 else X 27 (2 * i) 2)) 30 i
  rw [hid] at a1
  refine ⟨_, h16.trans (h49.trans a1), fun k j h1 h2 => ?_, fun f h1 h2 => ?_, ?_, ?_, fun k hk => ?_⟩
  · unfold pf_upf
    rw [if_neg h2, pf_up_o _ h1, pf_up_o _ h1]
  · show pf_up (pf_up X 25 i 9 (nI z)) 25 i 8 _ 25 i f = _
    rw [pf_up_j _ _ _ _ _ _ h1, pf_up_j _ _ _ _ _ _ h2]
  · show pf_up (pf_up X 25 i 9 (nI z)) 25 i 8 _ 25 i 9 = _
    rw [pf_up_j _ _ _ _ _ _ (by decide), pf_up_s]
  · show pf_up (pf_up X 25 i 9 (nI z)) 25 i 8 _ 25 i 8 = _
    rw [pf_up_s]
  · rw [pf_upf_s, a3 k (by omega) hk]
    refine hv_eq ?_ rfl rfl
    show pf_up (pf_up X 25 i 9 (nI z)) 25 i 8 _ 25 i 0 = _
    rw [pf_up_j _ _ _ _ _ _ (by decide), pf_up_j _ _ _ _ _ _ (by decide)]
