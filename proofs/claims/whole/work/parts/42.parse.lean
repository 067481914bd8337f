def qD (g : Nat → Int32) (L : Nat) : Nat → Nat → Int32 → Option Int32
  | 0, _, a => some a
  | m + 1, p, a => if p < L ∧ 48 ≤ g p ∧ g p ≤ 57 then qD g L m (p + 1) (a * 10 + (g p - 48)) else none
theorem qD_s (g : Nat → Int32) (L m p : Nat) (a : Int32) : qD g L (m + 1) p a = if p < L ∧ 48 ≤ g p ∧ g p ≤ 57 then qD g L m (p + 1) (a * 10 + (g p - 48)) else none := rfl
def ovI : Option Int32 → Int32
  | some v => v
  | none => -4
theorem qD_none (g : Nat → Int32) (L : Nat) : ∀ m p a, L < p + m → 1 ≤ m → qD g L m p a = none
  | 0, _, _, _, h => by omega
  | m + 1, p, a, h, _ => by
    rw [qD_s]
    split
    · exact qD_none g L m (p + 1) _ (by omega) (by omega)
    · rfl
theorem qD_congr {g g' : Nat → Int32} {L : Nat} (h : ∀ j, j < L → g j = g' j) : ∀ m p a, qD g L m p a = qD g' L m p a
  | 0, _, _ => rfl
  | m + 1, p, a => by
    rw [qD_s, qD_s]
    by_cases hp : p < L
    · rw [h p hp, qD_congr h m]
    · rw [if_neg (fun w => hp w.1), if_neg (fun w => hp w.1)]
theorem qD_b (g : Nat → Int32) (L : Nat) : ∀ m p a v, qD g L m p (nI a) = some v → ∃ v' : Nat, v = nI v' ∧ v' + 1 ≤ (a + 1) * 10 ^ m
  | 0, p, a, v, h => by
    cases h
    exact ⟨a, rfl, by simp⟩
  | m + 1, p, a, v, h => by
    rw [qD_s] at h
    split at h
    · rename_i hc
      obtain ⟨d, hd, he⟩ := nI_of2 (M := 57) (n := 57) (by decide) (Int32.not_lt.mpr (by have := hc.2.1; grind : (0 : Int32) ≤ g p)) hc.2.2
      have h48 : 48 ≤ d := by
        have := hc.2.1
        rw [he] at this
        exact (nI_leI (a := 48) (by omega) (by omega)).mp this
      rw [he, show (10 : Int32) = nI 10 from rfl, show (48 : Int32) = nI 48 from rfl, nI_mul, nI_subI h48, nI_add] at h
      obtain ⟨v', h1, h2⟩ := qD_b g L m (p + 1) _ v h
      refine ⟨v', h1, Nat.le_trans h2 ?_⟩
      rw [Nat.pow_succ, Nat.mul_comm (10 ^ m) 10, ← Nat.mul_assoc]
      exact Nat.mul_le_mul_right _ (by omega)
    · cases h
theorem qD_v {g : Nat → Int32} {L m p B : Nat} {v : Int32} (h : qD g L m p 0 = some v) (hB : 10 ^ m = B + 1) (hB2 : B < 2 ^ 31) : 0 ≤ v ∧ v ≤ nI B := by
  obtain ⟨v', h1, h2⟩ := qD_b g L m p 0 v h
  rw [h1]
  refine ⟨Int32.not_lt.mp (nI_pos (by omega)), (nI_leI (by omega) (by omega)).mpr (by omega)⟩
section
variable {X Y : pf_M} {L : Nat}
theorem sx_num {p len : Nat} (hL : L ≤ 200) (hp : p ≤ 300) (hlen : 1 ≤ len) (hlen2 : len ≤ 3) (hX : X 1 0 5 = nI L) : fX10_numberAt (nI p) (nI len) X = some (ovI (qD (X 2 0) L len p 0)) := by
  unfold fX10_numberAt
  rw [if_neg (nI_pos (by omega)), nI_add, hX]
  by_cases h : p + len ≤ L
  · rw [if_pos ((nI_leI (by omega) (by omega)).mpr h)]
    have loop : ∀ (m q f : Nat) (a : Int32), q + m = p + len → m < f → lX10_numberAt_22 (nI p) (nI len) X f a (nI q) = some (ovI (qD (X 2 0) L m q a)) := by
      intro m
      induction m with
      | zero =>
        intro q f a hq hf
        obtain ⟨f, rfl⟩ : ∃ g, f = g + 1 := ⟨f - 1, by omega⟩
        rw [lX10_numberAt_22, nI_add, if_pos ((nI_leI (by omega) (by omega)).mpr (by omega))]
        rfl
      | succ m ih =>
        intro q f a hq hf
        obtain ⟨f, rfl⟩ : ∃ g, f = g + 1 := ⟨f - 1, by omega⟩
        rw [lX10_numberAt_22, nI_add, if_neg (fun w => by have := (nI_leI (by omega) (by omega)).mp w; omega), si_pin2 (by omega) (by decide), if_pos rfl, si_cl (by omega), nI_1, qD_s]
        by_cases h1 : X 2 0 q < 48
        · rw [if_pos h1, if_neg (fun w => absurd h1 (Int32.not_lt.mpr w.2.1))]
          rfl
        · by_cases h2 : X 2 0 q ≤ 57
          · rw [if_neg h1, if_pos rfl, if_pos h2, if_pos rfl, if_pos ⟨by omega, Int32.not_lt.mp h1, h2⟩]
            exact ih (q + 1) f _ (by omega) (by omega)
          · rw [if_neg h1, if_pos rfl, if_neg h2, if_neg (fun w => h2 w.2.2)]
            rfl
    exact loop len p pf_fu 0 (by omega) (by unfold pf_fu; omega)
  · rw [if_neg (fun w => h ((nI_leI (by omega) (by omega)).mp w)), qD_none _ _ _ _ _ (by omega) hlen]
    rfl
theorem sx_hasc {p : Nat} (hL : L ≤ 200) (hp : p ≤ 300) (hX : X 1 0 5 = nI L) (ch : Int32) : fX10_has (nI p) ch X = some (if p < L ∧ X 2 0 p = ch then 1 else 0) := by
  unfold fX10_has
  rw [if_neg (nI_pos (by omega)), hX]
  by_cases h : p < L
  · rw [if_neg (fun w => by have := (nI_leI (by omega) (by omega)).mp w; omega), si_pin2 (by omega) (by decide), if_pos rfl, si_cl (by omega)]
    by_cases h2 : X 2 0 p = ch
    · rw [if_pos h2, if_pos ⟨h, h2⟩]
    · rw [if_neg h2, if_neg (fun w => h2 w.2)]
  · rw [if_pos ((nI_leI (by omega) (by omega)).mpr (by omega)), if_neg (fun w => h w.1)]
theorem sy_let {p : Nat} (hL : L ≤ 200) (hp : p ≤ 300) (hY : Y 40 0 0 = nI L) : fX12_letterAt (nI p) Y = some (if p < L then Y 41 0 p else 0) := by
  unfold fX12_letterAt
  rw [hY]
  by_cases h : p < L
  · rw [if_neg (fun w => by have := (nI_leI (by omega) (by omega)).mp w; omega), si_pin2 (by omega) (by decide), if_pos rfl, si_cl (by omega), if_pos h]
  · rw [if_pos ((nI_leI (by omega) (by omega)).mpr (by omega)), if_neg h]
theorem sy_fig {len : Nat} (hL : L ≤ 200) (hlen : len ≤ 3) (hY : Y 40 0 0 = nI L) : ∀ (m j f p : Nat) (a : Int32), j + m = len → m < f → p + m ≤ 300 → ∃ p', lX12_figures_4 (nI len) f a (nI j) (pf_up Y 40 0 2 (nI p)) = some (ovI (qD (Y 41 0) L m p a), pf_up Y 40 0 2 (nI p')) ∧ ((qD (Y 41 0) L m p a).isSome = true → p' = p + m) := by
  intro m
  induction m with
  | zero =>
    intro j f p a hj hf hp
    obtain ⟨f, rfl⟩ : ∃ g, f = g + 1 := ⟨f - 1, by omega⟩
    refine ⟨p, ?_, fun _ => rfl⟩
    rw [lX12_figures_4, if_pos ((nI_leI (by omega) (by omega)).mpr (by omega))]
    rfl
  | succ m ih =>
    intro j f p a hj hf hp
    obtain ⟨f, rfl⟩ : ∃ g, f = g + 1 := ⟨f - 1, by omega⟩
    have e2 : pf_up Y 40 0 2 (nI p) 40 0 2 = nI p := pf_up_s _ _ _ _ _
    have el : fX12_letterAt (nI p) (pf_up Y 40 0 2 (nI p)) = some (if p < L then Y 41 0 p else 0) := sy_let (Y := pf_up Y 40 0 2 (nI p)) hL (by omega) ((pf_up_j _ _ _ _ _ _ (by decide)).trans hY)
    rw [lX12_figures_4, if_neg (fun w => by have := (nI_leI (by omega) (by omega)).mp w; omega), e2, el, Option.bind_some, si_48_57, nI_1, nI_1, pf_up_twice, qD_s]
    by_cases hc : p < L ∧ 48 ≤ Y 41 0 p ∧ Y 41 0 p ≤ 57
    · obtain ⟨p', a1, a2⟩ := ih (j + 1) f (p + 1) (a * 10 + (Y 41 0 p - 48)) (by omega) (by omega) (by omega)
      refine ⟨p', ?_, fun h => ?_⟩
      · rw [if_pos hc.1, if_pos hc.2, if_neg (by decide), Option.bind_some, if_pos hc, show (10 : Int32) * a + Y 41 0 p - 48 = a * 10 + (Y 41 0 p - 48) by grind]
        exact a1
      · rw [if_pos hc] at h
        have := a2 h
        omega
    · refine ⟨p, ?_, fun h => ?_⟩
      · have hn : ¬ ((48 : Int32) ≤ (if p < L then Y 41 0 p else 0) ∧ (if p < L then Y 41 0 p else 0) ≤ (57 : Int32)) := by
          by_cases hp : p < L
          · rw [if_pos hp]
            exact fun w => hc ⟨hp, w⟩
          · rw [if_neg hp]
            decide
        rw [if_neg hn, if_pos rfl, if_neg hc]
        rfl
      · rw [if_neg hc] at h
        cases h
theorem sy_figs {len p : Nat} (hL : L ≤ 200) (hlen : len ≤ 3) (hY : Y 40 0 0 = nI L) (hp : p ≤ 290) : ∃ p', fX12_figures (nI len) (pf_up Y 40 0 2 (nI p)) = some (ovI (qD (Y 41 0) L len p 0), pf_up Y 40 0 2 (nI p')) ∧ ((qD (Y 41 0) L len p 0).isSome = true → p' = p + len) := sy_fig hL hlen hY len 0 pf_fu p 0 (by omega) (by unfold pf_fu; omega) (by omega)
theorem sy_ends {p : Nat} (hL : L ≤ 200) (hY : Y 40 0 0 = nI L) (hp : p ≤ 290) : fX12_ends (pf_up Y 40 0 2 (nI p)) = some (if p < L ∧ Y 41 0 p = 59 then 1 else 0, pf_up Y 40 0 2 (nI (p + 1))) := by
  unfold fX12_ends
  have e2 : pf_up Y 40 0 2 (nI p) 40 0 2 = nI p := pf_up_s _ _ _ _ _
  have e3 : pf_up Y 40 0 2 (nI (p + 1)) 40 0 2 = nI (p + 1) := pf_up_s _ _ _ _ _
  have el : fX12_letterAt (nI p) (pf_up Y 40 0 2 (nI (p + 1))) = some (if p < L then Y 41 0 p else 0) := sy_let (Y := pf_up Y 40 0 2 (nI (p + 1))) hL (by omega) ((pf_up_j _ _ _ _ _ _ (by decide)).trans hY)
  rw [e2, nI_1, pf_up_twice, e3, nI_pred, el, Option.bind_some]
  by_cases h : p < L
  · rw [if_pos h]
    by_cases h2 : Y 41 0 p = 59
    · rw [if_pos h2, if_pos ⟨h, h2⟩]
    · rw [if_neg h2, if_neg (fun w => h2 w.2)]
  · rw [if_neg h, if_neg (by decide), if_neg (fun w => h w.1)]
end
