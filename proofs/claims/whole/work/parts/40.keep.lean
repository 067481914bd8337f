section
variable {X Y : pf_M}
theorem sx_rem40 {z : Nat} (hz : z ≤ 5) (e : X 22 0 2 = nI z) (L w : Int32) : jX4_remember_40 L w X = some (pf_up (pf_up (pf_up X 23 0 z L) 24 0 z w) 22 0 2 (nI (z + 1))) := by
  unfold jX4_remember_40
  have e1 : ∀ j v, pf_up X 23 0 j v 22 0 2 = nI z := fun _ _ => e
  have e2 : ∀ j v j' v', pf_up (pf_up X 23 0 j v) 24 0 j' v' 22 0 2 = nI z := fun _ _ _ _ => e
  simp only [e1, e, si_pin2 (show z < 6 by omega) (by decide), if_true, si_cl (show z < 2 ^ 31 by omega), e2, nI_1]
theorem sy_k141 {z i : Nat} (hz : z ≤ 5) (hi : i < 4) (e : Y 40 0 44 = nI z) : jX12_keeps_141 (nI i) Y = some (pf_up (pf_up (pf_up (pf_up (pf_up (pf_up Y 74 0 (5 * z) (Y 64 0 i)) 74 0 (5 * z + 1) (Y 65 0 i)) 74 0 (5 * z + 2) (Y 66 0 i)) 74 0 (5 * z + 3) (Y 67 0 i)) 74 0 (5 * z + 4) (Y 72 0 i)) 40 0 44 (nI (z + 1))) := by
  unfold jX12_keeps_141
  have k40 : ∀ (N : pf_M) j v, pf_up N 74 0 j v 40 0 44 = N 40 0 44 := fun _ _ _ => rfl
  have k65 : ∀ (N : pf_M) j v a, pf_up N 74 0 j v 65 0 a = N 65 0 a := fun _ _ _ _ => rfl
  have k66 : ∀ (N : pf_M) j v a, pf_up N 74 0 j v 66 0 a = N 66 0 a := fun _ _ _ _ => rfl
  have k67 : ∀ (N : pf_M) j v a, pf_up N 74 0 j v 67 0 a = N 67 0 a := fun _ _ _ _ => rfl
  have k72 : ∀ (N : pf_M) j v a, pf_up N 74 0 j v 72 0 a = N 72 0 a := fun _ _ _ _ => rfl
  have e5 : (5 : Int32) * nI z = nI (5 * z) := by rw [show (5 : Int32) = nI 5 from rfl, nI_mul]
  have e2 : nI (5 * z) + 2 = nI (5 * z + 2) := by rw [show (2 : Int32) = nI 2 from rfl, nI_add]
  have e3 : nI (5 * z) + 3 = nI (5 * z + 3) := by rw [show (3 : Int32) = nI 3 from rfl, nI_add]
  have e4 : nI (5 * z) + 4 = nI (5 * z + 4) := by rw [show (4 : Int32) = nI 4 from rfl, nI_add]
  simp only [k40, k65, k66, k67, k72, e, e5, e2, e3, e4, nI_1, si_pin2 hi (by decide), si_pin2 (show 5 * z < 30 by omega) (by decide), si_pin2 (show 5 * z + 1 < 30 by omega) (by decide), si_pin2 (show 5 * z + 2 < 30 by omega) (by decide), si_pin2 (show 5 * z + 3 < 30 by omega) (by decide), si_pin2 (show 5 * z + 4 < 30 by omega) (by decide), if_true,
    si_cl (show i < 2 ^ 31 by omega), si_cl (show 5 * z < 2 ^ 31 by omega), si_cl (show 5 * z + 1 < 2 ^ 31 by omega), si_cl (show 5 * z + 2 < 2 ^ 31 by omega), si_cl (show 5 * z + 3 < 2 ^ 31 by omega), si_cl (show 5 * z + 4 < 2 ^ 31 by omega)]
theorem sx_forget : ∀ (m i f : Nat) (kx : pf_M → Option pf_M), i + m = 5 → m < f → X 22 0 2 = nI 6 → lX4_forgetOldest_2 kx f (nI (i + 1)) (pf_upf (pf_upf X 23 0 (qR (X 23 0) 0 i)) 24 0 (qR (X 24 0) 0 i)) = kx (pf_upf (pf_upf X 23 0 (qR (X 23 0) 0 5)) 24 0 (qR (X 24 0) 0 5)) := by
  intro m
  induction m with
  | zero =>
    intro i f kx hi hf h
    obtain ⟨f, rfl⟩ : ∃ g, f = g + 1 := ⟨f - 1, by omega⟩
    obtain rfl : i = 5 := by omega
    have e : pf_upf (pf_upf X 23 0 (qR (X 23 0) 0 5)) 24 0 (qR (X 24 0) 0 5) 22 0 2 = nI 6 := h
    rw [lX4_forgetOldest_2, e, if_pos (Int32.le_refl _)]
  | succ m ih =>
    intro i f kx hi hf h
    obtain ⟨f, rfl⟩ : ∃ g, f = g + 1 := ⟨f - 1, by omega⟩
    have e : pf_upf (pf_upf X 23 0 (qR (X 23 0) 0 i)) 24 0 (qR (X 24 0) 0 i) 22 0 2 = nI 6 := h
    have e23 : pf_upf (pf_upf X 23 0 (qR (X 23 0) 0 i)) 24 0 (qR (X 24 0) 0 i) 23 0 (i + 1) = X 23 0 (i + 1) := by
      show qR (X 23 0) 0 i (i + 1) = _
      unfold qR
      rw [if_neg (by omega)]
    have e24 : ∀ v, pf_up (pf_upf (pf_upf X 23 0 (qR (X 23 0) 0 i)) 24 0 (qR (X 24 0) 0 i)) 23 0 i v 24 0 (i + 1) = X 24 0 (i + 1) := by
      intro v
      show qR (X 24 0) 0 i (i + 1) = _
      unfold qR
      rw [if_neg (by omega)]
    have s23 := qR_s (X 23 0) 0 i
    have s24 := qR_s (X 24 0) 0 i
    rw [Nat.zero_add] at s23 s24
    rw [lX4_forgetOldest_2, e, if_neg (fun w => by have := (nI_leI (by omega) (by omega)).mp w; omega), nI_pred, si_pin2 (show i + 1 < 6 by omega) (by decide), si_pin2 (show i < 6 by omega) (by decide), if_pos rfl, if_pos rfl, if_pos rfl, if_pos rfl, si_cl (by omega), si_cl (by omega), e23, e24, nI_1, pf_upf_in X (show 23 ≠ 24 by decide), pf_upf_up, s23, s24]
    exact ih (i + 1) f kx (by omega) (by omega) h
theorem sy_shift : ∀ (m v f : Nat) (g : Nat → Int32), v + m = 25 → m < f → (∀ a, v ≤ a → g a = Y 74 0 a) → (∀ a, a < v → g a = Y 74 0 (a + 5)) → ∃ g', (∀ kx, lX12_keeps_105 kx f (nI v) (pf_upf Y 74 0 g) = kx (pf_upf Y 74 0 g')) ∧ ∀ a, a < 25 → g' a = Y 74 0 (a + 5) := by
  intro m
  induction m with
  | zero =>
    intro v f g hv hf h1 h2
    obtain ⟨f, rfl⟩ : ∃ g, f = g + 1 := ⟨f - 1, by omega⟩
    obtain rfl : v = 25 := by omega
    refine ⟨g, fun kx => ?_, h2⟩
    rw [lX12_keeps_105, if_pos (by decide)]
  | succ m ih =>
    intro v f g hv hf h1 h2
    obtain ⟨f, rfl⟩ : ∃ g, f = g + 1 := ⟨f - 1, by omega⟩
    have e5 : nI v + 5 = nI (v + 5) := by rw [show (5 : Int32) = nI 5 from rfl, nI_add]
    obtain ⟨g', a1, a2⟩ := ih (v + 1) f (upd g v (g (v + 5))) (by omega) (by omega) (fun a ha => by rw [upd_n _ _ (by omega)]; exact h1 a (by omega)) (fun a ha => by
      by_cases hav : a = v
      · subst hav
        rw [upd_s]
        exact h1 _ (by omega)
      · rw [upd_n _ _ hav]
        exact h2 a (by omega))
    refine ⟨g', fun kx => ?_, a2⟩
    rw [lX12_keeps_105, if_neg (fun w => by have := (nI_leI (a := 25) (by omega) (by omega)).mp w; omega), e5, si_pin2 (show v + 5 < 30 by omega) (by decide), si_pin2 (show v < 30 by omega) (by decide), if_pos rfl, if_pos rfl, si_cl (by omega), si_cl (by omega), pf_upf_s, pf_upf_up, nI_1]
    exact a1 kx
/-- a new one is remembered -/
theorem ss_app {z i w : Nat} {L : Int32} (hz : z ≤ 5) (hi : i < 4) (eX : X 22 0 2 = nI z) (eY : Y 40 0 44 = nI z) (hE : ∀ j, j < z → sEo X Y j) (hg : sGo X Y i) (hw : w < 2 ^ 31) (hY : Y 72 0 i = nI w) (hL : L = fX2_likeness i X) :
    sE (pf_up (pf_up (pf_up X 23 0 z L) 24 0 z (nI w)) 22 0 2 (nI (z + 1))) (pf_up (pf_up (pf_up (pf_up (pf_up (pf_up Y 74 0 (5 * z) (Y 64 0 i)) 74 0 (5 * z + 1) (Y 65 0 i)) 74 0 (5 * z + 2) (Y 66 0 i)) 74 0 (5 * z + 3) (Y 67 0 i)) 74 0 (5 * z + 4) (Y 72 0 i)) 40 0 44 (nI (z + 1))) := by
  obtain ⟨g1, g2, g3, g4, -⟩ := hg
  have y74 : ∀ v, pf_up (pf_up (pf_up (pf_up (pf_up (pf_up Y 74 0 (5 * z) (Y 64 0 i)) 74 0 (5 * z + 1) (Y 65 0 i)) 74 0 (5 * z + 2) (Y 66 0 i)) 74 0 (5 * z + 3) (Y 67 0 i)) 74 0 (5 * z + 4) (Y 72 0 i)) 40 0 44 v 74 0 = upd (upd (upd (upd (upd (Y 74 0) (5 * z) (Y 64 0 i)) (5 * z + 1) (Y 65 0 i)) (5 * z + 2) (Y 66 0 i)) (5 * z + 3) (Y 67 0 i)) (5 * z + 4) (Y 72 0 i) := fun v => by
    rw [pf_up_k _ (by decide), pf_up_upf Y, pf_upf_up, pf_upf_up, pf_upf_up, pf_upf_up, pf_upf_s]
  have x23 : ∀ v, pf_up (pf_up (pf_up X 23 0 z L) 24 0 z (nI w)) 22 0 2 v 23 0 = upd (X 23 0) z L := fun v => rfl
  have x24 : ∀ v, pf_up (pf_up (pf_up X 23 0 z L) 24 0 z (nI w)) 22 0 2 v 24 0 = upd (X 24 0) z (nI w) := fun v => rfl
  refine ⟨z + 1, by omega, pf_up_s _ _ _ _ _, pf_up_s _ _ _ _ _, fun j hj => ?_⟩
  unfold sEo
  rw [y74, x23, x24]
  by_cases hjz : j = z
  · subst hjz
    rw [upd_n _ _ (show 5 * j ≠ 5 * j + 4 by omega), upd_n _ _ (show 5 * j ≠ 5 * j + 3 by omega), upd_n _ _ (show 5 * j ≠ 5 * j + 2 by omega), upd_n _ _ (show 5 * j ≠ 5 * j + 1 by omega), upd_s,
      upd_n _ _ (show 5 * j + 1 ≠ 5 * j + 4 by omega), upd_n _ _ (show 5 * j + 1 ≠ 5 * j + 3 by omega), upd_n _ _ (show 5 * j + 1 ≠ 5 * j + 2 by omega), upd_s,
      upd_n _ _ (show 5 * j + 2 ≠ 5 * j + 4 by omega), upd_n _ _ (show 5 * j + 2 ≠ 5 * j + 3 by omega), upd_s,
      upd_n _ _ (show 5 * j + 3 ≠ 5 * j + 4 by omega), upd_s, upd_s, upd_s, upd_s, hY]
    refine ⟨g1.2, g2.2, g3.2, g4.2, ?_, rfl, Int32.not_lt.mp (nI_pos (by omega))⟩
    rw [hL]
    unfold fX2_likeness
    rw [g1.1, g2.1, g3.1, g4.1]
  · have o : ∀ a, a < 5 * z → upd (upd (upd (upd (upd (Y 74 0) (5 * z) (Y 64 0 i)) (5 * z + 1) (Y 65 0 i)) (5 * z + 2) (Y 66 0 i)) (5 * z + 3) (Y 67 0 i)) (5 * z + 4) (Y 72 0 i) a = Y 74 0 a := fun a ha => by
      rw [upd_n _ _ (by omega), upd_n _ _ (by omega), upd_n _ _ (by omega), upd_n _ _ (by omega), upd_n _ _ (by omega)]
    rw [o _ (by omega), o _ (by omega), o _ (by omega), o _ (by omega), o _ (by omega), upd_n _ _ hjz, upd_n _ _ hjz]
    exact hE j (by omega)
theorem ss_keep {i w : Nat} (hi : i < 4) (hE : sE X Y) (hg : sGo X Y i) (hw : w < 2 ^ 31) (hX : X 25 i 8 = nI w) (hY : Y 72 0 i = nI w) (hS : X 20 0 3 = Y 40 0 46) :
    ∃ X' Y', fX6_compare i X = some X' ∧ fX12_keeps (nI i) Y = some Y' ∧ (∀ k, k ≠ 20 → k ≠ 22 → k ≠ 23 → k ≠ 24 → X' k = X k) ∧ (∀ f, f ≠ 3 → X' 20 0 f = X 20 0 f) ∧ (∀ k, k ≠ 40 → k ≠ 74 → Y' k 0 = Y k 0) ∧ (∀ a, a ≠ 44 → a ≠ 46 → Y' 40 0 a = Y 40 0 a) ∧ sE X' Y' ∧ X' 20 0 3 = Y' 40 0 46 := by
  obtain ⟨z, z1, z2, z3, z4⟩ := id hE
  have hw0 : (0 : Int32) ≤ nI w := Int32.not_lt.mp (nI_pos hw)
  unfold fX6_compare fX12_keeps fX6_expectedOf fX4_counterOf jX6_compare_22 fX4_remember
  rcases ss_find hi z1 z2 z3 z4 hg with ⟨c1, c2, -⟩ | ⟨j, c1, c2, c3, c4⟩
  · have hm : (-4 : Int32) ≤ nI w := Int32.le_trans (by decide) hw0
    by_cases hz6 : z = 6
    · subst hz6
      have f1 := sx_forget (X := X) 5 0 pf_fu (fun u7_Me2 => some (pf_up u7_Me2 22 0 2 ((u7_Me2 22 0 2) - (1 : Int32)))) (by omega) (by unfold pf_fu; omega) z2
      rw [qR_0, qR_0] at f1
      have hid : pf_upf (pf_upf X 23 0 (X 23 0)) 24 0 (X 24 0) = X := by
        have : pf_upf (pf_upf X 23 0 (X 23 0)) 24 0 (X 24 0) = pf_upf X 23 0 (X 23 0) := pf_upf_id (pf_upf X 23 0 (X 23 0)) 24 0
        rw [this, pf_upf_id]
      rw [hid] at f1
      have f2 : fX4_forgetOldest X = some (pf_up (pf_upf (pf_upf X 23 0 (qR (X 23 0) 0 5)) 24 0 (qR (X 24 0) 0 5)) 22 0 2 (nI 6 - 1)) := by
        unfold fX4_forgetOldest
        refine Eq.trans f1 ?_
        have e22 : pf_upf (pf_upf X 23 0 (qR (X 23 0) 0 5)) 24 0 (qR (X 24 0) 0 5) 22 0 2 = nI 6 := z2
        simp only [e22]
      rw [show nI 6 - 1 = nI 5 from nI_pred 5] at f2
      obtain ⟨g', s1, s2⟩ := sy_shift (Y := Y) 25 0 pf_fu (Y 74 0) (by omega) (by unfold pf_fu; omega) (fun _ _ => rfl) (fun a ha => by omega)
      rw [pf_upf_id] at s1
      have s1' : ∀ kx, lX12_keeps_105 kx pf_fu 0 Y = kx (pf_upf Y 74 0 g') := s1
      have e44 : pf_upf Y 74 0 g' 40 0 44 = nI 6 := z3
      have hE5 : ∀ j, j < 5 → sEo (pf_up (pf_upf (pf_upf X 23 0 (qR (X 23 0) 0 5)) 24 0 (qR (X 24 0) 0 5)) 22 0 2 (nI 5)) (pf_up (pf_upf Y 74 0 g') 40 0 44 (nI 5)) j := by
        intro j hj
        have h0 := z4 (j + 1) (by omega)
        unfold sEo at h0 ⊢
        have y74 : pf_up (pf_upf Y 74 0 g') 40 0 44 (nI 5) 74 0 = g' := rfl
        have x23 : pf_up (pf_upf (pf_upf X 23 0 (qR (X 23 0) 0 5)) 24 0 (qR (X 24 0) 0 5)) 22 0 2 (nI 5) 23 0 j = X 23 0 (j + 1) := by
          show qR (X 23 0) 0 5 j = _
          unfold qR
          rw [if_pos (by omega)]
        have x24 : pf_up (pf_upf (pf_upf X 23 0 (qR (X 23 0) 0 5)) 24 0 (qR (X 24 0) 0 5)) 22 0 2 (nI 5) 24 0 j = X 24 0 (j + 1) := by
          show qR (X 24 0) 0 5 j = _
          unfold qR
          rw [if_pos (by omega)]
        rw [y74, x23, x24, s2 _ (by omega), s2 _ (by omega), s2 _ (by omega), s2 _ (by omega), s2 _ (by omega)]
        rw [show 5 * j + 5 = 5 * (j + 1) by omega, show 5 * j + 1 + 5 = 5 * (j + 1) + 1 by omega, show 5 * j + 2 + 5 = 5 * (j + 1) + 2 by omega, show 5 * j + 3 + 5 = 5 * (j + 1) + 3 by omega, show 5 * j + 4 + 5 = 5 * (j + 1) + 4 by omega]
        exact h0
      have hsE := ss_app (X := pf_up (pf_upf (pf_upf X 23 0 (qR (X 23 0) 0 5)) 24 0 (qR (X 24 0) 0 5)) 22 0 2 (nI 5)) (Y := pf_up (pf_upf Y 74 0 g') 40 0 44 (nI 5)) (z := 5) (i := i) (w := w) (L := fX2_likeness i X) (by omega) hi (pf_up_s _ _ _ _ _) (pf_up_s _ _ _ _ _) hE5 hg hw hY rfl
      simp only [c1, c2, Option.bind_some, show (0 : Int32) ≤ -4 ↔ False from ⟨fun w => absurd w (by decide), False.elim⟩, if_false, if_pos hm, hX, show ((-4 : Int32) < 0) = True from eq_true (by decide), if_true, z2, z3, show (nI 6 < (6 : Int32)) = False from eq_false (by decide), show (nI 6 = (6 : Int32)) = True from eq_true rfl, f2, s1', e44, show nI 6 - 1 = nI 5 from nI_pred 5]
      rw [sx_rem40 (X := pf_up (pf_upf (pf_upf X 23 0 (qR (X 23 0) 0 5)) 24 0 (qR (X 24 0) 0 5)) 22 0 2 (nI 5)) (z := 5) (by omega) (pf_up_s _ _ _ _ _), sy_k141 (Y := pf_up (pf_upf Y 74 0 g') 40 0 44 (nI 5)) (z := 5) (i := i) (by omega) hi (pf_up_s _ _ _ _ _)]
      refine ⟨_, _, rfl, rfl, fun k h1 h2 h3 h4 => funext fun j => ?_, fun f hf => rfl, fun k h1 h2 => ?_, fun a h1 h2 => ?_, hsE, hS⟩
      · rw [pf_up_k _ h2, pf_up_k _ h4, pf_up_k _ h3, pf_up_k _ h2, pf_upf_k _ h4, pf_upf_k _ h3]
      · rw [pf_up_k _ h1, pf_up_k _ h2, pf_up_k _ h2, pf_up_k _ h2, pf_up_k _ h2, pf_up_k _ h2, pf_up_k _ h1, pf_upf_k _ h2]
      · rw [pf_up_j _ _ _ _ _ _ h1]
        show pf_up (pf_upf Y 74 0 g') 40 0 44 (nI 5) 40 0 a = _
        rw [pf_up_j _ _ _ _ _ _ h1]
        rfl
    · have hsE := ss_app (X := X) (Y := Y) (z := z) (i := i) (w := w) (L := fX2_likeness i X) (by omega) hi z2 z3 z4 hg hw hY rfl
      simp only [c1, c2, Option.bind_some, show (0 : Int32) ≤ -4 ↔ False from ⟨fun w => absurd w (by decide), False.elim⟩, if_false, if_pos hm, hX, show ((-4 : Int32) < 0) = True from eq_true (by decide), if_true, z2, z3, show (nI z < (6 : Int32)) = True from eq_true ((nI_ltI (b := 6) (by omega) (by omega)).mpr (by omega)), show (nI z = (6 : Int32)) = False from eq_false (fun w => hz6 ((nI_eq (b := 6) (by omega) (by omega)).mp w))]
      rw [sx_rem40 (X := X) (z := z) (by omega) z2, sy_k141 (Y := Y) (z := z) (i := i) (by omega) hi z3]
      refine ⟨_, _, rfl, rfl, fun k h1 h2 h3 h4 => funext fun j => ?_, fun f hf => rfl, fun k h1 h2 => ?_, fun a h1 h2 => ?_, hsE, hS⟩
      · rw [pf_up_k _ h2, pf_up_k _ h4, pf_up_k _ h3]
      · rw [pf_up_k _ h1, pf_up_k _ h2, pf_up_k _ h2, pf_up_k _ h2, pf_up_k _ h2, pf_up_k _ h2]
      · rw [pf_up_j _ _ _ _ _ _ h1]
        rfl
  · have hj4 : ¬ nI j = -4 := fun q => by
      have := nI_pos (show j < 2 ^ 31 by omega)
      rw [q] at this
      exact this (by decide)
    have hrem : ∀ v, fX4_indexOf (fX2_likeness i (pf_up X 20 0 3 v)) (pf_up X 20 0 3 v) = some (nI j) := by
      intro v
      rcases ss_find (X := pf_up X 20 0 3 v) hi z1 z2 z3 z4 hg with ⟨-, d2, -⟩ | ⟨j', d1, d2, d3, -⟩
      · rw [c3] at d2
        exact absurd (Option.some.inj d2) hj4
      · rw [c3] at d3
        rw [d2, Option.some.inj d3]
    have e4 : (5 : Int32) * nI j + 4 = nI (5 * j + 4) := by rw [show (5 : Int32) = nI 5 from rfl, show (4 : Int32) = nI 4 from rfl, nI_mul, nI_add]
    obtain ⟨k1, k2, k3, k4, k5, k6, k7⟩ := z4 j c1
    have hj0 : (0 : Int32) ≤ nI j := Int32.not_lt.mp (nI_pos (by omega))
    have hjn : ¬ nI j < 0 := nI_pos (by omega)
    have x24 : ∀ v, pf_up X 20 0 3 v 24 0 j = Y 74 0 (5 * j + 4) := fun v => k6
    have x25 : ∀ v, pf_up X 20 0 3 v 25 i 8 = nI w := fun v => hX
    have y72 : ∀ v, pf_up Y 40 0 46 v 72 0 i = nI w := fun v => hY
    have y74 : ∀ v, pf_up Y 40 0 46 v 74 0 = Y 74 0 := fun v => rfl
    have fin : ∀ (vx vy nw : Int32), vx = vy → 0 ≤ nw → sE (pf_up (pf_up X 20 0 3 vx) 24 0 j nw) (pf_up (pf_up Y 40 0 46 vy) 74 0 (5 * j + 4) nw) ∧ pf_up (pf_up X 20 0 3 vx) 24 0 j nw 20 0 3 = pf_up (pf_up Y 40 0 46 vy) 74 0 (5 * j + 4) nw 40 0 46 := by
      intro vx vy nw hv hn
      refine ⟨⟨z, z1, z2, ?_, fun j' hj' => ?_⟩, ?_⟩
      · show pf_up Y 40 0 46 vy 40 0 44 = _
        rw [pf_up_j _ _ _ _ _ _ (by decide)]
        exact z3
      · have h0 := z4 j' hj'
        unfold sEo at h0 ⊢
        have a74 : pf_up (pf_up Y 40 0 46 vy) 74 0 (5 * j + 4) nw 74 0 = upd (Y 74 0) (5 * j + 4) nw := rfl
        have a24 : pf_up (pf_up X 20 0 3 vx) 24 0 j nw 24 0 = upd (X 24 0) j nw := rfl
        have a23 : pf_up (pf_up X 20 0 3 vx) 24 0 j nw 23 0 = X 23 0 := rfl
        rw [a74, a24, a23, upd_n _ _ (show 5 * j' ≠ 5 * j + 4 by omega), upd_n _ _ (show 5 * j' + 1 ≠ 5 * j + 4 by omega), upd_n _ _ (show 5 * j' + 2 ≠ 5 * j + 4 by omega), upd_n _ _ (show 5 * j' + 3 ≠ 5 * j + 4 by omega)]
        by_cases hjj : j' = j
        · subst hjj
          rw [upd_s, upd_s]
          exact ⟨h0.1, h0.2.1, h0.2.2.1, h0.2.2.2.1, h0.2.2.2.2.1, rfl, hn⟩
        · rw [upd_n _ _ hjj, upd_n _ _ (show 5 * j' + 4 ≠ 5 * j + 4 by omega)]
          exact h0
      · show pf_up X 20 0 3 vx 20 0 3 = pf_up Y 40 0 46 vy 40 0 46
        rw [pf_up_s, pf_up_s]
        exact hv
    have fr : ∀ (vx vy nw : Int32), (∀ k, k ≠ 20 → k ≠ 22 → k ≠ 23 → k ≠ 24 → pf_up (pf_up X 20 0 3 vx) 24 0 j nw k = X k) ∧ (∀ f, f ≠ 3 → pf_up (pf_up X 20 0 3 vx) 24 0 j nw 20 0 f = X 20 0 f) ∧ (∀ k, k ≠ 40 → k ≠ 74 → pf_up (pf_up Y 40 0 46 vy) 74 0 (5 * j + 4) nw k 0 = Y k 0) ∧ (∀ a, a ≠ 44 → a ≠ 46 → pf_up (pf_up Y 40 0 46 vy) 74 0 (5 * j + 4) nw 40 0 a = Y 40 0 a) := by
      intro vx vy nw
      refine ⟨fun k h1 h2 h3 h4 => funext fun j' => ?_, fun f hf => ?_, fun k h1 h2 => ?_, fun a h1 h2 => ?_⟩
      · rw [pf_up_k _ h4, pf_up_k _ h1]
      · show pf_up X 20 0 3 vx 20 0 f = _
        rw [pf_up_j _ _ _ _ _ _ hf]
      · rw [pf_up_k _ h2, pf_up_k _ h1]
      · show pf_up Y 40 0 46 vy 40 0 a = _
        rw [pf_up_j _ _ _ _ _ _ h2]
    have hX3 : pf_up X 20 0 3 (X 20 0 3) = X := pf_up_self X 20 0 3
    unfold jX12_keeps_41 jX12_keeps_92
    simp only [c2, c3, hrem, Option.bind_some, if_pos hj0, if_neg hjn, if_neg hj4, e4, si_pin2 (show j < 6 by omega) (by decide), si_pin2 (show 5 * j + 4 < 30 by omega) (by decide), si_pin2 hi (by decide), if_true, si_cl (show j < 2 ^ 31 by omega), si_cl (show 5 * j + 4 < 2 ^ 31 by omega), si_cl (show i < 2 ^ 31 by omega), k6, hX, hY, x24, x25, y72, y74]
    by_cases ho : Y 74 0 (5 * j + 4) ≤ nI w
    · have hmax : fJ9_max_7cf53 (Y 74 0 (5 * j + 4)) (nI w) = (if nI w ≤ Y 74 0 (5 * j + 4) then Y 74 0 (5 * j + 4) else nI w) := by
        unfold fJ9_max_7cf53
        by_cases hq : nI w ≤ Y 74 0 (5 * j + 4)
        · rw [if_neg (Int32.not_lt.mpr hq), if_pos hq]
        · rw [if_pos (Int32.not_le.mp hq), if_neg hq]
      rw [if_pos ho, if_pos ho, Int32.add_zero]
      obtain ⟨r1, r2⟩ := fin (X 20 0 3) (Y 40 0 46) (fJ9_max_7cf53 (Y 74 0 (5 * j + 4)) (nI w)) hS (by rw [hmax]; split <;> assumption)
      obtain ⟨r3, r4, r5, r6⟩ := fr (X 20 0 3) (Y 40 0 46) (fJ9_max_7cf53 (Y 74 0 (5 * j + 4)) (nI w))
      rw [hX3] at r1 r2 r3 r4
      refine ⟨_, _, rfl, ?_, r3, r4, r5, r6, r1, r2⟩
      rw [hmax]
      split <;> rfl
    · have hmax : fJ9_max_7cf53 (Y 74 0 (5 * j + 4)) (nI w) = (if nI w ≤ Y 74 0 (5 * j + 4) then Y 74 0 (5 * j + 4) else nI w) := by
        unfold fJ9_max_7cf53
        by_cases hq : nI w ≤ Y 74 0 (5 * j + 4)
        · rw [if_neg (Int32.not_lt.mpr hq), if_pos hq]
        · rw [if_pos (Int32.not_le.mp hq), if_neg hq]
      rw [if_neg ho, if_neg ho]
      obtain ⟨r1, r2⟩ := fin (X 20 0 3 + 1) (Y 40 0 46 + 1) (fJ9_max_7cf53 (Y 74 0 (5 * j + 4)) (nI w)) (by rw [hS]) (by rw [hmax]; split <;> assumption)
      obtain ⟨r3, r4, r5, r6⟩ := fr (X 20 0 3 + 1) (Y 40 0 46 + 1) (fJ9_max_7cf53 (Y 74 0 (5 * j + 4)) (nI w))
      refine ⟨_, _, rfl, ?_, r3, r4, r5, r6, r1, r2⟩
      rw [hmax]
      split <;> rfl
end
