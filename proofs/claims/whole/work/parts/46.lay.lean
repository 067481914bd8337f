def gX (M : pf_M) (d : Nat) (n s r : Int32) : Prop := (M 11 d 4 = n ∧ M 11 d 5 = s ∧ M 11 d 6 = r ∧ M 11 d 7 = 0 ∧ M 11 d 8 = 0 ∧ M 11 d 9 = 0) ∧ (∀ b, b < 16 → M 12 d b = 0) ∧ (M 13 (2 * d) 1 = 0 ∧ M 13 (2 * d + 1) 1 = 0) ∧ (M 15 (2 * d) 1 = 0 ∧ M 15 (2 * d + 1) 1 = 0) ∧ (M 14 d 2 = 0 ∧ M 14 d 3 = 0 ∧ M 14 d 4 = 1 ∧ M 14 d 5 = 1 ∧ M 14 d 6 = 0 ∧ M 14 d 7 = 0)
theorem sx_devb (M : pf_M) (d : Nat) (n s r : Int32) : ∃ M', fX3_begin d n s r M = some M' ∧ (∀ k i, ¬ (k = 11 ∧ i = d) → ¬ (k = 12 ∧ i = d) → ¬ (k = 13 ∧ (i = 2 * d ∨ i = 2 * d + 1)) → ¬ (k = 14 ∧ i = d) → ¬ (k = 15 ∧ (i = 2 * d ∨ i = 2 * d + 1)) → M' k i = M k i) ∧ gX M' d n s r := by
  obtain ⟨Z, a1, a2, a3⟩ := sj_fills (kd := 12) (i := d) (nn := 16) (by omega) 0 (pf_up (pf_up (pf_up (pf_up (pf_up M 11 d 4 n) 11 d 5 s) 11 d 6 r) 11 d 8 (0 : Int32)) 11 d 9 (0 : Int32))
  unfold fX3_begin fX3_enter fX7_remove
  rw [a1, Option.bind_some, if_pos rfl]
  unfold fX5_begin fX8_empty
  have z11 : Z 11 d = pf_up (pf_up (pf_up (pf_up (pf_up M 11 d 4 n) 11 d 5 s) 11 d 6 r) 11 d 8 (0 : Int32)) 11 d 9 (0 : Int32) 11 d := a2 11 d (fun w => by omega)
  refine ⟨_, rfl, fun k i h1 h2 h3 h4 h5 => ?_, ⟨?_, ?_, ?_, ?_, ?_, ?_⟩, fun b hb => ?_, ⟨?_, ?_⟩, ⟨?_, ?_⟩, ?_, ?_, ?_, ?_, ?_, ?_⟩
  · rw [pf_up_o _ h4, pf_up_o _ h4, pf_up_o _ h4, pf_up_o _ h4, pf_up_o _ h4, pf_up_o _ h4, pf_up_o _ (fun w => h5 ⟨w.1, Or.inr w.2⟩), pf_up_o _ (fun w => h5 ⟨w.1, Or.inl w.2⟩), pf_up_o _ h1, pf_up_o _ (fun w => h3 ⟨w.1, Or.inr w.2⟩), pf_up_o _ (fun w => h3 ⟨w.1, Or.inl w.2⟩), a2 k i h2, pf_up_o _ h1, pf_up_o _ h1, pf_up_o _ h1, pf_up_o _ h1, pf_up_o _ h1]
  · show pf_up (pf_up (pf_up Z 13 (2 * d) 1 0) 13 (2 * d + 1) 1 0) 11 d 7 0 11 d 4 = _
    rw [pf_up_j _ _ _ _ _ _ (by decide)]
    show Z 11 d 4 = _
    rw [z11, pf_up_j _ _ _ _ _ _ (by decide), pf_up_j _ _ _ _ _ _ (by decide), pf_up_j _ _ _ _ _ _ (by decide), pf_up_j _ _ _ _ _ _ (by decide), pf_up_s]
  · show pf_up (pf_up (pf_up Z 13 (2 * d) 1 0) 13 (2 * d + 1) 1 0) 11 d 7 0 11 d 5 = _
    rw [pf_up_j _ _ _ _ _ _ (by decide)]
    show Z 11 d 5 = _
    rw [z11, pf_up_j _ _ _ _ _ _ (by decide), pf_up_j _ _ _ _ _ _ (by decide), pf_up_j _ _ _ _ _ _ (by decide), pf_up_s]
  · show pf_up (pf_up (pf_up Z 13 (2 * d) 1 0) 13 (2 * d + 1) 1 0) 11 d 7 0 11 d 6 = _
    rw [pf_up_j _ _ _ _ _ _ (by decide)]
    show Z 11 d 6 = _
    rw [z11, pf_up_j _ _ _ _ _ _ (by decide), pf_up_j _ _ _ _ _ _ (by decide), pf_up_s]
  · exact pf_up_s _ _ _ _ _
  · show pf_up (pf_up (pf_up Z 13 (2 * d) 1 0) 13 (2 * d + 1) 1 0) 11 d 7 0 11 d 8 = _
    rw [pf_up_j _ _ _ _ _ _ (by decide)]
    show Z 11 d 8 = _
    rw [z11, pf_up_j _ _ _ _ _ _ (by decide), pf_up_s]
  · show pf_up (pf_up (pf_up Z 13 (2 * d) 1 0) 13 (2 * d + 1) 1 0) 11 d 7 0 11 d 9 = _
    rw [pf_up_j _ _ _ _ _ _ (by decide)]
    show Z 11 d 9 = _
    rw [z11, pf_up_s]
  · exact a3 b hb
  · show pf_up (pf_up Z 13 (2 * d) 1 0) 13 (2 * d + 1) 1 0 13 (2 * d) 1 = _
    rw [pf_up_i _ _ _ _ _ _ (by omega), pf_up_s]
  · show pf_up (pf_up Z 13 (2 * d) 1 0) 13 (2 * d + 1) 1 0 13 (2 * d + 1) 1 = _
    rw [pf_up_s]
  · show pf_up (pf_up _ 15 (2 * d) 1 0) 15 (2 * d + 1) 1 0 15 (2 * d) 1 = _
    rw [pf_up_i _ _ _ _ _ _ (by omega), pf_up_s]
  · show pf_up (pf_up _ 15 (2 * d) 1 0) 15 (2 * d + 1) 1 0 15 (2 * d + 1) 1 = _
    rw [pf_up_s]
  · rw [pf_up_j _ _ _ _ _ _ (by decide), pf_up_j _ _ _ _ _ _ (by decide), pf_up_j _ _ _ _ _ _ (by decide), pf_up_j _ _ _ _ _ _ (by decide), pf_up_j _ _ _ _ _ _ (by decide), pf_up_s]
  · rw [pf_up_j _ _ _ _ _ _ (by decide), pf_up_j _ _ _ _ _ _ (by decide), pf_up_j _ _ _ _ _ _ (by decide), pf_up_j _ _ _ _ _ _ (by decide), pf_up_s]
  · rw [pf_up_j _ _ _ _ _ _ (by decide), pf_up_j _ _ _ _ _ _ (by decide), pf_up_j _ _ _ _ _ _ (by decide), pf_up_s]
  · rw [pf_up_j _ _ _ _ _ _ (by decide), pf_up_j _ _ _ _ _ _ (by decide), pf_up_s]
  · rw [pf_up_j _ _ _ _ _ _ (by decide), pf_up_s]
  · rw [pf_up_s]
theorem gX.keep {M M' : pf_M} {d : Nat} {n s r : Int32} (h : gX M d n s r) (h11 : M' 11 d = M 11 d) (h12 : M' 12 d = M 12 d) (h13 : M' 13 (2 * d) = M 13 (2 * d)) (h13' : M' 13 (2 * d + 1) = M 13 (2 * d + 1)) (h14 : M' 14 d = M 14 d) (h15 : M' 15 (2 * d) = M 15 (2 * d)) (h15' : M' 15 (2 * d + 1) = M 15 (2 * d + 1)) : gX M' d n s r := by
  unfold gX at h ⊢
  rw [h11, h12, h13, h13', h14, h15, h15']
  exact h
theorem sx_build {c : Nat} (hc : c ≤ 8) : ∀ (m d f : Nat) (M : pf_M), d + m = c → m < f → M 7 0 3 = nI c → ∃ M', (∀ kx, lX9_build_39 kx f (nI d) M = kx M') ∧ (∀ k, k ≠ 9 → k ≠ 11 → k ≠ 12 → k ≠ 13 → k ≠ 14 → k ≠ 15 → M' k = M k) ∧ (∀ k i, (k = 11 ∨ k = 12 ∨ k = 14) → i < d → M' k i = M k i) ∧ (∀ k i, (k = 13 ∨ k = 15) → i < 2 * d → M' k i = M k i) ∧ (∀ w, w < d → M' 9 0 w = M 9 0 w) ∧
    ∀ d', d ≤ d' → d' < c → gX M' d' (M 3 0 d') (M 5 0 d') (M 6 0 d') ∧ M' 9 0 d' = M 4 0 d' := by
  intro m
  induction m with
  | zero =>
    intro d f M hd hf h7
    obtain ⟨f, rfl⟩ : ∃ g, f = g + 1 := ⟨f - 1, by omega⟩
    refine ⟨M, fun kx => ?_, fun _ _ _ _ _ _ _ => rfl, fun _ _ _ _ => rfl, fun _ _ _ _ => rfl, fun _ _ => rfl, fun d' h1 h2 => by omega⟩
    rw [lX9_build_39, h7, if_pos ((nI_leI (by omega) (by omega)).mpr (by omega))]
  | succ m ih =>
    intro d f M hd hf h7
    obtain ⟨f, rfl⟩ : ∃ g, f = g + 1 := ⟨f - 1, by omega⟩
    obtain ⟨Z, a1, a2, a3⟩ := sx_devb M d (M 3 0 d) (M 5 0 d) (M 6 0 d)
    have f1 : ∀ k, k ≠ 11 → k ≠ 12 → k ≠ 13 → k ≠ 14 → k ≠ 15 → Z k = M k := fun k h1 h2 h3 h4 h5 => funext fun i => a2 k i (fun w => h1 w.1) (fun w => h2 w.1) (fun w => h3 w.1) (fun w => h4 w.1) (fun w => h5 w.1)
    have z4 : Z 4 0 d = M 4 0 d := by rw [f1 4 (by decide) (by decide) (by decide) (by decide) (by decide)]
    obtain ⟨M', b1, b2, b3, b4, b5, b6⟩ := ih (d + 1) f (pf_up Z 9 0 d (M 4 0 d)) (by omega) (by omega) (by
      show Z 7 0 3 = _
      rw [f1 7 (by decide) (by decide) (by decide) (by decide) (by decide)]
      exact h7)
    refine ⟨M', fun kx => ?_, fun k h1 h2 h3 h4 h5 h6 => ?_, fun k i hk hi => ?_, fun k i hk hi => ?_, fun w hw => ?_, fun d' h1 h2 => ?_⟩
    · rw [lX9_build_39, h7, if_neg (fun w => by have := (nI_leI (by omega) (by omega)).mp w; omega)]
      simp only [si_pin2 (show d < 8 by omega) (by decide), si_pin2 (show d < 9 by omega) (by decide), if_true, si_cl (show d < 2 ^ 31 by omega), a1, Option.bind_some, nI_1, z4]
      exact b1 kx
    · rw [b2 k h1 h2 h3 h4 h5 h6]
      funext i
      rw [pf_up_k _ h1, f1 k h2 h3 h4 h5 h6]
    · rw [b3 k i hk (by omega), pf_up_k _ (by omega), a2 k i (by omega) (by omega) (by omega) (by omega) (by omega)]
    · rw [b4 k i hk (by omega), pf_up_k _ (by omega), a2 k i (by omega) (by omega) (by omega) (by omega) (by omega)]
    · rw [b5 w (by omega), pf_up_j _ _ _ _ _ _ (by omega), f1 9 (by decide) (by decide) (by decide) (by decide) (by decide)]
    · by_cases hdd : d' = d
      · rw [hdd]
        refine ⟨a3.keep ?_ ?_ ?_ ?_ ?_ ?_ ?_, ?_⟩
        · exact b3 11 d (Or.inl rfl) (by omega)
        · exact b3 12 d (Or.inr (Or.inl rfl)) (by omega)
        · exact b4 13 (2 * d) (Or.inl rfl) (by omega)
        · exact b4 13 (2 * d + 1) (Or.inl rfl) (by omega)
        · exact b3 14 d (Or.inr (Or.inr rfl)) (by omega)
        · exact b4 15 (2 * d) (Or.inr rfl) (by omega)
        · exact b4 15 (2 * d + 1) (Or.inr rfl) (by omega)
        · rw [b5 d (by omega), pf_up_s]
      · obtain ⟨c1, c2⟩ := b6 d' (by omega) h2
        have y3 : pf_up Z 9 0 d (M 4 0 d) 3 = M 3 := f1 3 (by decide) (by decide) (by decide) (by decide) (by decide)
        have y4 : pf_up Z 9 0 d (M 4 0 d) 4 = M 4 := f1 4 (by decide) (by decide) (by decide) (by decide) (by decide)
        have y5 : pf_up Z 9 0 d (M 4 0 d) 5 = M 5 := f1 5 (by decide) (by decide) (by decide) (by decide) (by decide)
        have y6 : pf_up Z 9 0 d (M 4 0 d) 6 = M 6 := f1 6 (by decide) (by decide) (by decide) (by decide) (by decide)
        rw [y3, y5, y6] at c1
        rw [y4] at c2
        exact ⟨c1, c2⟩
theorem sx_grams (M : pf_M) : ∃ M', fX6_begin M = some M' ∧ (∀ k, k ≠ 20 → k ≠ 22 → k ≠ 25 → k ≠ 26 → M' k = M k) ∧ (∀ i f, i < 4 → f ≠ 0 → f ≠ 9 → M' 25 i f = M 25 i f) ∧ (∀ i, i < 4 → M' 25 i 0 = 0 ∧ M' 25 i 9 = 0 ∧ ∀ k, k < 8 → M' 26 i k = 0) ∧ M' 20 0 3 = 0 ∧ M' 20 0 4 = 0 ∧ M' 22 0 2 = 0 := by
  unfold fX6_begin
  have loop : ∀ (m i f : Nat) (M : pf_M), i + m = 4 → m < f → ∃ M', (∀ kx, lX6_begin_2 kx f (nI i) M = kx M') ∧ (∀ k, k ≠ 25 → k ≠ 26 → M' k = M k) ∧ (∀ i', i' < i → M' 25 i' = M 25 i' ∧ M' 26 i' = M 26 i') ∧ (∀ i' f, i' < 4 → f ≠ 0 → f ≠ 9 → M' 25 i' f = M 25 i' f) ∧ ∀ i', i ≤ i' → i' < 4 → M' 25 i' 0 = 0 ∧ M' 25 i' 9 = 0 ∧ ∀ k, k < 8 → M' 26 i' k = 0 := by
    intro m
    induction m with
    | zero =>
      intro i f M hi hf
      obtain ⟨f, rfl⟩ : ∃ g, f = g + 1 := ⟨f - 1, by omega⟩
      obtain rfl : i = 4 := by omega
      refine ⟨M, fun kx => ?_, fun _ _ _ => rfl, fun _ _ => ⟨rfl, rfl⟩, fun _ _ _ _ _ => rfl, fun i' h1 h2 => by omega⟩
      rw [lX6_begin_2, if_pos (by decide)]
    | succ m ih =>
      intro i f M hi hf
      obtain ⟨f, rfl⟩ : ∃ g, f = g + 1 := ⟨f - 1, by omega⟩
      obtain ⟨Z, a1, a2, a3⟩ := sj_fills (kd := 26) (i := i) (nn := 8) (by omega) 0 (pf_up (pf_up M 25 i 0 (0 : Int32)) 25 i 9 (0 : Int32))
      obtain ⟨M', b1, b2, b3, b4, b5⟩ := ih (i + 1) f Z (by omega) (by omega)
      have z25 : ∀ i', Z 25 i' = pf_up (pf_up M 25 i 0 (0 : Int32)) 25 i 9 (0 : Int32) 25 i' := fun i' => a2 25 i' (fun w => by omega)
      refine ⟨M', fun kx => ?_, fun k h1 h2 => ?_, fun i' hi' => ⟨?_, ?_⟩, fun i' g hi' h0 h9 => ?_, fun i' h1 h2 => ?_⟩
      · unfold fX2_begin at *
        rw [lX6_begin_2, if_neg (fun w => by have := (nI_leI (a := 4) (by omega) (by omega)).mp w; omega), si_pin2 (by omega) (by decide), if_pos rfl, si_cl (by omega)]
        unfold fX2_begin
        rw [a1, Option.bind_some, Option.bind_some, nI_1]
        exact b1 kx
      · rw [b2 k h1 h2]
        funext j
        rw [a2 k j (fun w => h2 w.1), pf_up_k _ h1, pf_up_k _ h1]
      · rw [(b3 i' (by omega)).1, z25, pf_up_i _ _ _ _ _ _ (by omega), pf_up_i _ _ _ _ _ _ (by omega)]
      · rw [(b3 i' (by omega)).2, a2 26 i' (fun w => by omega)]
        rfl
      · rw [b4 i' g hi' h0 h9, z25]
        by_cases hii : i' = i
        · rw [hii, pf_up_j _ _ _ _ _ _ h9, pf_up_j _ _ _ _ _ _ h0]
        · rw [pf_up_i _ _ _ _ _ _ hii, pf_up_i _ _ _ _ _ _ hii]
      · by_cases hii : i' = i
        · rw [hii, (b3 i (by omega)).1, (b3 i (by omega)).2, z25]
          refine ⟨?_, pf_up_s _ _ _ _ _, a3⟩
          rw [pf_up_j _ _ _ _ _ _ (by decide), pf_up_s]
        · exact b5 i' (by omega) h2
  obtain ⟨M', a1, a2, -, a4, a5⟩ := loop 4 0 pf_fu M (by omega) (by unfold pf_fu; omega)
  refine ⟨_, a1 _, fun k h1 h2 h3 h4 => funext fun j => ?_, fun i f hi h0 h9 => a4 i f hi h0 h9, fun i hi => a5 i (by omega) hi, ?_, ?_, rfl⟩
  · unfold fX4_empty
    rw [pf_up_k _ h1, pf_up_k _ h1, pf_up_k _ h2, a2 k h3 h4]
  · rw [pf_up_j _ _ _ _ _ _ (by decide), pf_up_s]
  · exact pf_up_s _ _ _ _ _
