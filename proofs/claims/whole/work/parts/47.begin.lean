theorem sy_init2 {Y : pf_M} {d : Nat} (hd : d < 8) : fX12_becomeInit (nI d) Y = some (yI (pf_up Y 51 0 d 0) d) := by
  have h := sy_init (Y := Y) hd
  unfold fX12_becomeInit at h ⊢
  rw [si_pin2 hd (by decide), if_pos rfl, if_pos rfl, if_pos rfl, si_cl (by omega)] at h ⊢
  rw [pf_up_twice] at h
  exact h
def hYd (Y' M : pf_M) (d : Nat) : Prop := (Y' 46 0 d = M 42 0 d ∧ Y' 47 0 d = M 43 0 d ∧ Y' 48 0 d = M 44 0 d ∧ Y' 49 0 d = M 45 0 d) ∧ (Y' 51 0 d = 0 ∧ Y' 53 0 d = 0 ∧ Y' 54 0 d = 0 ∧ Y' 62 0 d = -4 ∧ Y' 63 0 d = -4) ∧ (Y' 59 0 (2 * d) = 0 ∧ Y' 59 0 (2 * d + 1) = 0) ∧ (Y' 60 0 (2 * d) = 0 ∧ Y' 60 0 (2 * d + 1) = 0) ∧ (Y' 61 0 (2 * d) = 1 ∧ Y' 61 0 (2 * d + 1) = 1)
theorem sy_build : ∀ (m d f : Nat) (M : pf_M), d + m = 8 → m < f → ∃ M', (∀ kx, lX12_begin_26 kx f (nI d) M = kx M') ∧ (∀ k, k ≠ 46 → k ≠ 47 → k ≠ 48 → k ≠ 49 → k ≠ 51 → k ≠ 53 → k ≠ 54 → k ≠ 59 → k ≠ 60 → k ≠ 61 → k ≠ 62 → k ≠ 63 → M' k 0 = M k 0) ∧
    (∀ a, a < d → M' 46 0 a = M 46 0 a ∧ M' 47 0 a = M 47 0 a ∧ M' 48 0 a = M 48 0 a ∧ M' 49 0 a = M 49 0 a ∧ M' 51 0 a = M 51 0 a ∧ M' 53 0 a = M 53 0 a ∧ M' 54 0 a = M 54 0 a ∧ M' 62 0 a = M 62 0 a ∧ M' 63 0 a = M 63 0 a) ∧ (∀ a, a < 2 * d → M' 59 0 a = M 59 0 a ∧ M' 60 0 a = M 60 0 a ∧ M' 61 0 a = M 61 0 a) ∧ ∀ d', d ≤ d' → d' < 8 → hYd M' M d' := by
  intro m
  induction m with
  | zero =>
    intro d f M hd hf
    obtain ⟨f, rfl⟩ : ∃ g, f = g + 1 := ⟨f - 1, by omega⟩
    obtain rfl : d = 8 := by omega
    refine ⟨M, fun kx => ?_, fun _ _ _ _ _ _ _ _ _ _ _ _ _ => rfl, fun _ _ => ⟨rfl, rfl, rfl, rfl, rfl, rfl, rfl, rfl, rfl⟩, fun _ _ => ⟨rfl, rfl, rfl⟩, fun d' h1 h2 => by omega⟩
    rw [lX12_begin_26, if_pos (by decide)]
  | succ m ih =>
    intro d f M hd hf
    obtain ⟨f, rfl⟩ : ∃ g, f = g + 1 := ⟨f - 1, by omega⟩
    have hstep : ∃ Z, (∀ kx, lX12_begin_26 kx (f + 1) (nI d) M = lX12_begin_26 kx f (nI (d + 1)) Z) ∧ Z = yI (pf_up (pf_up (pf_up (pf_up (pf_up (pf_up (pf_up M 46 0 d (M 42 0 d)) 47 0 d (M 43 0 d)) 48 0 d (M 44 0 d)) 49 0 d (M 45 0 d)) 53 0 d 0) 54 0 d 0) 51 0 d 0) d := by
      refine ⟨_, fun kx => ?_, rfl⟩
      rw [lX12_begin_26, if_neg (fun w => by have := (nI_leI (a := 8) (by omega) (by omega)).mp w; omega)]
      have q1 : ∀ v, pf_up M 46 0 d v 43 0 = M 43 0 := fun _ => rfl
      have q2 : ∀ v w, pf_up (pf_up M 46 0 d v) 47 0 d w 44 0 = M 44 0 := fun _ _ => rfl
      have q3 : ∀ v w x, pf_up (pf_up (pf_up M 46 0 d v) 47 0 d w) 48 0 d x 45 0 = M 45 0 := fun _ _ _ => rfl
      simp only [si_pin2 (show d < 8 by omega) (by decide), si_pin2 (show d < 9 by omega) (by decide), if_true, si_cl (show d < 2 ^ 31 by omega), q1, q2, q3, sy_init2 (show d < 8 by omega), Option.bind_some, nI_1]
    obtain ⟨Z, z1, z2⟩ := hstep
    obtain ⟨M', b1, b2, b3, b4, b5⟩ := ih (d + 1) f Z (by omega) (by omega)
    have w46 : Z 46 0 = upd (M 46 0) d (M 42 0 d) := by rw [z2]; rfl
    have w47 : Z 47 0 = upd (M 47 0) d (M 43 0 d) := by rw [z2]; rfl
    have w48 : Z 48 0 = upd (M 48 0) d (M 44 0 d) := by rw [z2]; rfl
    have w49 : Z 49 0 = upd (M 49 0) d (M 45 0 d) := by rw [z2]; rfl
    have w51 : Z 51 0 = upd (M 51 0) d 0 := by rw [z2]; rfl
    have w53 : Z 53 0 = upd (M 53 0) d 0 := by rw [z2]; rfl
    have w54 : Z 54 0 = upd (M 54 0) d 0 := by rw [z2]; rfl
    have w62 : Z 62 0 = upd (M 62 0) d (-4) := by rw [z2]; rfl
    have w63 : Z 63 0 = upd (M 63 0) d (-4) := by rw [z2]; rfl
    have w59 : Z 59 0 = upd (upd (M 59 0) (2 * d) 0) (2 * d + 1) 0 := by rw [z2]; rfl
    have w60 : Z 60 0 = upd (upd (M 60 0) (2 * d) 0) (2 * d + 1) 0 := by rw [z2]; rfl
    have w61 : Z 61 0 = upd (upd (M 61 0) (2 * d) 1) (2 * d + 1) 1 := by rw [z2]; rfl
    have w42 : Z 42 0 = M 42 0 := by rw [z2]; rfl
    have w43 : Z 43 0 = M 43 0 := by rw [z2]; rfl
    have w44 : Z 44 0 = M 44 0 := by rw [z2]; rfl
    have w45 : Z 45 0 = M 45 0 := by rw [z2]; rfl
    refine ⟨M', fun kx => (z1 kx).trans (b1 kx), fun k h1 h2 h3 h4 h5 h6 h7 h8 h9 h10 h11 h12 => ?_, fun a ha => ?_, fun a ha => ?_, fun d' h1 h2 => ?_⟩
    · rw [b2 k h1 h2 h3 h4 h5 h6 h7 h8 h9 h10 h11 h12, z2]
      unfold yI
      rw [pf_up_k _ h10, pf_up_k _ h9, pf_up_k _ h8, pf_up_k _ h10, pf_up_k _ h9, pf_up_k _ h8, pf_up_k _ h12, pf_up_k _ h11, pf_up_k _ h5, pf_up_k _ h7, pf_up_k _ h6, pf_up_k _ h4, pf_up_k _ h3, pf_up_k _ h2, pf_up_k _ h1]
    · obtain ⟨c1, c2, c3, c4, c5, c6, c7, c8, c9⟩ := b3 a (by omega)
      rw [c1, c2, c3, c4, c5, c6, c7, c8, c9, w46, w47, w48, w49, w51, w53, w54, w62, w63]
      have : a ≠ d := by omega
      simp only [upd_n _ _ this, and_self]
    · obtain ⟨c1, c2, c3⟩ := b4 a (by omega)
      rw [c1, c2, c3, w59, w60, w61]
      have : a ≠ 2 * d := by omega
      have : a ≠ 2 * d + 1 := by omega
      simp only [upd_n _ _ ‹a ≠ 2 * d›, upd_n _ _ ‹a ≠ 2 * d + 1›, and_self]
    · by_cases hdd : d' = d
      · rw [hdd]
        obtain ⟨c1, c2, c3, c4, c5, c6, c7, c8, c9⟩ := b3 d (by omega)
        obtain ⟨e1, e2, e3⟩ := b4 (2 * d) (by omega)
        obtain ⟨e4, e5, e6⟩ := b4 (2 * d + 1) (by omega)
        unfold hYd
        rw [c1, c2, c3, c4, c5, c6, c7, c8, c9, e1, e2, e3, e4, e5, e6, w46, w47, w48, w49, w51, w53, w54, w62, w63, w59, w60, w61]
        have : 2 * d ≠ 2 * d + 1 := by omega
        simp only [upd_s, upd_n _ _ this, and_self]
      · have := b5 d' (by omega) h2
        unfold hYd at this ⊢
        rw [w42, w43, w44, w45] at this
        exact this
theorem sy_fill123 (kx : pf_M → Option pf_M) : ∀ (m j f : Nat) (M : pf_M), j + m = 9 → m < f → ∃ M', lX12_begin_123 kx f (nI j) M = kx M' ∧ (∀ k, k ≠ 50 → M' k 0 = M k 0) ∧ (∀ a, a < j → M' 50 0 a = M 50 0 a) ∧ ∀ a, j ≤ a → a < 9 → M' 50 0 a = 0 := by
  intro m
  induction m with
  | zero =>
    intro j f M hj hf
    obtain ⟨f, rfl⟩ : ∃ g, f = g + 1 := ⟨f - 1, by omega⟩
    obtain rfl : j = 9 := by omega
    rw [lX12_begin_123, if_pos (by decide)]
    exact ⟨M, rfl, fun _ _ => rfl, fun _ _ => rfl, fun a h1 h2 => by omega⟩
  | succ m ih =>
    intro j f M hj hf
    obtain ⟨f, rfl⟩ : ∃ g, f = g + 1 := ⟨f - 1, by omega⟩
    rw [lX12_begin_123, if_neg (fun w => by have := (nI_leI (a := 9) (by omega) (by omega)).mp w; omega), si_pin2 (by omega) (by decide), if_pos rfl, nI_1, si_cl (by omega)]
    obtain ⟨M', a1, a2, a3, a4⟩ := ih (j + 1) f (pf_up M 50 0 j 0) (by omega) (by omega)
    refine ⟨M', a1, fun k h => (a2 k h).trans (pf_up_k _ h), fun a ha => ?_, fun a h1 h2 => ?_⟩
    · rw [a3 a (by omega), pf_up_j _ _ _ _ _ _ (by omega)]
    · by_cases haj : a = j
      · rw [haj, a3 j (by omega), pf_up_s]
      · exact a4 a (by omega) h2
theorem sy_fill144 (kx : pf_M → Option pf_M) : ∀ (m j f : Nat) (M : pf_M), j + m = 128 → m < f → ∃ M', lX12_begin_144 kx f (nI j) M = kx M' ∧ (∀ k, k ≠ 52 → M' k 0 = M k 0) ∧ (∀ a, a < j → M' 52 0 a = M 52 0 a) ∧ ∀ a, j ≤ a → a < 128 → M' 52 0 a = 0 := by
  intro m
  induction m with
  | zero =>
    intro j f M hj hf
    obtain ⟨f, rfl⟩ : ∃ g, f = g + 1 := ⟨f - 1, by omega⟩
    obtain rfl : j = 128 := by omega
    rw [lX12_begin_144, if_pos (by decide)]
    exact ⟨M, rfl, fun _ _ => rfl, fun _ _ => rfl, fun a h1 h2 => by omega⟩
  | succ m ih =>
    intro j f M hj hf
    obtain ⟨f, rfl⟩ : ∃ g, f = g + 1 := ⟨f - 1, by omega⟩
    rw [lX12_begin_144, if_neg (fun w => by have := (nI_leI (a := 128) (by omega) (by omega)).mp w; omega), si_pin2 (by omega) (by decide), if_pos rfl, nI_1, si_cl (by omega)]
    obtain ⟨M', a1, a2, a3, a4⟩ := ih (j + 1) f (pf_up M 52 0 j 0) (by omega) (by omega)
    refine ⟨M', a1, fun k h => (a2 k h).trans (pf_up_k _ h), fun a ha => ?_, fun a h1 h2 => ?_⟩
    · rw [a3 a (by omega), pf_up_j _ _ _ _ _ _ (by omega)]
    · by_cases haj : a = j
      · rw [haj, a3 j (by omega), pf_up_s]
      · exact a4 a (by omega) h2
theorem sy_fill166 (kx : pf_M → Option pf_M) : ∀ (m j f : Nat) (M : pf_M), j + m = 16 → m < f → ∃ M', lX12_begin_166 kx f (nI j) M = kx M' ∧ (∀ k, k ≠ 56 → M' k 0 = M k 0) ∧ (∀ a, a < j → M' 56 0 a = M 56 0 a) ∧ ∀ a, j ≤ a → a < 16 → M' 56 0 a = 0 := by
  intro m
  induction m with
  | zero =>
    intro j f M hj hf
    obtain ⟨f, rfl⟩ : ∃ g, f = g + 1 := ⟨f - 1, by omega⟩
    obtain rfl : j = 16 := by omega
    rw [lX12_begin_166, if_pos (by decide)]
    exact ⟨M, rfl, fun _ _ => rfl, fun _ _ => rfl, fun a h1 h2 => by omega⟩
  | succ m ih =>
    intro j f M hj hf
    obtain ⟨f, rfl⟩ : ∃ g, f = g + 1 := ⟨f - 1, by omega⟩
    rw [lX12_begin_166, if_neg (fun w => by have := (nI_leI (a := 16) (by omega) (by omega)).mp w; omega), si_pin2 (by omega) (by decide), if_pos rfl, nI_1, si_cl (by omega)]
    obtain ⟨M', a1, a2, a3, a4⟩ := ih (j + 1) f (pf_up M 56 0 j 0) (by omega) (by omega)
    refine ⟨M', a1, fun k h => (a2 k h).trans (pf_up_k _ h), fun a ha => ?_, fun a h1 h2 => ?_⟩
    · rw [a3 a (by omega), pf_up_j _ _ _ _ _ _ (by omega)]
    · by_cases haj : a = j
      · rw [haj, a3 j (by omega), pf_up_s]
      · exact a4 a (by omega) h2
theorem sy_fill187 (kx : pf_M → Option pf_M) : ∀ (m j f : Nat) (M : pf_M), j + m = 32 → m < f → ∃ M', lX12_begin_187 kx f (nI j) M = kx M' ∧ (∀ k, k ≠ 68 → M' k 0 = M k 0) ∧ (∀ a, a < j → M' 68 0 a = M 68 0 a) ∧ ∀ a, j ≤ a → a < 32 → M' 68 0 a = 0 := by
  intro m
  induction m with
  | zero =>
    intro j f M hj hf
    obtain ⟨f, rfl⟩ : ∃ g, f = g + 1 := ⟨f - 1, by omega⟩
    obtain rfl : j = 32 := by omega
    rw [lX12_begin_187, if_pos (by decide)]
    exact ⟨M, rfl, fun _ _ => rfl, fun _ _ => rfl, fun a h1 h2 => by omega⟩
  | succ m ih =>
    intro j f M hj hf
    obtain ⟨f, rfl⟩ : ∃ g, f = g + 1 := ⟨f - 1, by omega⟩
    rw [lX12_begin_187, if_neg (fun w => by have := (nI_leI (a := 32) (by omega) (by omega)).mp w; omega), si_pin2 (by omega) (by decide), if_pos rfl, nI_1, si_cl (by omega)]
    obtain ⟨M', a1, a2, a3, a4⟩ := ih (j + 1) f (pf_up M 68 0 j 0) (by omega) (by omega)
    refine ⟨M', a1, fun k h => (a2 k h).trans (pf_up_k _ h), fun a ha => ?_, fun a h1 h2 => ?_⟩
    · rw [a3 a (by omega), pf_up_j _ _ _ _ _ _ (by omega)]
    · by_cases haj : a = j
      · rw [haj, a3 j (by omega), pf_up_s]
      · exact a4 a (by omega) h2
theorem sy_fill208 (kx : pf_M → Option pf_M) : ∀ (m j f : Nat) (M : pf_M), j + m = 4 → m < f → ∃ M', lX12_begin_208 kx f (nI j) M = kx M' ∧ (∀ k, k ≠ 64 → M' k 0 = M k 0) ∧ (∀ a, a < j → M' 64 0 a = M 64 0 a) ∧ ∀ a, j ≤ a → a < 4 → M' 64 0 a = 0 := by
  intro m
  induction m with
  | zero =>
    intro j f M hj hf
    obtain ⟨f, rfl⟩ : ∃ g, f = g + 1 := ⟨f - 1, by omega⟩
    obtain rfl : j = 4 := by omega
    rw [lX12_begin_208, if_pos (by decide)]
    exact ⟨M, rfl, fun _ _ => rfl, fun _ _ => rfl, fun a h1 h2 => by omega⟩
  | succ m ih =>
    intro j f M hj hf
    obtain ⟨f, rfl⟩ : ∃ g, f = g + 1 := ⟨f - 1, by omega⟩
    rw [lX12_begin_208, if_neg (fun w => by have := (nI_leI (a := 4) (by omega) (by omega)).mp w; omega), si_pin2 (by omega) (by decide), if_pos rfl, nI_1, si_cl (by omega)]
    obtain ⟨M', a1, a2, a3, a4⟩ := ih (j + 1) f (pf_up M 64 0 j 0) (by omega) (by omega)
    refine ⟨M', a1, fun k h => (a2 k h).trans (pf_up_k _ h), fun a ha => ?_, fun a h1 h2 => ?_⟩
    · rw [a3 a (by omega), pf_up_j _ _ _ _ _ _ (by omega)]
    · by_cases haj : a = j
      · rw [haj, a3 j (by omega), pf_up_s]
      · exact a4 a (by omega) h2
