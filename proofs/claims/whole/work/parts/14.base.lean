theorem si_cmp_lt (x y : Int64) : lg_cmp x y < (0 : Int32) ↔ x < y := by
  unfold lg_cmp
  by_cases h1 : y < x
  · rw [if_pos h1]
    exact ⟨fun h => absurd h (by decide), fun h => absurd h (Int64.lt_asymm h1)⟩
  · rw [if_neg h1]
    by_cases h2 : x = y
    · rw [if_pos h2]
      exact ⟨fun h => absurd h (by decide), fun h => absurd h (h2 ▸ Int64.lt_irrefl)⟩
    · rw [if_neg h2]
      refine ⟨fun _ => ?_, fun _ => by decide⟩
      rw [Int64.lt_iff_toInt_lt] at h1 ⊢
      have h3 : ¬ x.toInt = y.toInt := fun q => h2 (Int64.toInt_inj.mp q)
      omega
theorem si_cmp_gt (x y : Int64) : (0 : Int32) < lg_cmp x y ↔ y < x := by
  unfold lg_cmp
  by_cases h1 : y < x
  · rw [if_pos h1]
    exact ⟨fun _ => h1, fun _ => by decide⟩
  · rw [if_neg h1]
    by_cases h2 : x = y
    · rw [if_pos h2]
      exact ⟨fun h => absurd h (by decide), fun h => absurd h h1⟩
    · rw [if_neg h2]
      exact ⟨fun h => absurd h (by decide), fun h => absurd h h1⟩
theorem si_cmp_le (x y : Int64) : lg_cmp x y ≤ (0 : Int32) ↔ ¬ y < x := by
  rw [← si_cmp_gt]
  exact Int32.not_lt.symm
theorem si_cmp_ge (x y : Int64) : (0 : Int32) ≤ lg_cmp x y ↔ ¬ x < y := by
  rw [← si_cmp_lt]
  exact Int32.not_lt.symm
theorem si_lt64 (x y : Int32) : x.toInt64 < y.toInt64 ↔ x < y := by
  rw [Int64.lt_iff_toInt_lt, Int32.lt_iff_toInt_lt, Int32.toInt_toInt64, Int32.toInt_toInt64]
theorem si_in (x a b : Int32) : fX12_in x.toInt64 a.toInt64 b.toInt64 = if a ≤ x ∧ x ≤ b then 1 else 0 := by
  unfold fX12_in
  simp only [si_cmp_lt, si_cmp_gt, si_lt64]
  by_cases h1 : x < a
  · rw [if_pos h1, if_neg (fun h => absurd h1 (Int32.not_lt.mpr h.1))]
  · rw [if_neg h1]
    by_cases h2 : b < x
    · rw [if_pos h2, if_neg (fun h => absurd h2 (Int32.not_lt.mpr h.2))]
    · rw [if_neg h2, if_pos ⟨Int32.not_lt.mp h1, Int32.not_lt.mp h2⟩]
theorem si_wi (x a b : Int32) : fX11_isWithin x a b = if a ≤ x ∧ x ≤ b then 1 else 0 := by
  unfold fX11_isWithin
  by_cases h1 : x < a
  · rw [if_pos h1, if_neg (fun h => absurd h1 (Int32.not_lt.mpr h.1))]
  · rw [if_neg h1]
    by_cases h2 : b < x
    · rw [if_pos h2, if_neg (fun h => absurd h2 (Int32.not_lt.mpr h.2))]
    · rw [if_neg h2, if_pos ⟨Int32.not_lt.mp h1, Int32.not_lt.mp h2⟩]
theorem si_z {c : Prop} {d : Decidable c} : ((@ite Int32 c d 1 0) = 0) = ¬ c := by
  by_cases h : c
  · rw [if_pos h]; simp [h]
  · rw [if_neg h]; simp [h]
theorem sl_m1 : (-1 : Int64) = (-1 : Int32).toInt64 := by decide +kernel
theorem sl_0 : (0 : Int64) = (0 : Int32).toInt64 := by decide +kernel
theorem sl_1 : (1 : Int64) = (1 : Int32).toInt64 := by decide +kernel
theorem sl_2 : (2 : Int64) = (2 : Int32).toInt64 := by decide +kernel
theorem sl_3 : (3 : Int64) = (3 : Int32).toInt64 := by decide +kernel
theorem sl_4 : (4 : Int64) = (4 : Int32).toInt64 := by decide +kernel
theorem sl_5 : (5 : Int64) = (5 : Int32).toInt64 := by decide +kernel
theorem sl_6 : (6 : Int64) = (6 : Int32).toInt64 := by decide +kernel
theorem sl_7 : (7 : Int64) = (7 : Int32).toInt64 := by decide +kernel
theorem sl_8 : (8 : Int64) = (8 : Int32).toInt64 := by decide +kernel
theorem sl_9 : (9 : Int64) = (9 : Int32).toInt64 := by decide +kernel
theorem sl_10 : (10 : Int64) = (10 : Int32).toInt64 := by decide +kernel
theorem sl_12 : (12 : Int64) = (12 : Int32).toInt64 := by decide +kernel
theorem sl_15 : (15 : Int64) = (15 : Int32).toInt64 := by decide +kernel
theorem sl_32 : (32 : Int64) = (32 : Int32).toInt64 := by decide +kernel
theorem sl_48 : (48 : Int64) = (48 : Int32).toInt64 := by decide +kernel
theorem sl_57 : (57 : Int64) = (57 : Int32).toInt64 := by decide +kernel
theorem sl_99 : (99 : Int64) = (99 : Int32).toInt64 := by decide +kernel
theorem sl_126 : (126 : Int64) = (126 : Int32).toInt64 := by decide +kernel
theorem sl_255 : (255 : Int64) = (255 : Int32).toInt64 := by decide +kernel
theorem sl_9999 : (9999 : Int64) = (9999 : Int32).toInt64 := by decide +kernel
theorem si_m1_7 (x : Int32) : fX12_in x.toInt64 (-1 : Int64) (7 : Int64) = if (-1 : Int32) ≤ x ∧ x ≤ (7 : Int32) then 1 else 0 := by
  have h := si_in x (-1) (7)
  rw [← sl_m1, ← sl_7] at h
  exact h
theorem si_0_1 (x : Int32) : fX12_in x.toInt64 (0 : Int64) (1 : Int64) = if (0 : Int32) ≤ x ∧ x ≤ (1 : Int32) then 1 else 0 := by
  have h := si_in x (0) (1)
  rw [← sl_0, ← sl_1] at h
  exact h
theorem si_0_15 (x : Int32) : fX12_in x.toInt64 (0 : Int64) (15 : Int64) = if (0 : Int32) ≤ x ∧ x ≤ (15 : Int32) then 1 else 0 := by
  have h := si_in x (0) (15)
  rw [← sl_0, ← sl_15] at h
  exact h
theorem si_0_2 (x : Int32) : fX12_in x.toInt64 (0 : Int64) (2 : Int64) = if (0 : Int32) ≤ x ∧ x ≤ (2 : Int32) then 1 else 0 := by
  have h := si_in x (0) (2)
  rw [← sl_0, ← sl_2] at h
  exact h
theorem si_0_255 (x : Int32) : fX12_in x.toInt64 (0 : Int64) (255 : Int64) = if (0 : Int32) ≤ x ∧ x ≤ (255 : Int32) then 1 else 0 := by
  have h := si_in x (0) (255)
  rw [← sl_0, ← sl_255] at h
  exact h
theorem si_0_3 (x : Int32) : fX12_in x.toInt64 (0 : Int64) (3 : Int64) = if (0 : Int32) ≤ x ∧ x ≤ (3 : Int32) then 1 else 0 := by
  have h := si_in x (0) (3)
  rw [← sl_0, ← sl_3] at h
  exact h
theorem si_0_5 (x : Int32) : fX12_in x.toInt64 (0 : Int64) (5 : Int64) = if (0 : Int32) ≤ x ∧ x ≤ (5 : Int32) then 1 else 0 := by
  have h := si_in x (0) (5)
  rw [← sl_0, ← sl_5] at h
  exact h
theorem si_0_7 (x : Int32) : fX12_in x.toInt64 (0 : Int64) (7 : Int64) = if (0 : Int32) ≤ x ∧ x ≤ (7 : Int32) then 1 else 0 := by
  have h := si_in x (0) (7)
  rw [← sl_0, ← sl_7] at h
  exact h
theorem si_0_9 (x : Int32) : fX12_in x.toInt64 (0 : Int64) (9 : Int64) = if (0 : Int32) ≤ x ∧ x ≤ (9 : Int32) then 1 else 0 := by
  have h := si_in x (0) (9)
  rw [← sl_0, ← sl_9] at h
  exact h
theorem si_1_255 (x : Int32) : fX12_in x.toInt64 (1 : Int64) (255 : Int64) = if (1 : Int32) ≤ x ∧ x ≤ (255 : Int32) then 1 else 0 := by
  have h := si_in x (1) (255)
  rw [← sl_1, ← sl_255] at h
  exact h
theorem si_1_8 (x : Int32) : fX12_in x.toInt64 (1 : Int64) (8 : Int64) = if (1 : Int32) ≤ x ∧ x ≤ (8 : Int32) then 1 else 0 := by
  have h := si_in x (1) (8)
  rw [← sl_1, ← sl_8] at h
  exact h
theorem si_1_9 (x : Int32) : fX12_in x.toInt64 (1 : Int64) (9 : Int64) = if (1 : Int32) ≤ x ∧ x ≤ (9 : Int32) then 1 else 0 := by
  have h := si_in x (1) (9)
  rw [← sl_1, ← sl_9] at h
  exact h
theorem si_1_99 (x : Int32) : fX12_in x.toInt64 (1 : Int64) (99 : Int64) = if (1 : Int32) ≤ x ∧ x ≤ (99 : Int32) then 1 else 0 := by
  have h := si_in x (1) (99)
  rw [← sl_1, ← sl_99] at h
  exact h
theorem si_1_3 (x : Int32) : fX12_in x.toInt64 (1 : Int64) (3 : Int64) = if (1 : Int32) ≤ x ∧ x ≤ (3 : Int32) then 1 else 0 := by
  have h := si_in x (1) (3)
  rw [← sl_1, ← sl_3] at h
  exact h
theorem si_4_6 (x : Int32) : fX12_in x.toInt64 (4 : Int64) (6 : Int64) = if (4 : Int32) ≤ x ∧ x ≤ (6 : Int32) then 1 else 0 := by
  have h := si_in x (4) (6)
  rw [← sl_4, ← sl_6] at h
  exact h
theorem si_7_9 (x : Int32) : fX12_in x.toInt64 (7 : Int64) (9 : Int64) = if (7 : Int32) ≤ x ∧ x ≤ (9 : Int32) then 1 else 0 := by
  have h := si_in x (7) (9)
  rw [← sl_7, ← sl_9] at h
  exact h
theorem si_1_9999 (x : Int32) : fX12_in x.toInt64 (1 : Int64) (9999 : Int64) = if (1 : Int32) ≤ x ∧ x ≤ (9999 : Int32) then 1 else 0 := by
  have h := si_in x (1) (9999)
  rw [← sl_1, ← sl_9999] at h
  exact h
theorem si_10_12 (x : Int32) : fX12_in x.toInt64 (10 : Int64) (12 : Int64) = if (10 : Int32) ≤ x ∧ x ≤ (12 : Int32) then 1 else 0 := by
  have h := si_in x (10) (12)
  rw [← sl_10, ← sl_12] at h
  exact h
theorem si_32_126 (x : Int32) : fX12_in x.toInt64 (32 : Int64) (126 : Int64) = if (32 : Int32) ≤ x ∧ x ≤ (126 : Int32) then 1 else 0 := by
  have h := si_in x (32) (126)
  rw [← sl_32, ← sl_126] at h
  exact h
theorem si_4_15 (x : Int32) : fX12_in x.toInt64 (4 : Int64) (15 : Int64) = if (4 : Int32) ≤ x ∧ x ≤ (15 : Int32) then 1 else 0 := by
  have h := si_in x (4) (15)
  rw [← sl_4, ← sl_15] at h
  exact h
theorem si_48_57 (x : Int32) : fX12_in x.toInt64 (48 : Int64) (57 : Int64) = if (48 : Int32) ≤ x ∧ x ≤ (57 : Int32) then 1 else 0 := by
  have h := si_in x (48) (57)
  rw [← sl_48, ← sl_57] at h
  exact h
theorem si_0b (x b : Int32) : fX12_in x.toInt64 (0 : Int64) b.toInt64 = if (0 : Int32) ≤ x ∧ x ≤ b then 1 else 0 := by
  have h := si_in x 0 b
  rw [← sl_0] at h
  exact h
theorem si_pin {j : Int32} {n : Nat} (h0 : 0 ≤ j) (h1 : j.toInt < n) : pf_in j n = true := by
  rw [pf_in_iff, vp_in_iff]
  rw [Int32.le_iff_toInt_le] at h0
  exact ⟨h0, h1⟩
theorem si_pin2 {k n : Nat} (h : k < n) (hn : n < 2 ^ 31) : pf_in (nI k) n = true := pf_in_iff.mpr (vp_in_nI h hn)
theorem si_tn {x : Int32} (h0 : 0 ≤ x) {N : Nat} (h1 : x.toInt ≤ N) (hN : N < 2 ^ 31) : ∃ j : Nat, j ≤ N ∧ x = nI j := by
  obtain ⟨j, h2, rfl⟩ := nI_of (Int32.not_lt.mpr h0)
  refine ⟨j, ?_, rfl⟩
  rw [nI_toInt h2] at h1
  omega
theorem si_cl {k : Nat} (h : k < 2 ^ 31) : (nI k).toNatClampNeg = k := nI_clamp h
theorem si_ne4 {x : Int32} (h : 1 ≤ x) : ¬ x = -4 := by
  intro q
  subst q
  exact absurd h (by decide)
