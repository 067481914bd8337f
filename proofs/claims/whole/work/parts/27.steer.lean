section
variable {X Y : pf_M} {n t k : Nat}
theorem sD.st (hD : sD X Y n) (d : Nat) (v : Int32) {j : Nat} (h : 8 ≤ j) : sD (pf_up X 11 d j v) Y n := by
  have e : ∀ i j', j' ≠ j → pf_up X 11 d j v 11 i j' = X 11 i j' := fun i j' hj => by rw [pf_up_v, if_neg (fun w => hj w.2)]
  intro i hi
  rw [e i 4 (by omega), e i 5 (by omega), e i 6 (by omega)]
  exact hD i hi
theorem ss_steerL {x1 s : Int32} {s' : Int64} (hx1 : 1 ≤ x1 ∧ x1 ≤ 99) (hs : sv s s') {a : Nat} (hk : k ≤ 512) (kx : Int32 → pf_M → Option (Int32 × pf_M)) (ky : Int64 → pf_M → Option (Int32 × pf_M)) : ∀ (m i f g : Nat) (X Y : pf_M) (b : Int32) (b' : Int64), i + m = a → m < f → m < g → b.toInt = b'.toInt → 0 ≤ b'.toInt → b'.toInt ≤ 100000000 → sN X Y n t (k + 1) → t ≤ 10000 * k → a = qA (Y 50 0) n 0 → (∀ d, i ≤ d → d < n → -((1000000 + 100 * k : Nat) : Int) ≤ (Y 53 0 d).toInt ∧ (Y 53 0 d).toInt ≤ ((1000000 + 100 * k : Nat) : Int)) →
    ∃ c c' X' Y', lX1_correct_43 x1 (nI a) s kx f b (nI i) X = kx c X' ∧ lX12_steer_44 x1 (nI a) s' ky g b' (nI i) Y = ky c' Y' ∧ c.toInt = c'.toInt ∧ 0 ≤ c'.toInt ∧ c'.toInt ≤ 100000000 ∧ sN X' Y' n t (k + 1) := by
  intro m
  induction m with
  | zero =>
    intro i f g X Y b b' hi hf hg h1 h2 h3 h4 _ ha _
    obtain ⟨f, rfl⟩ : ∃ g, f = g + 1 := ⟨f - 1, by omega⟩
    obtain ⟨g, rfl⟩ : ∃ f, g = f + 1 := ⟨g - 1, by omega⟩
    have hq := qA_le (Y 50 0) n 0
    obtain ⟨-, -, ⟨hn, -⟩, -⟩ := id h4
    rw [lX1_correct_43, lX12_steer_44, if_pos ((nI_leI (by omega) (by omega)).mpr (by omega)), if_pos ((nI_leI (by omega) (by omega)).mpr (by omega))]
    exact ⟨_, _, _, _, rfl, rfl, h1, h2, h3, h4⟩
  | succ m ih =>
    intro i f g X Y b b' hi hf hg h1 h2 h3 h4 ht5 ha hoff
    obtain ⟨f, rfl⟩ : ∃ g, f = g + 1 := ⟨f - 1, by omega⟩
    obtain ⟨g, rfl⟩ : ∃ f, g = f + 1 := ⟨g - 1, by omega⟩
    have hq := qA_le (Y 50 0) n 0
    obtain ⟨ht, hT, hR, hW, hC, hD, hS, hO, hL, hr⟩ := id h4
    obtain ⟨hn, -⟩ := id hR
    obtain ⟨T, T1, T2, w1, w2⟩ := ss_onA hR hW hC (by omega) (show i < qA (Y 50 0) n 0 by omega)
    obtain ⟨r, r', v1, v2, v3⟩ := ss_sys hD hn.2 hO (by omega) (show i < n by omega) (T := T) (by omega)
    obtain ⟨l1, l2, l3⟩ := hL i (by omega)
    have hni : ¬ nI a ≤ nI i := fun w => by have := (nI_leI (by omega) (by omega)).mp w; omega
    rw [lX1_correct_43, lX12_steer_44]
    simp only [if_neg hni, si_pin2 (show i < 8 by omega) (by decide), if_true, si_cl (show i < 2 ^ 31 by omega), w1, w2, v1, v2, Option.bind_some, nI_1, l1, (hO i (by omega)).1]
    rw [Int32.le_iff_toInt_le] at l2 l3
    have z1 : ((0 : Int32)).toInt = 0 := rfl
    have z2 : ((100000 : Int32)).toInt = 100000 := rfl
    rw [z1] at l2
    rw [z2] at l3
    unfold sv at hs v3
    have d1 : (s + Y 54 0 i - r).toInt = s.toInt + (Y 54 0 i).toInt - r.toInt := by
      have e1 : (s + Y 54 0 i).toInt = s.toInt + (Y 54 0 i).toInt := si_add (by omega) (by omega)
      rw [si_sub (by omega) (by omega), e1]
    have d2 : (s' + (Y 54 0 i).toInt64 - r').toInt = s.toInt + (Y 54 0 i).toInt - r.toInt := by
      have e1 : (s' + (Y 54 0 i).toInt64).toInt = s'.toInt + (Y 54 0 i).toInt := by rw [si_add64 (by rw [si_64]; omega) (by rw [si_64]; omega), si_64]
      rw [si_sub64 (by omega) (by omega), e1]
      omega
    obtain ⟨A, q1, q2, q3, q4, C, q5, q6, q7, q8⟩ := ss_right hx1 (d1.trans d2.symm) (by omega)
    obtain ⟨o1, o2⟩ := hoff i (by omega) (by omega)
    have oo : (Y 53 0 i + fJ9_max_7cf53 (-x1) (fJ9_min_7cf53 x1 (s + Y 54 0 i - r))).toInt = (Y 53 0 i).toInt + (fJ9_max_7cf53 (-x1) (fJ9_min_7cf53 x1 (s + Y 54 0 i - r))).toInt := si_add (by omega) (by omega)
    have hN := h4.off (d := i) (v := Y 53 0 i + fJ9_max_7cf53 (-x1) (fJ9_min_7cf53 x1 (s + Y 54 0 i - r))) (by omega)
    have g2 : (fJ9_max_7cf53 b (fJ9_abs_0f7a4 (s + Y 54 0 i - r))).toInt = (if lg_cmp A b' ≤ 0 then b' else A).toInt ∧ 0 ≤ (if lg_cmp A b' ≤ 0 then b' else A).toInt ∧ (if lg_cmp A b' ≤ 0 then b' else A).toInt ≤ 100000000 := by
      unfold fJ9_max_7cf53
      by_cases hc : b < fJ9_abs_0f7a4 (s + Y 54 0 i - r)
      · rw [if_pos hc, if_neg]
        · exact ⟨q2, q3, q4⟩
        · rw [si_cmp_le, Decidable.not_not, Int64.lt_iff_toInt_lt]
          rw [Int32.lt_iff_toInt_lt] at hc
          omega
      · rw [if_neg hc, if_pos]
        · exact ⟨h1, h2, h3⟩
        · rw [si_cmp_le, Int64.lt_iff_toInt_lt]
          rw [Int32.lt_iff_toInt_lt] at hc
          omega
    obtain ⟨c, c', X', Y', u1, u2, u3⟩ := ih (i + 1) f g _ _ _ _ (by omega) (by omega) (by omega) g2.1 g2.2.1 g2.2.2 hN (by omega) ha (fun d e1 e2 => by
      rw [pf_up_j _ _ _ _ _ _ (by omega)]
      exact hoff d (by omega) e2)
    refine ⟨c, c', X', Y', u1, Eq.trans ?_ u2, u3⟩
    rw [q6]
    unfold jX12_steer_90 jX12_steer_107 jX12_steer_124 jX12_steer_151
    simp only [si_pin2 (show i < 8 by omega) (by decide), if_true, si_cl (show i < 2 ^ 31 by omega), nI_1]
    rw [← q5, ← q1]
    repeat' split
    all_goals rfl
theorem sc_steer (h : sRR X Y k) (hk : k ≤ 512) (x : Int32) : sim k (fX11_steer x X) (fX12_steer x Y) := by
  obtain ⟨n, t, h⟩ := h
  obtain ⟨ht, hT, hR, hW, hC, hD, hS, hO, hL, hr⟩ := id h
  obtain ⟨hn, ⟨hX, hY⟩, -, -, hx, hy⟩ := id hR
  have hq := qA_le (Y 50 0) n 0
  unfold fX11_steer fX12_steer fX1_correct
  simp only [si_1_99, si_wi, si_z, sx_A hn.2 hX, sy_A hn.2 hY, ss_A hR hC, Option.bind_some]
  by_cases hc : (1 : Int32) ≤ x ∧ x ≤ 99
  · simp only [if_neg (not_not_intro hc)]
    by_cases ha : 2 ≤ qA (Y 50 0) n 0
    · have ha2 : (2 : Int32) ≤ nI (qA (Y 50 0) n 0) := (nI_leI (a := 2) (by omega) (by omega)).mpr ha
      obtain ⟨T, T1, T2, w1, w2⟩ := ss_onA hR hW hC (by omega) (show 0 < qA (Y 50 0) n 0 by omega)
      obtain ⟨r, r', v1, v2, v3⟩ := ss_sys hD hn.2 hO (by omega) (show 0 < n by omega) (T := T) (by omega)
      have w1' : fX9_timeOnA 0 X = some (nI T) := w1
      have w2' : fX12_whenBy 0 Y = some (nI T) := w2
      have v1' : fX3_systemClock ((0 : Int32).toNatClampNeg) (nI T) X = some r := v1
      have v2' : fX12_systemAt 0 (nI T) Y = some r' := v2
      obtain ⟨c, c', X', Y', u1, u2, u3, u4, u5, u6⟩ := ss_steerL hc v3 hk (fun u13_e43_4 u13_Me43 => ((fX9_trip u13_Me43).bind fun r14 => some (u13_e43_4, (fX9_passTime r14 u13_Me43)))) (fun u15_e44_5 u15_Me44 => ((fX12_trip u15_Me44).bind fun r16 => some (u15_e44_5.toInt32, (pf_up u15_Me44 40 0 22 ((u15_Me44 40 0 22) + r16))))) (qA (Y 50 0) n 0 - 1) 1 pf_fu pf_fu X Y 0 0 (by omega) (by unfold pf_fu; omega) (by unfold pf_fu; omega) rfl (by decide) (by decide) h.next ht rfl (fun d _ e2 => (hO d e2).2)
      have u1' : lX1_correct_43 x (nI (qA (Y 50 0) n 0)) r (fun u13_e43_4 u13_Me43 => ((fX9_trip u13_Me43).bind fun r14 => some (u13_e43_4, (fX9_passTime r14 u13_Me43)))) pf_fu 0 1 X = _ := u1
      have u2' : lX12_steer_44 x (nI (qA (Y 50 0) n 0)) r' (fun u15_e44_5 u15_Me44 => ((fX12_trip u15_Me44).bind fun r16 => some (u15_e44_5.toInt32, (pf_up u15_Me44 40 0 22 ((u15_Me44 40 0 22) + r16))))) pf_fu 0 1 Y = _ := u2
      simp only [if_pos ha2, w1', w2', v1', v2', Option.bind_some]
      rw [u1', u2']
      obtain ⟨ht', hT', hR', hW', hC', hD', hS', hO', hr'⟩ := id u6
      obtain ⟨hn', ⟨hX', hY'⟩, r3, r4, hx', hy'⟩ := id hR'
      obtain ⟨Z, hZ, z1, z2⟩ := ss_trip hR' hW' hC'
      simp only [z1, z2, Option.bind_some]
      have g1 : X' 7 0 6 + nI Z = nI (t + Z) := by rw [hx', nI_add]
      have g2 : Y' 40 0 22 + nI Z = nI (t + Z) := by rw [hy', nI_add]
      exact sim_mk rfl rfl (si_t32 u3 rfl).symm ⟨n, t + Z, by omega, hT', ⟨hn', ⟨hX', hY'⟩, r3, r4, g1, g2⟩, hW', hC', hD', hS', hO', hr'⟩
    · have ha2 : ¬ (2 : Int32) ≤ nI (qA (Y 50 0) n 0) := fun w => ha ((nI_leI (a := 2) (by omega) (by omega)).mp w)
      simp only [if_neg ha2, Option.bind_some]
      exact sim_same h (-2) rfl rfl
  · simp only [if_pos hc]
    exact sim_same h (-1) rfl rfl
end
