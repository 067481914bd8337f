section
variable {n t k : Nat}
theorem ss_gap {X Y : pf_M} (hD : sD X Y n) (hn : n ≤ 8) {j T1 T2 : Nat} (hj : j < n) (ht : t ≤ 6000000) (h1 : t ≤ T1 ∧ T1 ≤ t + 1200) (h2 : t ≤ T2 ∧ T2 ≤ t + 1200) (a1 : X 18 0 j = nI T1) (a2 : X 19 0 j = nI T2) (b1 : Y 76 0 j = nI T1) (b2 : Y 77 0 j = nI T2) :
    ∃ (z : Int32) (z' : Int64), fX1_gap (nI j) X = some z ∧ fX12_gone (nI j) Y = some z' ∧ z.toInt = z'.toInt ∧ -1400 ≤ z.toInt ∧ z.toInt ≤ 1400 := by
  obtain ⟨-, -, hr, hr1, hr2⟩ := hD j hj
  obtain ⟨c, c1, c2⟩ := sx_own hD hj (T := T1) (by omega)
  obtain ⟨d, d1, d2⟩ := sx_own hD hj (T := T2) (by omega)
  obtain ⟨e, e1, e2⟩ := sy_own hD hn hj (T := T1) (by omega)
  obtain ⟨g, g1, g2⟩ := sy_own hD hn hj (T := T2) (by omega)
  have q1 := hD.b hj (T := T1) (by omega)
  have q2 := hD.b hj (T := T2) (by omega)
  have q3 := qO_d (st := Y 48 0 j) ⟨hr1, hr2⟩ h1 h2
  unfold fX1_gap fX12_gone
  rw [si_pin2 (by omega) (by decide), si_cl (by omega), a1, a2, b1, b2]
  simp only [if_true, c1, d1, e1, g1, Option.bind_some]
  refine ⟨_, _, rfl, rfl, ?_⟩
  rw [si_sub (by omega) (by omega), si_sub64 (by omega) (by omega)]
  omega
theorem ss_half {p u g1 g2 : Int32} {G1 G2 : Int64} (hp : 0 ≤ p ∧ p ≤ 9) (hu : 0 ≤ u ∧ u ≤ 9) (h1 : g1.toInt = G1.toInt) (h2 : g2.toInt = G2.toInt) (b1 : -1400 ≤ g1.toInt ∧ g1.toInt ≤ 1400) (b2 : -1400 ≤ g2.toInt ∧ g2.toInt ≤ 1400) :
    fJ9_max_7cf53 0 (((g1 - g2) - p) - u) / 2 = (if 0 ≤ lg_cmp (((G1 - G2) - p.toInt64) - u.toInt64) 0 then ((((G1 - G2) - p.toInt64) - u.toInt64) / 2).toInt32 else 0) ∧ 0 ≤ (fJ9_max_7cf53 0 (((g1 - g2) - p) - u) / 2).toInt ∧ (fJ9_max_7cf53 0 (((g1 - g2) - p) - u) / 2).toInt ≤ 1400 := by
  rw [Int32.le_iff_toInt_le, Int32.le_iff_toInt_le] at hp hu
  have a0 : ((0 : Int32)).toInt = 0 := rfl
  have a2 : ((2 : Int32)).toInt = 2 := rfl
  have a9 : ((9 : Int32)).toInt = 9 := rfl
  have b0 : ((0 : Int64)).toInt = 0 := rfl
  have c2 : ((2 : Int64)).toInt = 2 := rfl
  rw [a0, a9] at hp hu
  have e1 : (g1 - g2).toInt = g1.toInt - g2.toInt := si_sub (by omega) (by omega)
  have e2 : (g1 - g2 - p).toInt = g1.toInt - g2.toInt - p.toInt := by rw [si_sub (by omega) (by omega), e1]
  have e3 : (g1 - g2 - p - u).toInt = g1.toInt - g2.toInt - p.toInt - u.toInt := by rw [si_sub (by omega) (by omega), e2]
  have f1 : (G1 - G2).toInt = g1.toInt - g2.toInt := by rw [si_sub64 (by omega) (by omega), h1, h2]
  have f2 : (G1 - G2 - p.toInt64).toInt = g1.toInt - g2.toInt - p.toInt := by rw [si_sub64 (by rw [si_64]; omega) (by rw [si_64]; omega), f1, si_64]
  have f3 : (G1 - G2 - p.toInt64 - u.toInt64).toInt = g1.toInt - g2.toInt - p.toInt - u.toInt := by rw [si_sub64 (by rw [si_64]; omega) (by rw [si_64]; omega), f2, si_64]
  have hc : (0 ≤ lg_cmp (((G1 - G2) - p.toInt64) - u.toInt64) 0) ↔ 0 ≤ g1.toInt - g2.toInt - p.toInt - u.toInt := by rw [si_cmp_ge, Int64.lt_iff_toInt_lt, b0, f3]; omega
  unfold fJ9_max_7cf53
  by_cases h0 : 0 < g1.toInt - g2.toInt - p.toInt - u.toInt
  · rw [if_pos (show (0 : Int32) < g1 - g2 - p - u by rw [Int32.lt_iff_toInt_lt, e3, a0]; exact h0), if_pos (hc.mpr (by omega))]
    have d1 : ((g1 - g2 - p - u) / 2).toInt = (g1.toInt - g2.toInt - p.toInt - u.toInt).tdiv 2 := by rw [si_div (by omega) (by omega), e3, a2]
    have d2 : ((G1 - G2 - p.toInt64 - u.toInt64) / 2).toInt = (g1.toInt - g2.toInt - p.toInt - u.toInt).tdiv 2 := by rw [si_div64 (by omega) (by omega), f3, c2]
    refine ⟨(si_t32 d1 d2).symm, ?_, ?_⟩
    · rw [d1, Int.tdiv_eq_ediv_of_nonneg (by omega)]; omega
    · rw [d1, Int.tdiv_eq_ediv_of_nonneg (by omega)]; omega
  · rw [if_neg (show ¬ (0 : Int32) < g1 - g2 - p - u by rw [Int32.lt_iff_toInt_lt, e3, a0]; exact h0)]
    have z0 : (0 : Int32) / 2 = 0 := rfl
    rw [z0]
    by_cases h3 : 0 ≤ g1.toInt - g2.toInt - p.toInt - u.toInt
    · rw [if_pos (hc.mpr h3)]
      have d2 : ((G1 - G2 - p.toInt64 - u.toInt64) / 2).toInt = 0 := by
        rw [si_div64 (by omega) (by omega), f3, c2, show g1.toInt - g2.toInt - p.toInt - u.toInt = 0 by omega]
        rfl
      exact ⟨(si_t32 a0 d2).symm, by decide, by decide⟩
    · rw [if_neg (fun w => h3 (hc.mp w))]
      exact ⟨rfl, by decide, by decide⟩
theorem ss_l3 {G H P Q : Nat → Int32} {l : Nat} (hln : l + 1 ≤ n) (ht6 : t ≤ 6000000) (hg : sTm t 0 (l + 1) G H 1000) (hp : sTm t 0 (l + 1) P Q (1000 + 18 * (l + 1))) : ∀ (m i f g : Nat) (X Y : pf_M), i + m = l + 1 → 1 ≤ i → m < f → m < g → sN X Y n t k → X 18 0 = G → X 19 0 = P → Y 76 0 = H → Y 77 0 = Q → (Y 54 0 (i - 1)).toInt ≤ 1500 * i →
    ∃ X' Y', lX1_setDelays_15 (nI l) f (nI i) X = some X' ∧ (∀ ky, lX12_level_121 (nI (l + 1)) ky g (nI i) Y = ky Y') ∧ sN X' Y' n t k ∧ X' 18 0 = G ∧ X' 19 0 = P ∧ Y' 76 0 = H ∧ Y' 77 0 = Q := by
  intro m
  induction m with
  | zero =>
    intro i f g X Y hi hi1 hf hg2 h g1 g2 g3 g4 hb
    obtain ⟨f, rfl⟩ : ∃ g, f = g + 1 := ⟨f - 1, by omega⟩
    obtain ⟨g, rfl⟩ : ∃ f, g = f + 1 := ⟨g - 1, by omega⟩
    obtain rfl : i = l + 1 := by omega
    obtain ⟨-, -, ⟨hn, -⟩, -⟩ := id h
    refine ⟨X, Y, ?_, fun ky => ?_, h, g1, g2, g3, g4⟩
    · rw [lX1_setDelays_15, if_pos ((nI_ltI (by omega) (by omega)).mpr (by omega))]
    · rw [lX12_level_121, if_pos ((nI_leI (by omega) (by omega)).mpr (by omega))]
  | succ m ih =>
    intro i f g X Y hi hi1 hf hg2 h g1 g2 g3 g4 hb
    obtain ⟨f, rfl⟩ : ∃ g, f = g + 1 := ⟨f - 1, by omega⟩
    obtain ⟨g, rfl⟩ : ∃ f, g = f + 1 := ⟨g - 1, by omega⟩
    obtain ⟨i, rfl⟩ : ∃ j, i = j + 1 := ⟨i - 1, by omega⟩
    obtain ⟨ht, hT, hR, hW, hC, hD, hS, hO, hL, hr⟩ := id h
    obtain ⟨hn, ⟨hX, hY⟩, ⟨p1, p2⟩, ⟨f1, f2⟩, hx, hy⟩ := id hR
    obtain ⟨T1, t1, t2, t3, t4⟩ := hg i (by omega) (by omega)
    obtain ⟨T2, s1, s2, s3, s4⟩ := hg (i + 1) (by omega) (by omega)
    obtain ⟨U1, u1, u2, u3, u4⟩ := hp i (by omega) (by omega)
    obtain ⟨U2, v1, v2, v3, v4⟩ := hp (i + 1) (by omega) (by omega)
    obtain ⟨z1, y1, c1, c2, c3, c4, c5⟩ := ss_gap hD hn.2 (j := i) (T1 := T1) (T2 := U1) (by omega) ht6 ⟨t1, by omega⟩ ⟨u1, by omega⟩ (by rw [g1]; exact t3) (by rw [g2]; exact u3) (by rw [g3]; exact t4) (by rw [g4]; exact u4)
    obtain ⟨z2, y2, e1, e2, e3, e4, e5⟩ := ss_gap hD hn.2 (j := i + 1) (T1 := T2) (T2 := U2) (by omega) ht6 ⟨s1, by omega⟩ ⟨v1, by omega⟩ (by rw [g1]; exact s3) (by rw [g2]; exact v3) (by rw [g3]; exact s4) (by rw [g4]; exact v4)
    have hi0 : i + 1 - 1 = i := rfl
    rw [hi0] at hb
    have etb : fX1_turnBefore (nI (i + 1)) (nI l) X = if i + 1 = l then 0 else Y 40 0 16 := by
      unfold fX1_turnBefore fX9_turn
      rw [f1]
      by_cases h1 : i + 1 = l
      · subst h1
        rw [if_pos rfl, if_pos rfl]
      · rw [if_neg (fun q => h1 ((nI_eq (by omega) (by omega)).mp q)), if_neg h1]
    have hub : 0 ≤ (if i + 1 = l then (0 : Int32) else Y 40 0 16) ∧ (if i + 1 = l then (0 : Int32) else Y 40 0 16) ≤ 9 := by
      split
      · exact ⟨by decide, by decide⟩
      · exact f2
    obtain ⟨q1, q2, q3⟩ := ss_half p2 hub c3 e3 ⟨c4, c5⟩ ⟨e4, e5⟩
    obtain ⟨l1, l2, l3⟩ := hL i (by omega)
    have p3 := p2
    rw [Int32.le_iff_toInt_le, Int32.le_iff_toInt_le] at p3
    rw [Int32.le_iff_toInt_le] at l2 l3
    have a0 : ((0 : Int32)).toInt = 0 := rfl
    have a9 : ((9 : Int32)).toInt = 9 := rfl
    have a6 : ((100000 : Int32)).toInt = 100000 := rfl
    rw [a0, a9] at p3
    rw [a0] at l2
    rw [a6] at l3
    have w1 : (Y 40 0 15 + fJ9_max_7cf53 0 (((z1 - z2) - Y 40 0 15) - (if i + 1 = l then (0 : Int32) else Y 40 0 16)) / 2).toInt = (Y 40 0 15).toInt + (fJ9_max_7cf53 0 (((z1 - z2) - Y 40 0 15) - (if i + 1 = l then (0 : Int32) else Y 40 0 16)) / 2).toInt := si_add (by omega) (by omega)
    have w2 : (Y 54 0 i + (Y 40 0 15 + fJ9_max_7cf53 0 (((z1 - z2) - Y 40 0 15) - (if i + 1 = l then (0 : Int32) else Y 40 0 16)) / 2)).toInt = (Y 54 0 i).toInt + (Y 40 0 15 + fJ9_max_7cf53 0 (((z1 - z2) - Y 40 0 15) - (if i + 1 = l then (0 : Int32) else Y 40 0 16)) / 2).toInt := si_add (by omega) (by omega)
    have hN := h.del (d := i + 1) (v := Y 54 0 i + (Y 40 0 15 + fJ9_max_7cf53 0 (((z1 - z2) - Y 40 0 15) - (if i + 1 = l then (0 : Int32) else Y 40 0 16)) / 2)) (by
      rw [Int32.le_iff_toInt_le, Int32.le_iff_toInt_le, a0, a6]
      omega)
    obtain ⟨X', Y', x1, x2, x3⟩ := ih (i + 1 + 1) f g _ _ (by omega) (by omega) (by omega) (by omega) hN g1 g2 g3 g4 (by
      show (pf_up Y 54 0 (i + 1) _ 54 0 (i + 1)).toInt ≤ _
      rw [pf_up_s]
      omega)
    refine ⟨X', Y', ?_, fun ky => ?_, x3⟩
    · have eps : fX9_pass X = Y 40 0 15 := p1
      rw [lX1_setDelays_15, if_neg (fun w => by have := (nI_ltI (by omega) (by omega)).mp w; omega), nI_pred, c1, e1]
      simp only [Option.bind_some, si_pin2 (show i < 8 by omega) (by decide), si_pin2 (show i + 1 < 8 by omega) (by decide), if_true, si_cl (show i < 2 ^ 31 by omega), si_cl (show i + 1 < 2 ^ 31 by omega), l1, etb, eps, nI_1]
      exact x1
    · rw [lX12_level_121, if_neg (fun w => by have := (nI_leI (by omega) (by omega)).mp w; omega), nI_pred, nI_pred, c2, e2]
      simp only [Option.bind_some]
      refine Eq.trans ?_ (x2 ky)
      have hm : ∀ (A : Int32 → Option (Int32 × pf_M)), (if nI (i + 1) = nI l then A 0 else A (Y 40 0 16)) = A (if i + 1 = l then 0 else Y 40 0 16) := by
        intro A
        by_cases h1 : i + 1 = l
        · rw [if_pos (congrArg nI h1), if_pos h1]
        · rw [if_neg (fun q => h1 ((nI_eq (by omega) (by omega)).mp q)), if_neg h1]
      refine (hm (fun s => jX12_level_160 (lX12_level_121 (nI (l + 1)) ky g) (nI (i + 1)) ((y1 - y2) - ((Y 40 0 15).toInt64)) s Y)).trans ?_
      show jX12_level_160 _ _ _ _ _ = _
      unfold jX12_level_160 jX12_level_197
      rw [nI_pred]
      simp only [si_pin2 (show i < 8 by omega) (by decide), si_pin2 (show i + 1 < 8 by omega) (by decide), if_true, si_cl (show i < 2 ^ 31 by omega), si_cl (show i + 1 < 2 ^ 31 by omega), nI_1]
      rw [q1]
      generalize (if i + 1 = l then (0 : Int32) else Y 40 0 16) = s0
      by_cases hc : 0 ≤ lg_cmp (y1 - y2 - (Y 40 0 15).toInt64 - s0.toInt64) 0
      · rw [if_pos hc, if_pos hc, Int32.add_assoc]
      · rw [if_neg hc, if_neg hc, Int32.add_assoc]
theorem ss_l4 {G H P Q : Nat → Int32} {r : Int32} {r' : Int64} {l : Nat} (hln : l + 1 ≤ n) (hk : k ≤ 512) (ht5 : t ≤ 10000 * k) (hg : sTm t 0 (l + 1) G H 1000) (hr : r.toInt = r'.toInt) (hr2 : (t : Int) - 213000 ≤ r.toInt ∧ r.toInt ≤ (t : Int) + 215000) : ∀ (m i f g : Nat) (X Y : pf_M), i + m = l + 1 → m < f → m < g → sN X Y n t k → X 18 0 = G → X 19 0 = P → Y 76 0 = H → Y 77 0 = Q →
    ∃ X' Y', lX1_setOffsets_21 (nI l) r f (nI i) X = some X' ∧ (∀ ky, lX12_level_220 (nI (l + 1)) r' ky g (nI i) Y = ky Y') ∧ sN X' Y' n t k ∧ X' 19 0 = P ∧ Y' 77 0 = Q := by
  intro m
  induction m with
  | zero =>
    intro i f g X Y hi hf hg2 h g1 g2 g3 g4
    obtain ⟨f, rfl⟩ : ∃ g, f = g + 1 := ⟨f - 1, by omega⟩
    obtain ⟨g, rfl⟩ : ∃ f, g = f + 1 := ⟨g - 1, by omega⟩
    obtain rfl : i = l + 1 := by omega
    obtain ⟨-, -, ⟨hn, -⟩, -⟩ := id h
    refine ⟨X, Y, ?_, fun ky => ?_, h, g2, g4⟩
    · rw [lX1_setOffsets_21, if_pos ((nI_ltI (by omega) (by omega)).mpr (by omega))]
    · rw [lX12_level_220, if_pos ((nI_leI (by omega) (by omega)).mpr (by omega))]
  | succ m ih =>
    intro i f g X Y hi hf hg2 h g1 g2 g3 g4
    obtain ⟨f, rfl⟩ : ∃ g, f = g + 1 := ⟨f - 1, by omega⟩
    obtain ⟨g, rfl⟩ : ∃ f, g = f + 1 := ⟨g - 1, by omega⟩
    obtain ⟨ht, hT, hR, hW, hC, hD, hS, hO, hL, hr0⟩ := id h
    obtain ⟨hn, ⟨hX, hY⟩, -⟩ := id hR
    obtain ⟨T, t1, t2, t3, t4⟩ := hg i (by omega) (by omega)
    obtain ⟨c, c1, c2⟩ := sx_own hD (show i < n by omega) (T := T) (by omega)
    obtain ⟨e, e1, e2⟩ := sy_own hD hn.2 (show i < n by omega) (T := T) (by omega)
    obtain ⟨-, ⟨-, hs1, hs2⟩, -, hr1, hr3⟩ := hD i (by omega)
    have hq := qO_e (st := Y 48 0 i) (r := Y 49 0 i) (T := T) ⟨hs1, hs2⟩ ⟨hr1, hr3⟩ (by omega)
    obtain ⟨l1, l2, l3⟩ := hL i (by omega)
    rw [Int32.le_iff_toInt_le] at l2 l3
    have a0 : ((0 : Int32)).toInt = 0 := rfl
    have a6 : ((100000 : Int32)).toInt = 100000 := rfl
    rw [a0] at l2
    rw [a6] at l3
    have w1 : (r + Y 54 0 i).toInt = r.toInt + (Y 54 0 i).toInt := si_add (by omega) (by omega)
    have w2 : (r + Y 54 0 i - c).toInt = r.toInt + (Y 54 0 i).toInt - c.toInt := by rw [si_sub (by omega) (by omega), w1]
    have w3 : (r' + (Y 54 0 i).toInt64).toInt = r.toInt + (Y 54 0 i).toInt := by rw [si_add64 (by rw [si_64]; omega) (by rw [si_64]; omega), si_64, hr]
    have w4 : (r' + (Y 54 0 i).toInt64 - e).toInt = r.toInt + (Y 54 0 i).toInt - c.toInt := by rw [si_sub64 (by omega) (by omega), w3, c2, e2]
    have hN := h.off (d := i) (v := r + Y 54 0 i - c) (by omega)
    obtain ⟨X', Y', x1, x2, x3⟩ := ih (i + 1) f g _ _ (by omega) (by omega) (by omega) hN g1 g2 g3 g4
    refine ⟨X', Y', ?_, fun ky => ?_, x3⟩
    · rw [lX1_setOffsets_21, if_neg (fun w => by have := (nI_ltI (by omega) (by omega)).mp w; omega), si_pin2 (by omega) (by decide), if_pos rfl, if_pos rfl, si_cl (by omega), g1, t3, c1, Option.bind_some, l1, nI_1]
      exact x1
    · rw [lX12_level_220, if_neg (fun w => by have := (nI_leI (by omega) (by omega)).mp w; omega), si_pin2 (by omega) (by decide), if_pos rfl, if_pos rfl, si_cl (by omega), g3, t4, e1, Option.bind_some, if_pos rfl, si_t32 w2 w4, nI_1]
      exact x2 ky
theorem sc_level {X Y : pf_M} (h : sRR X Y k) (hk : k ≤ 512) : sim k (fX11_level X) (fX12_level Y) := by
  obtain ⟨n, t, h⟩ := h
  obtain ⟨ht, hT, hR, hW, hC, hD, hS, hO, hL, hr⟩ := id h
  obtain ⟨hn, ⟨hX, hY⟩, ⟨p1, p2⟩, ⟨f1, f2⟩, hx, hy⟩ := id hR
  have hq := qA_le (Y 50 0) n 0
  unfold fX11_level fX12_level fX1_synchronize
  simp only [sx_A hn.2 hX, sy_A hn.2 hY, ss_A hR hC, Option.bind_some]
  by_cases ha : qA (Y 50 0) n 0 = 0
  · rw [ha, if_neg (show ¬ (0 : Int32) ≤ nI 0 - 1 by decide), if_pos nI_0]
    exact sim_same h (-2) rfl rfl
  · obtain ⟨l, hl⟩ : ∃ l, l + 1 = qA (Y 50 0) n 0 := ⟨qA (Y 50 0) n 0 - 1, by omega⟩
    rw [← hl, nI_pred, if_pos (Int32.not_lt.mp (nI_pos (by omega))), if_neg (nI_ne0 (by omega) (by omega))]
    obtain ⟨G, H, u1, u2, u3⟩ := ss_l1 h (by omega) hl (l + 1) 0 pf_fu pf_fu (X 18 0) (Y 76 0) (by omega) (by unfold pf_fu; omega) (by unfold pf_fu; omega) (fun j _ hj => by omega)
    rw [pf_upf_id] at u1 u2
    obtain ⟨P, Q, v1, v2, v3⟩ := ss_l2 h (by omega) (show l + 1 ≤ n by omega) u3 (l + 1) pf_fu pf_fu (X 19 0) (Y 77 0) (by omega) (by unfold pf_fu; omega) (by unfold pf_fu; omega) (fun j _ hj => by omega)
    have b1 : pf_upf (pf_upf X 18 0 G) 19 0 (X 19 0) = pf_upf X 18 0 G := pf_upf_id (pf_upf X 18 0 G) 19 0
    have b2 : pf_upf (pf_upf Y 76 0 H) 77 0 (Y 77 0) = pf_upf Y 76 0 H := pf_upf_id (pf_upf Y 76 0 H) 77 0
    rw [b1, nI_m1] at v1
    rw [b2, nI_m1] at v2
    have hN : sN (pf_upf (pf_upf X 18 0 G) 19 0 P) (pf_upf (pf_upf Y 76 0 H) 77 0 Q) n t k := h
    obtain ⟨X3, Y3, w1, w2, w3, w4, w5, w6, w7⟩ := ss_l3 (show l + 1 ≤ n by omega) (by omega) u3 v3 l 1 pf_fu pf_fu _ _ (by omega) (by omega) (by unfold pf_fu; omega) (by unfold pf_fu; omega) (hN.del (d := 0) (v := 0) ⟨by decide, by decide⟩) rfl rfl rfl rfl (by
      show (pf_up _ 54 0 0 0 54 0 0).toInt ≤ _
      rw [pf_up_s]
      exact (by decide : (0 : Int) ≤ 1500 * 1))
    obtain ⟨ht3, hT3, hR3, hW3, hC3, hD3, hS3, hO3, hL3, hr3⟩ := id w3
    obtain ⟨T, t1, t2, t3, t4⟩ := u3 0 (by omega) (by omega)
    obtain ⟨c, c1, c2⟩ := sx_own hD3 (show 0 < n by omega) (T := T) (by omega)
    obtain ⟨e, e1, e2⟩ := sy_own hD3 hn.2 (show 0 < n by omega) (T := T) (by omega)
    obtain ⟨-, ⟨-, hs1, hs2⟩, -, hr1, hr2⟩ := hD3 0 (by omega)
    have hqe := qO_e (st := Y3 48 0 0) (r := Y3 49 0 0) (T := T) ⟨hs1, hs2⟩ ⟨hr1, hr2⟩ (by omega)
    obtain ⟨X4, Y4, x1, x2, x3, x4, x5⟩ := ss_l4 (r := c) (r' := e) (show l + 1 ≤ n by omega) hk ht u3 (c2.trans e2.symm) (by omega) (l + 1) 0 pf_fu pf_fu X3 Y3 (by omega) (by unfold pf_fu; omega) (by unfold pf_fu; omega) w3 w4 w5 w6 w7
    obtain ⟨ht4, hT4, hR4, hW4, hC4, hD4, hS4, hO4, hL4, hr4⟩ := id x3
    obtain ⟨hn4, ⟨hX4, hY4⟩, ⟨p41, p42⟩, ⟨f41, f42⟩, hx4, hy4⟩ := id hR4
    obtain ⟨U, s1, s2, s3, s4⟩ := v3 0 (by omega) (by omega)
    obtain ⟨ww, hw, we⟩ := si_nat (b := 9) ⟨by have := (hW4 0 (by omega)).2.1; grind, (hW4 0 (by omega)).2.2⟩ (by decide)
    obtain ⟨u, hu, ue⟩ := si_nat (b := 9) f42 (by decide)
    have k0 : (0 : Int32).toNatClampNeg = 0 := rfl
    have z1 : ∀ kx, lX1_setTimes_2 (nI l) kx pf_fu 0 X = kx (pf_upf X 18 0 G) := u1
    have z2 : ∀ ky, lX12_level_14 (nI (l + 1)) ky pf_fu 0 Y = ky (pf_upf Y 76 0 H) := u2
    have z3 : lX1_setDelays_15 (nI l) pf_fu 1 (pf_up (pf_upf (pf_upf X 18 0 G) 19 0 P) 11 0 9 0) = some X3 := w1
    have z4 : ∀ ky, lX12_level_121 (nI (l + 1)) ky pf_fu 1 (pf_up (pf_upf (pf_upf Y 76 0 H) 77 0 Q) 54 0 0 0) = ky Y3 := w2
    have z5 : lX1_setOffsets_21 (nI l) c pf_fu 0 X3 = some X4 := x1
    have z6 : ∀ ky, lX12_level_220 (nI (l + 1)) e ky pf_fu 0 Y3 = ky Y4 := x2
    have z7 : fX3_ownClock 0 (nI T) X3 = some c := c1
    have z8 : fX12_ownAt 0 (nI T) Y3 = some e := e1
    have z9 : fX9_wireTime 0 X4 = some (nI ww) := (sx_wt (w := 0) hn.2 hX4 (by omega)).trans (congrArg some ((hW4 0 (by omega)).1.trans we))
    have g3 : X3 18 0 0 = nI T := by rw [w4]; exact t3
    have g6 : Y3 76 0 0 = nI T := by rw [w6]; exact t4
    have g9 : X4 19 0 0 = nI U := by rw [x4]; exact s3
    have g7 : Y4 77 0 0 = nI U := by rw [x5]; exact s4
    have etb : fX1_turnBefore 0 (nI l) X4 = nI (if l = 0 then 0 else u) := by
      unfold fX1_turnBefore fX9_turn
      rw [f41, ue]
      by_cases h1 : l = 0
      · subst h1
        rfl
      · exact (if_neg (fun q => h1 ((nI_eq (a := 0) (by omega) (by omega)).mp q).symm)).trans (by rw [if_neg h1])
    have hub : (if l = 0 then 0 else u) ≤ 9 := by split <;> omega
    unfold fX1_setTimes fX1_setDelays fX1_setOffsets
    simp only [z1, z2, v1, v2, k0, Option.bind_some, z3, z4, g3, g6, z5, z6, z7, z8, z9, g9, g7, etb]
    unfold jX12_level_284 fX9_passTime fX9_time
    simp only [nI_pred, si_pin2 (show l < 8 by omega) (by decide), if_true, si_cl (show l < 2 ^ 31 by omega), k0, we, ue, nI_add, hx4]
    have hm : ∀ (A : Int32 → Option (Int32 × pf_M)), (if nI (l + 1) = 1 then A 0 else A (nI u)) = A (nI (if l = 0 then 0 else u)) := by
      intro A
      by_cases h1 : l = 0
      · subst h1; rfl
      · rw [if_neg (fun q => h1 (by have := (nI_eq (b := 1) (by omega) (by omega)).mp q; omega)), if_neg h1]
    have hm2 := hm (fun s => some (pf_up Y4 40 0 22 (nI U + s + nI ww) 54 0 l, pf_up Y4 40 0 22 (nI U + s + nI ww)))
    have q1 : nI t + (nI (U + ww + (if l = 0 then 0 else u)) - nI t) = nI (U + ww + (if l = 0 then 0 else u)) := by rw [nI_subI (by omega), nI_add]; congr 1; omega
    have q2 : nI U + nI (if l = 0 then 0 else u) + nI ww = nI (U + ww + (if l = 0 then 0 else u)) := by rw [nI_add, nI_add]; congr 1; omega
    simp only [nI_add] at hm2
    rw [q1]
    refine sim_mk (r' := Y4 54 0 l) (Y' := pf_up Y4 40 0 22 (nI (U + ww + (if l = 0 then 0 else u)))) rfl ?_ ?_ ⟨n, U + ww + (if l = 0 then 0 else u), by omega, hT4, ⟨hn4, ⟨hX4, hY4⟩, ⟨p41, p42⟩, ⟨f41, f42⟩, rfl, rfl⟩, hW4, hC4, hD4, hS4, hO4.mono (by omega), hL4, hr4⟩
    · rw [show U + ww + (if l = 0 then 0 else u) = U + (if l = 0 then 0 else u) + ww by omega]
      refine Eq.trans ?_ hm2
      first | rfl | (congr 1)
    · exact (hL4 l (by omega)).1
end
