section
variable {X Y : pf_M} {n t k : Nat}
theorem si_dg (X : pf_M) (x : Int32) : (fX6_find x X = some none ∧ ¬ ((0 : Int32) ≤ x ∧ x ≤ 3)) ∨ ∃ i : Nat, i < 4 ∧ x = nI i ∧ fX6_find x X = some (some i) ∧ ((0 : Int32) ≤ x ∧ x ≤ 3) := by
  unfold fX6_find jX6_find_18
  by_cases h0 : x < 0
  · rw [if_pos h0]
    exact Or.inl ⟨rfl, fun q => absurd h0 (Int32.not_lt.mpr q.1)⟩
  · rw [if_neg h0]
    by_cases h1 : (4 : Int32) ≤ x
    · rw [if_pos h1]
      exact Or.inl ⟨rfl, fun q => by have := q.2; grind⟩
    · rw [if_neg h1]
      have h3 : x ≤ 3 := by grind
      obtain ⟨i, hi, rfl⟩ := nI_of2 (M := 3) (n := 3) (by decide) h0 h3
      rw [si_pin2 (by omega) (by decide), if_pos rfl, si_cl (by omega)]
      exact Or.inr ⟨i, by omega, rfl, rfl, Int32.not_lt.mp h0, h3⟩
def VG (c a o z : Int32) : Prop := (1 ≤ z ∧ z ≤ 8) ∧ ((10 ≤ c ∧ c ≤ 12 ∧ o = 0 ∧ 0 ≤ a ∧ a ≤ 32 - z) ∨ (1 ≤ c ∧ c ≤ 9 ∧ 0 ≤ o ∧ o ≤ 15 ∧ ((c ≤ 3 ∧ 0 ≤ a ∧ a ≤ 7) ∨ (4 ≤ c ∧ c ≤ 6 ∧ 1 ≤ a ∧ a ≤ 99) ∨ (7 ≤ c ∧ a = 0))))
theorem sy_G (c a o z : Int32) : (fX12_isGram c a o z = 1 ∧ VG c a o z) ∨ (fX12_isGram c a o z = 0 ∧ ¬ VG c a o z) := by
  unfold fX12_isGram VG
  simp only [si_1_8, si_10_12, si_1_9, si_0_15, si_1_99, si_0_7, si_0b, si_z]
  repeat' split
  all_goals grind
theorem sx_G (c a o z : Int32) {α : Type} (A B : α) : (if ¬ (1 ≤ c ∧ c ≤ 12) then B else if ¬ (1 ≤ z ∧ z ≤ 8) then B else if fX11_isAddress c a z = 0 then B else if (10 : Int32) ≤ c then (if ¬ (0 ≤ o ∧ o ≤ 0) then B else A) else (if ¬ (0 ≤ o ∧ o ≤ 15) then B else A)) = if fX12_isGram c a o z = 0 then B else A := by
  rcases sy_G c a o z with ⟨h1, h2⟩ | ⟨h1, h2⟩
  · simp only [h1, si_10, if_false]
    unfold fX11_isAddress jX11_isAddress_43
    simp only [si_wi]
    unfold VG at h2
    repeat' split
    all_goals first | rfl | (exfalso; grind)
  · simp only [h1, if_true]
    unfold fX11_isAddress jX11_isAddress_43
    simp only [si_wi]
    unfold VG at h2
    repeat' split
    all_goals first | rfl | (exfalso; grind)
theorem sc_gram (h : sRR X Y k) (x c a o z : Int32) : sim k (fX11_gram x c a o z X) (fX12_gram x c a o z Y) := by
  obtain ⟨n, t, h⟩ := h
  obtain ⟨ht, hT, hR, hW, hC, hD, hS, hO, hL, hB, hM, hQ, hXb, hP, hG, hr⟩ := id h
  unfold fX11_gram fX12_gram jX11_gram_63 fX2_order
  rcases si_dg X x with ⟨h1, h2⟩ | ⟨i, hi, rfl, h1, h2⟩
  · simp only [h1, Option.bind_some, si_0_3, if_neg h2, if_true]
    exact sim_same h (-1) rfl rfl
  · simp only [h1, Option.bind_some, si_0_3, if_pos h2, si_10, if_false, si_wi, si_z]
    rw [sx_G c a o z (some (X 25 i 0, pf_up (pf_up (pf_up (pf_up X 25 i 0 c) 25 i 1 a) 25 i 2 o) 25 i 3 z)) (some (-1, X))]
    simp only [si_pin2 hi (by decide), if_true, si_cl (show i < 2 ^ 31 by omega)]
    rcases sy_G c a o z with ⟨g1, g2⟩ | ⟨g1, g2⟩
    · simp only [g1, si_10, if_false]
      refine sim_mk rfl rfl (hG i hi).1.1 ⟨n, t, by omega, hT, hR, hW, hC, hD, hS, hO.mono (by omega), hL, hB, hM, hQ, hXb, hP, fun j hj => ?_, ?_⟩
      · have hg := hG j hj
        unfold sGo at hg ⊢
        have y0 : ∀ v0 v1 v2 v3 : Int32, pf_up (pf_up (pf_up (pf_up Y 64 0 i v0) 65 0 i v1) 66 0 i v2) 67 0 i v3 64 0 j = upd (Y 64 0) i v0 j := fun _ _ _ _ => rfl
        have y1 : ∀ v0 v1 v2 v3 : Int32, pf_up (pf_up (pf_up (pf_up Y 64 0 i v0) 65 0 i v1) 66 0 i v2) 67 0 i v3 65 0 j = upd (Y 65 0) i v1 j := fun _ _ _ _ => rfl
        have y2 : ∀ v0 v1 v2 v3 : Int32, pf_up (pf_up (pf_up (pf_up Y 64 0 i v0) 65 0 i v1) 66 0 i v2) 67 0 i v3 66 0 j = upd (Y 66 0) i v2 j := fun _ _ _ _ => rfl
        have y3 : ∀ v0 v1 v2 v3 : Int32, pf_up (pf_up (pf_up (pf_up Y 64 0 i v0) 65 0 i v1) 66 0 i v2) 67 0 i v3 67 0 j = upd (Y 67 0) i v3 j := fun _ _ _ _ => rfl
        rw [y0, y1, y2, y3]
        by_cases hji : j = i
        · subst hji
          rw [pf_up4, pf_upf_s]
          simp only [upd_s]
          unfold VG at g2
          refine ⟨⟨rfl, by grind, by grind⟩, ⟨rfl, by grind, by grind⟩, ⟨rfl, by grind, by grind⟩, ⟨trivial, by grind, by grind⟩, fun _ => g2.1.1⟩
        · rw [pf_up4, pf_upf_n _ _ _ _ _ hji, upd_n _ _ hji, upd_n _ _ hji, upd_n _ _ hji, upd_n _ _ hji]
          exact hg
      · refine ⟨hr.1, ?_, hr.2.2⟩
        obtain ⟨-, hH, -⟩ := hr
        unfold sH sHo at hH ⊢
        have x9 : ∀ (j j' : Nat), 8 ≤ j' → pf_up (pf_up (pf_up (pf_up X 25 i 0 c) 25 i 1 a) 25 i 2 o) 25 i 3 z 25 j j' = X 25 j j' := by
          intro j j' hj'
          by_cases hji : j = i
          · subst hji
            rw [pf_up4, pf_upf_s, upd_n _ _ (by omega), upd_n _ _ (by omega), upd_n _ _ (by omega), upd_n _ _ (by omega)]
          · rw [pf_up4, pf_upf_n _ _ _ _ _ hji]
        simp only [x9 _ 9 (by omega), x9 _ 8 (by omega)]
        exact hH
    · simp only [g1, if_true]
      exact sim_same h (-1) rfl rfl
theorem sGH.clear (hG : sG X Y) (hH : sH X Y) {i : Nat} (hi : i < 4) : sG (pf_up X 25 i 0 0) (pf_up Y 64 0 i 0) ∧ sH (pf_up X 25 i 0 0) (pf_up Y 64 0 i 0) := by
  have x9 : ∀ (j j' : Nat), 1 ≤ j' → pf_up X 25 i 0 0 25 j j' = X 25 j j' := by
    intro j j' hj'
    by_cases hji : j = i
    · subst hji
      exact pf_up_j _ _ _ _ _ _ (by omega)
    · rw [pf_up_i _ _ _ _ _ _ hji]
  constructor
  · intro j hj
    have hg := hG j hj
    unfold sGo at hg ⊢
    simp only [x9 _ 1 (by omega), x9 _ 2 (by omega), x9 _ 3 (by omega)]
    have y0 : pf_up Y 64 0 i 0 64 0 j = upd (Y 64 0) i 0 j := rfl
    rw [y0]
    by_cases hji : j = i
    · subst hji
      rw [pf_up_s, upd_s]
      exact ⟨⟨rfl, by decide, by decide⟩, hg.2.1, hg.2.2.1, hg.2.2.2.1, fun q => absurd rfl q⟩
    · rw [pf_up_i _ _ _ _ _ _ hji, upd_n _ _ hji]
      exact hg
  · unfold sH sHo at hH ⊢
    simp only [x9 _ 9 (by omega), x9 _ 8 (by omega)]
    exact hH
theorem sc_clear (h : sRR X Y k) (x : Int32) : sim k (fX11_clear x X) (fX12_clear x Y) := by
  obtain ⟨n, t, h⟩ := h
  obtain ⟨ht, hT, hR, hW, hC, hD, hS, hO, hL, hB, hM, hQ, hXb, hP, hG, hU, hH, hr⟩ := id h
  unfold fX11_clear fX12_clear
  rcases si_dg X x with ⟨h1, h2⟩ | ⟨i, hi, rfl, h1, h2⟩
  · simp only [h1, Option.bind_some, si_0_3, if_neg h2, if_true]
    exact sim_same h (-1) rfl rfl
  · simp only [h1, Option.bind_some, si_0_3, if_pos h2, si_10, if_false, si_pin2 hi (by decide), if_true, si_cl (show i < 2 ^ 31 by omega), (hG i hi).1.1]
    obtain ⟨g1, g2⟩ := sGH.clear hG hH hi
    by_cases hz : Y 64 0 i = 0
    · simp only [hz, if_true]
      have e : pf_up X 25 i 0 0 = X := by
        funext k' i' 
        unfold pf_up
        split
        · rename_i q
          rw [q.1, q.2]
          funext j
          unfold upd
          split
          · rename_i w
            rw [w, (hG i hi).1.1, hz]
          · rfl
        · rfl
      rw [e] at g1 g2
      exact sim_mk rfl rfl rfl ⟨n, t, by omega, hT, hR, hW, hC, hD, hS, hO.mono (by omega), hL, hB, hM, hQ, hXb, hP, g1, hU, g2, hr⟩
    · simp only [if_neg hz]
      exact sim_mk rfl rfl rfl ⟨n, t, by omega, hT, hR, hW, hC, hD, hS, hO.mono (by omega), hL, hB, hM, hQ, hXb, hP, g1, hU, g2, hr⟩
theorem sc_put (h : sRR X Y k) (x y v : Int32) : sim k (fX11_put x y v X) (fX12_put x y v Y) := by
  obtain ⟨n, t, h⟩ := h
  obtain ⟨ht, hT, hR, hW, hC, hD, hS, hO, hL, hB, hM, hQ, hXb, hP, hG, hU, hr⟩ := id h
  unfold fX11_put fX12_put fX11_isByte
  rcases si_dg X x with ⟨h1, h2⟩ | ⟨i, hi, rfl, h1, h2⟩
  · simp only [h1, Option.bind_some, si_0_3, if_neg h2, if_true]
    exact sim_same h (-1) rfl rfl
  · simp only [h1, Option.bind_some, si_0_3, if_pos h2, si_10, if_false, si_wi, si_0_7, si_0_255, si_z]
    by_cases hy : (0 : Int32) ≤ y ∧ y ≤ 7
    · by_cases hv : (0 : Int32) ≤ v ∧ v ≤ 255
      · obtain ⟨b, hb, rfl⟩ := nI_of2 (M := 7) (n := 7) (by decide) (Int32.not_lt.mpr hy.1) hy.2
        have e8 : (8 : Int32) * nI i + nI b = nI (8 * i + b) := by rw [show (8 : Int32) = nI 8 from rfl, nI_mul, nI_add]
        simp only [if_neg (not_not_intro hy), if_neg (not_not_intro hv), e8, si_pin2 (show b < 8 by omega) (by decide), si_pin2 (show 8 * i + b < 32 by omega) (by decide), if_true, si_cl (show b < 2 ^ 31 by omega), si_cl (show 8 * i + b < 2 ^ 31 by omega)]
        refine sim_mk rfl rfl (hU i hi b (by omega)) ⟨n, t, by omega, hT, hR, hW, hC, hD, hS, hO.mono (by omega), hL, hB, hM, hQ, hXb, hP, hG, fun i' hi' b' hb' => ?_, hr⟩
        show pf_up X 26 i b v 26 i' b' = upd (Y 68 0) (8 * i + b) v (8 * i' + b')
        by_cases hdd : i' = i
        · subst hdd
          by_cases hbb : b' = b
          · subst hbb
            rw [pf_up_s, upd_s]
          · rw [pf_up_j _ _ _ _ _ _ hbb, upd_n _ _ (by omega)]
            exact hU i' hi' b' hb'
        · rw [pf_up_i _ _ _ _ _ _ hdd, upd_n _ _ (by omega)]
          exact hU i' hi' b' hb'
      · simp only [if_neg (not_not_intro hy), if_pos hv]
        exact sim_same h (-1) rfl rfl
    · simp only [if_pos hy]
      exact sim_same h (-1) rfl rfl
theorem sc_home (h : sRR X Y k) (x y : Int32) : simP (fX11_home x y X) (fX12_home x y Y) := by
  obtain ⟨n, t, h⟩ := h
  obtain ⟨ht, hT, hR, hW, hC, hD, hS, hO, hL, hB, hM, hQ, hXb, hP, hG, hU, hH, hr⟩ := id h
  unfold fX11_home fX12_home
  rcases si_dg X x with ⟨h1, h2⟩ | ⟨i, hi, rfl, h1, h2⟩
  · simp only [h1, Option.bind_some, si_0_3, if_neg h2, if_true]
    exact ⟨_, rfl, rfl⟩
  · simp only [h1, Option.bind_some, si_0_3, if_pos h2, si_10, if_false, si_wi, si_m1_7, si_z, si_pin2 hi (by decide), if_true, si_cl (show i < 2 ^ 31 by omega)]
    by_cases hy : (-1 : Int32) ≤ y ∧ y ≤ 7
    · simp only [if_neg (not_not_intro hy)]
      rcases hH with ⟨q1, q2⟩ | ⟨q1, q2⟩
      · simp only [q2 i hi, q1, if_true]
        exact ⟨_, rfl, rfl⟩
      · obtain ⟨z, z1, z2, z3, z4, z5⟩ := q2 i hi
        simp only [q1, si_10, if_false, z2, z3]
        by_cases hz : nI z = 0
        · simp only [if_pos hz]
          exact ⟨_, rfl, rfl⟩
        · simp only [if_neg hz]
          have hz1 : 1 ≤ z := by
            rcases Nat.eq_zero_or_pos z with q | q
            · subst q; exact absurd rfl hz
            · exact q
          by_cases c1 : y < nI z
          · simp only [if_pos c1]
            by_cases c2 : (0 : Int32) ≤ y
            · obtain ⟨b, hb, rfl⟩ := nI_of2 (M := 7) (n := 7) (by decide) (Int32.not_lt.mpr c2) hy.2
              have e8 : (8 : Int32) * nI i + nI b = nI (8 * i + b) := by rw [show (8 : Int32) = nI 8 from rfl, nI_mul, nI_add]
              simp only [if_pos c2, e8, si_pin2 (show b < 8 by omega) (by decide), si_pin2 (show 8 * i + b < 32 by omega) (by decide), if_true, si_cl (show b < 2 ^ 31 by omega), si_cl (show 8 * i + b < 2 ^ 31 by omega)]
              exact ⟨_, rfl, by rw [z5 b ((nI_ltI (by omega) (by omega)).mp c1)]⟩
            · simp only [if_neg c2, z4 hz1]
              exact ⟨_, rfl, rfl⟩
          · simp only [if_neg c1]
            exact ⟨_, rfl, rfl⟩
    · simp only [if_pos hy]
      exact ⟨_, rfl, rfl⟩
end
