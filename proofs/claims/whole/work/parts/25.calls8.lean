section
variable {X Y : pf_M} {n t k d : Nat}
theorem sN.st (h : sN X Y n t k) {y : Int32} (hy : 0 ≤ y ∧ y ≤ 3) : sN (pf_up X 11 d 7 y) (pf_up Y 51 0 d y) n t k := by
  obtain ⟨ht, hT, hR, hW, hC, hD, hS, hO, hL, hr⟩ := h
  have e : ∀ i j, j ≠ 7 → pf_up X 11 d 7 y 11 i j = X 11 i j := fun i j hj => by rw [pf_up_v, if_neg (fun w => hj w.2)]
  refine ⟨ht, hT, hR, hW, hC, ?_, ?_, ?_, ?_, hr⟩
  · intro i hi
    rw [e i 4 (by decide), e i 5 (by decide), e i 6 (by decide)]
    exact hD i hi
  · intro i hi
    by_cases hid : i = d
    · subst hid
      rw [pf_up_s, pf_up_s]
      exact ⟨rfl, hy⟩
    · rw [pf_up_i _ _ _ _ _ _ hid, pf_up_j _ _ _ _ _ _ hid]
      exact hS i hi
  · intro i hi
    rw [e i 8 (by decide)]
    exact hO i hi
  · intro i hi
    rw [e i 9 (by decide)]
    exact hL i hi
def yI (M : pf_M) (d : Nat) : pf_M := pf_up (pf_up (pf_up (pf_up (pf_up (pf_up (pf_up (pf_up M 62 0 d (-4)) 63 0 d (-4)) 59 0 (2 * d) 0) 60 0 (2 * d) 0) 61 0 (2 * d) 1) 59 0 (2 * d + 1) 0) 60 0 (2 * d + 1) 0) 61 0 (2 * d + 1) 1
theorem sy_init (hd : d < 8) : fX12_becomeInit (nI d) (pf_up Y 51 0 d 0) = some (yI (pf_up Y 51 0 d 0) d) := by
  unfold fX12_becomeInit
  have e0 : (2 : Int32) * nI d + nI 0 = nI (2 * d) := by rw [show (2 : Int32) = nI 2 from rfl, nI_mul, nI_add]; rfl
  have e1 : (2 : Int32) * nI d + nI 1 = nI (2 * d + 1) := by rw [show (2 : Int32) = nI 2 from rfl, nI_mul, nI_add]
  rw [si_pin2 hd (by decide), if_pos rfl, if_pos rfl, if_pos rfl, si_cl (by omega), show pf_fu = 997 + 3 from rfl, pf_up_twice, show (0 : Int32) = nI 0 from rfl]
  rw [lX12_becomeInit_25, if_neg (by decide), e0, si_pin2 (by omega) (by decide), if_pos rfl, if_pos rfl, if_pos rfl, si_cl (by omega), nI_1,
    lX12_becomeInit_25, if_neg (by decide), e1, si_pin2 (by omega) (by decide), if_pos rfl, if_pos rfl, if_pos rfl, si_cl (by omega), nI_1, lX12_becomeInit_25, if_pos (by decide)]
  rfl
theorem ss_init (h : sN X Y n t k) (hd : d < n) : sN (fX5_begin d X) (yI Y d) n t k := by
  obtain ⟨ht, hT, hR, hW, hC, hD, hS, hO, hL, hB, hM, hQ, hXb, hP, hr⟩ := id h
  have hN : sN (pf_up (pf_up X 15 (2 * d) 1 0) 15 (2 * d + 1) 1 0) (pf_up (pf_up Y 59 0 (2 * d) 0) 59 0 (2 * d + 1) 0) n t k := by
    refine ⟨ht, hT, hR, hW, hC, hD, hS, hO, hL, hB, hM, hQ.zero (d := d) (upd (upd (Y 59 0) (2 * d) 0) (2 * d + 1) 0) ?_ ?_ ?_ ?_ rfl rfl rfl, hXb, hP, hr⟩
    · rw [upd_n _ _ (by omega), upd_s]
    · rw [upd_s]
    · intro j h1 h2
      rw [upd_n _ _ h2, upd_n _ _ h1]
    · intro q
      rw [pf_up_v, pf_up_v]
      by_cases h1 : q = 2 * d
      · subst h1
        rw [if_neg (fun w => by omega), if_pos ⟨rfl, rfl⟩, if_pos (Or.inl rfl)]
      · by_cases h2 : q = 2 * d + 1
        · subst h2
          rw [if_pos ⟨rfl, rfl⟩, if_pos (Or.inr rfl)]
        · rw [if_neg (fun w => h2 w.1), if_neg (fun w => h1 w.1), if_neg (fun w => w.elim h1 h2)]
  unfold fX5_begin fX8_empty
  refine hN.box hd (fun k i hk => (pf_up_o _ hk).trans ((pf_up_o _ hk).trans ((pf_up_o _ hk).trans ((pf_up_o _ hk).trans ((pf_up_o _ hk).trans (pf_up_o _ hk)))))) (fun k hk => ?_) (fun j h1 h2 => ⟨?_, ?_⟩) (fun j h1 => ⟨?_, ?_⟩) ⟨?_, ?_, ?_, ?_, ?_, ?_⟩
  · unfold yI
    by_cases h59 : k = 59
    · subst h59; rfl
    · rw [pf_up_k (k := 61) _ (by omega), pf_up_k (k := 60) _ (by omega), pf_up_k (k := 59) _ h59, pf_up_k (k := 61) _ (by omega), pf_up_k (k := 60) _ (by omega), pf_up_k (k := 59) _ h59, pf_up_k (k := 63) _ (by omega), pf_up_k (k := 62) _ (by omega), pf_up_k (k := 59) _ h59, pf_up_k (k := 59) _ h59]
  · show upd (upd (Y 60 0) (2 * d) 0) (2 * d + 1) 0 j = Y 60 0 j
    rw [upd_n _ _ h2, upd_n _ _ h1]
  · show upd (upd (Y 61 0) (2 * d) 1) (2 * d + 1) 1 j = Y 61 0 j
    rw [upd_n _ _ h2, upd_n _ _ h1]
  · show upd (Y 62 0) d (-4) j = Y 62 0 j
    rw [upd_n _ _ h1]
  · show upd (Y 63 0) d (-4) j = Y 63 0 j
    rw [upd_n _ _ h1]
  · rw [pf_up_j _ _ _ _ _ _ (by decide), pf_up_j _ _ _ _ _ _ (by decide), pf_up_j _ _ _ _ _ _ (by decide), pf_up_j _ _ _ _ _ _ (by decide), pf_up_j _ _ _ _ _ _ (by decide), pf_up_s]
    show _ = upd (upd (Y 60 0) (2 * d) 0) (2 * d + 1) 0 (2 * d)
    rw [upd_n _ _ (by omega), upd_s]
  · rw [pf_up_j _ _ _ _ _ _ (by decide), pf_up_j _ _ _ _ _ _ (by decide), pf_up_j _ _ _ _ _ _ (by decide), pf_up_j _ _ _ _ _ _ (by decide), pf_up_s]
    show _ = upd (upd (Y 60 0) (2 * d) 0) (2 * d + 1) 0 (2 * d + 1)
    rw [upd_s]
  · rw [pf_up_j _ _ _ _ _ _ (by decide), pf_up_j _ _ _ _ _ _ (by decide), pf_up_j _ _ _ _ _ _ (by decide), pf_up_s]
    show _ = upd (upd (Y 61 0) (2 * d) 1) (2 * d + 1) 1 (2 * d)
    rw [upd_n _ _ (by omega), upd_s]
  · rw [pf_up_j _ _ _ _ _ _ (by decide), pf_up_j _ _ _ _ _ _ (by decide), pf_up_s]
    show _ = upd (upd (Y 61 0) (2 * d) 1) (2 * d + 1) 1 (2 * d + 1)
    rw [upd_s]
  · rw [pf_up_j _ _ _ _ _ _ (by decide), pf_up_s]
    refine Or.inl ⟨rfl, ?_⟩
    show upd (Y 62 0) d (-4) d = _
    rw [upd_s]
  · rw [pf_up_s]
    refine Or.inl ⟨rfl, ?_⟩
    show upd (Y 63 0) d (-4) d = _
    rw [upd_s]
theorem sc_state (h : sRR X Y k) (x y : Int32) : sim k (fX11_state x y X) (fX12_state x y Y) := by
  obtain ⟨n, t, h⟩ := h
  obtain ⟨ht, hT, hR, hW, hC, hD, hS, hO, hL, hB, hM, hQ, hXb, hP, hr⟩ := id h
  obtain ⟨hn, ⟨hX, hY⟩, -⟩ := id hR
  unfold fX11_state fX12_state fX3_enter
  rcases si_dev hn hX hY x with ⟨h1, h2⟩ | ⟨d, hd, rfl, h1, h2⟩
  · simp only [h1, h2, Option.bind_some, if_true]
    exact sim_same h (-1) rfl rfl
  · simp only [h1, h2, Option.bind_some, si_10, if_false, si_0_3, si_wi, si_z, sx_S hR hC hd, sy_S hR hd, si_pin2 (show d < 8 by omega) (by decide), if_true, si_cl (show d < 2 ^ 31 by omega), (hS d hd).1]
    by_cases hy : (0 : Int32) ≤ y ∧ y ≤ 3
    · simp only [if_neg (not_not_intro hy)]
      by_cases hs : qS (Y 50 0) n d = 0
      · simp only [if_pos hs]
        exact sim_same h (-2) rfl rfl
      · by_cases he : y = Y 51 0 d
        · simp only [if_neg hs, if_pos he, if_pos he.symm]
          exact sim_same h (-2) rfl rfl
        · simp only [if_neg hs, if_neg he, if_neg (fun w => he (Eq.symm w))]
          by_cases hl : y ≤ Y 51 0 d + 1
          · simp only [if_pos hl]
            by_cases h0 : y = 0
            · subst h0
              simp only [if_true, sy_init (show d < 8 by omega), Option.bind_some]
              exact sim_mk rfl rfl rfl ⟨n, t, (ss_init (h.st hy) hd).next⟩
            · simp only [if_neg h0]
              exact sim_mk rfl rfl rfl ⟨n, t, (h.st hy).next⟩
          · simp only [if_neg hl]
            exact sim_same h (-2) rfl rfl
    · simp only [if_pos hy]
      exact sim_same h (-1) rfl rfl
theorem si_like {a b c e a' b' c' e' : Int32} (h1 : 0 ≤ a ∧ a ≤ 12) (h2 : 0 ≤ b ∧ b ≤ 99) (h3 : 0 ≤ c ∧ c ≤ 15) (h4 : 0 ≤ e ∧ e ≤ 8) (h1' : 0 ≤ a' ∧ a' ≤ 12) (h2' : 0 ≤ b' ∧ b' ≤ 99) (h3' : 0 ≤ c' ∧ c' ≤ 15) (h4' : 0 ≤ e' ∧ e' ≤ 8) :
    ((a * 100 + b) * 16 + c) * 10 + e = ((a' * 100 + b') * 16 + c') * 10 + e' ↔ a = a' ∧ b = b' ∧ c = c' ∧ e = e' := by
  obtain ⟨a, g1, rfl⟩ := nI_of2 (M := 12) (n := 12) (by decide) (Int32.not_lt.mpr h1.1) h1.2
  obtain ⟨b, g2, rfl⟩ := nI_of2 (M := 99) (n := 99) (by decide) (Int32.not_lt.mpr h2.1) h2.2
  obtain ⟨c, g3, rfl⟩ := nI_of2 (M := 15) (n := 15) (by decide) (Int32.not_lt.mpr h3.1) h3.2
  obtain ⟨e, g4, rfl⟩ := nI_of2 (M := 8) (n := 8) (by decide) (Int32.not_lt.mpr h4.1) h4.2
  obtain ⟨a', g1', rfl⟩ := nI_of2 (M := 12) (n := 12) (by decide) (Int32.not_lt.mpr h1'.1) h1'.2
  obtain ⟨b', g2', rfl⟩ := nI_of2 (M := 99) (n := 99) (by decide) (Int32.not_lt.mpr h2'.1) h2'.2
  obtain ⟨c', g3', rfl⟩ := nI_of2 (M := 15) (n := 15) (by decide) (Int32.not_lt.mpr h3'.1) h3'.2
  obtain ⟨e', g4', rfl⟩ := nI_of2 (M := 8) (n := 8) (by decide) (Int32.not_lt.mpr h4'.1) h4'.2
  have w : ∀ a b c e : Nat, ((nI a * 100 + nI b) * 16 + nI c) * 10 + nI e = nI (((a * 100 + b) * 16 + c) * 10 + e) := fun a b c e => by
    rw [show (100 : Int32) = nI 100 from rfl, show (16 : Int32) = nI 16 from rfl, show (10 : Int32) = nI 10 from rfl, nI_mul, nI_add, nI_mul, nI_add, nI_mul, nI_add]
  rw [w, w, nI_eq (by omega) (by omega), nI_eq (by omega) (by omega), nI_eq (by omega) (by omega), nI_eq (by omega) (by omega), nI_eq (by omega) (by omega)]
  omega
def sEq (Y : pf_M) (i j : Nat) : Prop := Y 74 0 (5 * j) = Y 64 0 i ∧ Y 74 0 (5 * j + 1) = Y 65 0 i ∧ Y 74 0 (5 * j + 2) = Y 66 0 i ∧ Y 74 0 (5 * j + 3) = Y 67 0 i
theorem ss_findL {z i : Nat} (hi : i < 4) (hz : z ≤ 6) (eX : X 22 0 2 = nI z) (eY : Y 40 0 44 = nI z) (hE : ∀ j, j < z → sEo X Y j) (hg : sGo X Y i) : ∀ (m j f g : Nat), j + m = z → m < f → m < g →
    (lX4_indexOf_2 (fX2_likeness i X) X f (nI j) = some (-4) ∧ lX12_keptAt_2 (nI i) Y g (nI j) = some (-4) ∧ ∀ j', j ≤ j' → j' < z → ¬ sEq Y i j') ∨
    ∃ j', j ≤ j' ∧ j' < z ∧ lX4_indexOf_2 (fX2_likeness i X) X f (nI j) = some (nI j') ∧ lX12_keptAt_2 (nI i) Y g (nI j) = some (nI j') ∧ sEq Y i j' := by
  intro m
  induction m with
  | zero =>
    intro j f g hj hf hg2
    obtain ⟨f, rfl⟩ : ∃ g, f = g + 1 := ⟨f - 1, by omega⟩
    obtain ⟨g, rfl⟩ : ∃ f, g = f + 1 := ⟨g - 1, by omega⟩
    rw [lX4_indexOf_2, lX12_keptAt_2, eX, eY, if_pos ((nI_leI (by omega) (by omega)).mpr (by omega)), if_pos ((nI_leI (by omega) (by omega)).mpr (by omega))]
    exact Or.inl ⟨rfl, rfl, fun j' h1 h2 => by omega⟩
  | succ m ih =>
    intro j f g hj hf hg2
    obtain ⟨f, rfl⟩ : ∃ g, f = g + 1 := ⟨f - 1, by omega⟩
    obtain ⟨g, rfl⟩ : ∃ f, g = f + 1 := ⟨g - 1, by omega⟩
    have hjz : ¬ nI z ≤ nI j := fun w => by have := (nI_leI (by omega) (by omega)).mp w; omega
    have e0 : (5 : Int32) * nI j = nI (5 * j) := by rw [show (5 : Int32) = nI 5 from rfl, nI_mul]
    have e2 : nI (5 * j) + 2 = nI (5 * j + 2) := by rw [show (2 : Int32) = nI 2 from rfl, nI_add]
    have e3 : nI (5 * j) + 3 = nI (5 * j + 3) := by rw [show (3 : Int32) = nI 3 from rfl, nI_add]
    obtain ⟨a1, a2, a3, a4, a5, -⟩ := hE j (by omega)
    obtain ⟨b1, b2, b3, b4, -⟩ := hg
    have hk : X 23 0 j = fX2_likeness i X ↔ sEq Y i j := by
      rw [a5]
      unfold fX2_likeness
      rw [b1.1, b2.1, b3.1, b4.1]
      exact si_like a1 a2 a3 a4 b1.2 b2.2 b3.2 b4.2
    have hrec := ih (j + 1) f g (by omega) (by omega) (by omega)
    rw [lX4_indexOf_2, lX12_keptAt_2, eX, eY]
    simp only [if_neg hjz, e0, e2, e3, nI_1, si_pin2 (show j < 6 by omega) (by decide), si_pin2 (show i < 4 by omega) (by decide), si_pin2 (show 5 * j < 30 by omega) (by decide), si_pin2 (show 5 * j + 1 < 30 by omega) (by decide), si_pin2 (show 5 * j + 2 < 30 by omega) (by decide), si_pin2 (show 5 * j + 3 < 30 by omega) (by decide), if_true,
      si_cl (show j < 2 ^ 31 by omega), si_cl (show i < 2 ^ 31 by omega), si_cl (show 5 * j < 2 ^ 31 by omega), si_cl (show 5 * j + 1 < 2 ^ 31 by omega), si_cl (show 5 * j + 2 < 2 ^ 31 by omega), si_cl (show 5 * j + 3 < 2 ^ 31 by omega)]
    by_cases hs : sEq Y i j
    · rw [if_pos (hk.mpr hs), if_pos hs.1, if_pos hs.2.1, if_pos hs.2.2.1, if_pos hs.2.2.2]
      exact Or.inr ⟨j, by omega, by omega, rfl, rfl, hs⟩
    · have hm : ∀ A : Option Int32, (if Y 74 0 (5 * j) = Y 64 0 i then if Y 74 0 (5 * j + 1) = Y 65 0 i then if Y 74 0 (5 * j + 2) = Y 66 0 i then if Y 74 0 (5 * j + 3) = Y 67 0 i then some (nI j) else A else A else A else A) = A := by
        intro A
        unfold sEq at hs
        repeat' split
        all_goals first | rfl | (exfalso; exact hs ⟨by assumption, by assumption, by assumption, by assumption⟩)
      rw [if_neg (fun w => hs (hk.mp w)), hm]
      unfold jX12_keptAt_86
      rw [nI_1]
      rcases hrec with ⟨c1, c2, c3⟩ | ⟨j', c1, c2, c3, c4, c5⟩
      · refine Or.inl ⟨c1, c2, fun j' h1 h2 => ?_⟩
        by_cases hjj : j' = j
        · rw [hjj]; exact hs
        · exact c3 j' (by omega) h2
      · exact Or.inr ⟨j', by omega, c2, c3, c4, c5⟩
theorem ss_find {z i : Nat} (hi : i < 4) (hz : z ≤ 6) (eX : X 22 0 2 = nI z) (eY : Y 40 0 44 = nI z) (hE : ∀ j, j < z → sEo X Y j) (hg : sGo X Y i) :
    (fX4_indexOf (fX2_likeness i X) X = some (-4) ∧ fX12_keptAt (nI i) Y = some (-4) ∧ ∀ j', j' < z → ¬ sEq Y i j') ∨
    ∃ j', j' < z ∧ fX4_indexOf (fX2_likeness i X) X = some (nI j') ∧ fX12_keptAt (nI i) Y = some (nI j') ∧ sEq Y i j' := by
  rcases ss_findL hi hz eX eY hE hg z 0 pf_fu pf_fu (by omega) (by unfold pf_fu; omega) (by unfold pf_fu; omega) with ⟨c1, c2, c3⟩ | ⟨j', c1, c2, c3, c4, c5⟩
  · exact Or.inl ⟨c1, c2, fun j' h => c3 j' (by omega) h⟩
  · exact Or.inr ⟨j', c2, c3, c4, c5⟩
theorem sc_expected (h : sRR X Y k) (x : Int32) : simP (fX11_expected x X) (fX12_expected x Y) := by
  obtain ⟨n, t, h⟩ := h
  obtain ⟨ht, hT, hR, hW, hC, hD, hS, hO, hL, hB, hM, hQ, hXb, hP, hG, hU, hH, hE, hZ⟩ := id h
  obtain ⟨z, z1, z2, z3, z4⟩ := id hE
  unfold fX11_expected fX12_expected
  rcases si_dg X x with ⟨h1, h2⟩ | ⟨i, hi, rfl, h1, h2⟩
  · simp only [h1, Option.bind_some, si_0_3, if_neg h2, if_true]
    exact ⟨_, rfl, rfl⟩
  · simp only [h1, Option.bind_some, si_0_3, if_pos h2, si_10, if_false, si_pin2 hi (by decide), if_true, si_cl (show i < 2 ^ 31 by omega), (hG i hi).1.1]
    unfold fX6_expectedOf fX4_counterOf jX12_expected_33
    by_cases h0 : Y 64 0 i = 0
    · simp only [if_pos h0]
      exact ⟨_, rfl, rfl⟩
    · simp only [if_neg h0]
      rcases ss_find hi z1 z2 z3 z4 (hG i hi) with ⟨c1, c2, -⟩ | ⟨j, c1, c2, c3, -⟩
      · simp only [c1, c2, Option.bind_some, if_true]
        exact ⟨_, rfl, rfl⟩
      · have e4 : (5 : Int32) * nI j + 4 = nI (5 * j + 4) := by rw [show (5 : Int32) = nI 5 from rfl, show (4 : Int32) = nI 4 from rfl, nI_mul, nI_add]
        have hj : ¬ nI j = -4 := fun w => by
          have := nI_pos (show j < 2 ^ 31 by omega)
          rw [w] at this
          exact this (by decide)
        simp only [c2, c3, Option.bind_some, if_pos (Int32.not_lt.mp (nI_pos (show j < 2 ^ 31 by omega))), if_neg hj, e4, si_pin2 (show j < 6 by omega) (by decide), si_pin2 (show 5 * j + 4 < 30 by omega) (by decide), if_true, si_cl (show j < 2 ^ 31 by omega), si_cl (show 5 * j + 4 < 2 ^ 31 by omega), (z4 j c1).2.2.2.2.2.1]
        exact ⟨_, rfl, rfl⟩
end
