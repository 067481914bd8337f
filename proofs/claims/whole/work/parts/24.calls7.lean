theorem pf_up_comm (M : pf_M) {k i j k' i' j' : Nat} {v v' : Int32} (h : k ≠ k') : pf_up (pf_up M k i j v) k' i' j' v' = pf_up (pf_up M k' i' j' v') k i j v := by
  funext a b
  by_cases h1 : a = k ∧ b = i
  · obtain ⟨rfl, rfl⟩ := h1
    rw [pf_up_k _ h]
    funext c
    rw [pf_up_v, pf_up_v, pf_up_k _ h]
  · rw [pf_up_o _ h1]
    by_cases h2 : a = k' ∧ b = i'
    · obtain ⟨rfl, rfl⟩ := h2
      funext c
      rw [pf_up_v, pf_up_v, pf_up_o _ h1]
    · rw [pf_up_o _ h2, pf_up_o _ h2, pf_up_o _ h1]
theorem pf_up_back (M : pf_M) (k i j : Nat) (v : Int32) : pf_up (pf_up M k i j v) k i j (M k i j) = M := by
  funext k' i' j'
  by_cases h : k' = k ∧ i' = i
  · obtain ⟨rfl, rfl⟩ := h
    rw [pf_up_v, pf_up_v]
    by_cases hj : j' = j
    · simp [hj]
    · simp [hj]
  · rw [pf_up_o _ h, pf_up_o _ h]
theorem pf_up_twice (M : pf_M) (k i j : Nat) (v v' : Int32) : pf_up (pf_up M k i j v) k i j v' = pf_up M k i j v' := by
  funext k' i' j'
  by_cases h : k' = k ∧ i' = i
  · obtain ⟨rfl, rfl⟩ := h
    rw [pf_up_v, pf_up_v, pf_up_v]
    by_cases hj : j' = j
    · simp [hj]
    · simp [hj]
  · rw [pf_up_o _ h, pf_up_o _ h, pf_up_o _ h]
section
variable {X Y : pf_M} {n t k d : Nat}
theorem ss_accept (h : sN X Y n t k) (hd : d < n) {v : Int32} (hv : 1 ≤ v ∧ v ≤ 255) : ∃ (a : Int32) (X1 Y1 : pf_M), fX5_accept d v X = some (a, X1) ∧
    fX12_pushes (nI d) (pf_up Y 63 0 d v) = jX12_pushes_86 (nI d) (nI (2 * d + 1)) a Y1 ∧ (a = 0 ∨ a = 1) ∧ Y1 63 0 d = v ∧ sN X1 (pf_up Y1 63 0 d (Y 63 0 d)) n t k := by
  obtain ⟨ht, hT, hR, hW, hC, hD, hS, hO, hL, hB, hM, hQ, hXb, hP, hr⟩ := id h
  obtain ⟨hn, -⟩ := id hR
  obtain ⟨x2, x3, x4, x5⟩ := hXb d hd
  obtain ⟨p6, p7⟩ := hP d hd
  obtain ⟨z, z1, z2, z3, z4⟩ := hQ (2 * d + 1) (by omega)
  have e2 : (2 : Int32) * nI d + 1 = nI (2 * d + 1) := by rw [show (2 : Int32) = nI 2 from rfl, nI_mul, nI_1]
  have y61 : pf_up Y 63 0 d v 61 0 (2 * d + 1) = Y 61 0 (2 * d + 1) := rfl
  have y60 : pf_up Y 63 0 d v 60 0 (2 * d + 1) = Y 60 0 (2 * d + 1) := rfl
  have y59 : pf_up Y 63 0 d v 59 0 (2 * d + 1) = nI z := z3
  unfold fX5_accept fX12_pushes jX12_pushes_26
  simp only [e2, si_pin2 (show d < 8 by omega) (by decide), si_pin2 (show 2 * d + 1 < 16 by omega) (by decide), if_true, si_cl (show d < 2 ^ 31 by omega), si_cl (show 2 * d + 1 < 2 ^ 31 by omega), y61, y60, y59, x3, x5, sx_app z1 z2]
  by_cases hq : Y 61 0 (2 * d + 1) = Y 60 0 (2 * d + 1)
  · simp only [if_pos hq, si_10, if_false]
    refine ⟨1, _, pf_up Y 63 0 d v, rfl, rfl, Or.inr rfl, pf_up_s _ _ _ _ _, ?_⟩
    rw [pf_up_back]
    exact h
  · simp only [if_neg hq, Option.bind_some, if_true]
    by_cases hz : z < 4
    · have hz4 : ¬ (4 : Int32) ≤ nI z := fun w => by have := (nI_leI (a := 4) (by omega) (by omega)).mp w; omega
      have e4 : (4 : Int32) * nI (2 * d + 1) + nI z = nI (4 * (2 * d + 1) + z) := by rw [show (4 : Int32) = nI 4 from rfl, nI_mul, nI_add]
      have e5 : ∀ w : Int32, pf_up (pf_up Y 63 0 d v) 58 0 (4 * (2 * d + 1) + z) w 59 0 (2 * d + 1) = nI z := fun w => z3
      have e6 : pf_up Y 63 0 d v 63 0 d = v := pf_up_s _ _ _ _ _
      simp only [if_pos hz, if_neg hz4, si_10, if_false, e4, si_pin2 (show 4 * (2 * d + 1) + z < 64 by omega) (by decide), if_true, si_cl (show 4 * (2 * d + 1) + z < 2 ^ 31 by omega), e5, e6, nI_1]
      refine ⟨1, _, _, rfl, rfl, Or.inr rfl, e6, ?_⟩
      have hN : sN (pf_up (pf_up X 16 (2 * d + 1) z v) 15 (2 * d + 1) 1 (nI (z + 1))) (pf_up (pf_up Y 58 0 (4 * (2 * d + 1) + z) v) 59 0 (2 * d + 1) (nI (z + 1))) n t k := ⟨ht, hT, hR, hW, hC, hD, hS, hO, hL, hB, hM, hQ.app hz hv z2 z3, hXb, hP, hr⟩
      refine hN.box hd (fun k i hk => pf_up_o _ hk) (fun k hk => ?_) (fun j h1 h2 => ⟨show upd (Y 60 0) (2 * d + 1) _ j = Y 60 0 j from upd_n _ _ h2, rfl⟩) (fun j h1 => ⟨rfl, ?_⟩) ⟨?_, ?_, ?_, ?_, ?_, ?_⟩
      · by_cases h58 : k = 58
        · subst h58; rfl
        · by_cases h59 : k = 59
          · subst h59; rfl
          · rw [pf_up_k _ (by omega), pf_up_k _ (by omega), pf_up_k _ h59, pf_up_k _ h58, pf_up_k _ (by omega), pf_up_k _ h59, pf_up_k _ h58]
      · exact (pf_up_j _ _ _ _ _ _ h1).trans (show upd (Y 63 0) d v j = Y 63 0 j from upd_n _ _ h1)
      · exact (pf_up_j _ _ _ _ _ _ (by decide)).trans (x2.trans (pf_up_j _ _ _ _ _ _ (by omega)).symm)
      · exact (pf_up_s _ _ _ _ _).trans (x5.trans (show _ = upd (Y 60 0) (2 * d + 1) (Y 61 0 (2 * d + 1)) (2 * d + 1) from (upd_s _ _ _).symm))
      · exact (pf_up_j _ _ _ _ _ _ (by decide)).trans x4
      · exact (pf_up_j _ _ _ _ _ _ (by decide)).trans x5
      · rw [pf_up_j _ _ _ _ _ _ (by decide)]; exact p6
      · rw [pf_up_j _ _ _ _ _ _ (by decide), pf_up_s]; exact p7
    · have hz4 : z = 4 := by omega
      subst hz4
      simp only [Nat.lt_irrefl, if_false, show ((4 : Int32) ≤ nI 4) = True from eq_true (by decide), if_true]
      refine ⟨0, _, pf_up Y 63 0 d v, rfl, rfl, Or.inl rfl, pf_up_s _ _ _ _ _, ?_⟩
      rw [pf_up_back]
      exact h
theorem ss_deliver (h : sN X Y n t k) (hd : d < n) {v : Int32} (hv : 1 ≤ v ∧ v ≤ 255) : ∃ (r : Int32) (X' Y' : pf_M) (t' : Nat), fX11_deliver d v X = some (r, X') ∧ fX12_pushes (nI d) (pf_up Y 63 0 d v) = some (r, Y') ∧
    ((¬ r = -3 ∧ sN X' Y' n t' (k + 1)) ∨ (r = -3 ∧ Y' 63 0 d = v ∧ sN X' (pf_up Y' 63 0 d (Y 63 0 d)) n t' (k + 1))) := by
  obtain ⟨a, X1, Y1, w1, w2, w3, w4, w5⟩ := ss_accept h hd hv
  obtain ⟨ht, hT, hR, hW, hC, hD, hS, hO, hL, hB, hM, hQ, hXb, hP, hG, hU, hH, hE, hZ⟩ := id w5
  obtain ⟨hn, -⟩ := id hR
  obtain ⟨T, hT2, v1, hv2⟩ := ss_home (X := X1) (Y := Y1) (t := t) (n := n) hR hW hC hZ
  obtain ⟨x2, x3, x4, x5⟩ := hXb d hd
  obtain ⟨p6, p7⟩ := hP d hd
  unfold fX11_deliver
  rw [w1, w2]
  unfold jX12_pushes_86
  rcases hv2 with ⟨q1, q2, q3⟩ | ⟨q1, q2, q3⟩
  · have hN := w5.home1 hT2
    rw [pf_up_comm Y1 (show 63 ≠ 40 by decide)] at hN
    rcases w3 with rfl | rfl
    · simp only [v1, q2, q3, Option.bind_some, si_10, if_false, if_true]
      exact ⟨_, _, _, _, rfl, rfl, Or.inr ⟨rfl, w4, hN⟩⟩
    · simp only [v1, q2, q3, Option.bind_some, si_10, if_false, if_true, si_pin2 (show d < 8 by omega) (by decide), si_pin2 (show 2 * d + 1 < 16 by omega) (by decide), si_cl (show d < 2 ^ 31 by omega), si_cl (show 2 * d + 1 < 2 ^ 31 by omega)]
      obtain ⟨z, z1, z2, z3, -⟩ := hQ (2 * d + 1) (by omega)
      refine ⟨_, _, _, t + T, rfl, congrArg some (Prod.ext (z3.trans z2.symm) rfl), Or.inl ⟨fun w => ?_, ?_⟩⟩
      · have w0 : nI z = -3 := z2.symm.trans w
        match z, z1 with
        | 0, _ => exact absurd w0 (by decide)
        | 1, _ => exact absurd w0 (by decide)
        | 2, _ => exact absurd w0 (by decide)
        | 3, _ => exact absurd w0 (by decide)
        | 4, _ => exact absurd w0 (by decide)
      · unfold fX5_confirmAccepted
        refine hN.box hd (fun k i hk => (pf_up_o _ hk).trans (pf_up_o _ hk)) (fun k hk => ?_) (fun j h1 h2 => ⟨rfl, show upd (Y1 61 0) (2 * d + 1) _ j = Y1 61 0 j from upd_n _ _ h2⟩) (fun j h1 => ⟨rfl, ?_⟩) ⟨?_, ?_, ?_, ?_, ?_, ?_⟩
        · exact (pf_up_k (k := 63) _ (by omega)).trans ((pf_up_k (k := 61) _ (by omega)).trans (pf_up_k (k := 63) _ (by omega)).symm)
        · exact (pf_up_j _ _ _ _ _ _ h1).trans (pf_up_j _ _ _ _ _ _ h1).symm
        · exact (pf_up_j _ _ _ _ _ _ (by decide)).trans ((pf_up_j _ _ _ _ _ _ (by decide)).trans x2)
        · exact (pf_up_j _ _ _ _ _ _ (by decide)).trans ((pf_up_j _ _ _ _ _ _ (by decide)).trans x3)
        · exact (pf_up_j _ _ _ _ _ _ (by decide)).trans ((pf_up_j _ _ _ _ _ _ (by decide)).trans (x4.trans (pf_up_j _ _ _ _ _ _ (by omega)).symm))
        · rw [pf_up_j _ _ _ _ _ _ (by decide), pf_up_s]
          refine Eq.trans ?_ (show _ = upd (Y1 61 0) (2 * d + 1) (1 - Y1 61 0 (2 * d + 1)) (2 * d + 1) from (upd_s _ _ _).symm)
          show 1 - X1 14 d 5 = _
          rw [x5]
          rfl
        · rw [pf_up_j _ _ _ _ _ _ (by decide), pf_up_j _ _ _ _ _ _ (by decide)]; exact p6
        · rw [pf_up_s, pf_up_s]; exact Or.inl ⟨rfl, rfl⟩
  · have hN := w5.home2 hT2 q1
    simp only [v1, q2, q3, Option.bind_some, si_10, if_false, if_true]
    refine ⟨-5, _, _, t + T, rfl, rfl, Or.inl ⟨by decide, ?_⟩⟩
    refine hN.box hd (fun k i hk => pf_up_o _ hk) (fun k hk => ?_) (fun j h1 h2 => ⟨rfl, rfl⟩) (fun j h1 => ⟨rfl, (show Y1 63 0 j = upd (Y1 63 0) d _ j from (upd_n _ _ h1).symm)⟩) ⟨?_, ?_, ?_, ?_, ?_, ?_⟩
    · by_cases h40 : k = 40
      · subst h40; rfl
      · rw [pf_up_k _ h40, pf_up_k _ h40, pf_up_k _ h40, pf_up_k _ h40, pf_up_k _ (by omega)]
    · exact (pf_up_j _ _ _ _ _ _ (by decide)).trans x2
    · exact (pf_up_j _ _ _ _ _ _ (by decide)).trans x3
    · exact (pf_up_j _ _ _ _ _ _ (by decide)).trans x4
    · exact (pf_up_j _ _ _ _ _ _ (by decide)).trans x5
    · rw [pf_up_j _ _ _ _ _ _ (by decide)]; exact p6
    · rw [pf_up_s]
      exact Or.inr ⟨w4.symm, by show 1 ≤ Y1 63 0 d ∧ Y1 63 0 d ≤ 255; rw [w4]; exact hv⟩
theorem sc_push (h : sRR X Y k) (x v : Int32) : sim k (fX11_push x v X) (fX12_push x v Y) := by
  obtain ⟨n, t, h⟩ := h
  obtain ⟨ht, hT, hR, hW, hC, hD, hS, hO, hL, hB, hM, hQ, hXb, hP, hr⟩ := id h
  obtain ⟨hn, ⟨hX, hY⟩, -⟩ := id hR
  unfold fX11_push fX12_push fX11_isMessage
  rcases si_dev hn hX hY x with ⟨h1, h2⟩ | ⟨d, hd, rfl, h1, h2⟩
  · simp only [h1, h2, Option.bind_some, if_true]
    exact sim_same h (-1) rfl rfl
  · simp only [h1, h2, Option.bind_some, si_10, if_false, si_1_255, si_wi, si_z]
    by_cases hv : (1 : Int32) ≤ v ∧ v ≤ 255
    · simp only [if_neg (not_not_intro hv)]
      rcases ss_reach hR hC hS hd with ⟨g1, g2⟩ | ⟨g1, g2⟩
      · simp only [g1, g2, Option.bind_some, if_true]
        exact sim_same h (-2) rfl rfl
      · simp only [g1, g2, Option.bind_some, si_10, if_false, si_pin2 (show d < 8 by omega) (by decide), if_true, si_cl (show d < 2 ^ 31 by omega)]
        rcases (hP d hd).2 with ⟨u1, u2⟩ | ⟨u1, u2, -⟩
        · obtain ⟨r, X', Y', t', c1, c2, c3⟩ := ss_deliver h hd hv
          rw [if_pos u1, if_pos u2, c1, c2]
          rcases c3 with ⟨c4, c5⟩ | ⟨c4, c6, c5⟩
          · simp only [Option.bind_some, if_neg c4]
            exact sim_mk rfl rfl rfl ⟨n, t', c5⟩
          · simp only [Option.bind_some, if_pos c4]
            rw [u2] at c5
            exact sim_mk rfl rfl rfl ⟨n, t', c5⟩
        · rw [if_neg (fun w => by rw [← u1, w] at u2; exact absurd u2 (by decide)), if_neg (si_ne4 u2)]
          exact sim_same h (-2) rfl rfl
    · simp only [if_pos hv]
      exact sim_same h (-1) rfl rfl
theorem sc_again (h : sRR X Y k) (x : Int32) : sim k (fX11_again x X) (fX12_again x Y) := by
  obtain ⟨n, t, h⟩ := h
  obtain ⟨ht, hT, hR, hW, hC, hD, hS, hO, hL, hB, hM, hQ, hXb, hP, hr⟩ := id h
  obtain ⟨hn, ⟨hX, hY⟩, -⟩ := id hR
  unfold fX11_again fX12_again
  rcases si_dev hn hX hY x with ⟨h1, h2⟩ | ⟨d, hd, rfl, h1, h2⟩
  · simp only [h1, h2, Option.bind_some, if_true]
    exact sim_same h (-1) rfl rfl
  · rcases ss_reach hR hC hS hd with ⟨g1, g2⟩ | ⟨g1, g2⟩
    · simp only [h1, h2, g1, g2, si_10, if_false, Option.bind_some, if_true]
      exact sim_same h (-2) rfl rfl
    · simp only [h1, h2, g1, g2, Option.bind_some, si_10, if_false, si_pin2 (show d < 8 by omega) (by decide), if_true, si_cl (show d < 2 ^ 31 by omega)]
      rcases (hP d hd).2 with ⟨u1, u2⟩ | ⟨u1, u2, u3⟩
      · rw [if_pos u1, if_pos u2]
        exact sim_same h (-2) rfl rfl
      · obtain ⟨r, X', Y', t', c1, c2, c3⟩ := ss_deliver h hd ⟨u2, u3⟩
        rw [pf_up_self] at c2
        rw [if_neg (fun w => by rw [← u1, w] at u2; exact absurd u2 (by decide)), if_neg (si_ne4 u2), u1, c1, c2]
        rcases c3 with ⟨c4, c5⟩ | ⟨c4, c6, c5⟩
        · exact sim_mk rfl rfl rfl ⟨n, t', c5⟩
        · rw [← c6, pf_up_self] at c5
          exact sim_mk rfl rfl rfl ⟨n, t', c5⟩
end
