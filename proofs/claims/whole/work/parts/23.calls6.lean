theorem pf_up_v (M : pf_M) (k i j i' j' : Nat) (v : Int32) : pf_up M k i j v k i' j' = if i' = i ∧ j' = j then v else M k i' j' := by
  unfold pf_up upd
  by_cases h : i' = i
  · subst h
    by_cases hj : j' = j
    · simp [hj]
    · simp [hj]
  · simp [h]
theorem pf_up_o (M : pf_M) {k i j k' i' : Nat} {v : Int32} (h : ¬ (k' = k ∧ i' = i)) : pf_up M k i j v k' i' = M k' i' := if_neg h
theorem pf_up_k (M : pf_M) {k i j k' i' : Nat} {v : Int32} (h : k' ≠ k) : pf_up M k i j v k' i' = M k' i' := if_neg (fun w => h w.1)
theorem pf_upf_k (M : pf_M) {k i k' i' : Nat} {g : Nat → Int32} (h : k' ≠ k) : pf_upf M k i g k' i' = M k' i' := if_neg (fun w => h w.1)
theorem pf_up_self (M : pf_M) (k i j : Nat) : pf_up M k i j (M k i j) = M := by
  funext k' i' j'
  unfold pf_up upd
  by_cases h : k' = k ∧ i' = i
  · rw [if_pos h, h.1, h.2]
    by_cases hj : j' = j
    · simp [hj]
    · simp [hj]
  · rw [if_neg h]
section
variable {X Y X' Y' : pf_M} {n t k d : Nat}
theorem sN.box (h : sN X Y n t k) (hd : d < n) (f1 : ∀ k i, ¬ (k = 14 ∧ i = d) → X' k i = X k i) (f2 : ∀ k, ¬ (60 ≤ k ∧ k ≤ 63) → Y' k 0 = Y k 0)
    (f3 : ∀ j, j ≠ 2 * d → j ≠ 2 * d + 1 → Y' 60 0 j = Y 60 0 j ∧ Y' 61 0 j = Y 61 0 j) (f4 : ∀ j, j ≠ d → Y' 62 0 j = Y 62 0 j ∧ Y' 63 0 j = Y 63 0 j)
    (g : X' 14 d 2 = Y' 60 0 (2 * d) ∧ X' 14 d 3 = Y' 60 0 (2 * d + 1) ∧ X' 14 d 4 = Y' 61 0 (2 * d) ∧ X' 14 d 5 = Y' 61 0 (2 * d + 1) ∧ sPo (X' 14 d 6) (Y' 62 0 d) ∧ sPo (X' 14 d 7) (Y' 63 0 d)) : sN X' Y' n t k := by
  have eX : ∀ k, k ≠ 14 → X' k = X k := fun k hk => funext fun i => f1 k i (fun w => hk w.1)
  have e1 : X' 1 = X 1 := eX 1 (by decide)
  have e2 : X' 2 = X 2 := eX 2 (by decide)
  have e7 : X' 7 = X 7 := eX 7 (by decide)
  have e9 : X' 9 = X 9 := eX 9 (by decide)
  have e10 : X' 10 = X 10 := eX 10 (by decide)
  have e11 : X' 11 = X 11 := eX 11 (by decide)
  have e12 : X' 12 = X 12 := eX 12 (by decide)
  have e13 : X' 13 = X 13 := eX 13 (by decide)
  have e15 : X' 15 = X 15 := eX 15 (by decide)
  have e16 : X' 16 = X 16 := eX 16 (by decide)
  have e20 : X' 20 = X 20 := eX 20 (by decide)
  have e22 : X' 22 = X 22 := eX 22 (by decide)
  have e23 : X' 23 = X 23 := eX 23 (by decide)
  have e24 : X' 24 = X 24 := eX 24 (by decide)
  have e25 : X' 25 = X 25 := eX 25 (by decide)
  have e26 : X' 26 = X 26 := eX 26 (by decide)
  have e30 : X' 30 = X 30 := eX 30 (by decide)
  have y40 : Y' 40 0 = Y 40 0 := f2 40 (by decide)
  have y41 : Y' 41 0 = Y 41 0 := f2 41 (by decide)
  have y46 : Y' 46 0 = Y 46 0 := f2 46 (by decide)
  have y47 : Y' 47 0 = Y 47 0 := f2 47 (by decide)
  have y48 : Y' 48 0 = Y 48 0 := f2 48 (by decide)
  have y49 : Y' 49 0 = Y 49 0 := f2 49 (by decide)
  have y50 : Y' 50 0 = Y 50 0 := f2 50 (by decide)
  have y51 : Y' 51 0 = Y 51 0 := f2 51 (by decide)
  have y52 : Y' 52 0 = Y 52 0 := f2 52 (by decide)
  have y53 : Y' 53 0 = Y 53 0 := f2 53 (by decide)
  have y54 : Y' 54 0 = Y 54 0 := f2 54 (by decide)
  have y55 : Y' 55 0 = Y 55 0 := f2 55 (by decide)
  have y56 : Y' 56 0 = Y 56 0 := f2 56 (by decide)
  have y57 : Y' 57 0 = Y 57 0 := f2 57 (by decide)
  have y58 : Y' 58 0 = Y 58 0 := f2 58 (by decide)
  have y59 : Y' 59 0 = Y 59 0 := f2 59 (by decide)
  have y64 : Y' 64 0 = Y 64 0 := f2 64 (by decide)
  have y65 : Y' 65 0 = Y 65 0 := f2 65 (by decide)
  have y66 : Y' 66 0 = Y 66 0 := f2 66 (by decide)
  have y67 : Y' 67 0 = Y 67 0 := f2 67 (by decide)
  have y68 : Y' 68 0 = Y 68 0 := f2 68 (by decide)
  have y71 : Y' 71 0 = Y 71 0 := f2 71 (by decide)
  have y72 : Y' 72 0 = Y 72 0 := f2 72 (by decide)
  have y73 : Y' 73 0 = Y 73 0 := f2 73 (by decide)
  have y74 : Y' 74 0 = Y 74 0 := f2 74 (by decide)
  obtain ⟨ht, hT, hR, hW, hC, hD, hS, hO, hL, hB, hM, hQ, hXb, hP, hG, hU, hH, hE, hZ⟩ := h
  unfold sN sT sR sW sC sD sS sO sL sB sM sMo sQ sQo sG sGo sU sH sHo sE sEo sZ
  rw [e1, e2, e7, e9, e10, e11, e12, e13, e15, e16, e20, e22, e23, e24, e25, e26, e30, y40, y41, y46, y47, y48, y49, y50, y51, y52, y53, y54, y55, y56, y57, y58, y59, y64, y65, y66, y67, y68, y71, y72, y73, y74]
  refine ⟨ht, hT, hR, hW, hC, hD, hS, hO, hL, hB, hM, hQ, ?_, ?_, hG, hU, hH, hE, hZ⟩
  · intro i hi
    by_cases hid : i = d
    · subst hid
      exact ⟨g.1, g.2.1, g.2.2.1, g.2.2.2.1⟩
    · rw [f1 14 i (fun w => hid w.2), (f3 (2 * i) (by omega) (by omega)).1, (f3 (2 * i) (by omega) (by omega)).2, (f3 (2 * i + 1) (by omega) (by omega)).1, (f3 (2 * i + 1) (by omega) (by omega)).2]
      exact hXb i hi
  · intro i hi
    by_cases hid : i = d
    · subst hid
      exact ⟨g.2.2.2.2.1, g.2.2.2.2.2⟩
    · rw [f1 14 i (fun w => hid w.2), (f4 i hid).1, (f4 i hid).2]
      exact hP i hi
theorem ss_home (hR : sR X Y n t) (hW : sW X Y n) (hC : sC X Y n) (hZ : sZ X Y) : ∃ T : Nat, T ≤ 1000 ∧ fX12_trip Y = some (nI T) ∧
    ((Y 40 0 23 = 0 ∧ fX6_frameComesHome X = some (1, pf_up X 7 0 6 (nI (t + T))) ∧ fX12_isLost (pf_up Y 40 0 22 (Y 40 0 22 + nI T)) = (0, pf_up Y 40 0 22 (nI (t + T)))) ∨
     (1 ≤ Y 40 0 23 ∧ fX6_frameComesHome X = some (0, pf_up (pf_up X 7 0 6 (nI (t + T))) 20 0 4 (Y 40 0 23 - 1)) ∧ fX12_isLost (pf_up Y 40 0 22 (Y 40 0 22 + nI T)) = (1, pf_up (pf_up Y 40 0 22 (nI (t + T))) 40 0 23 (Y 40 0 23 - 1)))) := by
  obtain ⟨T, hT, t1, t2⟩ := ss_trip hR hW hC
  obtain ⟨-, -, -, -, hx, hy⟩ := id hR
  obtain ⟨-, z2, z3, z4, -⟩ := id hZ
  refine ⟨T, hT, t2, ?_⟩
  unfold fX6_frameComesHome fX9_passTime fX12_isLost
  rw [t1, hx, hy, nI_add]
  have g1 : pf_up X 7 0 6 (nI (t + T)) 20 0 4 = Y 40 0 23 := z2
  have g2 : pf_up Y 40 0 22 (nI (t + T)) 40 0 23 = Y 40 0 23 := pf_up_j _ _ _ _ _ _ (by decide)
  simp only [Option.bind_some, g1, g2, hx, nI_add]
  by_cases h0 : Y 40 0 23 = 0
  · rw [if_pos h0, if_pos (by grind)]
    exact Or.inl ⟨h0, rfl, rfl⟩
  · rw [if_neg h0, if_neg (by grind)]
    exact Or.inr ⟨by grind, rfl, rfl⟩
theorem sN.home1 (h : sN X Y n t k) {T : Nat} (hT : T ≤ 1000) : sN (pf_up X 7 0 6 (nI (t + T))) (pf_up Y 40 0 22 (nI (t + T))) n (t + T) (k + 1) := by
  obtain ⟨ht, hT, ⟨r1, r2, r3, r4, r5, r6⟩, hW, hC, hD, hS, hO, hr⟩ := h
  exact ⟨by omega, hT, ⟨r1, r2, r3, r4, rfl, rfl⟩, hW, hC, hD, hS, hO.mono (by omega), hr⟩
theorem sN.home2 (h : sN X Y n t k) {T : Nat} (hT : T ≤ 1000) (hz : 1 ≤ Y 40 0 23) : sN (pf_up (pf_up X 7 0 6 (nI (t + T))) 20 0 4 (Y 40 0 23 - 1)) (pf_up (pf_up Y 40 0 22 (nI (t + T))) 40 0 23 (Y 40 0 23 - 1)) n (t + T) (k + 1) := by
  obtain ⟨ht, hT, ⟨r1, r2, r3, r4, r5, r6⟩, hW, hC, hD, hS, hO, hL, hB, hM, hQ, hXb, hP, hG, hU, hH, hE, hZ⟩ := h
  refine ⟨by omega, hT, ⟨r1, r2, r3, r4, rfl, rfl⟩, hW, hC, hD, hS, hO.mono (by omega), hL, hB, hM, hQ, hXb, hP, hG, hU, hH, hE, hZ.1, rfl, ?_, ?_, hZ.2.2.2.2⟩
  · show 0 ≤ Y 40 0 23 - 1
    have q1 := hZ.2.2.1
    have q2 := hZ.2.2.2.1
    grind
  · show Y 40 0 23 - 1 ≤ 9
    have q1 := hZ.2.2.1
    have q2 := hZ.2.2.2.1
    grind
/-- whether the device is talked to -/
theorem ss_reach (hR : sR X Y n t) (hC : sC X Y n) (hS : sS X Y n) (hd : d < n) : (fX9_isReached (nI d) X = some 0 ∧ fX12_isTalkedTo (nI d) Y = some 0) ∨ (fX9_isReached (nI d) X = some 1 ∧ fX12_isTalkedTo (nI d) Y = some 1) := by
  obtain ⟨hn, ⟨hX, hY⟩, -⟩ := id hR
  unfold fX9_isReached fX12_isTalkedTo
  obtain ⟨s1, s2, s3⟩ := hS d hd
  have hf : fX9_find (nI d) X = some (some d) := by
    rcases si_dev hn hX hY (nI d) with ⟨h1, h2⟩ | ⟨e, he, hx, h1, h2⟩
    · exfalso
      unfold fX12_isDevice at h2
      rw [hY, si_0b, show nI n - 1 = nI (n - 1) by rw [show n = (n - 1) + 1 by omega, nI_pred]; rfl, if_pos ⟨Int32.not_lt.mp (nI_pos (by omega)), (nI_leI (by omega) (by omega)).mpr (by omega)⟩] at h2
      exact absurd h2 (by decide)
    · have : d = e := (nI_eq (by omega) (by omega)).mp hx
      rw [h1, this]
  simp only [hf, sx_S hR hC hd, sy_S hR hd, Option.bind_some, s1, si_pin2 (show d < 8 by omega) (by decide), if_true, si_cl (show d < 2 ^ 31 by omega)]
  have hq : qS (Y 50 0) n d = 0 ∨ qS (Y 50 0) n d = 1 ∨ qS (Y 50 0) n d = 2 := by
    unfold qS
    split
    · exact Or.inr (Or.inl rfl)
    · split
      · exact Or.inl rfl
      · exact Or.inr (Or.inr rfl)
  by_cases hs : Y 51 0 d = 0
  · rw [if_pos hs, if_pos (show Y 51 0 d ≤ 0 by grind)]
    refine Or.inl ⟨rfl, ?_⟩
    split <;> rfl
  · rw [if_neg hs, if_neg (show ¬ Y 51 0 d ≤ 0 by grind)]
    rcases hq with hq | hq | hq
    · rw [hq]; exact Or.inl ⟨rfl, rfl⟩
    · rw [hq]; exact Or.inr ⟨rfl, rfl⟩
    · rw [hq]; exact Or.inr ⟨rfl, rfl⟩
theorem ss_give (h : sN X Y n t k) (hd : d < n) : ∃ (a b : Int32) (X1 Y1 : pf_M), fX5_give d X = some (a, X1) ∧ sPo a b ∧ sN X1 Y1 n t k ∧
    (if pf_in (nI d) 8 = true then (if pf_in ((2 : Int32) * nI d) 16 = true then (if pf_in ((2 : Int32) * nI d) 16 = true then (if (Y 61 0 ((2 : Int32) * nI d).toNatClampNeg) = (Y 60 0 ((2 : Int32) * nI d).toNatClampNeg) then jX12_fetch_84 ((2 : Int32) * nI d) (Y 62 0 (nI d).toNatClampNeg) Y
  else (if pf_in ((2 : Int32) * nI d) 16 = true then (if (Y 59 0 ((2 : Int32) * nI d).toNatClampNeg) ≤ (0 : Int32) then jX12_fetch_84 ((2 : Int32) * nI d) (-4 : Int32) Y
  else ((fX12_takesOff ((2 : Int32) * nI d) Y).bind fun q23 => (if pf_in (nI d) 8 = true then (if pf_in ((2 : Int32) * nI d) 16 = true then (if pf_in ((2 : Int32) * nI d) 16 = true then jX12_fetch_84 ((2 : Int32) * nI d) q23.1 (pf_up (pf_up q23.2 62 0 (nI d).toNatClampNeg q23.1) 60 0 ((2 : Int32) * nI d).toNatClampNeg ((pf_up q23.2 62 0 (nI d).toNatClampNeg q23.1) 61 0 ((2 : Int32) * nI d).toNatClampNeg))
  else none) else none) else none))) else none)) else none) else none) else none) = jX12_fetch_84 (nI (2 * d)) b Y1 := by
  obtain ⟨ht, hT, hR, hW, hC, hD, hS, hO, hL, hB, hM, hQ, hXb, hP, hr⟩ := id h
  obtain ⟨hn, -⟩ := id hR
  obtain ⟨x2, x3, x4, x5⟩ := hXb d hd
  obtain ⟨p6, p7⟩ := hP d hd
  obtain ⟨z, z1, z2, z3, z4⟩ := hQ (2 * d) (by omega)
  have e2 : (2 : Int32) * nI d = nI (2 * d) := by rw [show (2 : Int32) = nI 2 from rfl, nI_mul]
  simp only [e2, si_pin2 (show d < 8 by omega) (by decide), si_pin2 (show 2 * d < 16 by omega) (by decide), if_true, si_cl (show d < 2 ^ 31 by omega), si_cl (show 2 * d < 2 ^ 31 by omega), z3]
  unfold fX5_give fX8_size
  rw [x2, x4, z2]
  by_cases hq : Y 61 0 (2 * d) = Y 60 0 (2 * d)
  · rw [if_pos hq, if_pos hq]
    exact ⟨_, _, _, _, rfl, p6, h, rfl⟩
  · rw [if_neg hq, if_neg hq]
    cases z with
    | zero =>
      rw [if_pos nI_0, if_pos (by decide)]
      exact ⟨_, _, _, _, rfl, Or.inl ⟨rfl, rfl⟩, h, rfl⟩
    | succ z =>
      have hm := z4 0 (by omega)
      simp only [Nat.add_zero] at hm
      rw [if_neg (nI_ne0 (by omega) (by omega)), if_neg (fun w => by have := (nI_leI (a := z + 1) (b := 0) (by omega) (by omega)).mp w; omega), sx_take z1 z2, sy_take (show 2 * d < 16 by omega) (show z ≤ 3 by omega) z3]
      simp only [Nat.succ_ne_zero, if_false, Option.bind_some, hm.1, Nat.add_sub_cancel]
      refine ⟨_, Y 58 0 (4 * (2 * d)), _, _, rfl, Or.inr ⟨pf_up_j _ _ _ _ _ _ (by decide) |>.trans (pf_up_s _ _ _ _ _), hm.2⟩, ?_, rfl⟩
      have hN : sN (pf_up (pf_upf X 16 (2 * d) (qR (X 16 (2 * d)) 0 z)) 15 (2 * d) 1 (nI z)) (pf_upf (pf_up Y 59 0 (2 * d) (nI z)) 58 0 (qR (Y 58 0) (4 * (2 * d)) z)) n t k := ⟨ht, hT, hR, hW, hC, hD, hS, hO, hL, hB, hM, hQ.off (by omega) z2 z3, hXb, hP, hr⟩
      refine hN.box hd (fun k i hk => (pf_up_o _ hk).trans (pf_up_o _ hk)) (fun k hk => (pf_up_k _ (by omega)).trans (pf_up_k _ (by omega))) (fun j h1 h2 => ⟨pf_up_j _ _ _ _ _ _ h1, rfl⟩) (fun j h1 => ⟨show upd (Y 62 0) d _ j = Y 62 0 j from upd_n _ _ h1, rfl⟩) ⟨?_, ?_, ?_, ?_, ?_, ?_⟩
      · exact (pf_up_s _ _ _ _ _).trans ((pf_up_j _ _ _ _ _ _ (by decide)).trans (x4.trans (pf_up_s _ _ _ _ _).symm))
      · exact (pf_up_j _ _ _ _ _ _ (by decide)).trans ((pf_up_j _ _ _ _ _ _ (by decide)).trans (x3.trans (pf_up_j _ _ _ _ _ _ (by omega)).symm))
      · exact (pf_up_j _ _ _ _ _ _ (by decide)).trans ((pf_up_j _ _ _ _ _ _ (by decide)).trans x4)
      · exact (pf_up_j _ _ _ _ _ _ (by decide)).trans ((pf_up_j _ _ _ _ _ _ (by decide)).trans x5)
      · refine Or.inr ⟨(pf_up_j _ _ _ _ _ _ (by decide)).trans ((pf_up_s _ _ _ _ _).trans (show _ = upd (Y 62 0) d (Y 58 0 (4 * (2 * d))) d from (upd_s _ _ _).symm)), ?_⟩
        show 1 ≤ upd (Y 62 0) d _ d ∧ upd (Y 62 0) d _ d ≤ 255
        rw [upd_s]
        exact hm.2
      · show sPo (pf_up (pf_up X 14 d 6 _) 14 d 2 _ 14 d 7) (Y 63 0 d)
        rw [pf_up_j _ _ _ _ _ _ (by decide), pf_up_j _ _ _ _ _ _ (by decide)]
        exact p7
theorem sc_fetch (h : sRR X Y k) (x : Int32) : sim k (fX11_fetch x X) (fX12_fetch x Y) := by
  obtain ⟨n, t, h⟩ := h
  obtain ⟨ht, hT, hR, hW, hC, hD, hS, hO, hr⟩ := id h
  obtain ⟨hn, ⟨hX, hY⟩, -⟩ := id hR
  unfold fX11_fetch fX12_fetch
  rcases si_dev hn hX hY x with ⟨h1, h2⟩ | ⟨d, hd, rfl, h1, h2⟩
  · simp only [h1, h2, Option.bind_some, if_true]
    exact sim_same h (-1) rfl rfl
  · rcases ss_reach hR hC hS hd with ⟨g1, g2⟩ | ⟨g1, g2⟩
    · simp only [h1, h2, g1, g2, si_10, if_false, Option.bind_some, if_true]
      exact sim_same h (-2) rfl rfl
    · obtain ⟨a, b, X1, Y1, w1, w2, w3, w4⟩ := ss_give h hd
      simp only [h1, h2, g1, g2, si_10, if_false, Option.bind_some, w1]
      rw [w4]
      obtain ⟨ht', hT', hR', hW', hC', hD', hS', hO', hL', hB', hM', hQ', hXb', hP', hG', hU', hH', hE', hZ'⟩ := id w3
      obtain ⟨T, hT2, v1, hv⟩ := ss_home hR' hW' hC' hZ'
      unfold jX12_fetch_84
      rcases hv with ⟨q1, q2, q3⟩ | ⟨q1, q2, q3⟩
      · simp only [v1, q2, q3, Option.bind_some, si_10, if_false, if_true, si_pin2 (show 2 * d < 16 by omega) (by decide), si_cl (show 2 * d < 2 ^ 31 by omega)]
        unfold jX12_fetch_135
        simp only [si_pin2 (show 2 * d < 16 by omega) (by decide), si_cl (show 2 * d < 2 ^ 31 by omega), if_true]
        rcases w2 with ⟨rfl, rfl⟩ | ⟨rfl, u1, u2⟩
        · simp only [if_true]
          rw [pf_up_self]
          exact sim_mk rfl rfl rfl ⟨n, _, w3.home1 hT2⟩
        · rw [if_neg (fun w => by rw [w] at u1; exact absurd u1 (by decide)), if_neg (fun w => by rw [w] at u1; exact absurd u1 (by decide))]
          have hN := w3.home1 hT2
          refine sim_mk rfl rfl rfl ⟨n, t + T, ?_⟩
          unfold fX5_confirmGiven
          obtain ⟨x2, x3, x4, x5⟩ := hXb' d hd
          obtain ⟨p6, p7⟩ := hP' d hd
          refine hN.box hd (fun k i hk => pf_up_o _ hk) (fun k hk => pf_up_k _ (by omega)) (fun j h1 h2 => ⟨rfl, pf_up_j _ _ _ _ _ _ h1⟩) (fun j h1 => ⟨rfl, rfl⟩) ⟨?_, ?_, ?_, ?_, ?_, ?_⟩
          · exact (pf_up_j _ _ _ _ _ _ (by decide)).trans x2
          · exact (pf_up_j _ _ _ _ _ _ (by decide)).trans x3
          · rw [pf_up_s, pf_up_s]
            show 1 - X1 14 d 4 = 1 - Y1 61 0 (2 * d)
            rw [x4]
          · exact (pf_up_j _ _ _ _ _ _ (by decide)).trans (x5.trans (pf_up_j _ _ _ _ _ _ (by omega)).symm)
          · rw [pf_up_j _ _ _ _ _ _ (by decide)]; exact p6
          · rw [pf_up_j _ _ _ _ _ _ (by decide)]; exact p7
      · simp only [v1, q2, q3, Option.bind_some, si_10, if_false, if_true]
        exact sim_mk rfl rfl rfl ⟨n, _, w3.home2 hT2 q1⟩
end
