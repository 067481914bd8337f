section
variable {X Y : pf_M} {n t k : Nat}
theorem si_po {a b : Int32} (h : sPo a b) : (if a = 0 then -4 else a) = b := by
  rcases h with ⟨rfl, rfl⟩ | ⟨rfl, h1, h2⟩
  · rfl
  · rw [if_neg (fun w => by rw [w] at h1; exact absurd h1 (by decide))]
theorem sy_b64 {d j : Nat} (h : 2 * d + j < 16) : jX12_box_64 (nI d) (nI j) Y = some (Y 59 0 (2 * d + j)) := by
  unfold jX12_box_64
  rw [show (2 : Int32) = nI 2 from rfl, nI_mul, nI_add, si_pin2 h (by decide), if_pos rfl, si_cl (by omega)]
theorem sy_b75 {d j : Nat} (h : 2 * d + j < 16) : jX12_box_75 (nI d) (nI (j + 2)) Y = some (Y 60 0 (2 * d + j)) := by
  unfold jX12_box_75
  rw [show (2 : Int32) = nI 2 from rfl, nI_mul, nI_add, nI_subI (by omega), show 2 * d + (j + 2) - 2 = 2 * d + j by omega, si_pin2 h (by decide), if_pos rfl, si_cl (by omega)]
theorem sy_b88 {d j : Nat} (h : 2 * d + j < 16) : jX12_box_88 (nI d) (nI (j + 4)) Y = some (Y 61 0 (2 * d + j)) := by
  unfold jX12_box_88
  rw [show (4 : Int32) = nI 4 from rfl, show (2 : Int32) = nI 2 from rfl, nI_mul, nI_add, nI_subI (by omega), show 2 * d + (j + 4) - 4 = 2 * d + j by omega, si_pin2 h (by decide), if_pos rfl, si_cl (by omega)]
theorem sc_box (h : sRR X Y k) (x y : Int32) : simP (fX11_box x y X) (fX12_box x y Y) := by
  obtain ⟨n, t, h⟩ := h
  obtain ⟨ht, hT, hR, hW, hC, hD, hS, hO, hL, hB, hM, hQ, hXb, hP, hr⟩ := id h
  obtain ⟨hn, ⟨hX, hY⟩, -⟩ := id hR
  unfold fX11_box fX12_box
  rcases si_dev hn hX hY x with ⟨h1, h2⟩ | ⟨d, hd, rfl, h1, h2⟩
  · rw [h1, h2]
    exact ⟨_, rfl, rfl⟩
  · obtain ⟨z0, -, a1, a2, -⟩ := hQ (2 * d) (by omega)
    obtain ⟨z1, -, b1, b2, -⟩ := hQ (2 * d + 1) (by omega)
    obtain ⟨x2, x3, x4, x5⟩ := hXb d hd
    obtain ⟨p6, p7⟩ := hP d hd
    simp only [h1, h2, si_10, if_false, Option.bind_some, si_0_7, si_wi, si_z]
    by_cases hy : (0 : Int32) ≤ y ∧ y ≤ 7
    · simp only [if_neg (not_not_intro hy)]
      obtain ⟨j, hj, rfl⟩ := nI_of2 (M := 7) (n := 7) (by decide) (Int32.not_lt.mpr hy.1) hy.2
      match j, hj with
      | 0, _ => exact ⟨nI z0, congrArg some a1, (sy_b64 (j := 0) (by omega)).trans (congrArg some a2)⟩
      | 1, _ => exact ⟨nI z1, congrArg some b1, (sy_b64 (j := 1) (by omega)).trans (congrArg some b2)⟩
      | 2, _ => exact ⟨_, congrArg some x2, (sy_b75 (j := 0) (by omega))⟩
      | 3, _ => exact ⟨_, congrArg some x3, (sy_b75 (j := 1) (by omega))⟩
      | 4, _ => exact ⟨_, congrArg some x4, (sy_b88 (j := 0) (by omega))⟩
      | 5, _ => exact ⟨_, congrArg some x5, (sy_b88 (j := 1) (by omega))⟩
      | 6, _ => 
        refine ⟨Y 62 0 d, congrArg some (si_po p6), ?_⟩
        show (if pf_in (nI d) 8 = true then some (Y 62 0 (nI d).toNatClampNeg) else none) = _
        rw [si_pin2 (by omega) (by decide), if_pos rfl, si_cl (by omega)]
      | 7, _ => 
        refine ⟨Y 63 0 d, congrArg some (si_po p7), ?_⟩
        show (if pf_in (nI d) 8 = true then some (Y 63 0 (nI d).toNatClampNeg) else none) = _
        rw [si_pin2 (by omega) (by decide), if_pos rfl, si_cl (by omega)]
    · simp only [if_pos hy]
      exact ⟨_, rfl, rfl⟩
theorem sc_later (h : sRR X Y k) (x : Int32) : (fX11_later x X).1 = (fX12_later x Y).1 ∧ sRR (fX11_later x X).2 (fX12_later x Y).2 (k + 1) := by
  obtain ⟨n, t, h⟩ := h
  obtain ⟨ht, hT, hR, hW, hC, hD, hS, hO, hr⟩ := id h
  obtain ⟨hn, ⟨hX, hY⟩, hR1, hR2, hx, hy⟩ := id hR
  unfold fX11_later fX12_later fX9_passTime fX9_time
  rw [si_wi, si_1_9999]
  by_cases hc : (1 : Int32) ≤ x ∧ x ≤ 9999
  · simp only [if_pos hc, si_10, if_false]
    obtain ⟨j, hj, rfl⟩ := nI_of2 (M := 9999) (n := 9999) (by decide) (Int32.not_lt.mpr (by have := hc.1; grind)) hc.2
    have g1 : X 7 0 6 + nI j = nI (t + j) := by rw [hx, nI_add]
    have g2 : Y 40 0 22 + nI j = nI (t + j) := by rw [hy, nI_add]
    exact ⟨g1.trans g2.symm, n, t + j, by omega, hT, ⟨hn, ⟨hX, hY⟩, hR1, hR2, g1, g2⟩, hW, hC, hD, hS, hO.mono (by omega), hr⟩
  · simp only [if_neg hc, if_true]
    exact ⟨trivial, n, t, h.next⟩
theorem si_t32 {a : Int32} {b : Int64} {v : Int} (ha : a.toInt = v) (hb : b.toInt = v) : b.toInt32 = a := by
  rw [← Int32.toInt_inj, Int64.toInt_toInt32, hb, ← ha]
  have h1 := a.le_toInt
  have h2 := a.toInt_lt
  exact Int.bmod_eq_of_le (by omega) (by omega)
theorem sc_clock (h : sRR X Y k) (hk : k ≤ 512) (x y : Int32) : simP (fX11_clock x y X) (fX12_clock x y Y) := by
  obtain ⟨n, t, h⟩ := h
  obtain ⟨ht, hT, hR, hW, hC, hD, hS, hO, hL, hr⟩ := id h
  obtain ⟨hn, ⟨hX, hY⟩, -, -, hx, hy⟩ := id hR
  unfold fX11_clock fX12_clock
  rcases si_dev hn hX hY x with ⟨h1, h2⟩ | ⟨d, hd, rfl, h1, h2⟩
  · rw [h1, h2]
    exact ⟨_, rfl, rfl⟩
  · obtain ⟨a, a1, a2⟩ := sx_own hD hd (T := t) (by omega)
    obtain ⟨b, b1, b2⟩ := sy_own hD hn.2 hd (T := t) (by omega)
    obtain ⟨c, c1, c2⟩ := sx_sys hD hO (by omega) hd (T := t) (by omega)
    obtain ⟨e, e1, e2⟩ := sy_sys hD hn.2 hO (by omega) hd (T := t) (by omega)
    unfold fX9_time
    simp only [h1, h2, si_10, if_false, Option.bind_some, si_0_3, si_z, hx, hy, a1, b1, c1, e1, si_t32 a2 b2, si_t32 c2 e2, si_pin2 (show d < 8 by omega) (by decide), if_true, si_cl (show d < 2 ^ 31 by omega), (hO d hd).1, (hL d hd).1]
    by_cases hc : (0 : Int32) ≤ y ∧ y ≤ 3
    · simp only [if_neg (not_not_intro hc)]
      obtain ⟨j, hj, rfl⟩ := nI_of2 (M := 3) (n := 3) (by decide) (Int32.not_lt.mpr hc.1) hc.2
      match j, hj with
      | 0, _ => exact ⟨_, rfl, rfl⟩
      | 1, _ => exact ⟨_, rfl, rfl⟩
      | 2, _ => exact ⟨_, rfl, rfl⟩
      | 3, _ => exact ⟨_, rfl, rfl⟩
    · have hne : ∀ c : Int32, 0 ≤ c → c ≤ 3 → ¬ y = c := fun c h1 h2 q => hc (q ▸ ⟨h1, h2⟩)
      simp only [if_pos hc, if_neg (hne 0 (by decide) (by decide)), if_neg (hne 1 (by decide) (by decide)), if_neg (hne 2 (by decide) (by decide)), if_neg (hne 3 (by decide) (by decide))]
      exact ⟨_, rfl, rfl⟩
theorem sc_count (h : sRR X Y k) (x : Int32) : simP (fX11_count x X) (fX12_count x Y) := by
  obtain ⟨n, t, h⟩ := h
  obtain ⟨ht, ⟨L, hL, hLX, hLY, -⟩, hR, hW, hC, hD, hS, hO, hL, hB, hM, hQ, hXb, hP, hG, hU, hH, hE, hZ⟩ := id h
  obtain ⟨hn, ⟨hX, hY⟩, hR1, hR2, hx, hy⟩ := id hR
  obtain ⟨z, -, e1, e2, -⟩ := id hE
  obtain ⟨z1, z2, -⟩ := id hZ
  obtain ⟨T, -, t1, t2⟩ := ss_trip hR hW hC
  have hN : qN (X 10 0) 0 (n + 1) = qN (Y 50 0) 0 (n + 1) := qN_congr (n + 1) 0 (fun v _ h2 => (hC v (by omega)).1)
  unfold fX11_count fX12_count fX9_sizeOfB fX9_size fX9_time fX6_shortOnes fX6_rememberedOnes fX6_framesToLose fX4_size fX10_length fX9_pass fX9_turn
  simp only [sx_N (X := X) hn.2 hX (fun v hv => by rw [(hC v hv).1]; exact (hC v hv).2), sy_N (Y := Y) hn.2 hY (fun v hv => (hC v hv).2), sx_A hn.2 hX, sy_A hn.2 hY, sx_B hn.2 hX, sy_B hn.2 hY, ss_A hR hC, ss_B hR hC, hX, hY, Option.bind_some, sx_wt hn.2 hX (Nat.le_refl n), (hW n (Nat.le_refl n)).1, t1, t2, e1, e2, z1, z2, hLX, hLY, hx, hy, hR1.1, hR2.1, si_pin2 (show n < 9 by omega) (by decide), if_true, si_cl (show n < 2 ^ 31 by omega), hN]
  by_cases hc : (0 : Int32) ≤ x ∧ x ≤ 12
  · obtain ⟨j, hj, rfl⟩ := nI_of2 (M := 12) (n := 12) (by decide) (Int32.not_lt.mpr hc.1) hc.2
    match j, hj with
    | 0, _ => exact ⟨_, rfl, rfl⟩
    | 1, _ => exact ⟨_, rfl, rfl⟩
    | 2, _ => exact ⟨_, rfl, rfl⟩
    | 3, _ => exact ⟨_, rfl, rfl⟩
    | 4, _ => exact ⟨_, rfl, rfl⟩
    | 5, _ => exact ⟨_, rfl, rfl⟩
    | 6, _ => exact ⟨_, rfl, rfl⟩
    | 7, _ => exact ⟨_, rfl, rfl⟩
    | 8, _ => exact ⟨_, rfl, rfl⟩
    | 9, _ => exact ⟨_, rfl, rfl⟩
    | 10, _ => exact ⟨_, rfl, rfl⟩
    | 11, _ => exact ⟨_, rfl, rfl⟩
    | 12, _ => exact ⟨_, rfl, rfl⟩
  · have hne : ∀ c : Int32, 0 ≤ c → c ≤ 12 → ¬ x = c := fun c h1 h2 q => hc (q ▸ ⟨h1, h2⟩)
    simp only [if_neg (hne 0 (by decide) (by decide)), if_neg (hne 1 (by decide) (by decide)), if_neg (hne 2 (by decide) (by decide)), if_neg (hne 3 (by decide) (by decide)), if_neg (hne 4 (by decide) (by decide)), if_neg (hne 5 (by decide) (by decide)), if_neg (hne 6 (by decide) (by decide)), if_neg (hne 7 (by decide) (by decide)), if_neg (hne 8 (by decide) (by decide)), if_neg (hne 9 (by decide) (by decide)), if_neg (hne 10 (by decide) (by decide)), if_neg (hne 11 (by decide) (by decide)), if_neg (hne 12 (by decide) (by decide))]
    exact ⟨_, rfl, rfl⟩
theorem sQ.zero (hQ : sQ X Y n) {d : Nat} (g : Nat → Int32) (h0 : g (2 * d) = 0) (h1 : g (2 * d + 1) = 0) (hg : ∀ j, j ≠ 2 * d → j ≠ 2 * d + 1 → g j = Y 59 0 j) {X' Y' : pf_M} (hX' : ∀ q, X' 15 q 1 = if q = 2 * d ∨ q = 2 * d + 1 then 0 else X 15 q 1) (hX2 : X' 16 = X 16) (hY' : Y' 59 0 = g) (hY2 : Y' 58 = Y 58) : sQ X' Y' n := by
  intro q hq
  obtain ⟨z, a1, a2, a3, a4⟩ := hQ q hq
  by_cases hqd : q = 2 * d ∨ q = 2 * d + 1
  · refine ⟨0, by omega, ?_, ?_, fun j hj => by omega⟩
    · rw [hX', if_pos hqd]; rfl
    · rw [hY']
      rcases hqd with rfl | rfl
      · exact h0
      · exact h1
  · refine ⟨z, a1, ?_, ?_, fun j hj => ?_⟩
    · rw [hX', if_neg hqd]; exact a2
    · rw [hY', hg q (by omega) (by omega)]; exact a3
    · rw [hX2, hY2]; exact a4 j hj
end
