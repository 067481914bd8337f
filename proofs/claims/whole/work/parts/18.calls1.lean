def sim (k : Nat) (F G : Option (Int32 × pf_M)) : Prop := ∃ (r : Int32) (X' Y' : pf_M), F = some (r, X') ∧ G = some (r, Y') ∧ sRR X' Y' (k + 1)
theorem si_10 : ((1 : Int32) = 0) = False := eq_false (by decide)
theorem si_00 : ((0 : Int32) = 0) = True := eq_self _
def simP (F G : Option Int32) : Prop := ∃ r : Int32, F = some r ∧ G = some r
theorem sim_same {k : Nat} {X Y : pf_M} {n t : Nat} (h : sN X Y n t k) (r : Int32) {F G : Option (Int32 × pf_M)} (hF : F = some (r, X)) (hG : G = some (r, Y)) : sim k F G := ⟨r, X, Y, hF, hG, n, t, h.next⟩
theorem sim_mk {k : Nat} {F G : Option (Int32 × pf_M)} {r r' : Int32} {X' Y' : pf_M} (hF : F = some (r, X')) (hG : G = some (r', Y')) (hr : r = r') (h : sRR X' Y' (k + 1)) : sim k F G := ⟨r, X', Y', hF, by rw [hG, hr], h⟩
section
variable {X Y : pf_M} {n t k : Nat}
theorem si_nar (x : Int32) (h0 : 0 ≤ x) (h1 : x ≤ 126) : vp_nar .char ((x.toUInt32 % 65536).toInt32) = x := by
  have a0 : ((0 : Int32)).toInt = 0 := rfl
  have a1 : ((126 : Int32)).toInt = 126 := rfl
  rw [Int32.le_iff_toInt_le] at h0 h1
  have e : (x.toUInt32 % 65536).toInt32 = x := lg_i2c_word (by omega) (by omega)
  rw [e]
  exact e
theorem sc_write (h : sRR X Y k) (x : Int32) : sim k (fX11_write x X) (fX12_write x Y) := by
  obtain ⟨n, t, h⟩ := h
  obtain ⟨ht, ⟨L, hL, hX, hY, hT⟩, hr⟩ := id h
  unfold fX11_write fX12_write
  rw [si_wi, si_32_126]
  by_cases hc : (32 : Int32) ≤ x ∧ x ≤ 126
  · simp only [if_pos hc, si_10, if_false]
    unfold fX10_append fX10_length
    rw [hX, hY, show (200 : Int32) = nI 200 from rfl]
    by_cases h2 : L < 200
    · have q1 : nI L < nI 200 := (nI_ltI (by omega) (by omega)).mpr h2
      have q2 : ¬ nI L = nI 200 := fun q => by have := (nI_eq (by omega) (by omega)).mp q; omega
      simp only [if_pos q1, if_neg q2, si_pin2 h2 (by decide), if_true, si_cl (show L < 2 ^ 31 by omega), Option.bind_some, si_10, if_false]
      rw [si_nar x (by have := hc.1; grind) hc.2]
      have g1 : X 1 0 5 + 1 = nI (L + 1) := by rw [hX, nI_1]
      have g2 : Y 40 0 0 + 1 = nI (L + 1) := by rw [hY, nI_1]
      refine sim_mk rfl rfl (g1.trans g2.symm) ⟨n, t, by omega, ⟨L + 1, by omega, g1, g2, ?_⟩, hr.1, hr.2.1, hr.2.2.1, hr.2.2.2.1, hr.2.2.2.2.1, hr.2.2.2.2.2.1.mono (by omega), hr.2.2.2.2.2.2⟩
      · intro j hj
        show upd (X 2 0) L x j = upd (Y 41 0) L x j ∧ 32 ≤ upd (Y 41 0) L x j ∧ upd (Y 41 0) L x j ≤ 126
        by_cases hjL : j = L
        · subst hjL
          rw [upd_s, upd_s]
          exact ⟨rfl, hc⟩
        · rw [upd_n _ _ hjL, upd_n _ _ hjL]
          exact hT j (by omega)
    · have hL2 : L = 200 := by omega
      subst hL2
      simp only [Int32.lt_irrefl, if_false, if_true, Option.bind_some]
      exact sim_same h (-3) rfl rfl
  · simp only [if_neg hc, if_true]
    exact sim_same h (-1) rfl rfl
theorem sc_wipe (h : sRR X Y k) : (fX11_wipe X).1 = (fX12_wipe Y).1 ∧ sRR (fX11_wipe X).2 (fX12_wipe Y).2 (k + 1) := by
  obtain ⟨n, t, h⟩ := h
  obtain ⟨ht, ⟨L, hL, hX, hY, hT⟩, hr⟩ := id h
  refine ⟨hX.trans hY.symm, n, t, by omega, ⟨0, by omega, rfl, rfl, fun j hj => by omega⟩, hr.1, hr.2.1, hr.2.2.1, hr.2.2.2.1, hr.2.2.2.2.1, hr.2.2.2.2.2.1.mono (by omega), hr.2.2.2.2.2.2⟩
theorem sc_device (h : sRR X Y k) (x y : Int32) : simP (fX11_device x y X) (fX12_device x y Y) := by
  obtain ⟨n, t, h⟩ := h
  obtain ⟨ht, hT, hR, hW, hC, hD, hS, -⟩ := id h
  obtain ⟨hn, ⟨hX, hY⟩, -⟩ := id hR
  unfold fX11_device fX12_device
  rcases si_dev hn hX hY x with ⟨h1, h2⟩ | ⟨d, hd, rfl, h1, h2⟩
  · rw [h1, h2]
    exact ⟨_, rfl, rfl⟩
  · obtain ⟨⟨e1, -⟩, ⟨e2, -⟩, e3, -⟩ := hD d hd
    simp only [h1, h2, si_10, if_false, Option.bind_some, si_0_5, si_z, sx_wt hn.2 hX (Nat.le_of_lt hd), sx_S hR hC hd, sy_S hR hd, (hW d (Nat.le_of_lt hd)).1, si_pin2 (show d < 8 by omega) (by decide), si_pin2 (show d < 9 by omega) (by decide), if_true, si_cl (show d < 2 ^ 31 by omega), e1, e2, e3, (hS d hd).1]
    by_cases hy : (0 : Int32) ≤ y ∧ y ≤ 5
    · simp only [if_neg (not_not_intro hy)]
      obtain ⟨j, hj, rfl⟩ := nI_of2 (M := 5) (n := 5) (by decide) (Int32.not_lt.mpr hy.1) hy.2
      match j, hj with
      | 0, _ => exact ⟨_, rfl, rfl⟩
      | 1, _ => exact ⟨_, rfl, rfl⟩
      | 2, _ => exact ⟨_, rfl, rfl⟩
      | 3, _ => exact ⟨_, rfl, rfl⟩
      | 4, _ => exact ⟨_, rfl, rfl⟩
      | 5, _ => exact ⟨_, rfl, rfl⟩
    · have hne : ∀ c : Int32, 0 ≤ c → c ≤ 5 → ¬ y = c := fun c h1 h2 q => hy (q ▸ ⟨h1, h2⟩)
      simp only [if_pos hy, if_neg (hne 0 (by decide) (by decide)), if_neg (hne 1 (by decide) (by decide)), if_neg (hne 2 (by decide) (by decide)), if_neg (hne 3 (by decide) (by decide)), if_neg (hne 4 (by decide) (by decide)), if_neg (hne 5 (by decide) (by decide))]
      exact ⟨_, rfl, rfl⟩
/-- bytes 0 to 3 and any later byte of one device may be set anew -/
theorem sB.upf (hB : sB X Y n) (d : Nat) (g : Nat → Int32) (hg : d < n → ∀ b, 4 ≤ b → b < 16 → g b = Y 52 0 (16 * d + b)) : sB (pf_upf X 12 d g) Y n := by
  intro d' hd' b h1 h2
  by_cases hdd : d' = d
  · subst hdd
    rw [pf_upf_s]
    exact hg hd' b h1 h2
  · rw [pf_upf_n _ _ _ _ _ hdd]
    exact hB d' hd' b h1 h2
theorem sc_memory (h : sRR X Y k) (hk : k ≤ 512) (x y : Int32) : ∃ (r : Int32) (X' : pf_M), fX11_memory x y X = some (r, X') ∧ fX12_memory x y Y = some r ∧ sRR X' Y (k + 1) := by
  obtain ⟨n, t, h⟩ := h
  obtain ⟨ht, hT, hR, hW, hC, hD, hS, hO, hL, hB, hr⟩ := id h
  obtain ⟨hn, ⟨hX, hY⟩, -, -, hx, hy⟩ := id hR
  unfold fX11_memory fX12_memory
  rcases si_dev hn hX hY x with ⟨h1, h2⟩ | ⟨d, hd, rfl, h1, h2⟩
  · rw [h1, h2]
    exact ⟨_, _, rfl, rfl, n, t, h.next⟩
  · simp only [h1, h2, si_10, if_false, Option.bind_some, si_0_15, si_wi, si_z]
    by_cases hb : (0 : Int32) ≤ y ∧ y ≤ 15
    · obtain ⟨b, hb1, rfl⟩ := nI_of2 (M := 15) (n := 15) (by decide) (Int32.not_lt.mpr hb.1) hb.2
      obtain ⟨g, hg1, hg2⟩ := sx_show hD hO (by omega) hS hB hd (T := t) (by omega)
      unfold fX9_time
      simp only [if_neg (not_not_intro hb), hx, hy, sy_byte hD hn.2 hO (show k ≤ 600 by omega) hd (show t ≤ 7000000 by omega) (show b < 16 by omega), hg1, Option.bind_some, si_pin2 (show b < 16 by omega) (by decide), if_true, si_cl (show b < 2 ^ 31 by omega), pf_upf_s, hg2 b (show b < 16 by omega)]
      refine ⟨_, _, rfl, rfl, n, t, by omega, hT, hR, hW, hC, hD, hS, hO.mono (by omega), hL, hB.upf d g (fun _ b h1 h2 => ?_), hr⟩
      rw [hg2 b h2]
      obtain ⟨b, rfl⟩ : ∃ c, b = c + 4 := ⟨b - 4, by omega⟩
      rfl
    · simp only [if_pos hb]
      exact ⟨_, _, rfl, rfl, n, t, h.next⟩
theorem sc_own (h : sRR X Y k) (x y z : Int32) : sim k (fX11_own x y z X) (fX12_own x y z Y) := by
  obtain ⟨n, t, h⟩ := h
  obtain ⟨ht, hT, hR, hW, hC, hD, hS, hO, hL, hB, hr⟩ := id h
  obtain ⟨hn, ⟨hX, hY⟩, -⟩ := id hR
  unfold fX11_own fX12_own fX11_isByte
  rcases si_dev hn hX hY x with ⟨h1, h2⟩ | ⟨d, hd, rfl, h1, h2⟩
  · rw [h1, h2]
    exact sim_same h (-1) rfl rfl
  · simp only [h1, h2, si_10, if_false, si_4_15, si_0_255, si_wi, Option.bind_some, si_z]
    by_cases hb : (4 : Int32) ≤ y ∧ y ≤ 15
    · by_cases hz : (0 : Int32) ≤ z ∧ z ≤ 255
      · obtain ⟨b, hb1, rfl⟩ := nI_of2 (M := 15) (n := 15) (by decide) (Int32.not_lt.mpr (by have := hb.1; grind)) hb.2
        have hb4 : 4 ≤ b := (nI_leI (a := 4) (by omega) (by omega)).mp hb.1
        have e16 : (16 : Int32) * nI d + nI b = nI (16 * d + b) := by rw [show (16 : Int32) = nI 16 from rfl, nI_mul, nI_add]
        simp only [if_neg (not_not_intro hb), if_neg (not_not_intro hz), e16, si_pin2 (show b < 16 by omega) (by decide), si_pin2 (show 16 * d + b < 128 by omega) (by decide), if_true, si_cl (show b < 2 ^ 31 by omega), si_cl (show 16 * d + b < 2 ^ 31 by omega), hB d hd b hb4 (show b < 16 by omega)]
        refine ⟨_, _, _, rfl, rfl, n, t, by omega, hT, hR, hW, hC, hD, hS, hO.mono (by omega), hL, ?_, hr⟩
        intro d' hd' b' hb5 hb6
        show pf_up X 12 d b z 12 d' b' = upd (Y 52 0) (16 * d + b) z (16 * d' + b')
        by_cases hdd : d' = d
        · subst hdd
          by_cases hbb : b' = b
          · subst hbb
            rw [pf_up_s, upd_s]
          · rw [pf_up_j _ _ _ _ _ _ hbb, upd_n _ _ (by omega)]
            exact hB d' hd' b' hb5 hb6
        · rw [pf_up_i _ _ _ _ _ _ hdd, upd_n _ _ (by omega)]
          exact hB d' hd' b' hb5 hb6
      · simp only [if_neg (not_not_intro hb), if_pos hz]
        exact sim_same h (-1) rfl rfl
    · simp only [if_pos hb]
      exact sim_same h (-1) rfl rfl
theorem sc_lose (h : sRR X Y k) (x : Int32) : (fX11_lose x X).1 = (fX12_lose x Y).1 ∧ sRR (fX11_lose x X).2 (fX12_lose x Y).2 (k + 1) := by
  obtain ⟨n, t, h⟩ := h
  obtain ⟨ht, hT, hR, hW, hC, hD, hS, hO, hL, hB, hM, hQ, hXb, hP, hG, hU, hH, hE, hZ⟩ := id h
  unfold fX11_lose fX12_lose fX6_replaceLosses
  rw [si_wi, si_0_9]
  by_cases hc : (0 : Int32) ≤ x ∧ x ≤ 9
  · simp only [if_pos hc, si_10, if_false]
    exact ⟨hZ.2.1, n, t, by omega, hT, hR, hW, hC, hD, hS, hO.mono (by omega), hL, hB, hM, hQ, hXb, hP, hG, hU, hH, hE, hZ.1, rfl, hc.1, hc.2, hZ.2.2.2.2⟩
  · simp only [if_neg hc, if_true]
    exact ⟨trivial, n, t, h.next⟩
theorem sc_cut (h : sRR X Y k) (x y : Int32) : sim k (fX11_cut x y X) (fX12_cut x y Y) := by
  obtain ⟨n, t, h⟩ := h
  obtain ⟨ht, hT, hR, hW, hC, hD, hS, hO, hr⟩ := id h
  obtain ⟨hn, ⟨hX, hY⟩, -⟩ := id hR
  unfold fX11_cut fX12_cut fX9_size
  simp only [hX, hY, si_0b, si_0_1, si_wi, si_z]
  by_cases hx : (0 : Int32) ≤ x ∧ x ≤ nI n
  · by_cases hy : (0 : Int32) ≤ y ∧ y ≤ 1
    · obtain ⟨w, hw, rfl⟩ := nI_of2 (M := nI n) (n := n) (nI_toInt (by omega)) (Int32.not_lt.mpr hx.1) hx.2
      unfold fX9_changeWire
      simp only [if_neg (not_not_intro hx), if_neg (not_not_intro hy), hX, if_neg (nI_pos (show w < 2 ^ 31 by omega)), if_neg (Int32.not_lt.mpr hx.2), si_pin2 (show w < 9 by omega) (by decide), si_cl (show w < 2 ^ 31 by omega), (hC w hw).1, if_true]
      by_cases he : Y 50 0 w = y
      · simp only [if_pos he, Option.bind_some, if_true]
        exact sim_same h (-2) rfl rfl
      · simp only [if_neg he, Option.bind_some, si_10, if_false]
        have hy2 : y = 0 ∨ y = 1 := by
          obtain ⟨j, hj, rfl⟩ := nI_of2 (M := 1) (n := 1) (by decide) (Int32.not_lt.mpr hy.1) hy.2
          match j, hj with
          | 0, _ => exact Or.inl rfl
          | 1, _ => exact Or.inr rfl
        have hC' : sC (pf_up X 10 0 w y) (pf_up Y 50 0 w y) n := by
          intro v hv
          by_cases hvw : v = w
          · subst hvw
            rw [pf_up_s, pf_up_s]
            exact ⟨rfl, hy2⟩
          · rw [pf_up_j _ _ _ _ _ _ hvw, pf_up_j _ _ _ _ _ _ hvw]
            exact hC v hv
        rw [sx_N (X := pf_up X 10 0 w y) hn.2 hX (fun v hv => by rw [(hC' v hv).1]; exact (hC' v hv).2), sy_N (Y := pf_up Y 50 0 w y) hn.2 hY (fun v hv => (hC' v hv).2)]
        refine sim_mk rfl rfl ?_ ⟨n, t, by omega, hT, hR, hW, hC', hD, hS, hO.mono (by omega), hr⟩
        rw [qN_congr (c := pf_up X 10 0 w y 10 0) (c' := pf_up Y 50 0 w y 50 0) (n + 1) 0 (fun v _ h2 => (hC' v (by omega)).1)]
    · simp only [if_neg (not_not_intro hx), if_pos hy]
      exact sim_same h (-1) rfl rfl
  · simp only [if_pos hx]
    exact sim_same h (-1) rfl rfl
end
