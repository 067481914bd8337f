section
variable {X Y : pf_M} {n t k : Nat}
theorem sQ.app (hQ : sQ X Y n) {q z : Nat} (hz : z < 4) {v : Int32} (hv : 1 ≤ v ∧ v ≤ 255) (hX : X 15 q 1 = nI z) (hY : Y 59 0 q = nI z) : sQ (pf_up (pf_up X 16 q z v) 15 q 1 (nI (z + 1))) (pf_up (pf_up Y 58 0 (4 * q + z) v) 59 0 q (nI (z + 1))) n := by
  intro r hr
  obtain ⟨z', h1, h2, h3, h4⟩ := hQ r hr
  by_cases hrq : r = q
  · subst hrq
    have hzz : z' = z := (nI_eq (by omega) (by omega)).mp (h2.symm.trans hX)
    subst hzz
    refine ⟨z' + 1, by omega, pf_up_s _ _ _ _ _, pf_up_s _ _ _ _ _, fun j hj => ?_⟩
    show pf_up X 16 r z' v 16 r j = upd (Y 58 0) (4 * r + z') v (4 * r + j) ∧ 1 ≤ upd (Y 58 0) (4 * r + z') v (4 * r + j) ∧ upd (Y 58 0) (4 * r + z') v (4 * r + j) ≤ 255
    by_cases hjz : j = z'
    · subst hjz
      rw [pf_up_s, upd_s]
      exact ⟨rfl, hv⟩
    · rw [pf_up_j _ _ _ _ _ _ hjz, upd_n _ _ (by omega)]
      exact h4 j (by omega)
  · refine ⟨z', h1, ?_, ?_, fun j hj => ?_⟩
    · rw [pf_up_i _ _ _ _ _ _ hrq]
      exact h2
    · show upd (Y 59 0) q _ r = _
      rw [upd_n _ _ hrq]
      exact h3
    · show pf_up X 16 q z v 16 r j = upd (Y 58 0) (4 * q + z) v (4 * r + j) ∧ 1 ≤ upd (Y 58 0) (4 * q + z) v (4 * r + j) ∧ upd (Y 58 0) (4 * q + z) v (4 * r + j) ≤ 255
      rw [pf_up_i _ _ _ _ _ _ hrq, upd_n _ _ (by omega)]
      exact h4 j hj
theorem sx_app {q z : Nat} (hz : z ≤ 4) (hX : X 15 q 1 = nI z) (v : Int32) : fX8_append q v X = some (if z < 4 then (1, pf_up (pf_up X 16 q z v) 15 q 1 (nI (z + 1))) else (0, X)) := by
  unfold fX8_append
  rw [hX, show (4 : Int32) = nI 4 from rfl]
  by_cases h : z < 4
  · rw [if_pos ((nI_ltI (by omega) (by omega)).mpr h), si_pin2 h (by decide), if_pos rfl, if_pos h, si_cl (by omega)]
    have e : pf_up X 16 q z v 15 q 1 = nI z := hX
    rw [e, nI_1]
  · rw [if_neg (fun w => h ((nI_ltI (by omega) (by omega)).mp w)), if_neg h]
theorem sc_tell (h : sRR X Y k) (x v : Int32) : sim k (fX11_tell x v X) (fX12_tell x v Y) := by
  obtain ⟨n, t, h⟩ := h
  obtain ⟨ht, hT, hR, hW, hC, hD, hS, hO, hL, hB, hM, hQ, hr⟩ := id h
  obtain ⟨hn, ⟨hX, hY⟩, -⟩ := id hR
  unfold fX11_tell fX12_tell fX11_isMessage
  rcases si_dev hn hX hY x with ⟨h1, h2⟩ | ⟨d, hd, rfl, h1, h2⟩
  · simp only [h1, h2, Option.bind_some, if_true]
    exact sim_same h (-1) rfl rfl
  · simp only [h1, h2, Option.bind_some, si_10, if_false, si_1_255, si_wi, si_z]
    by_cases hv : (1 : Int32) ≤ v ∧ v ≤ 255
    · obtain ⟨z, z1, z2, z3, z4⟩ := hQ (2 * d) (by omega)
      have e2 : (2 : Int32) * nI d = nI (2 * d) := by rw [show (2 : Int32) = nI 2 from rfl, nI_mul]
      have e4 : (4 : Int32) * nI (2 * d) + nI z = nI (4 * (2 * d) + z) := by rw [show (4 : Int32) = nI 4 from rfl, nI_mul, nI_add]
      simp only [if_neg (not_not_intro hv), sx_app z1 z2, Option.bind_some, e2, si_pin2 (show 2 * d < 16 by omega) (by decide), if_true, si_cl (show 2 * d < 2 ^ 31 by omega), z3, e4]
      by_cases hz : z < 4
      · have hz4 : ¬ nI z = 4 := fun w => by have := (nI_eq (b := 4) (by omega) (by omega)).mp w; omega
        simp only [if_pos hz, si_10, if_false, if_neg hz4, si_pin2 (show 4 * (2 * d) + z < 64 by omega) (by decide), if_true, si_cl (show 4 * (2 * d) + z < 2 ^ 31 by omega)]
        have e5 : ∀ w : Int32, pf_up Y 58 0 (4 * (2 * d) + z) w 59 0 (2 * d) = nI z := fun w => z3
        simp only [e5, nI_1]
        refine sim_mk rfl rfl ?_ ⟨n, t, by omega, hT, hR, hW, hC, hD, hS, hO.mono (by omega), hL, hB, hM, hQ.app hz hv z2 z3, hr⟩
        unfold fX8_size
        rw [pf_up_s, pf_up_s]
      · have hz4 : z = 4 := by omega
        subst hz4
        simp only [Nat.lt_irrefl, if_false, if_true, show (nI 4 = 4) = True from eq_true rfl]
        exact sim_same h (-3) rfl rfl
    · simp only [if_pos hv]
      exact sim_same h (-1) rfl rfl
def qR (g : Nat → Int32) (a i : Nat) : Nat → Int32 := fun j => if a ≤ j ∧ j < a + i then g (j + 1) else g j
theorem qR_0 (g : Nat → Int32) (a : Nat) : qR g a 0 = g := by
  funext j
  unfold qR
  rw [if_neg (by omega)]
theorem qR_s (g : Nat → Int32) (a i : Nat) : upd (qR g a i) (a + i) (g (a + i + 1)) = qR g a (i + 1) := by
  funext j
  unfold upd qR
  by_cases h : j = a + i
  · rw [if_pos h, if_pos (by omega), h]
  · rw [if_neg h]
    by_cases h2 : a ≤ j ∧ j < a + i
    · rw [if_pos h2, if_pos (by omega)]
    · rw [if_neg h2, if_neg (by omega)]
theorem lX8_R {q z : Nat} (hz : z ≤ 4) (hX : X 15 q 1 = nI z) (kx : pf_M → Option (Int32 × pf_M)) : ∀ (m i f : Nat), i + 1 + m = z → m < f → lX8_removeOldest_18 q kx f (nI (i + 1)) (pf_upf X 16 q (qR (X 16 q) 0 i)) = kx (pf_upf X 16 q (qR (X 16 q) 0 (z - 1))) := by
  intro m
  induction m with
  | zero =>
    intro i f hi hf
    obtain ⟨f, rfl⟩ : ∃ g, f = g + 1 := ⟨f - 1, by omega⟩
    have e : pf_upf X 16 q (qR (X 16 q) 0 i) 15 q 1 = nI z := hX
    rw [lX8_removeOldest_18, e, if_pos ((nI_leI (by omega) (by omega)).mpr (by omega)), show z - 1 = i by omega]
  | succ m ih =>
    intro i f hi hf
    obtain ⟨f, rfl⟩ : ∃ g, f = g + 1 := ⟨f - 1, by omega⟩
    have e : pf_upf X 16 q (qR (X 16 q) 0 i) 15 q 1 = nI z := hX
    rw [lX8_removeOldest_18, e, if_neg (fun w => by have := (nI_leI (by omega) (by omega)).mp w; omega), si_pin2 (by omega) (by decide), if_pos rfl, nI_pred, si_pin2 (by omega) (by decide), if_pos rfl, si_cl (by omega), si_cl (by omega), nI_1, pf_upf_s, pf_upf_up]
    have e2 : upd (qR (X 16 q) 0 i) i (qR (X 16 q) 0 i (i + 1)) = qR (X 16 q) 0 (i + 1) := by
      have := qR_s (X 16 q) 0 i
      rw [Nat.zero_add] at this
      rw [← this]
      congr 1
      unfold qR
      rw [if_neg (by omega)]
    rw [e2]
    exact ih (i + 1) f (by omega) (by omega)
theorem pf_upf_id (M : pf_M) (k i : Nat) : pf_upf M k i (M k i) = M := by
  funext k' i'
  unfold pf_upf
  split
  · rename_i h
    rw [h.1, h.2]
  · rfl
theorem sx_take {q z : Nat} (hz : z ≤ 4) (hX : X 15 q 1 = nI z) : fX8_removeOldest q X = some (if z = 0 then (0, X) else (X 16 q 0, pf_up (pf_upf X 16 q (qR (X 16 q) 0 (z - 1))) 15 q 1 (nI (z - 1)))) := by
  unfold fX8_removeOldest
  rw [hX]
  by_cases h : z = 0
  · subst h
    rw [if_pos nI_0, if_pos rfl]
  · rw [if_neg (nI_ne0 (by omega) (by omega)), if_neg h]
    have := lX8_R hz hX (fun u => some (X 16 q (0 : Int32).toNatClampNeg, pf_up u 15 q 1 (u 15 q 1 - 1))) (z - 1) 0 pf_fu (by omega) (by unfold pf_fu; omega)
    rw [qR_0, pf_upf_id] at this
    refine Eq.trans this ?_
    have e : pf_upf X 16 q (qR (X 16 q) 0 (z - 1)) 15 q 1 = nI z := hX
    rw [e, show z = (z - 1) + 1 by omega, nI_pred]
    rfl
theorem lX12_R {q z : Nat} (hq : q < 16) (hz : z ≤ 3) (v : Int32) (hY : Y 59 0 q = nI z) : ∀ (m i f : Nat), i + m = z → m < f → lX12_takesOff_21 (nI q) v f (nI i) (pf_upf Y 58 0 (qR (Y 58 0) (4 * q) i)) = some (v, pf_upf Y 58 0 (qR (Y 58 0) (4 * q) z)) := by
  have e4 : ∀ i : Nat, (4 : Int32) * nI q + nI i = nI (4 * q + i) := fun i => by rw [show (4 : Int32) = nI 4 from rfl, nI_mul, nI_add]
  intro m
  induction m with
  | zero =>
    intro i f hi hf
    obtain ⟨f, rfl⟩ : ∃ g, f = g + 1 := ⟨f - 1, by omega⟩
    have e : pf_upf Y 58 0 (qR (Y 58 0) (4 * q) i) 59 0 q = nI z := hY
    rw [lX12_takesOff_21, si_pin2 (by omega) (by decide), if_pos rfl, si_cl (by omega), e, if_pos ((nI_leI (by omega) (by omega)).mpr (by omega)), show i = z by omega]
  | succ m ih =>
    intro i f hi hf
    obtain ⟨f, rfl⟩ : ∃ g, f = g + 1 := ⟨f - 1, by omega⟩
    have e : pf_upf Y 58 0 (qR (Y 58 0) (4 * q) i) 59 0 q = nI z := hY
    rw [lX12_takesOff_21, si_pin2 (by omega) (by decide), if_pos rfl, si_cl (by omega), e, if_neg (fun w => by have := (nI_leI (by omega) (by omega)).mp w; omega), e4, nI_1, nI_1, si_pin2 (by omega) (by decide), si_pin2 (by omega) (by decide), if_pos rfl, if_pos rfl, si_cl (by omega), si_cl (by omega), pf_upf_s, pf_upf_up]
    have e2 : upd (qR (Y 58 0) (4 * q) i) (4 * q + i) (qR (Y 58 0) (4 * q) i (4 * q + i + 1)) = qR (Y 58 0) (4 * q) (i + 1) := by
      rw [← qR_s (Y 58 0) (4 * q) i]
      congr 1
      unfold qR
      rw [if_neg (by omega)]
    rw [e2]
    exact ih (i + 1) f (by omega) (by omega)
theorem sy_take {q z : Nat} (hq : q < 16) (hz : z ≤ 3) (hY : Y 59 0 q = nI (z + 1)) : fX12_takesOff (nI q) Y = some (Y 58 0 (4 * q), pf_upf (pf_up Y 59 0 q (nI z)) 58 0 (qR (Y 58 0) (4 * q) z)) := by
  unfold fX12_takesOff
  have e4 : (4 : Int32) * nI q = nI (4 * q) := by rw [show (4 : Int32) = nI 4 from rfl, nI_mul]
  rw [e4, si_pin2 (by omega) (by decide), si_pin2 (by omega) (by decide), if_pos rfl, if_pos rfl, if_pos rfl, si_cl (by omega), si_cl (by omega), hY, nI_pred]
  have := lX12_R (Y := pf_up Y 59 0 q (nI z)) hq hz (Y 58 0 (4 * q)) (pf_up_s _ _ _ _ _) z 0 pf_fu (by omega) (by unfold pf_fu; omega)
  rw [qR_0, pf_upf_id] at this
  exact this
theorem sQ.off (hQ : sQ X Y n) {q z : Nat} (hz : z ≤ 3) (hX : X 15 q 1 = nI (z + 1)) (hY : Y 59 0 q = nI (z + 1)) : sQ (pf_up (pf_upf X 16 q (qR (X 16 q) 0 z)) 15 q 1 (nI z)) (pf_upf (pf_up Y 59 0 q (nI z)) 58 0 (qR (Y 58 0) (4 * q) z)) n := by
  intro r hr
  obtain ⟨z', h1, h2, h3, h4⟩ := hQ r hr
  by_cases hrq : r = q
  · subst hrq
    have hzz : z' = z + 1 := (nI_eq (by omega) (by omega)).mp (h2.symm.trans hX)
    subst hzz
    refine ⟨z, by omega, pf_up_s _ _ _ _ _, (show upd (Y 59 0) r (nI z) r = nI z from upd_s _ _ _), fun j hj => ?_⟩
    show pf_upf X 16 r (qR (X 16 r) 0 z) 16 r j = qR (Y 58 0) (4 * r) z (4 * r + j) ∧ 1 ≤ qR (Y 58 0) (4 * r) z (4 * r + j) ∧ qR (Y 58 0) (4 * r) z (4 * r + j) ≤ 255
    rw [pf_upf_s]
    have e1 : qR (X 16 r) 0 z j = X 16 r (j + 1) := by unfold qR; rw [if_pos (by omega)]
    have e2 : qR (Y 58 0) (4 * r) z (4 * r + j) = Y 58 0 (4 * r + (j + 1)) := by unfold qR; rw [if_pos (by omega)]; rfl
    rw [e1, e2]
    exact h4 (j + 1) (by omega)
  · refine ⟨z', h1, ?_, ?_, fun j hj => ?_⟩
    · rw [pf_up_i _ _ _ _ _ _ hrq]
      exact h2
    · show upd (Y 59 0) q _ r = _
      rw [upd_n _ _ hrq]
      exact h3
    · show pf_upf X 16 q (qR (X 16 q) 0 z) 16 r j = qR (Y 58 0) (4 * q) z (4 * r + j) ∧ 1 ≤ qR (Y 58 0) (4 * q) z (4 * r + j) ∧ qR (Y 58 0) (4 * q) z (4 * r + j) ≤ 255
      have e2 : qR (Y 58 0) (4 * q) z (4 * r + j) = Y 58 0 (4 * r + j) := by unfold qR; rw [if_neg (by omega)]
      rw [pf_upf_n _ _ _ _ _ hrq, e2]
      exact h4 j hj
theorem sc_take (h : sRR X Y k) (x : Int32) : sim k (fX11_take x X) (fX12_take x Y) := by
  obtain ⟨n, t, h⟩ := h
  obtain ⟨ht, hT, hR, hW, hC, hD, hS, hO, hL, hB, hM, hQ, hr⟩ := id h
  obtain ⟨hn, ⟨hX, hY⟩, -⟩ := id hR
  unfold fX11_take fX12_take
  rcases si_dev hn hX hY x with ⟨h1, h2⟩ | ⟨d, hd, rfl, h1, h2⟩
  · simp only [h1, h2, Option.bind_some, if_true]
    exact sim_same h (-1) rfl rfl
  · obtain ⟨z, z1, z2, z3, z4⟩ := hQ (2 * d + 1) (by omega)
    have e2 : (2 : Int32) * nI d + 1 = nI (2 * d + 1) := by rw [show (2 : Int32) = nI 2 from rfl, nI_mul, nI_1]
    simp only [h1, h2, Option.bind_some, si_10, if_false, sx_take z1 z2, e2, si_pin2 (show 2 * d + 1 < 16 by omega) (by decide), if_true, si_cl (show 2 * d + 1 < 2 ^ 31 by omega), z3]
    cases z with
    | zero =>
      simp only [nI_0, if_true]
      exact sim_same h (-4) rfl rfl
    | succ z =>
      have hm := z4 0 (by omega)
      simp only [Nat.add_zero] at hm
      have hm0 : ¬ Y 58 0 (4 * (2 * d + 1)) = 0 := fun w => by rw [w] at hm; exact absurd hm.2.1 (by decide)
      simp only [if_neg (nI_ne0 (show 0 < z + 1 by omega) (show z + 1 < 2 ^ 31 by omega)), Nat.succ_ne_zero, if_false, sy_take (show 2 * d + 1 < 16 by omega) (show z ≤ 3 by omega) z3, Option.bind_some, hm.1, if_neg hm0, Nat.add_sub_cancel]
      exact sim_mk rfl rfl rfl ⟨n, t, by omega, hT, hR, hW, hC, hD, hS, hO.mono (by omega), hL, hB, hM, hQ.off (by omega) z2 z3, hr⟩
end
