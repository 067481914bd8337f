section
variable {X Y : pf_M} {n t k : Nat}
theorem si_ov (hR : sR X Y n t) (x y : Int32) : (fX11_findOverlay x y X = some none ∧ (fX12_isDevice x Y = 0 ∨ (fX12_isDevice x Y = 1 ∧ ¬ ((0 : Int32) ≤ y ∧ y ≤ 1)))) ∨ ∃ d e : Nat, d < n ∧ e < 2 ∧ x = nI d ∧ y = nI e ∧ fX11_findOverlay x y X = some (some (2 * d + e)) ∧ fX12_isDevice x Y = 1 ∧ ((0 : Int32) ≤ y ∧ y ≤ 1) := by
  obtain ⟨hn, ⟨hX, hY⟩, -⟩ := id hR
  unfold fX11_findOverlay jX11_findOverlay_22 fX3_overlay
  rcases si_dev hn hX hY x with ⟨h1, h2⟩ | ⟨d, hd, rfl, h1, h2⟩
  · simp only [h1, h2, Option.bind_some]
    exact Or.inl ⟨trivial, Or.inl trivial⟩
  · simp only [h1, h2, Option.bind_some, si_wi, si_z]
    by_cases hy : (0 : Int32) ≤ y ∧ y ≤ 1
    · obtain ⟨e, he, rfl⟩ := nI_of2 (M := 1) (n := 1) (by decide) (Int32.not_lt.mpr hy.1) hy.2
      refine Or.inr ⟨d, e, hd, by omega, rfl, rfl, ?_, trivial, hy⟩
      simp only [if_neg (not_not_intro hy)]
      match e, he with
      | 0, _ => rfl
      | 1, _ => rfl
    · simp only [if_pos hy]
      exact Or.inl ⟨trivial, Or.inr ⟨trivial, hy⟩⟩
theorem si_2d {d e : Nat} : (2 : Int32) * nI d + nI e = nI (2 * d + e) := by
  rw [show (2 : Int32) = nI 2 from rfl, nI_mul, nI_add]
theorem sMo.z {o : Nat} (h : sMo X Y o) : (X 13 o 1 ≤ 0) = (Y 56 0 o = 0) ∧ (Y 56 0 o ≤ 0) = (Y 56 0 o = 0) := by
  obtain ⟨h1, h2⟩ := h
  rw [h1]
  rcases h2 with ⟨h2, -⟩ | ⟨p, z, b, a1, a2, a3, a4, a5, a6, -⟩
  · rw [h2]
    exact ⟨propext ⟨fun _ => rfl, fun _ => by decide⟩, propext ⟨fun _ => rfl, fun _ => by decide⟩⟩
  · rw [a6, eq_false (nI_nle (n := z) (by omega) (by omega)), eq_false (nI_ne0 (n := z) (by omega) (by omega))]
    exact ⟨rfl, rfl⟩
theorem sc_unmap (h : sRR X Y k) (x y : Int32) : sim k (fX11_unmap x y X) (fX12_unmap x y Y) := by
  obtain ⟨n, t, h⟩ := h
  obtain ⟨ht, hT, hR, hW, hC, hD, hS, hO, hL, hB, hM, hr⟩ := id h
  obtain ⟨hn, -⟩ := id hR
  unfold fX11_unmap fX12_unmap
  rcases si_ov hR x y with ⟨h1, h2 | ⟨h2, h3⟩⟩ | ⟨d, e, hd, he, rfl, rfl, h1, h2, h3⟩
  · simp only [h1, h2, Option.bind_some, if_true]
    exact sim_same h (-1) rfl rfl
  · simp only [h1, h2, Option.bind_some, si_10, if_false, si_0_1, si_z, if_pos h3]
    exact sim_same h (-1) rfl rfl
  · have hm := hM (2 * d + e) (by omega)
    unfold fX7_exists fX7_remove
    simp only [h1, h2, Option.bind_some, si_10, if_false, si_0_1, si_z, if_neg (not_not_intro h3), si_2d, si_pin2 (show 2 * d + e < 16 by omega) (by decide), if_true, si_cl (show 2 * d + e < 2 ^ 31 by omega), hm.z.1]
    by_cases hz : Y 56 0 (2 * d + e) = 0
    · simp only [if_pos hz, if_true]
      exact sim_same h (-2) rfl rfl
    · simp only [if_neg hz, si_10, if_false]
      refine sim_mk rfl rfl rfl ⟨n, t, by omega, hT, hR, hW, hC, hD, hS, hO.mono (by omega), hL, hB, fun o ho => ?_, hr⟩
      by_cases hoo : o = 2 * d + e
      · subst hoo
        refine ⟨by rw [pf_up_s]; exact (upd_s _ _ _).symm, Or.inl ⟨upd_s _ _ _, ?_⟩⟩
        show 0 ≤ Y 55 0 (2 * d + e)
        rcases hm.2 with ⟨-, q⟩ | ⟨p, z, b, a1, a2, a3, a4, a5, a6, a7, a8, -⟩
        · exact q
        · rw [a8]
          exact Int32.not_lt.mp (nI_pos (by omega))
      · have hm2 := hM o ho
        unfold sMo at hm2 ⊢
        rw [pf_up_i X 13 (2 * d + e) o 1 0 hoo, show pf_up Y 56 0 (2 * d + e) 0 56 0 o = Y 56 0 o from upd_n _ _ hoo]
        exact hm2
theorem sc_mapped (h : sRR X Y k) (x y z : Int32) : simP (fX11_mapped x y z X) (fX12_mapped x y z Y) := by
  obtain ⟨n, t, h⟩ := h
  obtain ⟨ht, hT, hR, hW, hC, hD, hS, hO, hL, hB, hM, hr⟩ := id h
  obtain ⟨hn, -⟩ := id hR
  unfold fX11_mapped fX12_mapped
  rcases si_ov hR x y with ⟨h1, h2 | ⟨h2, h3⟩⟩ | ⟨d, e, hd, he, rfl, rfl, h1, h2, h3⟩
  · simp only [h1, h2, Option.bind_some, if_true]
    exact ⟨_, rfl, rfl⟩
  · simp only [h1, h2, Option.bind_some, si_10, if_false, si_0_1, si_z, if_pos h3]
    exact ⟨_, rfl, rfl⟩
  · have hm := hM (2 * d + e) (by omega)
    unfold fX7_exists
    simp only [h1, h2, Option.bind_some, si_10, if_false, si_0_1, si_0_2, si_wi, si_z, if_neg (not_not_intro h3), si_2d, si_pin2 (show 2 * d + e < 16 by omega) (by decide), if_true, si_cl (show 2 * d + e < 2 ^ 31 by omega), hm.z.1]
    by_cases hw : (0 : Int32) ≤ z ∧ z ≤ 2
    · simp only [if_neg (not_not_intro hw)]
      rcases hm.2 with ⟨hz, -⟩ | ⟨p, q, b, a1, a2, a3, a4, a5, a6, a7, a8, a9, a10⟩
      · simp only [if_pos hz, if_true]
        exact ⟨_, rfl, rfl⟩
      · have hz : ¬ Y 56 0 (2 * d + e) = 0 := by rw [a6]; exact nI_ne0 (by omega) (by omega)
        simp only [if_neg hz, si_10, if_false, hm.1, a7, a8, a9, a10]
        split
        · exact ⟨_, rfl, rfl⟩
        · split <;> exact ⟨_, rfl, rfl⟩
    · simp only [if_pos hw]
      exact ⟨_, rfl, rfl⟩
/-- another device's map lies over the places -/
def qK (Y : pf_M) (d e : Nat) (p z : Int32) : Nat → Nat → Bool
  | 0, _ => false
  | m + 1, j => if j = d then qK Y d e p z m (j + 1) else if Y 56 0 (2 * j + e) ≤ 0 ∨ Y 55 0 (2 * j + e) + Y 56 0 (2 * j + e) ≤ p ∨ p + z ≤ Y 55 0 (2 * j + e) then qK Y d e p z m (j + 1) else true
theorem lX9_K (hR : sR X Y n t) (hM : sM X Y n) {d e : Nat} (hd : d < n) (he : e < 2) (p z : Int32) : ∀ (m j f : Nat), j + m = n → m < f → lX9_isTaken_3 (nI d) (nI e) p z X f (nI j) = some (if qK Y d e p z m j = true then 1 else 0) := by
  obtain ⟨hn, ⟨hX, hY⟩, -⟩ := id hR
  intro m
  induction m with
  | zero =>
    intro j f hj hf
    obtain ⟨f, rfl⟩ : ∃ g, f = g + 1 := ⟨f - 1, by omega⟩
    rw [lX9_isTaken_3, hX, if_pos ((nI_leI (by omega) (by omega)).mpr (by omega))]
    rfl
  | succ m ih =>
    intro j f hj hf
    obtain ⟨f, rfl⟩ : ∃ g, f = g + 1 := ⟨f - 1, by omega⟩
    rw [lX9_isTaken_3, hX, if_neg (fun q => by have := (nI_leI (by omega) (by omega)).mp q; omega)]
    unfold jX9_isTaken_40
    have ih := ih (j + 1) f (by omega) (by omega)
    have ho : fX3_overlay j (nI e) X = 2 * j + e := by
      unfold fX3_overlay
      match e, he with
      | 0, _ => rfl
      | 1, _ => rfl
    simp only [nI_1, ih, si_pin2 (show j < 8 by omega) (by decide), if_true, si_cl (show j < 2 ^ 31 by omega), ho]
    rw [qK]
    by_cases hjd : j = d
    · subst hjd
      simp only [if_true]
    · simp only [if_neg hjd, if_neg (fun q => hjd ((nI_eq (a := j) (b := d) (by omega) (by omega)).mp q))]
      have hm := hM (2 * j + e) (by omega)
      unfold fX7_meets fX7_exists
      simp only [hm.z.1, hm.z.2]
      by_cases hz : Y 56 0 (2 * j + e) = 0
      · simp only [if_pos hz, hz, true_or, if_true]
      · obtain ⟨p', q, b, a1, a2, a3, a4, a5, a6, a7, a8, a9, a10⟩ := hm.2.resolve_left (fun w => hz w.1)
        simp only [if_neg hz, hz, false_or, si_10, if_false, a7, a8, hm.1]
        by_cases c1 : p + z ≤ nI p'
        · simp only [if_pos c1, c1, or_true, if_true]
        · by_cases c2 : nI p' + Y 56 0 (2 * j + e) ≤ p
          · simp only [if_neg c1, if_pos c2, c2, true_or, if_true]
          · simp only [if_neg c1, if_neg c2, c1, c2, or_self, si_10, if_false, if_true]
theorem lX12_K (hR : sR X Y n t) (hM : sM X Y n) {d e : Nat} (hd : d < n) (he : e < 2) (p z : Int32) (kx : pf_M → Option (Int32 × pf_M)) : ∀ (m j f : Nat), j + m = n → m < f → lX12_map_89 (nI d) (nI e) p z kx f (nI j) Y = if qK Y d e p z m j = true then some (-2, Y) else kx Y := by
  obtain ⟨hn, ⟨hX, hY⟩, -⟩ := id hR
  intro m
  induction m with
  | zero =>
    intro j f hj hf
    obtain ⟨f, rfl⟩ : ∃ g, f = g + 1 := ⟨f - 1, by omega⟩
    rw [lX12_map_89, hY, if_pos ((nI_leI (by omega) (by omega)).mpr (by omega))]
    rfl
  | succ m ih =>
    intro j f hj hf
    obtain ⟨f, rfl⟩ : ∃ g, f = g + 1 := ⟨f - 1, by omega⟩
    rw [lX12_map_89, hY, if_neg (fun q => by have := (nI_leI (by omega) (by omega)).mp q; omega)]
    unfold jX12_map_158
    have ih := ih (j + 1) f (by omega) (by omega)
    simp only [nI_1, ih, si_2d, si_pin2 (show 2 * j + e < 16 by omega) (by decide), if_true, si_cl (show 2 * j + e < 2 ^ 31 by omega)]
    rw [qK]
    by_cases hjd : j = d
    · subst hjd
      simp only [if_true]
    · simp only [if_neg hjd, if_neg (fun q => hjd ((nI_eq (a := j) (b := d) (by omega) (by omega)).mp q))]
      by_cases c0 : Y 56 0 (2 * j + e) ≤ 0
      · simp only [if_pos c0, c0, true_or, if_true]
      · by_cases c2 : Y 55 0 (2 * j + e) + Y 56 0 (2 * j + e) ≤ p
        · simp only [if_neg c0, if_pos c2, c2, true_or, or_true, if_true]
        · by_cases c1 : p + z ≤ Y 55 0 (2 * j + e)
          · simp only [if_neg c0, if_neg c2, if_pos c1, c1, or_true, if_true]
          · simp only [if_neg c0, if_neg c1, if_neg c2, c0, c1, c2, or_self, if_false, if_true]
theorem map_fin (h : sN X Y n t k) {d e : Nat} (hd : d < n) (he : e < 2) {p z b : Int32} (hz : (1 : Int32) ≤ z ∧ z ≤ 8) (hp : (0 : Int32) ≤ p ∧ p ≤ 32 - z) (lo : Nat) (hlo : e = 1 → 4 ≤ lo) (hb : nI lo ≤ b ∧ b ≤ 16 - z) (hl : lo ≤ 4) :
    sim k ((fX9_isTaken (nI d) (nI e) p z X).bind fun r4 => if r4 = 0 then (if fX7_exists (2 * d + e) X = 0 then jX11_map_97 p z b (2 * d + e) 0 X else jX11_map_97 p z b (2 * d + e) 1 X) else some (-2, X))
      (lX12_map_89 (nI d) (nI e) p z (fun u => if pf_in (2 * nI d + nI e) 16 = true then (if u 56 0 (2 * nI d + nI e).toNatClampNeg ≤ 0 then jX12_map_182 (nI d) (nI e) p z b 0 u else jX12_map_182 (nI d) (nI e) p z b 1 u) else none) pf_fu 0 Y) := by
  obtain ⟨ht, hT, hR, hW, hC, hD, hS, hO, hL, hB, hM, hr⟩ := id h
  obtain ⟨hn, -⟩ := id hR
  have e1 := lX9_K hR hM hd he p z n 0 pf_fu (by omega) (by unfold pf_fu; omega)
  have e2 := lX12_K hR hM hd he p z (fun u => if pf_in (2 * nI d + nI e) 16 = true then (if u 56 0 (2 * nI d + nI e).toNatClampNeg ≤ 0 then jX12_map_182 (nI d) (nI e) p z b 0 u else jX12_map_182 (nI d) (nI e) p z b 1 u) else none) n 0 pf_fu (by omega) (by unfold pf_fu; omega)
  rw [nI_0] at e1 e2
  unfold fX9_isTaken
  rw [e1, e2]
  by_cases hq : qK Y d e p z n 0 = true
  · simp only [if_pos hq, Option.bind_some, si_10, if_false]
    exact sim_same h (-2) rfl rfl
  · have hm := hM (2 * d + e) (by omega)
    unfold jX11_map_97 jX12_map_182 fX7_exists fX7_lie
    simp only [if_neg hq, Option.bind_some, if_true, si_2d, si_pin2 (show 2 * d + e < 16 by omega) (by decide), si_cl (show 2 * d + e < 2 ^ 31 by omega), hm.z.1, hm.z.2]
    obtain ⟨z', hz1, rfl⟩ := nI_of2 (M := 8) (n := 8) (by decide) (Int32.not_lt.mpr (by have := hz.1; grind)) hz.2
    have hz2 : 1 ≤ z' := (nI_leI (a := 1) (by omega) (by omega)).mp hz.1
    rw [show (32 : Int32) = nI 32 from rfl, nI_subI (by omega)] at hp
    rw [show (16 : Int32) = nI 16 from rfl, nI_subI (by omega)] at hb
    obtain ⟨p', hp1, rfl⟩ := nI_of2 (M := nI (32 - z')) (n := 32 - z') (nI_toInt (by omega)) (Int32.not_lt.mpr hp.1) hp.2
    have hb0 : (0 : Int32) ≤ b := by
      have a1 := hb.1
      have a2 := nI_pos' (n := lo) (by omega)
      grind
    obtain ⟨b', hb1, rfl⟩ := nI_of2 (M := nI (16 - z')) (n := 16 - z') (nI_toInt (by omega)) (Int32.not_lt.mpr hb0) hb.2
    have hb2 : lo ≤ b' := (nI_leI (by omega) (by omega)).mp hb.1
    have fin : sRR (pf_up (pf_up (pf_up X 13 (2 * d + e) 0 (nI p')) 13 (2 * d + e) 1 (nI z')) 13 (2 * d + e) 2 (nI b')) (pf_up (pf_up (pf_up Y 55 0 (2 * d + e) (nI p')) 56 0 (2 * d + e) (nI z')) 57 0 (2 * d + e) (nI b')) (k + 1) := by
      refine ⟨n, t, by omega, hT, hR, hW, hC, hD, hS, hO.mono (by omega), hL, hB, fun o ho => ?_, hr.1, hr.2.1, hr.2.2.1, hr.2.2.2.1, hr.2.2.2.2.1, hr.2.2.2.2.2.1, hr.2.2.2.2.2.2.1, hr.2.2.2.2.2.2.2.1, hr.2.2.2.2.2.2.2.2.1, hr.2.2.2.2.2.2.2.2.2.1, hr.2.2.2.2.2.2.2.2.2.2.1, fun o ho => ?_⟩
      rotate_left
      · show 0 ≤ upd (Y 55 0) (2 * d + e) (nI p') o
        by_cases hoo : o = 2 * d + e
        · rw [hoo, upd_s]
          exact Int32.not_lt.mp (nI_pos (by omega))
        · rw [upd_n _ _ hoo]
          exact hr.2.2.2.2.2.2.2.2.2.2.2 o ho
      by_cases hoo : o = 2 * d + e
      · subst hoo
        have x0 : ∀ v1 v2 v3 : Int32, pf_up (pf_up (pf_up X 13 (2 * d + e) 0 v1) 13 (2 * d + e) 1 v2) 13 (2 * d + e) 2 v3 13 (2 * d + e) = upd (upd (upd (X 13 (2 * d + e)) 0 v1) 1 v2) 2 v3 := fun v1 v2 v3 => by
          rw [pf_up_upf X, pf_upf_up, pf_upf_up, pf_upf_s]
        unfold sMo
        rw [x0]
        exact ⟨(upd_s _ _ _).symm, Or.inr ⟨p', z', b', hz2, hz1, by omega, by omega, fun q => by have := hlo (by omega); omega, upd_s _ _ _, rfl, upd_s _ _ _, rfl, upd_s _ _ _⟩⟩
      · have hm2 := hM o ho
        unfold sMo at hm2 ⊢
        rw [pf_up_i _ 13 (2 * d + e) o 2 _ hoo, pf_up_i _ 13 (2 * d + e) o 1 _ hoo, pf_up_i _ 13 (2 * d + e) o 0 _ hoo]
        have y1 : ∀ v1 v2 v3 : Int32, pf_up (pf_up (pf_up Y 55 0 (2 * d + e) v1) 56 0 (2 * d + e) v2) 57 0 (2 * d + e) v3 55 0 o = Y 55 0 o := fun v1 v2 v3 => upd_n _ _ hoo
        have y2 : ∀ v1 v2 v3 : Int32, pf_up (pf_up (pf_up Y 55 0 (2 * d + e) v1) 56 0 (2 * d + e) v2) 57 0 (2 * d + e) v3 56 0 o = Y 56 0 o := fun v1 v2 v3 => upd_n _ _ hoo
        have y3 : ∀ v1 v2 v3 : Int32, pf_up (pf_up (pf_up Y 55 0 (2 * d + e) v1) 56 0 (2 * d + e) v2) 57 0 (2 * d + e) v3 57 0 o = Y 57 0 o := fun v1 v2 v3 => upd_n _ _ hoo
        rw [y1, y2, y3]
        exact hm2
    by_cases hzz : Y 56 0 (2 * d + e) = 0
    · simp only [if_pos hzz, if_true]
      exact sim_mk rfl rfl rfl fin
    · simp only [if_neg hzz, si_10, if_false]
      exact sim_mk rfl rfl rfl fin
theorem si_4b (x b : Int32) : fX12_in x.toInt64 (4 : Int64) b.toInt64 = if (4 : Int32) ≤ x ∧ x ≤ b then 1 else 0 := by
  have h := si_in x 4 b
  rw [← sl_4] at h
  exact h
theorem sc_map (h : sRR X Y k) (x y p z b : Int32) : sim k (fX11_map x y p z b X) (fX12_map x y p z b Y) := by
  obtain ⟨n, t, h⟩ := h
  obtain ⟨ht, hT, hR, hW, hC, hD, hS, hO, hL, hB, hM, hr⟩ := id h
  obtain ⟨hn, -⟩ := id hR
  unfold fX11_map fX12_map jX12_map_76 jX12_map_60 jX12_map_76 jX12_map_77 jX11_map_18
  rcases si_ov hR x y with ⟨h1, h2 | ⟨h2, h3⟩⟩ | ⟨d, e, hd, he, rfl, rfl, h1, h2, h3⟩
  · simp only [h1, h2, Option.bind_some, if_true, ite_self]
    exact sim_same h (-1) rfl rfl
  · simp only [h1, h2, Option.bind_some, si_10, if_false, si_0_1, si_z, if_pos h3, ite_self, if_true]
    exact sim_same h (-1) rfl rfl
  · simp only [h1, h2, Option.bind_some, si_10, if_false, si_0_1, si_1_8, si_wi, si_z, if_neg (not_not_intro h3), si_0b, si_4b, if_true]
    by_cases hz : (1 : Int32) ≤ z ∧ z ≤ 8
    · by_cases hp : (0 : Int32) ≤ p ∧ p ≤ 32 - z
      · simp only [if_neg (not_not_intro hz), if_neg (not_not_intro hp)]
        match e, he with
        | 0, _ =>
          simp only [show (nI 0 = 1) = False from eq_false (by decide), show (nI 0 = 0) = True from eq_true rfl, if_true, if_false]
          by_cases hb : (0 : Int32) ≤ b ∧ b ≤ 16 - z
          · simp only [if_neg (not_not_intro hb)]
            exact map_fin h hd (by omega) hz hp 0 (fun q => by omega) hb (by omega)
          · simp only [if_pos hb]
            exact sim_same h (-1) rfl rfl
        | 1, _ =>
          simp only [show (nI 1 = 1) = True from eq_true rfl, show (nI 1 = 0) = False from eq_false (by decide), if_true, if_false]
          by_cases hb : (4 : Int32) ≤ b ∧ b ≤ 16 - z
          · simp only [if_neg (not_not_intro hb)]
            exact map_fin h hd (by omega) hz hp 4 (fun q => by omega) hb (by omega)
          · simp only [if_pos hb]
            exact sim_same h (-1) rfl rfl
      · simp only [if_neg (not_not_intro hz), if_pos hp, ite_self]
        exact sim_same h (-1) rfl rfl
    · simp only [if_pos hz, ite_self]
      exact sim_same h (-1) rfl rfl
end
