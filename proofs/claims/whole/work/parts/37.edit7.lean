def pMean (c : Nat) (x3 av ad : Int32) : Prop := (c ≤ 3 ∧ av = x3) ∨ (4 ≤ c ∧ c ≤ 6 ∧ av = ad) ∨ 7 ≤ c
theorem pm_not {c : Nat} {x3 av ad : Int32} (h : ¬ pMean c x3 av ad) : c ≤ 6 ∧ (c ≤ 3 → ¬ av = x3) ∧ (4 ≤ c → ¬ av = ad) := by
  unfold pMean at h
  refine ⟨?_, ?_, ?_⟩
  · by_cases h6 : c ≤ 6
    · exact h6
    · exact absurd (Or.inr (Or.inr (by omega))) h
  · exact fun h1 h2 => h (Or.inl ⟨h1, h2⟩)
  · intro h1 h2
    by_cases h6 : c ≤ 6
    · exact h (Or.inr (Or.inl ⟨h1, h6, h2⟩))
    · exact h (Or.inr (Or.inr (by omega)))
section
variable {X Y : pf_M}
theorem sx_disp {i q d c : Nat} {x3 av ad : Int32} (hc1 : 1 ≤ c) (hc : c ≤ 12) (h0 : X 25 i 0 = nI c) (h1 : X 25 i 1 = av) (h4 : X 11 d 4 = ad) :
    (pMean c x3 av ad → fX2_edit i q d x3 X = jX2_edit_38 i q d (nI ((c - 1) % 3)) (if (c - 1) % 3 = 1 then 0 else 1) X) ∧ (¬ pMean c x3 av ad → fX2_edit i q d x3 X = some X) := by
  have hA0 : (nI ((c - 1) / 3) = 0) = ((c - 1) / 3 = 0) := propext (nI_eq (b := 0) (by omega) (by omega))
  have hA1 : (nI ((c - 1) / 3) = 1) = ((c - 1) / 3 = 1) := propext (nI_eq (b := 1) (by omega) (by omega))
  have hk1 : (nI ((c - 1) % 3) = 1) = ((c - 1) % 3 = 1) := propext (nI_eq (b := 1) (by omega) (by omega))
  have hlast : ∀ A : Prop, (if nI ((c - 1) % 3) = (1 : Int32) then jX2_edit_38 i q d (nI ((c - 1) % 3)) 0 X else jX2_edit_38 i q d (nI ((c - 1) % 3)) 1 X) = jX2_edit_38 i q d (nI ((c - 1) % 3)) (if (c - 1) % 3 = 1 then 0 else 1) X := by
    intro _
    simp only [hk1]
    split <;> rfl
  have hk : nI c - 1 - nI ((c - 1) / 3) * 3 = nI ((c - 1) % 3) := by
    rw [← (si_kd c (by omega) hc1).2]
    exact (si_kd c (by omega) hc1).1
  unfold fX2_edit fX2_means fX2_addressing
  simp only [h0, h1, h4, (si_kd c (by omega) hc1).2, hk, if_neg (nI_ne0 (show 0 < c by omega) (show c < 2 ^ 31 by omega)), hA0, hA1, hlast True]
  refine ⟨fun hm => ?_, fun hm => ?_⟩
  · rcases hm with ⟨m1, m2⟩ | ⟨m1, m2, m3⟩ | m1
    · rw [if_pos (show (c - 1) / 3 = 0 by omega), if_pos m2.symm, if_neg (by decide)]
    · rw [if_neg (show ¬ (c - 1) / 3 = 0 by omega), if_pos (show (c - 1) / 3 = 1 by omega), if_pos m3.symm, if_neg (by decide)]
    · rw [if_neg (show ¬ (c - 1) / 3 = 0 by omega), if_neg (show ¬ (c - 1) / 3 = 1 by omega), if_neg (by decide)]
  · obtain ⟨m1, m2, m3⟩ := pm_not hm
    by_cases h3 : c ≤ 3
    · rw [if_pos (show (c - 1) / 3 = 0 by omega), if_neg (show ¬ x3 = av from fun w => m2 h3 w.symm), if_pos rfl]
    · rw [if_neg (show ¬ (c - 1) / 3 = 0 by omega), if_pos (show (c - 1) / 3 = 1 by omega), if_neg (show ¬ ad = av from fun w => m3 (by omega) w.symm), if_pos rfl]
theorem sx_disp0 {i q d : Nat} {x3 : Int32} (h0 : X 25 i 0 = 0) : fX2_edit i q d x3 X = some X := by
  unfold fX2_edit
  rw [if_pos h0]
theorem sy_disp {s i d c T g : Nat} {x3 av ad : Int32} (hi : i < 4) (hd : d < 8) (hc : c ≤ 12) (h0 : Y 64 0 i = nI c) (h1 : Y 65 0 i = av) (h4 : Y 46 0 d = ad) :
    (1 ≤ c → c ≤ 9 → pMean c x3 av ad → lX12_edit_3 (nI s) (nI d) x3 (nI T) (g + 1) (nI i) Y = ((fX12_editOwn (nI s) (nI i) (nI d) (nI T) Y).bind fun q => lX12_edit_3 (nI s) (nI d) x3 (nI T) g (nI (i + 1)) q)) ∧
    (10 ≤ c → lX12_edit_3 (nI s) (nI d) x3 (nI T) (g + 1) (nI i) Y = ((fX12_editMap (nI s) (nI i) (nI d) (nI T) Y).bind fun q => lX12_edit_3 (nI s) (nI d) x3 (nI T) g (nI (i + 1)) q)) ∧
    ((c = 0 ∨ ¬ pMean c x3 av ad) → lX12_edit_3 (nI s) (nI d) x3 (nI T) (g + 1) (nI i) Y = lX12_edit_3 (nI s) (nI d) x3 (nI T) g (nI (i + 1)) Y) := by
  have hi4 : ¬ (4 : Int32) ≤ nI i := fun w => by have := (nI_leI (a := 4) (by omega) (by omega)).mp w; omega
  have g13 : ((1 : Int32) ≤ nI c ∧ nI c ≤ 3) = (1 ≤ c ∧ c ≤ 3) := by rw [show ((1 : Int32) ≤ nI c) = (1 ≤ c) from propext (nI_leI (a := 1) (by omega) (by omega)), show (nI c ≤ (3 : Int32)) = (c ≤ 3) from propext (nI_leI (b := 3) (by omega) (by omega))]
  have g46 : ((4 : Int32) ≤ nI c ∧ nI c ≤ 6) = (4 ≤ c ∧ c ≤ 6) := by rw [show ((4 : Int32) ≤ nI c) = (4 ≤ c) from propext (nI_leI (a := 4) (by omega) (by omega)), show (nI c ≤ (6 : Int32)) = (c ≤ 6) from propext (nI_leI (b := 6) (by omega) (by omega))]
  have g79 : ((7 : Int32) ≤ nI c ∧ nI c ≤ 9) = (7 ≤ c ∧ c ≤ 9) := by rw [show ((7 : Int32) ≤ nI c) = (7 ≤ c) from propext (nI_leI (a := 7) (by omega) (by omega)), show (nI c ≤ (9 : Int32)) = (c ≤ 9) from propext (nI_leI (b := 9) (by omega) (by omega))]
  have g10 : (nI c < (10 : Int32)) = (c < 10) := propext (nI_ltI (b := 10) (by omega) (by omega))
  have start : lX12_edit_3 (nI s) (nI d) x3 (nI T) (g + 1) (nI i) Y = (if ¬ (1 ≤ c ∧ c ≤ 3) then (if ¬ (4 ≤ c ∧ c ≤ 6) then jX12_edit_101 (nI s) (nI d) (nI T) (lX12_edit_3 (nI s) (nI d) x3 (nI T) g) (nI i) (nI c) (if 7 ≤ c ∧ c ≤ 9 then 1 else 0) Y
      else (if av = ad then jX12_edit_101 (nI s) (nI d) (nI T) (lX12_edit_3 (nI s) (nI d) x3 (nI T) g) (nI i) (nI c) 1 Y else jX12_edit_101 (nI s) (nI d) (nI T) (lX12_edit_3 (nI s) (nI d) x3 (nI T) g) (nI i) (nI c) 0 Y))
      else (if av = x3 then jX12_edit_101 (nI s) (nI d) (nI T) (lX12_edit_3 (nI s) (nI d) x3 (nI T) g) (nI i) (nI c) 1 Y else jX12_edit_101 (nI s) (nI d) (nI T) (lX12_edit_3 (nI s) (nI d) x3 (nI T) g) (nI i) (nI c) 0 Y)) := by
    rw [lX12_edit_3, if_neg hi4]
    simp only [si_pin2 hi (by decide), si_pin2 hd (by decide), if_true, si_cl (show i < 2 ^ 31 by omega), si_cl (show d < 2 ^ 31 by omega), h0, h1, h4, si_1_3, si_4_6, si_7_9, g13, g46, g79, si_z]
  have j0 : jX12_edit_101 (nI s) (nI d) (nI T) (lX12_edit_3 (nI s) (nI d) x3 (nI T) g) (nI i) (nI c) 0 Y = if c < 10 then lX12_edit_3 (nI s) (nI d) x3 (nI T) g (nI (i + 1)) Y else ((fX12_editMap (nI s) (nI i) (nI d) (nI T) Y).bind fun q => lX12_edit_3 (nI s) (nI d) x3 (nI T) g (nI (i + 1)) q) := by
    unfold jX12_edit_101 jX12_edit_118 jX12_edit_135
    rw [if_pos rfl, nI_1]
    simp only [g10]
  have j1 : c < 10 → jX12_edit_101 (nI s) (nI d) (nI T) (lX12_edit_3 (nI s) (nI d) x3 (nI T) g) (nI i) (nI c) 1 Y = ((fX12_editOwn (nI s) (nI i) (nI d) (nI T) Y).bind fun q => lX12_edit_3 (nI s) (nI d) x3 (nI T) g (nI (i + 1)) q) := by
    intro h
    unfold jX12_edit_101 jX12_edit_118 jX12_edit_135
    rw [if_neg (by decide), nI_1]
    simp only [g10, if_pos h]
  rw [start]
  refine ⟨fun c1 c9 hm => ?_, fun c10 => ?_, fun hm => ?_⟩
  · rcases hm with ⟨m1, m2⟩ | ⟨m1, m2, m3⟩ | m1
    · rw [if_neg (not_not_intro ⟨c1, m1⟩), if_pos m2, j1 (by omega)]
    · rw [if_pos (by omega), if_neg (not_not_intro ⟨m1, m2⟩), if_pos m3, j1 (by omega)]
    · rw [if_pos (by omega), if_pos (by omega), if_pos ⟨m1, c9⟩, j1 (by omega)]
  · rw [if_pos (by omega), if_pos (by omega), if_neg (by omega), j0, if_neg (by omega)]
  · rcases hm with rfl | hm
    · rw [if_pos (by omega), if_pos (by omega), if_neg (by omega), j0, if_pos (by omega)]
    · obtain ⟨m1, m2, m3⟩ := pm_not hm
      by_cases c0 : c = 0
      · subst c0
        rw [if_pos (by omega), if_pos (by omega), if_neg (by omega), j0, if_pos (by omega)]
      · by_cases h3 : c ≤ 3
        · rw [if_neg (not_not_intro ⟨by omega, h3⟩), if_neg (m2 h3), j0, if_pos (by omega)]
        · rw [if_pos (by omega), if_neg (not_not_intro ⟨by omega, m1⟩), if_neg (m3 (by omega)), j0, if_pos (by omega)]
end
section
variable {X Y : pf_M} {n t K m : Nat}
theorem ss_edit {i s d T x3 : Nat} (h : sN X Y n t K) (hK : K ≤ 600) (hd : d < n) (hT : T ≤ 7000000) (hi : i < 4) (hs : s < 2) (hsh : sShow X Y d T) (hF : sF X Y m) :
    ∃ X' Y', fX2_edit i (2 * i + s) d (nI x3) X = some X' ∧ (∀ g, lX12_edit_3 (nI s) (nI d) (nI x3) (nI T) (g + 1) (nI i) Y = lX12_edit_3 (nI s) (nI d) (nI x3) (nI T) g (nI (i + 1)) Y') ∧
      sN X' Y' n t K ∧ sShow X' Y' d T ∧ sF X' Y' (m + 1) ∧ (s = 0 → sFk Y → sFk Y') ∧ (s = 0 → sFb Y → sFb Y') ∧ Y' 50 0 = Y 50 0 := by
  obtain ⟨ht, hT0, hR0, hW0, hC, hD, hS, hO, hL, hB, hM, hQ, hXb, hP, hG, hr⟩ := id h
  obtain ⟨hn, -⟩ := id hR0
  obtain ⟨⟨g1, g2, g3⟩, ⟨g4, g5, g6⟩, ⟨g7, g8, g9⟩, ⟨g10, g11, g12⟩, g13⟩ := hG i hi
  obtain ⟨c, hc, ce⟩ := si_nat (b := 12) ⟨g2, g3⟩ (by decide)
  obtain ⟨a, ha, ae⟩ := si_nat (b := 99) ⟨g5, g6⟩ (by decide)
  obtain ⟨o, ho, oe⟩ := si_nat (b := 15) ⟨g8, g9⟩ (by decide)
  obtain ⟨z, hz, ze⟩ := si_nat (b := 8) ⟨g11, g12⟩ (by decide)
  have hid : (c = 0 ∨ ¬ pMean c (nI x3) (nI a) (Y 46 0 d)) → fX2_edit i (2 * i + s) d (nI x3) X = some X → ∃ X' Y', fX2_edit i (2 * i + s) d (nI x3) X = some X' ∧ (∀ g, lX12_edit_3 (nI s) (nI d) (nI x3) (nI T) (g + 1) (nI i) Y = lX12_edit_3 (nI s) (nI d) (nI x3) (nI T) g (nI (i + 1)) Y') ∧
      sN X' Y' n t K ∧ sShow X' Y' d T ∧ sF X' Y' (m + 1) ∧ (s = 0 → sFk Y → sFk Y') ∧ (s = 0 → sFb Y → sFb Y') ∧ Y' 50 0 = Y 50 0 := fun hm hx =>
    ⟨X, Y, hx, fun g => (sy_disp (Y := Y) (s := s) (i := i) (d := d) (T := T) (g := g) (x3 := nI x3) hi (by omega) hc ce ae rfl).2.2 hm, h, hsh, hF.mono (by omega), fun _ q => q, fun _ q => q, rfl⟩
  by_cases hc0 : c = 0
  · exact hid (Or.inl hc0) (sx_disp0 (by rw [g1, ce, hc0]; rfl))
  · have hdx := sx_disp (X := X) (i := i) (q := 2 * i + s) (d := d) (c := c) (x3 := nI x3) (av := nI a) (ad := Y 46 0 d) (by omega) hc (g1.trans ce) (g4.trans ae) (hD d hd).1.1
    by_cases hm : pMean c (nI x3) (nI a) (Y 46 0 d)
    · have hz1 : 1 ≤ z := by
        have := g13 (by rw [ce]; exact nI_ne0 (by omega) (by omega))
        rw [ze] at this
        exact (nI_leI (a := 1) (by omega) (by omega)).mp this
      have hk3 : (c - 1) % 3 < 3 := Nat.mod_lt _ (by decide)
      have hadr : fX2_addressing i X = nI ((c - 1) / 3) := by
        unfold fX2_addressing
        rw [g1, ce]
        exact (si_kd c (by omega) (by omega)).2
      have hA3 : (nI ((c - 1) / 3) = 3) = (10 ≤ c) := by
        rw [show (nI ((c - 1) / 3) = (3 : Int32)) = ((c - 1) / 3 = 3) from propext (nI_eq (b := 3) (by omega) (by omega))]
        exact propext ⟨fun w => by omega, fun w => by omega⟩
      have hcomb : fX2_combines i X = if decide (c = 7 ∨ c = 9) then 1 else 0 := by
        unfold fX2_combines
        rw [g1, ce]
        simp only [show (nI c = (7 : Int32)) = (c = 7) from propext (nI_eq (b := 7) (by omega) (by omega)), show (nI c = (9 : Int32)) = (c = 9) from propext (nI_eq (b := 9) (by omega) (by omega)), decide_eq_true_eq]
        by_cases q7 : c = 7
        · rw [if_pos q7, if_pos (Or.inl q7)]
        · by_cases q9 : c = 9
          · rw [if_neg q7, if_pos q9, if_pos (Or.inr q9)]
          · rw [if_neg q7, if_neg q9, if_neg (by omega)]
      have hcY : (Y 64 0 i = 7 ∨ Y 64 0 i = 9) → decide (c = 7 ∨ c = 9) = true := by
        intro q
        rw [ce] at q
        refine decide_eq_true (q.imp (fun w => ?_) (fun w => ?_))
        · exact (nI_eq (b := 7) (by omega) (by omega)).mp w
        · exact (nI_eq (b := 9) (by omega) (by omega)).mp w
      rw [hdx.1 hm]
      by_cases hc10 : 10 ≤ c
      · obtain ⟨X', x1, x2⟩ := sx_edit (X := X) (i := i) (q := 2 * i + s) (d := d) (z := z) (kd := (c - 1) % 3) (cb := decide (c = 7 ∨ c = 9)) (R := decide ((c - 1) % 3 ≠ 1 ∧ ¬ Y 51 0 d < 2)) (W := decide ((c - 1) % 3 ≠ 0 ∧ Y 51 0 d = 3)) (br := fun j => bM Y (2 * d) (a + j)) (bw := fun j => bM Y (2 * d + 1) (a + j)) hk3 hz (g10.trans ze)
          (fun k b hb => (bM_b (hM (2 * d) (by omega)) hb).1) (fun k b hb => ⟨(bM_b (hM (2 * d + 1) (by omega)) hb).2 (by omega), (bM_b (hM (2 * d + 1) (by omega)) hb).1⟩) (fun k k' b h1 h2 => by have := bM_inj h1 h2; omega)
          (fun hk => by
            unfold fX2_mayRead
            rw [hadr]
            simp only [hA3, if_pos hc10, (hS d hd).1, decide_eq_true_eq]
            by_cases q : Y 51 0 d < 2
            · rw [if_pos q, if_neg (fun w => w.2 q)]
            · rw [if_neg q, if_pos ⟨hk, q⟩])
          (fun hk => decide_eq_false (fun w => w.1 hk))
          (fun hk => by
            unfold fX2_mayWrite
            rw [hadr]
            simp only [hA3, if_pos hc10, (hS d hd).1, decide_eq_true_eq]
            by_cases q : Y 51 0 d = 3
            · rw [if_pos q, if_pos ⟨hk, q⟩]
            · rw [if_neg q, if_neg (fun w => q w.2)])
          (fun hk => decide_eq_false (fun w => w.1 hk))
          (fun _ k hk => by
            unfold fX2_byteOver
            rw [hadr]
            simp only [hA3, if_pos hc10, g4, ae, nI_add]
            exact sx_over (hM (2 * d) (by omega)) (by omega))
          (fun _ k hk => by
            unfold fX2_byteOver
            rw [hadr]
            simp only [hA3, if_pos hc10, g4, ae, nI_add]
            exact sx_over (hM (2 * d + 1) (by omega)) (by omega))
          hcomb
        obtain ⟨Y', y1, y2⟩ := sy_edit_map (X := X) (Y := Y) (s := s) (i := i) (d := d) (z := z) (a := a) (c := c) (T := T) (R := decide ((c - 1) % 3 ≠ 1 ∧ ¬ Y 51 0 d < 2)) (W := decide ((c - 1) % 3 ≠ 0 ∧ Y 51 0 d = 3)) (cb := decide (c = 7 ∨ c = 9)) hD hn.2 hO hK hM hS hd hT hi hs hz ha hc10 hc ze ae ce rfl rfl (decide_eq_false (by omega))
        obtain ⟨r1, r2, r3, r4, r5⟩ := ss_eXY h hd hi hs hz hsh hF (fun k b hb => (bM_b (hM (2 * d) (by omega)) hb).1) (fun k b hb => ⟨(bM_b (hM (2 * d + 1) (by omega)) hb).2 (by omega), (bM_b (hM (2 * d + 1) (by omega)) hb).1⟩) hcY x2 y2
        refine ⟨X', Y', x1, fun g => ?_, r1, r2, r3, r4, r5, y2.1 50 (by decide) (by decide) (by decide) (by decide)⟩
        rw [(sy_disp (Y := Y) (s := s) (i := i) (d := d) (T := T) (g := g) (x3 := nI x3) hi (by omega) hc ce ae rfl).2.1 hc10, y1, Option.bind_some]
      · have h16 : ((16 : Int32) < nI o + nI z) = (16 < o + z) := by rw [nI_add]; exact propext (nI_ltI (a := 16) (by omega) (by omega))
        have h4 : (nI o < (4 : Int32)) = (o < 4) := propext (nI_ltI (b := 4) (by omega) (by omega))
        obtain ⟨X', x1, x2⟩ := sx_edit (X := X) (i := i) (q := 2 * i + s) (d := d) (z := z) (kd := (c - 1) % 3) (cb := decide (c = 7 ∨ c = 9)) (R := decide ((c - 1) % 3 ≠ 1 ∧ o + z ≤ 16)) (W := decide ((c - 1) % 3 ≠ 0 ∧ 4 ≤ o ∧ o + z ≤ 16)) (br := bO o) (bw := bW o) hk3 hz (g10.trans ze)
          (fun k b hb => (bO_s hb).2) (fun k b hb => (bW_s hb).2) (fun k k' b h1 h2 => by have := (bW_s h1).1; have := (bW_s h2).1; omega)
          (fun hk => by
            unfold fX2_mayRead
            rw [hadr]
            simp only [hA3, if_neg hc10, g7, g10, oe, ze, h16, decide_eq_true_eq]
            by_cases q : 16 < o + z
            · rw [if_pos q, if_neg (by omega)]
            · rw [if_neg q, if_pos ⟨hk, by omega⟩])
          (fun hk => decide_eq_false (fun w => w.1 hk))
          (fun hk => by
            unfold fX2_mayWrite
            rw [hadr]
            simp only [hA3, if_neg hc10, g7, g10, oe, ze, h16, h4, decide_eq_true_eq]
            by_cases q4 : o < 4
            · rw [if_pos q4, if_neg (by omega)]
            · by_cases q : 16 < o + z
              · rw [if_neg q4, if_pos q, if_neg (by omega)]
              · rw [if_neg q4, if_neg q, if_pos ⟨hk, by omega, by omega⟩])
          (fun hk => decide_eq_false (fun w => w.1 hk))
          (fun hr k hk => by
            have hr2 := (of_decide_eq_true hr).2
            unfold fX2_byteOver bO
            rw [hadr, if_pos (show o + k < 16 by omega)]
            simp only [hA3, if_neg hc10, g7, oe, nI_add]
            rfl)
          (fun hr k hk => by
            have hr2 := (of_decide_eq_true hr).2
            unfold fX2_byteOver bW
            rw [hadr, if_pos (show 4 ≤ o + k ∧ o + k < 16 by omega)]
            simp only [hA3, if_neg hc10, g7, oe, nI_add]
            rfl)
          hcomb
        obtain ⟨Y', y1, y2⟩ := sy_edit_own (X := X) (Y := Y) (s := s) (i := i) (d := d) (z := z) (o := o) (c := c) (T := T) (R := decide ((c - 1) % 3 ≠ 1 ∧ o + z ≤ 16)) (W := decide ((c - 1) % 3 ≠ 0 ∧ 4 ≤ o ∧ o + z ≤ 16)) (cb := decide (c = 7 ∨ c = 9)) hD hn.2 hO hK hd hT hi hs hz1 hz ho (by omega) hc ze oe ce rfl rfl (fun hr => by
          have hr2 := (of_decide_eq_true hr).1
          exact decide_eq_decide.mpr ⟨fun w => by omega, fun w => by omega⟩)
        obtain ⟨r1, r2, r3, r4, r5⟩ := ss_eXY h hd hi hs hz hsh hF (fun k b hb => (bO_s hb).2) (fun k b hb => (bW_s hb).2) hcY x2 y2
        refine ⟨X', Y', x1, fun g => ?_, r1, r2, r3, r4, r5, y2.1 50 (by decide) (by decide) (by decide) (by decide)⟩
        rw [(sy_disp (Y := Y) (s := s) (i := i) (d := d) (T := T) (g := g) (x3 := nI x3) hi (by omega) hc ce ae rfl).1 (by omega) (by omega) hm, y1, Option.bind_some]
    · exact hid (Or.inr hm) (hdx.2 hm)
end
