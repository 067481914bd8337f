section
variable {X Y : pf_M} {L c : Nat}
theorem sx_nodev {p : Nat} (hL : L ≤ 200) (hX : X 1 0 5 = nI L) (hp : p < L) (hd : ¬ X 2 0 p = 100) : fX10_readDevice (nI p) X = some (0, X) := by
  have e12 : fX10_numberAt (nI (p + 1)) 2 X = some _ := sx_num (len := 2) hL (by omega) (by omega) (by omega) hX
  have e13 : fX10_numberAt (nI (p + 3)) 1 X = some _ := sx_num (len := 1) hL (by omega) (by omega) (by omega) hX
  have e14 : fX10_numberAt (nI (p + 4)) 3 X = some _ := sx_num (len := 3) hL (by omega) (by omega) (by omega) hX
  have e15 : fX10_numberAt (nI (p + 7)) 1 X = some _ := sx_num (len := 1) hL (by omega) (by omega) (by omega) hX
  have e16 : fX10_has (nI p) 100 X = some 0 := (sx_hasc hL (by omega) hX 100).trans (by rw [if_neg (fun w => hd w.2)])
  have a3 : nI p + 3 = nI (p + 3) := by rw [show (3 : Int32) = nI 3 from rfl, nI_add]
  have a4 : nI p + 4 = nI (p + 4) := by rw [show (4 : Int32) = nI 4 from rfl, nI_add]
  have a7 : nI p + 7 = nI (p + 7) := by rw [show (7 : Int32) = nI 7 from rfl, nI_add]
  unfold fX10_readDevice
  simp only [nI_1, a3, a4, a7, e12, e13, e14, e15, e16, Option.bind_some, if_true]
theorem sx_noend {p : Nat} (hL : L ≤ 200) (hX : X 1 0 5 = nI L) (hp : p < L) (hd : ¬ X 2 0 p = 101) : fX10_readEnd (nI p) X = some (0, X) := by
  have e12 : fX10_numberAt (nI (p + 1)) 1 X = some _ := sx_num (len := 1) hL (by omega) (by omega) (by omega) hX
  have e13 : fX10_numberAt (nI (p + 2)) 1 X = some _ := sx_num (len := 1) hL (by omega) (by omega) (by omega) hX
  have e14 : fX10_numberAt (nI (p + 3)) 1 X = some _ := sx_num (len := 1) hL (by omega) (by omega) (by omega) hX
  have e16 : fX10_has (nI p) 101 X = some 0 := (sx_hasc hL (by omega) hX 101).trans (by rw [if_neg (fun w => hd w.2)])
  have a2 : nI p + 2 = nI (p + 2) := by rw [show (2 : Int32) = nI 2 from rfl, nI_add]
  have a3 : nI p + 3 = nI (p + 3) := by rw [show (3 : Int32) = nI 3 from rfl, nI_add]
  unfold fX10_readEnd
  simp only [nI_1, a2, a3, e12, e13, e14, e16, Option.bind_some, if_true]
theorem ss_end {p : Nat} (hL : L ≤ 200) (hX : X 1 0 5 = nI L) (hY : Y 40 0 0 = nI L) (hT : ∀ j, j < L → X 2 0 j = Y 41 0 j) (hp : p < L) (hd : X 2 0 p = 101) (h : pR X Y c) :
    (∃ X' Y', fX10_readEnd (nI p) X = some (1, X') ∧ fX12_endItem (pf_up Y 40 0 2 (nI (p + 1))) = some (1, pf_up Y' 40 0 2 (nI (p + 5))) ∧ pR X' Y' c ∧ pFx X X' ∧ pFy Y Y') ∨
    (fX10_readEnd (nI p) X = some (0, X) ∧ ∃ Y', fX12_endItem (pf_up Y 40 0 2 (nI (p + 1))) = some (0, Y') ∧ pFy Y Y') := by
  obtain ⟨hc, h1, h2, h3, h4, h5, h6⟩ := id h
  have e12 : fX10_numberAt (nI (p + 1)) 1 X = some (ovI (qD (Y 41 0) L 1 (p + 1) 0)) := (sx_num (len := 1) hL (by omega) (by omega) (by omega) hX).trans (by rw [qD_congr hT])
  have e13 : fX10_numberAt (nI (p + 2)) 1 X = some (ovI (qD (Y 41 0) L 1 (p + 2) 0)) := (sx_num (len := 1) hL (by omega) (by omega) (by omega) hX).trans (by rw [qD_congr hT])
  have e14 : fX10_numberAt (nI (p + 3)) 1 X = some (ovI (qD (Y 41 0) L 1 (p + 3) 0)) := (sx_num (len := 1) hL (by omega) (by omega) (by omega) hX).trans (by rw [qD_congr hT])
  have e16 : fX10_has (nI p) 101 X = some 1 := (sx_hasc hL (by omega) hX 101).trans (by rw [if_pos ⟨hp, hd⟩])
  have e17 : fX10_has (nI (p + 4)) 59 X = some (if p + 4 < L ∧ Y 41 0 (p + 4) = 59 then 1 else 0) := (sx_hasc hL (by omega) hX 59).trans (by
    by_cases hl : p + 4 < L
    · rw [hT _ hl]
    · rw [if_neg (fun w => hl w.1), if_neg (fun w => hl w.1)])
  have a2 : nI p + 2 = nI (p + 2) := by rw [show (2 : Int32) = nI 2 from rfl, nI_add]
  have a3 : nI p + 3 = nI (p + 3) := by rw [show (3 : Int32) = nI 3 from rfl, nI_add]
  have a4 : nI p + 4 = nI (p + 4) := by rw [show (4 : Int32) = nI 4 from rfl, nI_add]
  have stop : ∀ q : Nat, pFy Y (pf_up Y 40 0 2 (nI q)) := fun q => pFy.spot Y _
  unfold fX10_readEnd fX12_endItem jX12_endItem_22
  simp only [nI_1, a2, a3, a4, e12, e13, e14, e16, e17, Option.bind_some, si_10, if_false, si_z]
  obtain ⟨q1, m1, m1'⟩ := sy_figs (len := 1) (p := p + 1) hL (by omega) hY (by omega)
  have m1 : fX12_figures 1 (pf_up Y 40 0 2 (nI (p + 1))) = _ := m1
  rw [m1, Option.bind_some]
  cases hN : qD (Y 41 0) L 1 (p + 1) 0 with
  | none =>
    refine Or.inr ⟨?_, _, ?_, stop q1⟩
    · simp only [ovI, show ((-4 : Int32) < 1) = True from eq_true (by decide), if_true]
      split <;> rfl
    · unfold jX12_endItem_39
      simp only [ovI, if_true]
  | some vn =>
    obtain ⟨vn1, vn2⟩ := qD_v (B := 9) hN (by decide) (by decide)
    have g1 : ¬ ovI (some vn) = -4 := fun w => by
      have w2 : vn = -4 := w
      rw [w2] at vn1
      exact absurd vn1 (by decide)
    rw [if_neg g1]
    obtain rfl : q1 = p + 1 + 1 := m1' (by rw [hN]; rfl)
    obtain ⟨q2, m2, m2'⟩ := sy_figs (len := 1) (p := p + 1 + 1) hL (by omega) hY (by omega)
    have m2 : fX12_figures 1 (pf_up Y 40 0 2 (nI (p + 1 + 1))) = _ := m2
    rw [m2, Option.bind_some]
    rw [show p + 1 + 1 = p + 2 by omega] at m2' ⊢
    cases hW : qD (Y 41 0) L 1 (p + 2) 0 with
    | none =>
      refine Or.inr ⟨?_, _, ?_, stop q2⟩
      · simp only [ovI, show ((-4 : Int32) < 0) = True from eq_true (by decide), if_true]
        repeat' split
        all_goals rfl
      · unfold jX12_endItem_39
        simp only [ovI, if_true]
    | some vw =>
      obtain ⟨vw1, vw2⟩ := qD_v (B := 9) hW (by decide) (by decide)
      have g2 : ¬ ovI (some vw) = -4 := fun w => by
        have w2 : vw = -4 := w
        rw [w2] at vw1
        exact absurd vw1 (by decide)
      rw [if_neg g2]
      obtain rfl : q2 = p + 2 + 1 := m2' (by rw [hW]; rfl)
      obtain ⟨q3, m3, m3'⟩ := sy_figs (len := 1) (p := p + 2 + 1) hL (by omega) hY (by omega)
      have m3 : fX12_figures 1 (pf_up Y 40 0 2 (nI (p + 2 + 1))) = _ := m3
      rw [m3, Option.bind_some]
      rw [show p + 2 + 1 = p + 3 by omega] at m3' ⊢
      cases hS : qD (Y 41 0) L 1 (p + 3) 0 with
      | none =>
        refine Or.inr ⟨?_, _, ?_, stop q3⟩
        · simp only [ovI, show ((0 : Int32) ≤ -4) = False from eq_false (by decide), if_false]
          repeat' split
          all_goals rfl
        · unfold jX12_endItem_39
          simp only [ovI, if_true]
      | some vs =>
        obtain ⟨vs1, vs2⟩ := qD_v (B := 9) hS (by decide) (by decide)
        have g3 : ¬ vs = -4 := fun w => by
          rw [w] at vs1
          exact absurd vs1 (by decide)
        obtain rfl : q3 = p + 3 + 1 := m3' (by rw [hS]; rfl)
        have hn1 : (vn < 1) = (vn = 0) := propext ⟨fun w => by grind, fun w => by rw [w]; decide⟩
        simp only [ovI]
        unfold jX12_endItem_39
        simp only [if_neg g3, hn1, if_neg (Int32.not_lt.mpr vw1), if_pos vs1]
        by_cases k2 : vn = 0
        · refine Or.inr ⟨?_, _, ?_, stop (p + 3 + 1)⟩
          · simp only [if_pos k2]
            repeat' split
            all_goals rfl
          · rw [if_pos k2]
        · have eq3 : pf_up (pf_up (pf_up (pf_up Y 40 0 2 (nI (p + 3 + 1))) 43 0 (8 : Int32).toNatClampNeg vn) 40 0 8 vw) 40 0 9 vs = pf_up (pf_up (pf_up (pf_up Y 43 0 8 vn) 40 0 8 vw) 40 0 9 vs) 40 0 2 (nI (p + 4)) := by
            rw [show (8 : Int32).toNatClampNeg = 8 from rfl, pf_up_comm Y (show 40 ≠ 43 by decide)]
            funext a b x
            by_cases hab : a = 40 ∧ b = 0
            · obtain ⟨rfl, rfl⟩ := hab
              simp only [pf_up_v, true_and]
              by_cases x2 : x = 2
              · subst x2; rfl
              · simp only [if_neg x2]
            · rw [pf_up_o _ hab, pf_up_o _ hab, pf_up_o _ hab, pf_up_o _ hab, pf_up_o _ hab, pf_up_o _ hab]
          have ey : pFy Y (pf_up (pf_up (pf_up Y 43 0 8 vn) 40 0 8 vw) 40 0 9 vs) := by
            refine ⟨fun k u1 u2 u3 u4 u5 => ?_, fun a _ _ u8 u9 => ?_⟩
            · rw [pf_up_k _ u1, pf_up_k _ u1, pf_up_k _ u3]
            · rw [pf_up_j _ _ _ _ _ _ u9, pf_up_j _ _ _ _ _ _ u8]
              rfl
          have hY0 : pf_up (pf_up (pf_up Y 43 0 8 vn) 40 0 8 vw) 40 0 9 vs 40 0 0 = nI L := (ey.2 0 (by decide) (by decide) (by decide) (by decide)).trans hY
          have e41 : pf_up (pf_up (pf_up Y 43 0 8 vn) 40 0 8 vw) 40 0 9 vs 41 0 = Y 41 0 := rfl
          have hends := sy_ends (Y := pf_up (pf_up (pf_up Y 43 0 8 vn) 40 0 8 vw) 40 0 9 vs) (p := p + 4) hL hY0 (by omega)
          rw [e41] at hends
          simp only [if_neg k2, eq3, hends, Option.bind_some]
          by_cases k5 : p + 4 < L ∧ Y 41 0 (p + 4) = 59
          · left
            simp only [if_pos k5, if_neg (not_not_intro k5), if_neg (Int32.not_lt.mpr vw1), if_pos vs1]
            refine ⟨pf_up (pf_up (pf_up X 1 0 7 vn) 1 0 8 vw) 1 0 9 vs, _, ?_, rfl, ⟨hc, ?_, ?_, fun j hj => ?_, ?_, ?_, ?_⟩, ⟨fun k u1 _ _ _ _ => ?_, ?_⟩, ey⟩
            · exact Eq.trans (if_neg (Int32.not_lt.mpr vw1)) (if_pos vs1)
            · rw [pf_up_j _ _ _ _ _ _ (by decide), pf_up_j _ _ _ _ _ _ (by decide), pf_up_j _ _ _ _ _ _ (by decide)]; exact h1
            · rw [pf_up_j _ _ _ _ _ _ (by decide), pf_up_j _ _ _ _ _ _ (by decide)]; exact h2
            · have := h3 j hj
              show (_ ∧ _ ∧ _) ∧ (X 4 0 j = upd (Y 43 0) 8 vn j ∧ 1 ≤ upd (Y 43 0) 8 vn j ∧ upd (Y 43 0) 8 vn j ≤ 9) ∧ _
              rw [upd_n _ _ (show j ≠ 8 by omega)]
              exact this
            · rw [pf_up_j _ _ _ _ _ _ (by decide), pf_up_j _ _ _ _ _ _ (by decide), pf_up_s]
              show vn = upd (Y 43 0) 8 vn 8 ∧ 1 ≤ upd (Y 43 0) 8 vn 8 ∧ upd (Y 43 0) 8 vn 8 ≤ 9
              rw [upd_s]
              exact ⟨rfl, by grind, vn2⟩
            · rw [pf_up_j _ _ _ _ _ _ (by decide), pf_up_s, pf_up_j _ _ _ _ _ _ (by decide), pf_up_s]
              exact ⟨rfl, vw1, vw2⟩
            · rw [pf_up_s, pf_up_s]
              exact ⟨rfl, vs1, vs2⟩
            · funext j
              rw [pf_up_k _ u1, pf_up_k _ u1, pf_up_k _ u1]
            · rw [pf_up_j _ _ _ _ _ _ (by decide), pf_up_j _ _ _ _ _ _ (by decide), pf_up_j _ _ _ _ _ _ (by decide)]
          · right
            refine ⟨?_, _, ?_, ey.trans (pFy.spot _ (nI (p + 4 + 1)))⟩
            · simp only [if_pos k5]
            · simp only [if_neg k5]
              rfl
/-- the whole text is read alike -/
theorem ss_ringL : ∀ (m p e f g c : Nat) (X Y : pf_M), L ≤ 200 → X 1 0 5 = nI L → Y 40 0 0 = nI L → (∀ j, j < L → X 2 0 j = Y 41 0 j) → L < p + 5 * m → p ≤ L + 9 → e + m ≤ 199 → m < f → m < g → pR X Y c →
    ∃ r X' Y', lX10_readRing_24 f (nI p) (nI e) X = some (r, X') ∧ lX12_readAll_9 g (pf_up Y 40 0 2 (nI p)) = some (r, Y') ∧ pFx X X' ∧ pFy Y Y' ∧ (r = -4 → ∃ c', pR X' Y' c') := by
  intro m
  induction m with
  | zero =>
    intro p e f g c X Y hL hX hY hT hm hp he hf hg h
    obtain ⟨f, rfl⟩ : ∃ g, f = g + 1 := ⟨f - 1, by omega⟩
    obtain ⟨g, rfl⟩ : ∃ f, g = f + 1 := ⟨g - 1, by omega⟩
    have e0 : pf_up Y 40 0 2 (nI p) 40 0 0 = nI L := (pf_up_j _ _ _ _ _ _ (by decide)).trans hY
    have e2 : pf_up Y 40 0 2 (nI p) 40 0 2 = nI p := pf_up_s _ _ _ _ _
    rw [lX10_readRing_24, lX12_readAll_9, if_neg (fun w => by have := (nI_leI (a := 200) (by omega) (by omega)).mp w; omega), hX, e0, e2, if_pos ((nI_leI (by omega) (by omega)).mpr (by omega)), if_pos ((nI_leI (by omega) (by omega)).mpr (by omega))]
    exact ⟨_, _, _, rfl, rfl, pFx.refl X, pFy.spot Y _, fun _ => ⟨c, h⟩⟩
  | succ m ih =>
    intro p e f g c X Y hL hX hY hT hm hp he hf hg h
    obtain ⟨f, rfl⟩ : ∃ g, f = g + 1 := ⟨f - 1, by omega⟩
    obtain ⟨g, rfl⟩ : ∃ f, g = f + 1 := ⟨g - 1, by omega⟩
    have e0 : pf_up Y 40 0 2 (nI p) 40 0 0 = nI L := (pf_up_j _ _ _ _ _ _ (by decide)).trans hY
    have e2 : pf_up Y 40 0 2 (nI p) 40 0 2 = nI p := pf_up_s _ _ _ _ _
    rw [lX10_readRing_24, lX12_readAll_9, if_neg (fun w => by have := (nI_leI (a := 200) (by omega) (by omega)).mp w; omega), hX, e0, e2]
    by_cases hpl : p < L
    · have hn : ¬ nI L ≤ nI p := fun w => by have := (nI_leI (by omega) (by omega)).mp w; omega
      have el : fX12_letterAt (nI p) (pf_up Y 40 0 2 (nI p)) = some (X 2 0 p) := (sy_let (Y := pf_up Y 40 0 2 (nI p)) hL (by omega) e0).trans (by rw [if_pos hpl, hT p hpl]; rfl)
      rw [if_neg hn, if_neg hn, el, Option.bind_some, nI_1, pf_up_twice]
      unfold jX10_readRing_69 jX12_readAll_74 jX12_readAll_75
      rw [nI_1]
      by_cases hd : X 2 0 p = 100
      · rw [if_pos hd]
        rcases ss_dev hL hX hY hT hpl hd h with ⟨X', Y', b1, b2, b3, b4, b5⟩ | ⟨b1, Y', b2, b3⟩
        · have a9 : nI p + 9 = nI (p + 9) := by rw [show (9 : Int32) = nI 9 from rfl, nI_add]
          simp only [b1, b2, Option.bind_some, si_10, if_false, a9]
          obtain ⟨r, X2, Y2, c1, c2, c3, c4, c5⟩ := ih (p + 9) (e + 1) f g (c + 1) X' Y' hL (b4.2.trans hX) ((b5.2 0 (by decide) (by decide) (by decide) (by decide)).trans hY) (fun j hj => by rw [b4.1 2 (by decide) (by decide) (by decide) (by decide) (by decide), b5.1 41 (by decide) (by decide) (by decide) (by decide) (by decide)]; exact hT j hj) (by omega) (by omega) (by omega) (by omega) (by omega) b3
          exact ⟨r, X2, Y2, c1, c2, b4.trans c3, b5.trans c4, c5⟩
        · have ne : fX10_readEnd (nI p) X = some (0, X) := sx_noend hL hX hpl (fun w => by rw [hd] at w; exact absurd w (by decide))
          rw [b1, b2, Option.bind_some, Option.bind_some, if_pos rfl, if_pos rfl, ne, Option.bind_some, if_pos rfl]
          exact ⟨_, _, _, rfl, rfl, pFx.refl X, b3, fun w => absurd w (fun w => by
            have := nI_pos (show p < 2 ^ 31 by omega)
            rw [w] at this
            exact this (by decide))⟩
      · have nd : fX10_readDevice (nI p) X = some (0, X) := sx_nodev hL hX hpl hd
        have hno : ∀ r : Int32, nI p = r → ¬ r = -4 := fun r hr w => by
          have := nI_pos (show p < 2 ^ 31 by omega)
          rw [hr, w] at this
          exact this (by decide)
        rw [if_neg hd, nd, Option.bind_some, if_pos rfl]
        by_cases he1 : X 2 0 p = 101
        · rw [if_pos he1]
          rcases ss_end hL hX hY hT hpl he1 h with ⟨X', Y', b1, b2, b3, b4, b5⟩ | ⟨b1, Y', b2, b3⟩
          · have a5 : nI p + 5 = nI (p + 5) := by rw [show (5 : Int32) = nI 5 from rfl, nI_add]
            simp only [b1, b2, Option.bind_some, si_10, if_false, a5]
            obtain ⟨r, X2, Y2, c1, c2, c3, c4, c5⟩ := ih (p + 5) (e + 1) f g c X' Y' hL (b4.2.trans hX) ((b5.2 0 (by decide) (by decide) (by decide) (by decide)).trans hY) (fun j hj => by rw [b4.1 2 (by decide) (by decide) (by decide) (by decide) (by decide), b5.1 41 (by decide) (by decide) (by decide) (by decide) (by decide)]; exact hT j hj) (by omega) (by omega) (by omega) (by omega) (by omega) b3
            exact ⟨r, X2, Y2, c1, c2, b4.trans c3, b5.trans c4, c5⟩
          · rw [b1, b2, Option.bind_some, Option.bind_some, if_pos rfl, if_pos rfl, if_pos rfl]
            exact ⟨_, _, _, rfl, rfl, pFx.refl X, b3, fun w => absurd w (hno _ rfl)⟩
        · have ne : fX10_readEnd (nI p) X = some (0, X) := sx_noend hL hX hpl he1
          rw [if_neg he1, ne, Option.bind_some, if_pos rfl, if_pos rfl]
          exact ⟨_, _, _, rfl, rfl, pFx.refl X, pFy.spot Y _, fun w => absurd w (hno _ rfl)⟩
    · rw [if_pos ((nI_leI (by omega) (by omega)).mpr (by omega)), if_pos ((nI_leI (by omega) (by omega)).mpr (by omega))]
      exact ⟨_, _, _, rfl, rfl, pFx.refl X, pFy.spot Y _, fun _ => ⟨c, h⟩⟩
end
