def pR (X Y : pf_M) (c : Nat) : Prop := c ≤ 8 ∧ X 1 0 6 = nI c ∧ Y 40 0 3 = nI c ∧ (∀ j, j < c → (X 3 0 j = Y 42 0 j ∧ 1 ≤ Y 42 0 j ∧ Y 42 0 j ≤ 99) ∧ (X 4 0 j = Y 43 0 j ∧ 1 ≤ Y 43 0 j ∧ Y 43 0 j ≤ 9) ∧ (X 5 0 j = Y 44 0 j ∧ 0 ≤ Y 44 0 j ∧ Y 44 0 j ≤ 999) ∧ (X 6 0 j = Y 45 0 j ∧ 0 ≤ Y 45 0 j ∧ Y 45 0 j ≤ 8)) ∧
  (X 1 0 7 = Y 43 0 8 ∧ 1 ≤ Y 43 0 8 ∧ Y 43 0 8 ≤ 9) ∧ (X 1 0 8 = Y 40 0 8 ∧ 0 ≤ Y 40 0 8 ∧ Y 40 0 8 ≤ 9) ∧ (X 1 0 9 = Y 40 0 9 ∧ 0 ≤ Y 40 0 9 ∧ Y 40 0 9 ≤ 9)
def pFx (X X' : pf_M) : Prop := (∀ k, k ≠ 1 → k ≠ 3 → k ≠ 4 → k ≠ 5 → k ≠ 6 → X' k = X k) ∧ X' 1 0 5 = X 1 0 5
def pFy (Y Y' : pf_M) : Prop := (∀ k, k ≠ 40 → k ≠ 42 → k ≠ 43 → k ≠ 44 → k ≠ 45 → Y' k 0 = Y k 0) ∧ ∀ a, a ≠ 2 → a ≠ 3 → a ≠ 8 → a ≠ 9 → Y' 40 0 a = Y 40 0 a
theorem pFx.refl (X : pf_M) : pFx X X := ⟨fun _ _ _ _ _ _ => rfl, rfl⟩
theorem pFy.refl (Y : pf_M) : pFy Y Y := ⟨fun _ _ _ _ _ _ => rfl, fun _ _ _ _ _ => rfl⟩
theorem pFx.trans {X X' X'' : pf_M} (h : pFx X X') (h' : pFx X' X'') : pFx X X'' := ⟨fun k a b c d e => (h'.1 k a b c d e).trans (h.1 k a b c d e), h'.2.trans h.2⟩
theorem pFy.trans {Y Y' Y'' : pf_M} (h : pFy Y Y') (h' : pFy Y' Y'') : pFy Y Y'' := ⟨fun k a b c d e => (h'.1 k a b c d e).trans (h.1 k a b c d e), fun a b c d e => (h'.2 a b c d e).trans (h.2 a b c d e)⟩
theorem pFy.spot (Y : pf_M) (v : Int32) : pFy Y (pf_up Y 40 0 2 v) := ⟨fun _ h _ _ _ _ => pf_up_k _ h, fun _ h _ _ _ => pf_up_j _ _ _ _ _ _ h⟩
section
variable {X Y : pf_M} {L c : Nat}
theorem ss_num {v : Int32} (h : pR X Y c) : ∀ (m i f g : Nat) (kx : pf_M → Option (Int32 × pf_M)), i + m = c → m < f → m < g →
    (lX10_hasNumber_2 v X f (nI i) = some 1 ∧ lX12_deviceItem_94 v kx g (nI i) Y = some (0, Y)) ∨ (lX10_hasNumber_2 v X f (nI i) = some 0 ∧ lX12_deviceItem_94 v kx g (nI i) Y = kx Y) := by
  obtain ⟨hc, h1, h2, h3, -⟩ := h
  intro m
  induction m with
  | zero =>
    intro i f g kx hi hf hg
    obtain ⟨f, rfl⟩ : ∃ g, f = g + 1 := ⟨f - 1, by omega⟩
    obtain ⟨g, rfl⟩ : ∃ f, g = f + 1 := ⟨g - 1, by omega⟩
    rw [lX10_hasNumber_2, lX12_deviceItem_94, h1, h2, if_pos ((nI_leI (by omega) (by omega)).mpr (by omega)), if_pos ((nI_leI (by omega) (by omega)).mpr (by omega))]
    exact Or.inr ⟨rfl, rfl⟩
  | succ m ih =>
    intro i f g kx hi hf hg
    obtain ⟨f, rfl⟩ : ∃ g, f = g + 1 := ⟨f - 1, by omega⟩
    obtain ⟨g, rfl⟩ : ∃ f, g = f + 1 := ⟨g - 1, by omega⟩
    have hci : ¬ nI c ≤ nI i := fun w => by have := (nI_leI (by omega) (by omega)).mp w; omega
    rw [lX10_hasNumber_2, lX12_deviceItem_94, h1, h2, if_neg hci, if_neg hci, si_pin2 (by omega) (by decide), if_pos rfl, if_pos rfl, si_cl (by omega), (h3 i (by omega)).1.1, nI_1]
    by_cases hv : Y 42 0 i = v
    · rw [if_pos hv, if_pos hv]
      exact Or.inl ⟨rfl, rfl⟩
    · rw [if_neg hv, if_neg hv]
      exact ih (i + 1) f g kx (by omega) (by omega) (by omega)
theorem ss_dev {p : Nat} (hL : L ≤ 200) (hX : X 1 0 5 = nI L) (hY : Y 40 0 0 = nI L) (hT : ∀ j, j < L → X 2 0 j = Y 41 0 j) (hp : p < L) (hd : X 2 0 p = 100) (h : pR X Y c) :
    (∃ X' Y', fX10_readDevice (nI p) X = some (1, X') ∧ fX12_deviceItem (pf_up Y 40 0 2 (nI (p + 1))) = some (1, pf_up Y' 40 0 2 (nI (p + 9))) ∧ pR X' Y' (c + 1) ∧ pFx X X' ∧ pFy Y Y') ∨
    (fX10_readDevice (nI p) X = some (0, X) ∧ ∃ Y', fX12_deviceItem (pf_up Y 40 0 2 (nI (p + 1))) = some (0, Y') ∧ pFy Y Y') := by
  obtain ⟨hc, h1, h2, h3, h4, h5, h6⟩ := id h
  have e12 : fX10_numberAt (nI (p + 1)) 2 X = some (ovI (qD (Y 41 0) L 2 (p + 1) 0)) := (sx_num (len := 2) hL (by omega) (by omega) (by omega) hX).trans (by rw [qD_congr hT])
  have e13 : fX10_numberAt (nI (p + 3)) 1 X = some (ovI (qD (Y 41 0) L 1 (p + 3) 0)) := (sx_num (len := 1) hL (by omega) (by omega) (by omega) hX).trans (by rw [qD_congr hT])
  have e14 : fX10_numberAt (nI (p + 4)) 3 X = some (ovI (qD (Y 41 0) L 3 (p + 4) 0)) := (sx_num (len := 3) hL (by omega) (by omega) (by omega) hX).trans (by rw [qD_congr hT])
  have e15 : fX10_numberAt (nI (p + 7)) 1 X = some (ovI (qD (Y 41 0) L 1 (p + 7) 0)) := (sx_num (len := 1) hL (by omega) (by omega) (by omega) hX).trans (by rw [qD_congr hT])
  have e16 : fX10_has (nI p) 100 X = some 1 := (sx_hasc hL (by omega) hX 100).trans (by rw [if_pos ⟨hp, hd⟩])
  have e17 : fX10_has (nI (p + 8)) 59 X = some (if p + 8 < L ∧ Y 41 0 (p + 8) = 59 then 1 else 0) := (sx_hasc hL (by omega) hX 59).trans (by
    by_cases hl : p + 8 < L
    · rw [hT _ hl]
    · rw [if_neg (fun w => hl w.1), if_neg (fun w => hl w.1)])
  have a3 : nI p + 3 = nI (p + 3) := by rw [show (3 : Int32) = nI 3 from rfl, nI_add]
  have a4 : nI p + 4 = nI (p + 4) := by rw [show (4 : Int32) = nI 4 from rfl, nI_add]
  have a7 : nI p + 7 = nI (p + 7) := by rw [show (7 : Int32) = nI 7 from rfl, nI_add]
  have a8 : nI p + 8 = nI (p + 8) := by rw [show (8 : Int32) = nI 8 from rfl, nI_add]
  have stop : ∀ q : Nat, pFy Y (pf_up Y 40 0 2 (nI q)) := fun q => pFy.spot Y _
  unfold fX10_readDevice fX12_deviceItem jX12_deviceItem_22 jX12_deviceItem_39
  simp only [nI_1, a3, a4, a7, a8, e12, e13, e14, e15, e16, e17, Option.bind_some, si_10, if_false, si_z]
  obtain ⟨q1, m1, m1'⟩ := sy_figs (len := 2) (p := p + 1) hL (by omega) hY (by omega)
  have m1 : fX12_figures 2 (pf_up Y 40 0 2 (nI (p + 1))) = _ := m1
  rw [m1, Option.bind_some]
  cases hN : qD (Y 41 0) L 2 (p + 1) 0 with
  | none =>
    refine Or.inr ⟨?_, _, ?_, stop q1⟩
    · simp only [ovI, show ((-4 : Int32) < 1) = True from eq_true (by decide), if_true]
      split <;> rfl
    · unfold jX12_deviceItem_56
      simp only [ovI, if_true]
  | some vn =>
    obtain ⟨vn1, vn2⟩ := qD_v (B := 99) hN (by decide) (by decide)
    have g1 : ¬ ovI (some vn) = -4 := fun w => by
      have w2 : vn = -4 := w
      rw [w2] at vn1
      exact absurd vn1 (by decide)
    rw [if_neg g1]
    obtain rfl : q1 = p + 1 + 2 := m1' (by rw [hN]; rfl)
    obtain ⟨q2, m2, m2'⟩ := sy_figs (len := 1) (p := p + 1 + 2) hL (by omega) hY (by omega)
    have m2 : fX12_figures 1 (pf_up Y 40 0 2 (nI (p + 1 + 2))) = _ := m2
    rw [m2, Option.bind_some]
    rw [show p + 1 + 2 = p + 3 by omega] at m2' ⊢
    cases hW : qD (Y 41 0) L 1 (p + 3) 0 with
    | none =>
      refine Or.inr ⟨?_, _, ?_, stop q2⟩
      · simp only [ovI, show ((-4 : Int32) < 1) = True from eq_true (by decide), if_true]
        repeat' split
        all_goals rfl
      · unfold jX12_deviceItem_56
        simp only [ovI, if_true]
    | some vw =>
      obtain ⟨vw1, vw2⟩ := qD_v (B := 9) hW (by decide) (by decide)
      have g2 : ¬ ovI (some vw) = -4 := fun w => by
        have w2 : vw = -4 := w
        rw [w2] at vw1
        exact absurd vw1 (by decide)
      rw [if_neg g2]
      obtain rfl : q2 = p + 3 + 1 := m2' (by rw [hW]; rfl)
      obtain ⟨q3, m3, m3'⟩ := sy_figs (len := 3) (p := p + 3 + 1) hL (by omega) hY (by omega)
      have m3 : fX12_figures 3 (pf_up Y 40 0 2 (nI (p + 3 + 1))) = _ := m3
      rw [m3, Option.bind_some]
      rw [show p + 3 + 1 = p + 4 by omega] at m3' ⊢
      cases hS : qD (Y 41 0) L 3 (p + 4) 0 with
      | none =>
        refine Or.inr ⟨?_, _, ?_, stop q3⟩
        · simp only [ovI, show ((0 : Int32) ≤ -4) = False from eq_false (by decide), if_false]
          repeat' split
          all_goals rfl
        · unfold jX12_deviceItem_56
          simp only [ovI, if_true]
      | some vs =>
        obtain ⟨vs1, vs2⟩ := qD_v (B := 999) hS (by decide) (by decide)
        have g3 : ¬ ovI (some vs) = -4 := fun w => by
          have w2 : vs = -4 := w
          rw [w2] at vs1
          exact absurd vs1 (by decide)
        rw [if_neg g3]
        obtain rfl : q3 = p + 4 + 3 := m3' (by rw [hS]; rfl)
        obtain ⟨q4, m4, m4'⟩ := sy_figs (len := 1) (p := p + 4 + 3) hL (by omega) hY (by omega)
        have m4 : fX12_figures 1 (pf_up Y 40 0 2 (nI (p + 4 + 3))) = _ := m4
        rw [m4, Option.bind_some]
        rw [show p + 4 + 3 = p + 7 by omega] at m4' ⊢
        cases hR : qD (Y 41 0) L 1 (p + 7) 0 with
        | none =>
          refine Or.inr ⟨?_, _, ?_, stop q4⟩
          · simp only [ovI, si_wi, si_z, show ¬ ((0 : Int32) ≤ -4 ∧ (-4 : Int32) ≤ 8) ↔ True from ⟨fun _ => trivial, fun _ => by decide⟩, if_true]
            repeat' split
            all_goals rfl
          · unfold jX12_deviceItem_56
            simp only [ovI, if_true]
        | some vr =>
          obtain ⟨vr1, vr2⟩ := qD_v (B := 9) hR (by decide) (by decide)
          have g4 : ¬ vr = -4 := fun w => by
            rw [w] at vr1
            exact absurd vr1 (by decide)
          obtain rfl : q4 = p + 7 + 1 := m4' (by rw [hR]; rfl)
          have e3 : pf_up Y 40 0 2 (nI (p + 7 + 1)) 40 0 3 = nI c := (pf_up_j _ _ _ _ _ _ (by decide)).trans h2
          have hc8 : (nI c = (8 : Int32)) = (c = 8) := propext (nI_eq (b := 8) (by omega) (by omega))
          have hc8' : ((8 : Int32) ≤ nI c) = (c = 8) := propext ⟨fun w => by have := (nI_leI (a := 8) (by omega) (by omega)).mp w; omega, fun w => by rw [w]; decide⟩
          have hn1 : (vn < 1) = (vn = 0) := propext ⟨fun w => by grind, fun w => by rw [w]; decide⟩
          have hw1 : (vw < 1) = (vw = 0) := propext ⟨fun w => by grind, fun w => by rw [w]; decide⟩
          simp only [ovI]
          unfold jX12_deviceItem_56
          simp only [if_neg g4, e3, h1, hc8, hc8', hn1, hw1, if_pos vs1, si_wi, si_z]
          by_cases k1 : c = 8
          · refine Or.inr ⟨?_, _, ?_, stop (p + 7 + 1)⟩
            · simp only [if_pos k1]
              repeat' split
              all_goals rfl
            · rw [if_pos k1]
          · by_cases k2 : vn = 0
            · refine Or.inr ⟨?_, _, ?_, stop (p + 7 + 1)⟩
              · simp only [if_pos k2]
                repeat' split
                all_goals rfl
              · rw [if_neg k1, if_pos k2]
            · by_cases k3 : vw = 0
              · refine Or.inr ⟨?_, _, ?_, stop (p + 7 + 1)⟩
                · simp only [if_pos k3]
                  repeat' split
                  all_goals rfl
                · rw [if_neg k1, if_neg k2, if_pos k3]
              · by_cases k4 : vr ≤ 8
                · have hpR : pR X (pf_up Y 40 0 2 (nI (p + 7 + 1))) c := ⟨hc, h1, e3, h3, h4, h5, h6⟩
                  unfold fX10_hasNumber
                  rcases ss_num (v := vn) hpR c 0 pf_fu pf_fu (fun u8_Me94 => ((fX12_deviceIs vn vw vs vr u8_Me94).bind fun q9 => ((fX12_ends q9).bind fun q10 => if pf_b q10.1 = true then some (q10.1, q10.2) else none))) (by omega) (by unfold pf_fu; omega) (by unfold pf_fu; omega) with ⟨n1, n2⟩ | ⟨n1, n2⟩
                  · have n1' : lX10_hasNumber_2 vn X pf_fu 0 = some 1 := n1
                    have n2' : lX12_deviceItem_94 vn (fun u8_Me94 => ((fX12_deviceIs vn vw vs vr u8_Me94).bind fun q9 => ((fX12_ends q9).bind fun q10 => if pf_b q10.1 = true then some (q10.1, q10.2) else none))) pf_fu 0 (pf_up Y 40 0 2 (nI (p + 7 + 1))) = some (0, pf_up Y 40 0 2 (nI (p + 7 + 1))) := n2
                    refine Or.inr ⟨?_, _, ?_, stop (p + 7 + 1)⟩
                    · simp only [if_neg k1, if_neg k2, if_neg k3, n1', Option.bind_some, si_10, if_false]
                      repeat' split
                      all_goals rfl
                    · rw [if_neg k1, if_neg k2, if_neg k3, if_pos k4, n2']
                  · have n1' : lX10_hasNumber_2 vn X pf_fu 0 = some 0 := n1
                    have n2' : lX12_deviceItem_94 vn (fun u8_Me94 => ((fX12_deviceIs vn vw vs vr u8_Me94).bind fun q9 => ((fX12_ends q9).bind fun q10 => if pf_b q10.1 = true then some (q10.1, q10.2) else none))) pf_fu 0 (pf_up Y 40 0 2 (nI (p + 7 + 1))) = _ := n2
                    rw [if_neg k1, if_neg k2, if_neg k3, if_pos k4, n2']
                    have eIs : fX12_deviceIs vn vw vs vr (pf_up Y 40 0 2 (nI (p + 7 + 1))) = some (pf_up (pf_up (pf_up (pf_up (pf_up (pf_up Y 42 0 c vn) 43 0 c vw) 44 0 c vs) 45 0 c vr) 40 0 3 (nI (c + 1))) 40 0 2 (nI (p + 8))) := by
                      have y42 : ∀ (N : pf_M) j v, pf_up N 42 0 j v 40 0 3 = N 40 0 3 := fun _ _ _ => rfl
                      have y43 : ∀ (N : pf_M) j v, pf_up N 43 0 j v 40 0 3 = N 40 0 3 := fun _ _ _ => rfl
                      have y44 : ∀ (N : pf_M) j v, pf_up N 44 0 j v 40 0 3 = N 40 0 3 := fun _ _ _ => rfl
                      have y45 : ∀ (N : pf_M) j v, pf_up N 45 0 j v 40 0 3 = N 40 0 3 := fun _ _ _ => rfl
                      unfold fX12_deviceIs
                      simp only [y42, y43, y44, y45, e3, si_pin2 (show c < 8 by omega) (by decide), si_pin2 (show c < 9 by omega) (by decide), if_true, si_cl (show c < 2 ^ 31 by omega), nI_1]
                      congr 1
                      rw [pf_up_comm Y (show 40 ≠ 42 by decide), pf_up_comm _ (show 40 ≠ 43 by decide), pf_up_comm _ (show 40 ≠ 44 by decide), pf_up_comm _ (show 40 ≠ 45 by decide)]
                      funext a b x
                      by_cases hab : a = 40 ∧ b = 0
                      · obtain ⟨rfl, rfl⟩ := hab
                        rw [pf_up_v, pf_up_v, pf_up_v, pf_up_v]
                        by_cases x3 : x = 3
                        · subst x3
                          rfl
                        · by_cases x2 : x = 2
                          · subst x2
                            rfl
                          · rw [if_neg (fun w => x3 w.2), if_neg (fun w => x2 w.2), if_neg (fun w => x2 w.2), if_neg (fun w => x3 w.2)]
                      · rw [pf_up_o _ hab, pf_up_o _ hab, pf_up_o _ hab, pf_up_o _ hab]
                    rw [eIs, Option.bind_some, sy_ends (Y := pf_up (pf_up (pf_up (pf_up (pf_up Y 42 0 c vn) 43 0 c vw) 44 0 c vs) 45 0 c vr) 40 0 3 (nI (c + 1))) hL ((pf_up_j _ _ _ _ _ _ (by decide)).trans hY) (by omega), Option.bind_some]
                    have ey : pFy Y (pf_up (pf_up (pf_up (pf_up (pf_up Y 42 0 c vn) 43 0 c vw) 44 0 c vs) 45 0 c vr) 40 0 3 (nI (c + 1))) := by
                      refine ⟨fun k h1 h2 h3 h4 h5 => ?_, fun a _ ha _ _ => ?_⟩
                      · rw [pf_up_k _ h1, pf_up_k _ h5, pf_up_k _ h4, pf_up_k _ h3, pf_up_k _ h2]
                      · rw [pf_up_j _ _ _ _ _ _ ha]
                        rfl
                    have e41 : pf_up (pf_up (pf_up (pf_up (pf_up Y 42 0 c vn) 43 0 c vw) 44 0 c vs) 45 0 c vr) 40 0 3 (nI (c + 1)) 41 0 = Y 41 0 := rfl
                    rw [e41]
                    by_cases k5 : p + 8 < L ∧ Y 41 0 (p + 8) = 59
                    · left
                      rw [if_pos k5]
                      simp only [n1', Option.bind_some, if_neg (not_not_intro k5), if_neg k2, if_neg k3, if_neg k1, if_true]
                      rw [if_neg (show ¬ ¬ ((0 : Int32) ≤ vr ∧ vr ≤ 8) from not_not_intro ⟨vr1, k4⟩)]
                      have x3 : ∀ (N : pf_M) j v, pf_up N 3 0 j v 1 0 6 = N 1 0 6 := fun _ _ _ => rfl
                      have x4 : ∀ (N : pf_M) j v, pf_up N 4 0 j v 1 0 6 = N 1 0 6 := fun _ _ _ => rfl
                      have x5 : ∀ (N : pf_M) j v, pf_up N 5 0 j v 1 0 6 = N 1 0 6 := fun _ _ _ => rfl
                      have x6 : ∀ (N : pf_M) j v, pf_up N 6 0 j v 1 0 6 = N 1 0 6 := fun _ _ _ => rfl
                      simp only [x3, x4, x5, x6, h1, si_pin2 (show c < 8 by omega) (by decide), if_true, si_cl (show c < 2 ^ 31 by omega), nI_1]
                      refine ⟨_, _, rfl, rfl, ⟨by omega, pf_up_s _ _ _ _ _, pf_up_s _ _ _ _ _, fun j hj => ?_, ?_, h5, h6⟩, ?_, ey⟩
                      · show (upd (X 3 0) c vn j = upd (Y 42 0) c vn j ∧ 1 ≤ upd (Y 42 0) c vn j ∧ upd (Y 42 0) c vn j ≤ 99) ∧ (upd (X 4 0) c vw j = upd (Y 43 0) c vw j ∧ 1 ≤ upd (Y 43 0) c vw j ∧ upd (Y 43 0) c vw j ≤ 9) ∧ (upd (X 5 0) c vs j = upd (Y 44 0) c vs j ∧ 0 ≤ upd (Y 44 0) c vs j ∧ upd (Y 44 0) c vs j ≤ 999) ∧ (upd (X 6 0) c vr j = upd (Y 45 0) c vr j ∧ 0 ≤ upd (Y 45 0) c vr j ∧ upd (Y 45 0) c vr j ≤ 8)
                        by_cases hjc : j = c
                        · subst hjc
                          simp only [upd_s]
                          exact ⟨⟨trivial, by grind, vn2⟩, ⟨trivial, by grind, vw2⟩, ⟨trivial, vs1, vs2⟩, trivial, vr1, k4⟩
                        · rw [upd_n _ _ hjc, upd_n _ _ hjc, upd_n _ _ hjc, upd_n _ _ hjc, upd_n _ _ hjc, upd_n _ _ hjc, upd_n _ _ hjc, upd_n _ _ hjc]
                          exact h3 j (by omega)
                      · show X 1 0 7 = upd (Y 43 0) c vw 8 ∧ 1 ≤ upd (Y 43 0) c vw 8 ∧ upd (Y 43 0) c vw 8 ≤ 9
                        rw [upd_n _ _ (by omega)]
                        exact h4
                      · refine ⟨fun k u1 u2 u3 u4 u5 => funext fun j => ?_, ?_⟩
                        · rw [pf_up_k _ u1, pf_up_k _ u5, pf_up_k _ u4, pf_up_k _ u3, pf_up_k _ u2]
                        · rw [pf_up_j _ _ _ _ _ _ (by decide)]
                          rfl
                    · right
                      refine ⟨?_, _, ?_, ey.trans (pFy.spot _ (nI (p + 8 + 1)))⟩
                      · simp only [if_pos k5]
                      · simp only [if_neg k1, if_neg k2, if_neg k3, if_neg k5]
                        rfl
                · refine Or.inr ⟨?_, _, ?_, stop (p + 7 + 1)⟩
                  · simp only [show ¬ ((0 : Int32) ≤ vr ∧ vr ≤ 8) ↔ True from ⟨fun _ => trivial, fun _ w => k4 w.2⟩, if_true]
                    repeat' split
                    all_goals rfl
                  · rw [if_neg k1, if_neg k2, if_neg k3, if_neg k4]
end
