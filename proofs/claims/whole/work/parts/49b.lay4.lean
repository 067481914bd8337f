section
variable {X Y X2 Y2 : pf_M} {c n t k : Nat}
/-- a ring that is new, on both sides -/
def yBld (Y Y' : pf_M) (c : Nat) : Prop := (Y' 40 0 10 = nI c ∧ Y' 40 0 15 = Y 40 0 8 ∧ Y' 40 0 16 = Y 40 0 9 ∧ Y' 40 0 22 = 0 ∧ Y' 40 0 23 = 0 ∧ Y' 40 0 40 = 0 ∧ Y' 40 0 44 = 0 ∧ Y' 40 0 46 = 0) ∧ (∀ d, d < 8 → Y' 46 0 d = Y 42 0 d ∧ Y' 48 0 d = Y 44 0 d ∧ Y' 49 0 d = Y 45 0 d ∧ Y' 51 0 d = 0 ∧ Y' 53 0 d = 0 ∧ Y' 54 0 d = 0 ∧ Y' 62 0 d = -4 ∧ Y' 63 0 d = -4) ∧
    (∀ d, d < 8 → (Y' 59 0 (2 * d) = 0 ∧ Y' 59 0 (2 * d + 1) = 0) ∧ (Y' 60 0 (2 * d) = 0 ∧ Y' 60 0 (2 * d + 1) = 0) ∧ (Y' 61 0 (2 * d) = 1 ∧ Y' 61 0 (2 * d + 1) = 1)) ∧ (∀ w, w < c → Y' 47 0 w = Y 43 0 w) ∧ Y' 47 0 c = Y 43 0 8 ∧
    (∀ a, a < 9 → Y' 50 0 a = 0) ∧ (∀ a, a < 128 → Y' 52 0 a = 0) ∧ (∀ a, a < 16 → Y' 56 0 a = 0) ∧ (∀ a, a < 32 → Y' 68 0 a = 0) ∧ ∀ a, a < 4 → Y' 64 0 a = 0
theorem ss_fresh (hp : pR X Y c) (hc1 : 1 ≤ c) (hx : xBld X X2 c) (hg : (∀ i, i < 4 → X2 25 i 0 = 0 ∧ X2 25 i 9 = 0 ∧ ∀ q, q < 8 → X2 26 i q = 0) ∧ X2 20 0 3 = 0 ∧ X2 20 0 4 = 0 ∧ X2 22 0 2 = 0) (hy : yBld Y Y2 c) (hT : sT X2 Y2) (h55 : ∀ o, o < 16 → 0 ≤ Y2 55 0 o)
    (hG : ∀ i, i < 4 → (X2 25 i 1 = Y2 65 0 i ∧ 0 ≤ Y2 65 0 i ∧ Y2 65 0 i ≤ 99) ∧ (X2 25 i 2 = Y2 66 0 i ∧ 0 ≤ Y2 66 0 i ∧ Y2 66 0 i ≤ 15) ∧ (X2 25 i 3 = Y2 67 0 i ∧ 0 ≤ Y2 67 0 i ∧ Y2 67 0 i ≤ 8)) : sN X2 Y2 c 0 k := by
  obtain ⟨hc, p1, p2, p3, p4, p5, p6⟩ := hp
  obtain ⟨⟨x1, x2, x3, x4⟩, x5, x6, x7, x8⟩ := hx
  obtain ⟨g1, g2, g3, g4⟩ := hg
  obtain ⟨⟨y1, y2, y3, y4, y5, y6, y7, y8⟩, z1, z2, z3, z4, z5, z6, z7, z8, z9⟩ := hy
  refine ⟨by omega, hT, ⟨⟨hc1, hc⟩, ⟨x1, y1⟩, ?_, ?_, x4, y4⟩, fun w hw => ?_, fun w hw => ?_, fun d hd => ?_, fun d hd => ?_, fun d hd => ?_, fun d hd => ?_, fun d hd b h4 h16 => ?_, fun o ho => ?_, fun q hq => ?_, fun d hd => ?_, fun d hd => ?_, fun i hi => ?_, fun i hi q hq => ?_, Or.inl ⟨y6, fun i hi => (g1 i hi).2.1⟩, ⟨0, by omega, g4, y7, fun j hj => by omega⟩, ?_⟩
  · rw [x2, y2]; exact p5
  · rw [x3, y3]; exact p6
  · by_cases hwc : w = c
    · rw [hwc, x7, z4]; exact p4
    · rw [x6 w (by omega), z3 w (by omega)]; exact (p3 w (by omega)).2.1
  · rw [x5 w (by omega), z5 w (by omega)]; exact ⟨rfl, Or.inl rfl⟩
  · obtain ⟨⟨e1, e2, e3, -⟩, -⟩ := x8 d hd
    obtain ⟨f1, f2, f3, -⟩ := z1 d (by omega)
    obtain ⟨q1, -, q3, q4⟩ := p3 d hd
    rw [e1, e2, e3, f1, f2, f3]
    exact ⟨q1, q3, q4⟩
  · obtain ⟨⟨-, -, -, e4, -⟩, -⟩ := x8 d hd
    rw [e4, (z1 d (by omega)).2.2.2.1]
    exact ⟨rfl, by decide, by decide⟩
  · obtain ⟨⟨-, -, -, -, e5, -⟩, -⟩ := x8 d hd
    rw [e5, (z1 d (by omega)).2.2.2.2.1]
    have z : ((0 : Int32)).toInt = 0 := rfl
    rw [z]
    exact ⟨rfl, by omega, by omega⟩
  · obtain ⟨⟨-, -, -, -, -, e6⟩, -⟩ := x8 d hd
    rw [e6, (z1 d (by omega)).2.2.2.2.2.1]
    exact ⟨rfl, by decide, by decide⟩
  · rw [(x8 d hd).2.1 b h16, z6 (16 * d + b) (by omega)]
  · obtain ⟨-, -, ⟨e1, e2⟩, -⟩ := x8 (o / 2) (by omega)
    have e : X2 13 o 1 = 0 := by
      rcases (show o = 2 * (o / 2) ∨ o = 2 * (o / 2) + 1 by omega) with w | w
      · rw [w]; exact e1
      · rw [w]; exact e2
    refine ⟨?_, Or.inl ⟨z7 o (by omega), h55 o (by omega)⟩⟩
    rw [e, z7 o (by omega)]
  · obtain ⟨-, -, -, ⟨e1, e2⟩, -⟩ := x8 (q / 2) (by omega)
    obtain ⟨⟨f1, f2⟩, -⟩ := z2 (q / 2) (by omega)
    have e : X2 15 q 1 = 0 := by
      rcases (show q = 2 * (q / 2) ∨ q = 2 * (q / 2) + 1 by omega) with w | w
      · rw [w]; exact e1
      · rw [w]; exact e2
    have f : Y2 59 0 q = 0 := by
      rcases (show q = 2 * (q / 2) ∨ q = 2 * (q / 2) + 1 by omega) with w | w
      · rw [w]; exact f1
      · rw [w]; exact f2
    exact ⟨0, by omega, e, f, fun j hj => by omega⟩
  · obtain ⟨-, -, -, -, e2, e3, e4, e5, -⟩ := x8 d hd
    obtain ⟨-, ⟨f1, f2⟩, f3, f4⟩ := z2 d (by omega)
    rw [e2, e3, e4, e5, f1, f2, f3, f4]
    exact ⟨rfl, rfl, rfl, rfl⟩
  · obtain ⟨-, -, -, -, -, -, -, -, e6, e7⟩ := x8 d hd
    obtain ⟨-, -, -, -, -, -, f1, f2⟩ := z1 d (by omega)
    rw [e6, e7, f1, f2]
    exact ⟨Or.inl ⟨rfl, rfl⟩, Or.inl ⟨rfl, rfl⟩⟩
  · obtain ⟨q1, q2, q3⟩ := hG i hi
    refine ⟨?_, q1, q2, q3, fun w => absurd (z9 i hi) w⟩
    rw [(g1 i hi).1, z9 i hi]
    exact ⟨rfl, by decide, by decide⟩
  · rw [(g1 i hi).2.2 q hq, z8 (8 * i + q) (by omega)]
  · unfold sZ
    rw [g2, g3, y5, y8]
    exact ⟨rfl, rfl, by decide, by decide, h55⟩
theorem sc_lay (h : sRR X Y k) : sim k (fX11_lay X) (fX12_lay Y) := by
  obtain ⟨n, t, h⟩ := h
  obtain ⟨r, X1, Y1, a1, a2, a3, a4, a5⟩ := ss_ring h.2.1
  have h1 : sN X1 Y1 n t k := h.scr a3 a4
  clear a3 a4 h
  unfold fX11_lay fX12_lay
  rw [a1, a2, Option.bind_some, Option.bind_some]
  clear a1 a2
  by_cases hr : r = -4
  · obtain ⟨c, hp⟩ := a5 hr
    obtain ⟨hc, p1, p2, -⟩ := id hp
    have d1 : fX10_devices X1 = nI c := p1
    simp only [if_pos hr, d1, p2]
    by_cases c0 : c = 0
    · subst c0
      rw [if_pos (show nI 0 = 0 from rfl), if_pos (show nI 0 = 0 from rfl)]
      exact sim_same h1 (-2) rfl rfl
    · have hc1 : 1 ≤ c := by omega
      have n0 : ¬ nI c = 0 := fun w => by
        have := (nI_eq (a := c) (b := 0) (by omega) (by omega)).mp w
        omega
      rw [if_neg n0, if_neg n0]
      obtain ⟨W, b1, b2, b3⟩ := sx_bld hc p1
      obtain ⟨V, c1, c2, c3, c4, c5, c6, c7⟩ := sx_grams W
      obtain ⟨Y2, e1, e2, ⟨e30, e3⟩, e4⟩ := sy_lay hp
      have hb : xBld X1 V c := by
        obtain ⟨⟨q1, q2, q3, q4⟩, q5, q6, q7, q8⟩ := b3
        have vk : ∀ q, q ≠ 20 → q ≠ 22 → q ≠ 25 → q ≠ 26 → V q = W q := c2
        have v7 := vk 7 (by decide) (by decide) (by decide) (by decide)
        have v9 := vk 9 (by decide) (by decide) (by decide) (by decide)
        have v10 := vk 10 (by decide) (by decide) (by decide) (by decide)
        refine ⟨⟨?_, ?_, ?_, ?_⟩, fun w hw => ?_, fun w hw => ?_, ?_, fun d hd => ?_⟩
        · rw [v7]; exact q1
        · rw [v7]; exact q2
        · rw [v7]; exact q3
        · rw [v7]; exact q4
        · rw [v10]; exact q5 w hw
        · rw [v9]; exact q6 w hw
        · rw [v9]; exact q7
        · exact (q8 d hd).keep (by rw [vk 11 (by decide) (by decide) (by decide) (by decide)]) (by rw [vk 12 (by decide) (by decide) (by decide) (by decide)]) (by rw [vk 13 (by decide) (by decide) (by decide) (by decide)]) (by rw [vk 13 (by decide) (by decide) (by decide) (by decide)]) (by rw [vk 14 (by decide) (by decide) (by decide) (by decide)]) (by rw [vk 15 (by decide) (by decide) (by decide) (by decide)]) (by rw [vk 15 (by decide) (by decide) (by decide) (by decide)])
      rw [b1, Option.bind_some, c1, Option.bind_some, e1, Option.bind_some]
      have v1 : V 1 = X1 1 := (c2 1 (by decide) (by decide) (by decide) (by decide)).trans (b2 1 (by decide) (by decide) (by decide) (by decide) (by decide) (by decide) (by decide) (by decide))
      have v2 : V 2 = X1 2 := (c2 2 (by decide) (by decide) (by decide) (by decide)).trans (b2 2 (by decide) (by decide) (by decide) (by decide) (by decide) (by decide) (by decide) (by decide))
      have v25 : ∀ i f, i < 4 → f ≠ 0 → f ≠ 9 → V 25 i f = X1 25 i f := fun i f hi h0 h9 => (c3 i f hi h0 h9).trans (by rw [b2 25 (by decide) (by decide) (by decide) (by decide) (by decide) (by decide) (by decide) (by decide)])
      have e41 : Y2 41 0 = Y1 41 0 := e2 41 (by decide) (by decide) (by decide) (by decide) (by decide) (by decide) (by decide) (by decide) (by decide) (by decide) (by decide) (by decide) (by decide) (by decide) (by decide) (by decide) (by decide) (by decide)
      have e55 : Y2 55 0 = Y1 55 0 := e2 55 (by decide) (by decide) (by decide) (by decide) (by decide) (by decide) (by decide) (by decide) (by decide) (by decide) (by decide) (by decide) (by decide) (by decide) (by decide) (by decide) (by decide) (by decide)
      have e65 : Y2 65 0 = Y1 65 0 := e2 65 (by decide) (by decide) (by decide) (by decide) (by decide) (by decide) (by decide) (by decide) (by decide) (by decide) (by decide) (by decide) (by decide) (by decide) (by decide) (by decide) (by decide) (by decide)
      have e66 : Y2 66 0 = Y1 66 0 := e2 66 (by decide) (by decide) (by decide) (by decide) (by decide) (by decide) (by decide) (by decide) (by decide) (by decide) (by decide) (by decide) (by decide) (by decide) (by decide) (by decide) (by decide) (by decide)
      have e67 : Y2 67 0 = Y1 67 0 := e2 67 (by decide) (by decide) (by decide) (by decide) (by decide) (by decide) (by decide) (by decide) (by decide) (by decide) (by decide) (by decide) (by decide) (by decide) (by decide) (by decide) (by decide) (by decide)
      obtain ⟨-, ⟨L, hL, hX, hY, hT⟩, -, -, -, -, -, -, -, -, -, -, -, -, hG, -, -, -, hZ⟩ := h1
      have hsz : fX9_size V = Y2 40 0 10 := by
        show V 7 0 3 = _
        rw [hb.1.1, e3.1]
      refine sim_mk rfl rfl hsz ⟨c, 0, ss_fresh hp hc1 hb ⟨c4, c5, c6, c7⟩ ⟨e3, e4⟩ ⟨L, hL, ?_, ?_, ?_⟩ ?_ ?_⟩
      · rw [v1]; exact hX
      · rw [e30]; exact hY
      · rw [v2, e41]; exact hT
      · rw [e55]; exact hZ.2.2.2.2
      · intro i hi
        obtain ⟨-, q1, q2, q3, -⟩ := hG i hi
        rw [v25 i 1 hi (by decide) (by decide), v25 i 2 hi (by decide) (by decide), v25 i 3 hi (by decide) (by decide), e65, e66, e67]
        exact ⟨q1, q2, q3⟩
  · rw [if_neg hr, if_neg hr]
    exact sim_same h1 (-2) rfl rfl
end
