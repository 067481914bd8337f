theorem sx_apps : ∀ (r : List Int32) (i : Nat) (M : pf_M), i + r.length ≤ 200 → M 1 0 5 = nI i → (∀ c ∈ r, vp_nar .char c = c) → ∃ M', fX11_app r M = fX11_tail M' ∧ M' 1 0 5 = nI (i + r.length) ∧ (∀ j, j < i → M' 2 0 j = M 2 0 j) ∧ (∀ j, j < r.length → M' 2 0 (i + j) = r.getD j 0) ∧ ∀ k, k ≠ 1 → k ≠ 2 → M' k = M k := by
  intro r
  induction r with
  | nil =>
    intro i M hi hM hc
    exact ⟨M, rfl, hM, fun _ _ => rfl, fun j hj => absurd hj (Nat.not_lt_zero j), fun _ _ _ => rfl⟩
  | cons c r ih =>
    intro i M hi hM hc
    have hi : i + (r.length + 1) ≤ 200 := hi
    have hap : fX10_append c M = some (1, pf_up (pf_up M 2 0 i c) 1 0 5 (nI (i + 1))) := by
      have q1 : pf_up M 2 0 i c 1 0 5 = nI i := by rw [pf_up_k _ (by decide)]; exact hM
      unfold fX10_append
      rw [hM, if_pos (show nI i < 200 from (nI_ltI (b := 200) (by omega) (by omega)).mpr (by omega)), si_pin2 (show i < 200 by omega) (by decide), if_pos rfl, si_cl (by omega), hc c List.mem_cons_self, q1, nI_1]
    obtain ⟨M', a1, a2, a3, a4, a5⟩ := ih (i + 1) (pf_up (pf_up M 2 0 i c) 1 0 5 (nI (i + 1))) (by omega) (pf_up_s _ _ _ _ _) (fun x hx => hc x (List.mem_cons_of_mem _ hx))
    refine ⟨M', ?_, ?_, fun j hj => ?_, fun j hj => ?_, fun k h1 h2 => ?_⟩
    · show (fX10_append c M).bind (fun q => fX11_app r q.2) = _
      rw [hap]
      exact a1
    · rw [a2, List.length_cons]
      congr 1
      omega
    · rw [a3 j (by omega), pf_up_k _ (by decide), pf_up_j _ _ _ _ _ _ (by omega)]
    · cases j with
      | zero =>
        rw [Nat.add_zero, a3 i (by omega), pf_up_k _ (by decide), pf_up_s]
        rfl
      | succ j =>
        have hj : j + 1 < r.length + 1 := hj
        rw [show i + (j + 1) = i + 1 + j by omega, a4 j (by omega)]
        rfl
    · rw [a5 k h1 h2]
      funext x
      rw [pf_up_k _ h1, pf_up_k _ h2]
theorem sy_is {Y : pf_M} {c : Nat} (hc : c < 8) (h : Y 40 0 3 = nI c) (x1 x2 x3 x4 : Int32) : fX12_deviceIs x1 x2 x3 x4 Y = some (pf_up (pf_up (pf_up (pf_up (pf_up Y 42 0 c x1) 43 0 c x2) 44 0 c x3) 45 0 c x4) 40 0 3 (nI (c + 1))) := by
  have q1 : ∀ (M : pf_M) (j : Nat) (v : Int32), pf_up M 42 0 j v 40 0 3 = M 40 0 3 := fun _ _ _ => by rw [pf_up_k _ (by decide)]
  have q2 : ∀ (M : pf_M) (j : Nat) (v : Int32), pf_up M 43 0 j v 40 0 3 = M 40 0 3 := fun _ _ _ => by rw [pf_up_k _ (by decide)]
  have q3 : ∀ (M : pf_M) (j : Nat) (v : Int32), pf_up M 44 0 j v 40 0 3 = M 40 0 3 := fun _ _ _ => by rw [pf_up_k _ (by decide)]
  have q4 : ∀ (M : pf_M) (j : Nat) (v : Int32), pf_up M 45 0 j v 40 0 3 = M 40 0 3 := fun _ _ _ => by rw [pf_up_k _ (by decide)]
  unfold fX12_deviceIs
  simp only [q1, q2, q3, q4, h, si_pin2 (show c < 8 by omega) (by decide), si_pin2 (show c < 9 by omega) (by decide), if_true, si_cl (show c < 2 ^ 31 by omega), nI_1]
def y0 : pf_M := fX12_empty z0
def y1 : pf_M := pf_up (pf_up (pf_up (pf_up (pf_up y0 42 0 0 11) 43 0 0 3) 44 0 0 0) 45 0 0 5) 40 0 3 (nI 1)
def y2 : pf_M := pf_up (pf_up (pf_up (pf_up (pf_up y1 42 0 1 22) 43 0 1 5) 44 0 1 20) 45 0 1 4) 40 0 3 (nI 2)
def y3 : pf_M := pf_up (pf_up (pf_up (pf_up (pf_up y2 42 0 2 33) 43 0 2 4) 44 0 2 100) 45 0 2 3) 40 0 3 (nI 3)
def y4 : pf_M := pf_up (pf_up (pf_up (pf_up (pf_up y3 42 0 3 7) 43 0 3 2) 44 0 3 50) 45 0 3 4) 40 0 3 (nI 4)
def y5 : pf_M := pf_up (pf_up (pf_up y4 43 0 8 4) 40 0 8 3) 40 0 9 2
theorem y5_ctor : fX12_ctor z0 = fX12_begin y5 := by
  unfold fX12_ctor
  have e1 : fX12_deviceIs 11 3 0 5 (fX12_empty z0) = some y1 := sy_is (Y := y0) (c := 0) (by decide) (by decide +kernel) 11 3 0 5
  have e2 : fX12_deviceIs 22 5 20 4 y1 = some y2 := sy_is (Y := y1) (c := 1) (by decide) (by decide +kernel) 22 5 20 4
  have e3 : fX12_deviceIs 33 4 100 3 y2 = some y3 := sy_is (Y := y2) (c := 2) (by decide) (by decide +kernel) 33 4 100 3
  have e4 : fX12_deviceIs 7 2 50 4 y3 = some y4 := sy_is (Y := y3) (c := 3) (by decide) (by decide +kernel) 7 2 50 4
  rw [e1, Option.bind_some, e2, Option.bind_some, e3, Option.bind_some, e4, Option.bind_some]
  rfl
theorem y5_z {k : Nat} (h40 : k ≠ 40) (h42 : k ≠ 42) (h43 : k ≠ 43) (h44 : k ≠ 44) (h45 : k ≠ 45) (j : Nat) : y5 k 0 j = 0 := by
  unfold y5 y4 y3 y2 y1 y0 fX12_empty
  simp only [pf_up_k _ h40, pf_up_k _ h42, pf_up_k _ h43, pf_up_k _ h44, pf_up_k _ h45]
  rfl
theorem four {P : Nat → Prop} (h0 : P 0) (h1 : P 1) (h2 : P 2) (h3 : P 3) : ∀ j, j < 4 → P j := by
  intro j hj
  rcases (show j = 0 ∨ j = 1 ∨ j = 2 ∨ j = 3 by omega) with rfl | rfl | rfl | rfl
  · exact h0
  · exact h1
  · exact h2
  · exact h3
theorem ss_start : ∃ X0 Y0, fX11_app ps_b z0 = some X0 ∧ fX12_ctor z0 = some Y0 ∧ sRR X0 Y0 0 := by
  obtain ⟨M1, a1, a2, -, a4, a5⟩ := sx_apps ps_b 0 z0 (by decide +kernel) rfl (by decide +kernel)
  have a2 : M1 1 0 5 = nI 41 := a2
  have hch : ∀ j, j < 41 → 32 ≤ ps_b.getD j 0 ∧ ps_b.getD j 0 ≤ 126 := by decide +kernel
  have hT : sT M1 yT := by
    refine ⟨41, by omega, a2, rfl, fun j hj => ?_⟩
    have e1 : M1 2 0 j = ps_b.getD j 0 := by
      have := a4 j hj
      rw [Nat.zero_add] at this
      exact this
    have e2 : yT 41 0 j = ps_b.getD j 0 := rfl
    rw [e1, e2]
    exact ⟨rfl, hch j hj⟩
  obtain ⟨r, X1, Y1, b1, b2, b3, b4, b5⟩ := ss_ring hT
  have hy := yT_read
  rw [b2] at hy
  have hy : [r, Y1 40 0 3, Y1 40 0 8, Y1 40 0 9, Y1 43 0 8, Y1 42 0 0, Y1 42 0 1, Y1 42 0 2, Y1 42 0 3, Y1 43 0 0, Y1 43 0 1, Y1 43 0 2, Y1 43 0 3, Y1 44 0 0, Y1 44 0 1, Y1 44 0 2, Y1 44 0 3, Y1 45 0 0, Y1 45 0 1, Y1 45 0 2, Y1 45 0 3] = [-4, 4, 3, 2, 4, 11, 22, 33, 7, 3, 5, 4, 2, 0, 20, 100, 50, 5, 4, 3, 4] := hy
  simp only [List.cons.injEq, and_true] at hy
  obtain ⟨hr, h3, h8, h9, h438, n0, n1, n2, n3, w0, w1, w2, w3, s0, s1, s2, s3, r0, r1, r2, r3⟩ := hy
  obtain ⟨c, hp⟩ := b5 hr
  obtain ⟨hc, p1, p2, p3, p4, p5, p6⟩ := hp
  have hc4 : c = 4 := by
    rw [h3] at p2
    exact ((nI_eq (a := 4) (b := c) (by omega) (by omega)).mp p2).symm
  subst hc4
  have q42 : ∀ j, j < 4 → Y1 42 0 j = y5 42 0 j := four n0 n1 n2 n3
  have q43 : ∀ j, j < 4 → Y1 43 0 j = y5 43 0 j := four w0 w1 w2 w3
  have q44 : ∀ j, j < 4 → Y1 44 0 j = y5 44 0 j := four s0 s1 s2 s3
  have q45 : ∀ j, j < 4 → Y1 45 0 j = y5 45 0 j := four r0 r1 r2 r3
  have q438 : Y1 43 0 8 = y5 43 0 8 := h438
  have q8 : Y1 40 0 8 = y5 40 0 8 := h8
  have q9 : Y1 40 0 9 = y5 40 0 9 := h9
  have hp5 : pR X1 y5 4 := by
    refine ⟨by omega, p1, rfl, fun j hj => ?_, ?_, ?_, ?_⟩
    · rw [← q42 j hj, ← q43 j hj, ← q44 j hj, ← q45 j hj]
      exact p3 j hj
    · rw [← q438]; exact p4
    · rw [← q8]; exact p5
    · rw [← q9]; exact p6
  obtain ⟨W, w1, w2, w3⟩ := sx_bld (X := X1) (c := 4) (by omega) p1
  obtain ⟨Y2, e1, e2, ⟨e30, e3⟩, e4⟩ := sy_lay hp5
  have x0 : ∀ k i, k ≠ 1 → fX10_empty W k i = W k i := fun k i h => pf_up_k _ h
  have xz : ∀ k, k ≠ 1 → k ≠ 2 → k ≠ 3 → k ≠ 4 → k ≠ 5 → k ≠ 6 → k ≠ 7 → k ≠ 9 → k ≠ 10 → k ≠ 11 → k ≠ 12 → k ≠ 13 → k ≠ 14 → k ≠ 15 → ∀ i f, fX10_empty W k i f = 0 := by
    intro k u1 u2 u3 u4 u5 u6 u7 u9 u10 u11 u12 u13 u14 u15 i f
    rw [x0 k i u1, w2 k u7 u9 u10 u11 u12 u13 u14 u15, b3.1 k u1 u3 u4 u5 u6, a5 k u1 u2]
    rfl
  have yz : ∀ k, k ≠ 40 → k ≠ 42 → k ≠ 43 → k ≠ 44 → k ≠ 45 → k ≠ 46 → k ≠ 47 → k ≠ 48 → k ≠ 49 → k ≠ 50 → k ≠ 51 → k ≠ 52 → k ≠ 53 → k ≠ 54 → k ≠ 56 → k ≠ 59 → k ≠ 60 → k ≠ 61 → k ≠ 62 → k ≠ 63 → k ≠ 64 → k ≠ 68 → ∀ j, Y2 k 0 j = 0 := by
    intro k u40 u42 u43 u44 u45 u46 u47 u48 u49 u50 u51 u52 u53 u54 u56 u59 u60 u61 u62 u63 u64 u68 j
    rw [e2 k u40 u46 u47 u48 u49 u50 u51 u52 u53 u54 u56 u59 u60 u61 u62 u63 u64 u68, y5_z u40 u42 u43 u44 u45]
  have x25 := xz 25 (by decide) (by decide) (by decide) (by decide) (by decide) (by decide) (by decide) (by decide) (by decide) (by decide) (by decide) (by decide) (by decide) (by decide)
  have x26 := xz 26 (by decide) (by decide) (by decide) (by decide) (by decide) (by decide) (by decide) (by decide) (by decide) (by decide) (by decide) (by decide) (by decide) (by decide)
  have x20 := xz 20 (by decide) (by decide) (by decide) (by decide) (by decide) (by decide) (by decide) (by decide) (by decide) (by decide) (by decide) (by decide) (by decide) (by decide)
  have x22 := xz 22 (by decide) (by decide) (by decide) (by decide) (by decide) (by decide) (by decide) (by decide) (by decide) (by decide) (by decide) (by decide) (by decide) (by decide)
  have yy55 := yz 55 (by decide) (by decide) (by decide) (by decide) (by decide) (by decide) (by decide) (by decide) (by decide) (by decide) (by decide) (by decide) (by decide) (by decide) (by decide) (by decide) (by decide) (by decide) (by decide) (by decide) (by decide) (by decide)
  have yy65 := yz 65 (by decide) (by decide) (by decide) (by decide) (by decide) (by decide) (by decide) (by decide) (by decide) (by decide) (by decide) (by decide) (by decide) (by decide) (by decide) (by decide) (by decide) (by decide) (by decide) (by decide) (by decide) (by decide)
  have yy66 := yz 66 (by decide) (by decide) (by decide) (by decide) (by decide) (by decide) (by decide) (by decide) (by decide) (by decide) (by decide) (by decide) (by decide) (by decide) (by decide) (by decide) (by decide) (by decide) (by decide) (by decide) (by decide) (by decide)
  have yy67 := yz 67 (by decide) (by decide) (by decide) (by decide) (by decide) (by decide) (by decide) (by decide) (by decide) (by decide) (by decide) (by decide) (by decide) (by decide) (by decide) (by decide) (by decide) (by decide) (by decide) (by decide) (by decide) (by decide)
  have hb : xBld X1 (fX10_empty W) 4 := by
    obtain ⟨⟨q1, q2, q3, q4⟩, q5, q6, q7, q8⟩ := w3
    refine ⟨⟨?_, ?_, ?_, ?_⟩, fun w hw => ?_, fun w hw => ?_, ?_, fun d hd => ?_⟩
    · rw [x0 7 0 (by decide)]; exact q1
    · rw [x0 7 0 (by decide)]; exact q2
    · rw [x0 7 0 (by decide)]; exact q3
    · rw [x0 7 0 (by decide)]; exact q4
    · rw [x0 10 0 (by decide)]; exact q5 w hw
    · rw [x0 9 0 (by decide)]; exact q6 w hw
    · rw [x0 9 0 (by decide)]; exact q7
    · exact (q8 d hd).keep (x0 11 _ (by decide)) (x0 12 _ (by decide)) (x0 13 _ (by decide)) (x0 13 _ (by decide)) (x0 14 _ (by decide)) (x0 15 _ (by decide)) (x0 15 _ (by decide))
  refine ⟨fX10_empty W, Y2, ?_, ?_, 4, 0, ss_fresh hp5 (by omega) hb ⟨fun i hi => ⟨x25 i 0, x25 i 9, fun q _ => x26 i q⟩, x20 0 3, x20 0 4, x22 0 2⟩ ⟨e3, e4⟩ ⟨0, by omega, ?_, ?_, fun j hj => absurd hj (Nat.not_lt_zero j)⟩ (fun o _ => ?_) (fun i hi => ?_)⟩
  · rw [a1]
    unfold fX11_tail
    rw [b1, Option.bind_some]
    show (fX9_build X1).bind _ = _
    rw [w1, Option.bind_some]
  · rw [y5_ctor]; exact e1
  · exact pf_up_s _ _ _ _ _
  · rw [e30]; rfl
  · rw [yy55]; decide
  · rw [x25, x25, x25, yy65, yy66, yy67]
    exact ⟨⟨rfl, by decide, by decide⟩, ⟨rfl, by decide, by decide⟩, ⟨rfl, by decide, by decide⟩⟩
