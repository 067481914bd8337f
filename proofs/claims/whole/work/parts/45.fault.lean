section
variable {X Y X' Y' : pf_M} {n t k : Nat}
theorem sN.scr (h : sN X Y n t k) (fx : pFx X X') (fy : pFy Y Y') : sN X' Y' n t k := by
  have eX : ∀ q, q ≠ 1 → q ≠ 3 → q ≠ 4 → q ≠ 5 → q ≠ 6 → X' q = X q := fx.1
  have f2 : ∀ q, q ≠ 40 → q ≠ 42 → q ≠ 43 → q ≠ 44 → q ≠ 45 → Y' q 0 = Y q 0 := fy.1
  have f40 : ∀ a, a ≠ 2 → a ≠ 3 → a ≠ 8 → a ≠ 9 → Y' 40 0 a = Y 40 0 a := fy.2
  have e2 : X' 2 = X 2 := eX 2 (by decide) (by decide) (by decide) (by decide) (by decide)
  have e7 : X' 7 = X 7 := eX 7 (by decide) (by decide) (by decide) (by decide) (by decide)
  have e9 : X' 9 = X 9 := eX 9 (by decide) (by decide) (by decide) (by decide) (by decide)
  have e10 : X' 10 = X 10 := eX 10 (by decide) (by decide) (by decide) (by decide) (by decide)
  have e11 : X' 11 = X 11 := eX 11 (by decide) (by decide) (by decide) (by decide) (by decide)
  have e12 : X' 12 = X 12 := eX 12 (by decide) (by decide) (by decide) (by decide) (by decide)
  have e13 : X' 13 = X 13 := eX 13 (by decide) (by decide) (by decide) (by decide) (by decide)
  have e14 : X' 14 = X 14 := eX 14 (by decide) (by decide) (by decide) (by decide) (by decide)
  have e15 : X' 15 = X 15 := eX 15 (by decide) (by decide) (by decide) (by decide) (by decide)
  have e16 : X' 16 = X 16 := eX 16 (by decide) (by decide) (by decide) (by decide) (by decide)
  have e20 : X' 20 = X 20 := eX 20 (by decide) (by decide) (by decide) (by decide) (by decide)
  have e22 : X' 22 = X 22 := eX 22 (by decide) (by decide) (by decide) (by decide) (by decide)
  have e23 : X' 23 = X 23 := eX 23 (by decide) (by decide) (by decide) (by decide) (by decide)
  have e24 : X' 24 = X 24 := eX 24 (by decide) (by decide) (by decide) (by decide) (by decide)
  have e25 : X' 25 = X 25 := eX 25 (by decide) (by decide) (by decide) (by decide) (by decide)
  have e26 : X' 26 = X 26 := eX 26 (by decide) (by decide) (by decide) (by decide) (by decide)
  have e30 : X' 30 = X 30 := eX 30 (by decide) (by decide) (by decide) (by decide) (by decide)
  have y41 : Y' 41 0 = Y 41 0 := f2 41 (by decide) (by decide) (by decide) (by decide) (by decide)
  have y46 : Y' 46 0 = Y 46 0 := f2 46 (by decide) (by decide) (by decide) (by decide) (by decide)
  have y47 : Y' 47 0 = Y 47 0 := f2 47 (by decide) (by decide) (by decide) (by decide) (by decide)
  have y48 : Y' 48 0 = Y 48 0 := f2 48 (by decide) (by decide) (by decide) (by decide) (by decide)
  have y49 : Y' 49 0 = Y 49 0 := f2 49 (by decide) (by decide) (by decide) (by decide) (by decide)
  have y50 : Y' 50 0 = Y 50 0 := f2 50 (by decide) (by decide) (by decide) (by decide) (by decide)
  have y51 : Y' 51 0 = Y 51 0 := f2 51 (by decide) (by decide) (by decide) (by decide) (by decide)
  have y52 : Y' 52 0 = Y 52 0 := f2 52 (by decide) (by decide) (by decide) (by decide) (by decide)
  have y53 : Y' 53 0 = Y 53 0 := f2 53 (by decide) (by decide) (by decide) (by decide) (by decide)
  have y54 : Y' 54 0 = Y 54 0 := f2 54 (by decide) (by decide) (by decide) (by decide) (by decide)
  have y55 : Y' 55 0 = Y 55 0 := f2 55 (by decide) (by decide) (by decide) (by decide) (by decide)
  have y56 : Y' 56 0 = Y 56 0 := f2 56 (by decide) (by decide) (by decide) (by decide) (by decide)
  have y57 : Y' 57 0 = Y 57 0 := f2 57 (by decide) (by decide) (by decide) (by decide) (by decide)
  have y58 : Y' 58 0 = Y 58 0 := f2 58 (by decide) (by decide) (by decide) (by decide) (by decide)
  have y59 : Y' 59 0 = Y 59 0 := f2 59 (by decide) (by decide) (by decide) (by decide) (by decide)
  have y60 : Y' 60 0 = Y 60 0 := f2 60 (by decide) (by decide) (by decide) (by decide) (by decide)
  have y61 : Y' 61 0 = Y 61 0 := f2 61 (by decide) (by decide) (by decide) (by decide) (by decide)
  have y62 : Y' 62 0 = Y 62 0 := f2 62 (by decide) (by decide) (by decide) (by decide) (by decide)
  have y63 : Y' 63 0 = Y 63 0 := f2 63 (by decide) (by decide) (by decide) (by decide) (by decide)
  have y64 : Y' 64 0 = Y 64 0 := f2 64 (by decide) (by decide) (by decide) (by decide) (by decide)
  have y65 : Y' 65 0 = Y 65 0 := f2 65 (by decide) (by decide) (by decide) (by decide) (by decide)
  have y66 : Y' 66 0 = Y 66 0 := f2 66 (by decide) (by decide) (by decide) (by decide) (by decide)
  have y67 : Y' 67 0 = Y 67 0 := f2 67 (by decide) (by decide) (by decide) (by decide) (by decide)
  have y68 : Y' 68 0 = Y 68 0 := f2 68 (by decide) (by decide) (by decide) (by decide) (by decide)
  have y71 : Y' 71 0 = Y 71 0 := f2 71 (by decide) (by decide) (by decide) (by decide) (by decide)
  have y72 : Y' 72 0 = Y 72 0 := f2 72 (by decide) (by decide) (by decide) (by decide) (by decide)
  have y73 : Y' 73 0 = Y 73 0 := f2 73 (by decide) (by decide) (by decide) (by decide) (by decide)
  have y74 : Y' 74 0 = Y 74 0 := f2 74 (by decide) (by decide) (by decide) (by decide) (by decide)
  unfold sN sT sR sW sC sD sS sO sL sB sM sMo sQ sQo sX sP sG sGo sU sH sHo sE sEo sZ at h ⊢
  rw [fx.2, e2, e7, e9, e10, e11, e12, e13, e14, e15, e16, e20, e22, e23, e24, e25, e26, e30, f40 0 (by decide) (by decide) (by decide) (by decide), f40 10 (by decide) (by decide) (by decide) (by decide), f40 15 (by decide) (by decide) (by decide) (by decide), f40 16 (by decide) (by decide) (by decide) (by decide), f40 22 (by decide) (by decide) (by decide) (by decide), f40 23 (by decide) (by decide) (by decide) (by decide), f40 40 (by decide) (by decide) (by decide) (by decide), f40 44 (by decide) (by decide) (by decide) (by decide), f40 46 (by decide) (by decide) (by decide) (by decide), y41, y46, y47, y48, y49, y50, y51, y52, y53, y54, y55, y56, y57, y58, y59, y60, y61, y62, y63, y64, y65, y66, y67, y68, y71, y72, y73, y74]
  exact h
theorem ss_ring (h : sT X Y) : ∃ r X' Y', fX10_readRing X = some (r, X') ∧ fX12_readAll Y = some (r, Y') ∧ pFx X X' ∧ pFy Y Y' ∧ (r = -4 → ∃ c, pR X' Y' c) := by
  obtain ⟨L, hL, hX, hY, hT⟩ := h
  unfold fX10_readRing fX12_readAll fX12_empty
  have x5 : pFx X (pf_up (pf_up (pf_up (pf_up X 1 0 6 (0 : Int32)) 1 0 7 (1 : Int32)) 1 0 8 (2 : Int32)) 1 0 9 (1 : Int32)) := by
    refine ⟨fun q u1 _ _ _ _ => funext fun j => ?_, ?_⟩
    · rw [pf_up_k _ u1, pf_up_k _ u1, pf_up_k _ u1, pf_up_k _ u1]
    · rw [pf_up_j _ _ _ _ _ _ (by decide), pf_up_j _ _ _ _ _ _ (by decide), pf_up_j _ _ _ _ _ _ (by decide), pf_up_j _ _ _ _ _ _ (by decide)]
  have y5 : pFy Y (pf_up (pf_up (pf_up (pf_up Y 40 0 3 (0 : Int32)) 43 0 (8 : Int32).toNatClampNeg (1 : Int32)) 40 0 8 (2 : Int32)) 40 0 9 (1 : Int32)) := by
    refine ⟨fun q u1 _ u3 _ _ => ?_, fun a _ u3 u8 u9 => ?_⟩
    · rw [pf_up_k _ u1, pf_up_k _ u1, pf_up_k _ u3, pf_up_k _ u1]
    · rw [pf_up_j _ _ _ _ _ _ u9, pf_up_j _ _ _ _ _ _ u8]
      show pf_up Y 40 0 3 0 40 0 a = _
      rw [pf_up_j _ _ _ _ _ _ u3]
  have hpR : pR (pf_up (pf_up (pf_up (pf_up X 1 0 6 (0 : Int32)) 1 0 7 (1 : Int32)) 1 0 8 (2 : Int32)) 1 0 9 (1 : Int32)) (pf_up (pf_up (pf_up (pf_up Y 40 0 3 (0 : Int32)) 43 0 (8 : Int32).toNatClampNeg (1 : Int32)) 40 0 8 (2 : Int32)) 40 0 9 (1 : Int32)) 0 := by
    refine ⟨by omega, rfl, rfl, fun j hj => by omega, ⟨rfl, ?_, ?_⟩, ⟨rfl, ?_, ?_⟩, rfl, ?_, ?_⟩
    · show (1 : Int32) ≤ 1; decide
    · show (1 : Int32) ≤ 9; decide
    · show (0 : Int32) ≤ 2; decide
    · show (2 : Int32) ≤ 9; decide
    · show (0 : Int32) ≤ 1; decide
    · show (1 : Int32) ≤ 9; decide
  obtain ⟨r, X', Y', a1, a2, a3, a4, a5⟩ := ss_ringL (L := L) 41 0 0 pf_fu pf_fu 0 _ _ hL (x5.2.trans hX) ((y5.2 0 (by decide) (by decide) (by decide) (by decide)).trans hY) (fun j hj => by
    rw [x5.1 2 (by decide) (by decide) (by decide) (by decide) (by decide), y5.1 41 (by decide) (by decide) (by decide) (by decide) (by decide)]
    exact (hT j hj).1) (by omega) (by omega) (by omega) (by unfold pf_fu; omega) (by unfold pf_fu; omega) hpR
  exact ⟨r, X', Y', a1, a2, x5.trans a3, y5.trans a4, a5⟩
theorem sc_fault (h : sRR X Y k) : sim k (fX11_fault X) (fX12_fault Y) := by
  obtain ⟨n, t, h⟩ := h
  obtain ⟨r, X', Y', a1, a2, a3, a4, -⟩ := ss_ring h.2.1
  unfold fX11_fault fX12_fault
  rw [a1, a2]
  exact sim_mk rfl rfl rfl ⟨n, t, (h.scr a3 a4).next⟩
end
/-- filling -/
theorem sj_fill {kd i nn : Nat} (hnn : nn ≤ 200) (v : Int32) : ∀ (m j f : Nat) (M : pf_M), j + m = nn → m < f → ∃ M', lJ7_fill_53178_5 kd i nn v (nI nn) f (nI j) M = some M' ∧ (∀ k i', ¬ (k = kd ∧ i' = i) → M' k i' = M k i') ∧ (∀ a, a < j ∨ nn ≤ a → M' kd i a = M kd i a) ∧ ∀ a, j ≤ a → a < nn → M' kd i a = v := by
  intro m
  induction m with
  | zero =>
    intro j f M hj hf
    obtain ⟨f, rfl⟩ : ∃ g, f = g + 1 := ⟨f - 1, by omega⟩
    obtain rfl : j = nn := by omega
    rw [lJ7_fill_53178_5, if_pos (Int32.le_refl _)]
    exact ⟨M, rfl, fun _ _ _ => rfl, fun _ _ => rfl, fun a h1 h2 => by omega⟩
  | succ m ih =>
    intro j f M hj hf
    obtain ⟨f, rfl⟩ : ∃ g, f = g + 1 := ⟨f - 1, by omega⟩
    rw [lJ7_fill_53178_5, if_neg (fun w => by have := (nI_leI (by omega) (by omega)).mp w; omega), si_pin2 (by omega) (by omega), if_pos rfl, nI_1, si_cl (by omega)]
    obtain ⟨M', a1, a2, a3, a4⟩ := ih (j + 1) f (pf_up M kd i j v) (by omega) (by omega)
    refine ⟨M', a1, fun k i' h => (a2 k i' h).trans (pf_up_o _ h), fun a ha => ?_, fun a h1 h2 => ?_⟩
    · rw [a3 a (by omega), pf_up_j _ _ _ _ _ _ (by omega)]
    · by_cases haj : a = j
      · rw [haj, a3 j (by omega), pf_up_s]
      · exact a4 a (by omega) h2
theorem sj_fills {kd i nn : Nat} (hnn : nn ≤ 200) (v : Int32) (M : pf_M) : ∃ M', fJ7_fill_53178 kd i nn v M = some M' ∧ (∀ k i', ¬ (k = kd ∧ i' = i) → M' k i' = M k i') ∧ ∀ a, a < nn → M' kd i a = v := by
  obtain ⟨M', a1, a2, -, a4⟩ := sj_fill (kd := kd) (i := i) hnn v nn 0 pf_fu M (by omega) (by unfold pf_fu; omega)
  exact ⟨M', a1, a2, fun a ha => a4 a (by omega) ha⟩
