section
variable {X Y X' Y' : pf_M} {n t K m : Nat}
theorem sN.fr (h : sN X Y n t K) (eX : ∀ k, k ≠ 12 → k ≠ 27 → k ≠ 28 → k ≠ 29 → X' k = X k) (f2 : ∀ k, k ≠ 75 → k ≠ 69 → k ≠ 52 → k ≠ 70 → Y' k 0 = Y k 0) (hB' : sB X' Y' n) : sN X' Y' n t K := by
  have e1 : X' 1 = X 1 := eX 1 (by decide) (by decide) (by decide) (by decide)
  have e2 : X' 2 = X 2 := eX 2 (by decide) (by decide) (by decide) (by decide)
  have e7 : X' 7 = X 7 := eX 7 (by decide) (by decide) (by decide) (by decide)
  have e9 : X' 9 = X 9 := eX 9 (by decide) (by decide) (by decide) (by decide)
  have e10 : X' 10 = X 10 := eX 10 (by decide) (by decide) (by decide) (by decide)
  have e11 : X' 11 = X 11 := eX 11 (by decide) (by decide) (by decide) (by decide)
  have e13 : X' 13 = X 13 := eX 13 (by decide) (by decide) (by decide) (by decide)
  have e14 : X' 14 = X 14 := eX 14 (by decide) (by decide) (by decide) (by decide)
  have e15 : X' 15 = X 15 := eX 15 (by decide) (by decide) (by decide) (by decide)
  have e16 : X' 16 = X 16 := eX 16 (by decide) (by decide) (by decide) (by decide)
  have e20 : X' 20 = X 20 := eX 20 (by decide) (by decide) (by decide) (by decide)
  have e22 : X' 22 = X 22 := eX 22 (by decide) (by decide) (by decide) (by decide)
  have e23 : X' 23 = X 23 := eX 23 (by decide) (by decide) (by decide) (by decide)
  have e24 : X' 24 = X 24 := eX 24 (by decide) (by decide) (by decide) (by decide)
  have e25 : X' 25 = X 25 := eX 25 (by decide) (by decide) (by decide) (by decide)
  have e26 : X' 26 = X 26 := eX 26 (by decide) (by decide) (by decide) (by decide)
  have e30 : X' 30 = X 30 := eX 30 (by decide) (by decide) (by decide) (by decide)
  have y40 : Y' 40 0 = Y 40 0 := f2 40 (by decide) (by decide) (by decide) (by decide)
  have y41 : Y' 41 0 = Y 41 0 := f2 41 (by decide) (by decide) (by decide) (by decide)
  have y46 : Y' 46 0 = Y 46 0 := f2 46 (by decide) (by decide) (by decide) (by decide)
  have y47 : Y' 47 0 = Y 47 0 := f2 47 (by decide) (by decide) (by decide) (by decide)
  have y48 : Y' 48 0 = Y 48 0 := f2 48 (by decide) (by decide) (by decide) (by decide)
  have y49 : Y' 49 0 = Y 49 0 := f2 49 (by decide) (by decide) (by decide) (by decide)
  have y50 : Y' 50 0 = Y 50 0 := f2 50 (by decide) (by decide) (by decide) (by decide)
  have y51 : Y' 51 0 = Y 51 0 := f2 51 (by decide) (by decide) (by decide) (by decide)
  have y53 : Y' 53 0 = Y 53 0 := f2 53 (by decide) (by decide) (by decide) (by decide)
  have y54 : Y' 54 0 = Y 54 0 := f2 54 (by decide) (by decide) (by decide) (by decide)
  have y55 : Y' 55 0 = Y 55 0 := f2 55 (by decide) (by decide) (by decide) (by decide)
  have y56 : Y' 56 0 = Y 56 0 := f2 56 (by decide) (by decide) (by decide) (by decide)
  have y57 : Y' 57 0 = Y 57 0 := f2 57 (by decide) (by decide) (by decide) (by decide)
  have y58 : Y' 58 0 = Y 58 0 := f2 58 (by decide) (by decide) (by decide) (by decide)
  have y59 : Y' 59 0 = Y 59 0 := f2 59 (by decide) (by decide) (by decide) (by decide)
  have y60 : Y' 60 0 = Y 60 0 := f2 60 (by decide) (by decide) (by decide) (by decide)
  have y61 : Y' 61 0 = Y 61 0 := f2 61 (by decide) (by decide) (by decide) (by decide)
  have y62 : Y' 62 0 = Y 62 0 := f2 62 (by decide) (by decide) (by decide) (by decide)
  have y63 : Y' 63 0 = Y 63 0 := f2 63 (by decide) (by decide) (by decide) (by decide)
  have y64 : Y' 64 0 = Y 64 0 := f2 64 (by decide) (by decide) (by decide) (by decide)
  have y65 : Y' 65 0 = Y 65 0 := f2 65 (by decide) (by decide) (by decide) (by decide)
  have y66 : Y' 66 0 = Y 66 0 := f2 66 (by decide) (by decide) (by decide) (by decide)
  have y67 : Y' 67 0 = Y 67 0 := f2 67 (by decide) (by decide) (by decide) (by decide)
  have y68 : Y' 68 0 = Y 68 0 := f2 68 (by decide) (by decide) (by decide) (by decide)
  have y71 : Y' 71 0 = Y 71 0 := f2 71 (by decide) (by decide) (by decide) (by decide)
  have y72 : Y' 72 0 = Y 72 0 := f2 72 (by decide) (by decide) (by decide) (by decide)
  have y73 : Y' 73 0 = Y 73 0 := f2 73 (by decide) (by decide) (by decide) (by decide)
  have y74 : Y' 74 0 = Y 74 0 := f2 74 (by decide) (by decide) (by decide) (by decide)
  obtain ⟨ht, hT, hR, hW, hC, hD, hS, hO, hL, hB, hM, hQ, hXb, hP, hG, hU, hH, hE, hZ⟩ := h
  refine ⟨ht, ?_, ?_, ?_, ?_, ?_, ?_, ?_, ?_, hB', ?_⟩
  · unfold sT; rw [e1, e2, y40, y41]; exact hT
  · unfold sR; rw [e7, y40]; exact hR
  · unfold sW; rw [e9, y47]; exact hW
  · unfold sC; rw [e10, y50]; exact hC
  · unfold sD; rw [e11, y46, y48, y49]; exact hD
  · unfold sS; rw [e11, y51]; exact hS
  · unfold sO; rw [e11, y53]; exact hO
  · unfold sL; rw [e11, y54]; exact hL
  · unfold sM sMo sQ sQo sX sP sG sGo sU sH sHo sE sEo sZ
    rw [e13, e14, e15, e16, e20, e22, e23, e24, e25, e26, e30, y40, y55, y56, y57, y58, y59, y60, y61, y62, y63, y64, y65, y66, y67, y68, y71, y72, y73, y74]
    exact ⟨hM, hQ, hXb, hP, hG, hU, hH, hE, hZ⟩
def sShow (X Y : pf_M) (d T : Nat) : Prop := ∀ b, b < 16 → X 12 d b = qV Y d T b
theorem fu_n (R W : Bool) (br bw : Nat → Option Nat) (z kd : Nat) : ∃ u : Nat, u ≤ 3 ∧ fR R br z + fW kd W bw z = nI u := by
  have h2 : fW kd W bw z = nI 0 ∨ fW kd W bw z = nI 1 ∨ fW kd W bw z = nI 2 := by
    unfold fW
    generalize (if W = true then qG bw z 0 0 else 0) = w0
    by_cases g0 : w0 = 0
    · rw [if_pos g0]; exact Or.inl rfl
    · rw [if_neg g0]
      by_cases g1 : kd = 1
      · rw [if_pos g1]; exact Or.inr (Or.inl rfl)
      · rw [if_neg g1]; exact Or.inr (Or.inr rfl)
  have h1 : fR R br z = nI 0 ∨ fR R br z = nI 1 := fR_01 R br z
  rcases h1 with h1 | h1 <;> rcases h2 with h2 | h2 | h2 <;> rw [h1, h2, nI_add]
  · exact ⟨0, by omega, rfl⟩
  · exact ⟨1, by omega, rfl⟩
  · exact ⟨2, by omega, rfl⟩
  · exact ⟨1, by omega, rfl⟩
  · exact ⟨2, by omega, rfl⟩
  · exact ⟨3, by omega, rfl⟩
/-- both edits keep the relation -/
theorem ss_eXY {i s d z T kd : Nat} {cb R W : Bool} {br bw : Nat → Option Nat} (h : sN X Y n t K) (hd : d < n) (hi : i < 4) (hs : s < 2) (hz8 : z ≤ 8) (hsh : sShow X Y d T) (hF : sF X Y m)
    (hb16 : ∀ k b, br k = some b → b < 16) (hw16 : ∀ k b, bw k = some b → 4 ≤ b ∧ b < 16) (hcb : (Y 64 0 i = 7 ∨ Y 64 0 i = 9) → cb = true)
    (hX : eX (2 * i + s) d z cb R W br bw (fR R br z + fW kd W bw z) X X') (hY : eY s i d z T cb R W br bw (fR R br z + fW kd W bw z) Y Y') :
    sN X' Y' n t K ∧ sShow X' Y' d T ∧ sF X' Y' (m + 1) ∧ (s = 0 → sFk Y → sFk Y') ∧ (s = 0 → sFb Y → sFb Y') := by
  obtain ⟨x1, x2, x3, x4, x5⟩ := hX
  obtain ⟨y1, y2, y3, y4, y5, y6, y7⟩ := hY
  obtain ⟨hf1, hf2⟩ := hF i hi s hs
  have hB := h.2.2.2.2.2.2.2.2.2.1
  have e64 : Y' 64 0 = Y 64 0 := y1 64 (by decide) (by decide) (by decide) (by decide)
  have e68 : Y' 68 0 = Y 68 0 := y1 68 (by decide) (by decide) (by decide) (by decide)
  have e46 : Y' 46 0 = Y 46 0 := y1 46 (by decide) (by decide) (by decide) (by decide)
  have e51 : Y' 51 0 = Y 51 0 := y1 51 (by decide) (by decide) (by decide) (by decide)
  have e48 : Y' 48 0 = Y 48 0 := y1 48 (by decide) (by decide) (by decide) (by decide)
  have e49 : Y' 49 0 = Y 49 0 := y1 49 (by decide) (by decide) (by decide) (by decide)
  have e53 : Y' 53 0 = Y 53 0 := y1 53 (by decide) (by decide) (by decide) (by decide)
  have hbyte : ∀ b, 4 ≤ b → b < 16 → X' 12 d b = Y' 52 0 (16 * d + b) := by
    intro b h4 h16
    by_cases hw : W = true ∧ ∃ k, k < z ∧ bw k = some b
    · obtain ⟨hw, k, hk, hb⟩ := hw
      rw [x4 hw k b hk hb, y5 hw k b hk hb]
      exact hf2 k (by omega)
    · have hc : W = false ∨ ∀ k, k < z → ¬ bw k = some b := by
        cases W with
        | false => exact Or.inl rfl
        | true => exact Or.inr (fun k hk hb => hw ⟨rfl, k, hk, hb⟩)
      rw [x3 b hc, y4 (16 * d + b) (hc.imp_right (fun hn k b' hk hb he => hn k hk (by rw [hb, show b = b' by omega])))]
      exact hB d hd b h4 h16
  have hB' : sB X' Y' n := by
    intro d' hd' b h4 h16
    by_cases hdd : d' = d
    · rw [hdd]
      exact hbyte b h4 h16
    · rw [x1 12 d' (fun w => by omega) (fun w => by omega) (by decide) (fun w => hdd w.2), y4 (16 * d' + b) (Or.inr (fun k b' hk hb he => by have := hw16 k b' hb; omega))]
      exact hB d' hd' b h4 h16
  refine ⟨h.fr (fun k h1 h2 h3 h4 => funext fun j => x1 k j (fun w => h2 w.1) (fun w => h3 w.1) h4 (fun w => h1 w.1)) y1 hB', ?_, ?_, ?_, ?_⟩
  · intro b hb
    have hlow : b < 4 → X' 12 d b = X 12 d b := fun h4 => x3 b (Or.inr (fun k hk hbb => by have := hw16 k b hbb; omega))
    have hq : qM Y' d T = qM Y d T := by unfold qM; rw [e48, e49, e53]
    match b, hb with
    | 0, _ =>
      rw [hlow (by omega), hsh 0 (by omega)]
      show Y 46 0 d = Y' 46 0 d
      rw [e46]
    | 1, _ =>
      rw [hlow (by omega), hsh 1 (by omega)]
      show Y 51 0 d = Y' 51 0 d
      rw [e51]
    | 2, _ =>
      rw [hlow (by omega), hsh 2 (by omega)]
      show qM Y d T - qM Y d T / 256 * 256 = qM Y' d T - qM Y' d T / 256 * 256
      rw [hq]
    | 3, _ =>
      rw [hlow (by omega), hsh 3 (by omega)]
      show qM Y d T / 256 = qM Y' d T / 256
      rw [hq]
    | b + 4, hb => exact hbyte (b + 4) (by omega) hb
  · intro i' hi' s' hs'
    by_cases hq : i' = i ∧ s' = s
    · obtain ⟨rfl, rfl⟩ := hq
      obtain ⟨u, hu, ue⟩ := fu_n R W br bw z kd
      obtain ⟨c, c1, c2, c3⟩ := hf1
      refine ⟨⟨c + u, by omega, ?_, ?_⟩, fun k hk => ?_⟩
      · rw [x5, c2, ue, nI_add]
      · rw [y6, c3, ue, nI_add]
      · rw [x2 k hk, y2 k hk, hf2 k hk]
        by_cases hR : R = true ∧ k < z
        · rw [if_pos hR, if_pos hR]
          cases hb : br k with
          | none => rfl
          | some b =>
            unfold rdo
            simp only
            rw [hsh b (hb16 k b hb)]
        · rw [if_neg hR, if_neg hR]
    · obtain ⟨⟨c, c1, c2, c3⟩, c4⟩ := hF i' hi' s' hs'
      have hne : 2 * i' + s' ≠ 2 * i + s := fun w => hq ⟨by omega, by omega⟩
      refine ⟨⟨c, by omega, ?_, ?_⟩, fun k hk => ?_⟩
      · rw [x1 27 (2 * i' + s') (fun w => hne w.2) (fun w => by omega) (by decide) (fun w => by omega)]; exact c2
      · rw [y7 _ (by omega)]; exact c3
      · rw [x1 28 (2 * i' + s') (fun w => by omega) (fun w => hne w.2) (by decide) (fun w => by omega), y3 _ (by omega)]
        exact c4 k hk
  · intro hs0 hk i' hi' hc k hkk
    subst hs0
    rw [e64] at hc
    rw [e68]
    by_cases hii : i' = i
    · subst hii
      have hcb := hcb hc
      have hold := hk i' hi' hc k hkk
      have e := y2 k hkk
      rw [show 32 * 0 + 8 * i' + k = 8 * i' + k by omega] at e
      rw [e]
      by_cases hR : R = true ∧ k < z
      · rw [if_pos hR]
        cases hb : br k with
        | none => exact hold
        | some b =>
          unfold rdo rd
          simp only [hcb, if_true]
          rw [Int32.or_assoc, Int32.or_comm (qV Y d T b), ← Int32.or_assoc, hold]
      · rw [if_neg hR]
        exact hold
    · rw [y3 (8 * i' + k) (by omega)]
      exact hk i' hi' hc k hkk
  · intro hs0 hb i' hi'
    subst hs0
    rw [e68]
    obtain ⟨b1, b2⟩ := hb i' hi'
    refine ⟨?_, fun k hk => ?_⟩
    · rw [y7 _ (by omega)]; exact b1
    · rw [y3 _ (by omega)]; exact b2 k hk
end
