def qHc (g : Nat → Int32) : Nat → Nat → Bool
  | 0, _ => false
  | m + 1, i => if g i = 0 then qHc g m (i + 1) else true
theorem qHc_s (g : Nat → Int32) (m i : Nat) : qHc g (m + 1) i = if g i = 0 then qHc g m (i + 1) else true := rfl
def sNx (X Y : pf_M) (n t k : Nat) : Prop := t ≤ 10000 * k ∧ sT X Y ∧ sR X Y n t ∧ sW X Y n ∧ sC X Y n ∧ sD X Y n ∧ sS X Y n ∧ sO X Y n k ∧ sL X Y n ∧ sB X Y n ∧ sM X Y n ∧ sQ X Y n ∧ sX X Y n ∧ sP X Y n ∧ sG X Y ∧ sU X Y ∧ sE X Y ∧ sZ X Y
section
variable {X Y X' Y' : pf_M} {n t k : Nat}
theorem sN.x (h : sN X Y n t k) : sNx X Y n t k := by
  obtain ⟨ht, hT, hR, hW, hC, hD, hS, hO, hL, hB, hM, hQ, hXb, hP, hG, hU, hH, hE, hZ⟩ := h
  exact ⟨ht, hT, hR, hW, hC, hD, hS, hO, hL, hB, hM, hQ, hXb, hP, hG, hU, hE, hZ⟩
theorem sNx.back (h : sNx X Y n t k) (hH : sH X Y) : sN X Y n t k := by
  obtain ⟨ht, hT, hR, hW, hC, hD, hS, hO, hL, hB, hM, hQ, hXb, hP, hG, hU, hE, hZ⟩ := h
  exact ⟨ht, hT, hR, hW, hC, hD, hS, hO, hL, hB, hM, hQ, hXb, hP, hG, hU, hH, hE, hZ⟩
theorem sNx.fr (h : sNx X Y n t k) (eX : ∀ k, k ≠ 20 → k ≠ 22 → k ≠ 23 → k ≠ 24 → k ≠ 25 → k ≠ 30 → X' k = X k) (e25 : ∀ j f, f ≠ 8 → f ≠ 9 → X' 25 j f = X 25 j f) (e20 : X' 20 0 4 = X 20 0 4)
    (f2 : ∀ k, k ≠ 40 → k ≠ 71 → k ≠ 72 → k ≠ 73 → k ≠ 74 → Y' k 0 = Y k 0) (f40 : ∀ a, a ≠ 40 → a ≠ 44 → a ≠ 46 → Y' 40 0 a = Y 40 0 a) (hE' : sE X' Y') (hS' : X' 20 0 3 = Y' 40 0 46) : sNx X' Y' n t k := by
  have e1 : X' 1 = X 1 := eX 1 (by decide) (by decide) (by decide) (by decide) (by decide) (by decide)
  have e2 : X' 2 = X 2 := eX 2 (by decide) (by decide) (by decide) (by decide) (by decide) (by decide)
  have e7 : X' 7 = X 7 := eX 7 (by decide) (by decide) (by decide) (by decide) (by decide) (by decide)
  have e9 : X' 9 = X 9 := eX 9 (by decide) (by decide) (by decide) (by decide) (by decide) (by decide)
  have e10 : X' 10 = X 10 := eX 10 (by decide) (by decide) (by decide) (by decide) (by decide) (by decide)
  have e11 : X' 11 = X 11 := eX 11 (by decide) (by decide) (by decide) (by decide) (by decide) (by decide)
  have e12 : X' 12 = X 12 := eX 12 (by decide) (by decide) (by decide) (by decide) (by decide) (by decide)
  have e13 : X' 13 = X 13 := eX 13 (by decide) (by decide) (by decide) (by decide) (by decide) (by decide)
  have e14 : X' 14 = X 14 := eX 14 (by decide) (by decide) (by decide) (by decide) (by decide) (by decide)
  have e15 : X' 15 = X 15 := eX 15 (by decide) (by decide) (by decide) (by decide) (by decide) (by decide)
  have e16 : X' 16 = X 16 := eX 16 (by decide) (by decide) (by decide) (by decide) (by decide) (by decide)
  have e26 : X' 26 = X 26 := eX 26 (by decide) (by decide) (by decide) (by decide) (by decide) (by decide)
  have y41 : Y' 41 0 = Y 41 0 := f2 41 (by decide) (by decide) (by decide) (by decide) (by decide)
  have y46 : Y' 46 0 = Y 46 0 := f2 46 (by decide) (by decide) (by decide) (by decide) (by decide)
  have y47 : Y' 47 0 = Y 47 0 := f2 47 (by decide) (by decide) (by decide) (by decide) (by decide)
  have y48 : Y' 48 0 = Y 48 0 := f2 48 (by decide) (by decide) (by decide) (by decide) (by decide)
  have y49 : Y' 49 0 = Y 49 0 := f2 49 (by decide) (by decide) (by decide) (by decide) (by decide)
  have y50 : Y' 50 0 = Y 50 0 := f2 50 (by decide) (by decide) (by decide) (by decide) (by decide)
  have y51 : Y' 51 0 = Y 51 0 := f2 51 (by decide) (by decide) (by decide) (by decide) (by decide)
  have y52 : Y' 52 0 = Y 52 0 := f2 52 (by decide) (by decide) (by decide) (by decide) (by decide)
  have y53 : Y' 53 0 = Y 53 0 := f2 53 (by decide) (by decide) (by decide) (by decide) (by decide)
  have y54 : Y' 54 0 = Y 54 0 := f2 54 (by decide) (by decide) (by decide) (by decide) (by decide)
  have y55 : Y' 55 0 = Y 55 0 := f2 55 (by decide) (by decide) (by decide) (by decide) (by decide)
  have y56 : Y' 56 0 = Y 56 0 := f2 56 (by decide) (by decide) (by decide) (by decide) (by decide)
  have y57 : Y' 57 0 = Y 57 0 := f2 57 (by decide) (by decide) (by decide) (by decide) (by decide)
  have y58 : Y' 58 0 = Y 58 0 := f2 58 (by decide) (by decide) (by decide) (by decide) (by decide)
  have y59 : Y' 59 0 = Y 59 0 := f2 59 (by decide) (by decide) (by decide) (by decide) (by decide)
  have y60 : Y' 60 0 = Y 60 0 := f2 60 (by decide) (by decide) (by decide) (by decide) (by decide)
  have y61 : Y' 61 0 = Y 61 0 := f2 61 (by decide) (by decide) (by decide) (by decide) (by decide)
  have y62 : Y' 62 0 = Y 62 0 := f2 62 (by decide) (by decide) (by decide) (by decide) (by decide)
  have y63 : Y' 63 0 = Y 63 0 := f2 63 (by decide) (by decide) (by decide) (by decide) (by decide)
  have y64 : Y' 64 0 = Y 64 0 := f2 64 (by decide) (by decide) (by decide) (by decide) (by decide)
  have y65 : Y' 65 0 = Y 65 0 := f2 65 (by decide) (by decide) (by decide) (by decide) (by decide)
  have y66 : Y' 66 0 = Y 66 0 := f2 66 (by decide) (by decide) (by decide) (by decide) (by decide)
  have y67 : Y' 67 0 = Y 67 0 := f2 67 (by decide) (by decide) (by decide) (by decide) (by decide)
  have y68 : Y' 68 0 = Y 68 0 := f2 68 (by decide) (by decide) (by decide) (by decide) (by decide)
  obtain ⟨ht, hT, hR, hW, hC, hD, hS, hO, hL, hB, hM, hQ, hXb, hP, hG, hU, hE, hZ⟩ := h
  refine ⟨ht, ?_, ?_, ?_, ?_, ?_, ?_, ?_, ?_, ?_, ?_, ?_, ?_, ?_, ?_, ?_, hE', ?_⟩
  · unfold sT; rw [e1, e2, f40 0 (by decide) (by decide) (by decide), y41]; exact hT
  · unfold sR; rw [e7, f40 10 (by decide) (by decide) (by decide), f40 15 (by decide) (by decide) (by decide), f40 16 (by decide) (by decide) (by decide), f40 22 (by decide) (by decide) (by decide)]; exact hR
  · unfold sW; rw [e9, y47]; exact hW
  · unfold sC; rw [e10, y50]; exact hC
  · unfold sD; rw [e11, y46, y48, y49]; exact hD
  · unfold sS; rw [e11, y51]; exact hS
  · unfold sO; rw [e11, y53]; exact hO
  · unfold sL; rw [e11, y54]; exact hL
  · unfold sB; rw [e12, y52]; exact hB
  · unfold sM sMo; rw [e13, y55, y56, y57]; exact hM
  · unfold sQ sQo; rw [e15, e16, y58, y59]; exact hQ
  · unfold sX; rw [e14, y60, y61]; exact hXb
  · unfold sP; rw [e14, y62, y63]; exact hP
  · intro i hi
    have := hG i hi
    unfold sGo at this ⊢
    rw [e25 i 0 (by decide) (by decide), e25 i 1 (by decide) (by decide), e25 i 2 (by decide) (by decide), e25 i 3 (by decide) (by decide), y64, y65, y66, y67]
    exact this
  · unfold sU; rw [e26, y68]; exact hU
  · refine ⟨hS', ?_, ?_⟩
    · rw [e20, f40 23 (by decide) (by decide) (by decide)]; exact hZ.2.1
    · rw [f40 23 (by decide) (by decide) (by decide), y55]; exact hZ.2.2
def sJ (X Y : pf_M) (cut : Bool) (j : Nat) : Prop := (∃ z : Nat, z ≤ 8 ∧ (if X 25 j 0 = 0 then 0 else X 25 j 3) = nI z ∧ Y 71 0 j = nI z) ∧
  (∃ w : Nat, w < 1000 ∧ (if cut then X 27 (2 * j) 2 + X 27 (2 * j + 1) 2 else X 27 (2 * j) 2) = nI w ∧ Y 72 0 j = nI w) ∧ ∀ k, k < 8 → hv X cut j k = Y 73 0 (8 * j + k)
theorem ss_recv (cut : Bool) : ∀ (m i f g : Nat) (X Y : pf_M) (v : Int32), i + m = 4 → m < f → m < g → sNx X Y n t k → Y 40 0 40 = 1 → (∀ j, j < i → sHo X Y j) → (∀ j, i ≤ j → j < 4 → sJ X Y cut j) →
    ∃ r X' Y', lX6_receive_20 (if cut then 1 else 0) f v (nI i) X = some (r, X') ∧ lX12_send_76 g v (nI i) Y = some (r, Y') ∧ sNx X' Y' n t k ∧ Y' 40 0 40 = 1 ∧ ∀ j, j < 4 → sHo X' Y' j := by
  intro m
  induction m with
  | zero =>
    intro i f g X Y v hi hf hg h h40 hh hj
    obtain ⟨f, rfl⟩ : ∃ g, f = g + 1 := ⟨f - 1, by omega⟩
    obtain ⟨g, rfl⟩ : ∃ f, g = f + 1 := ⟨g - 1, by omega⟩
    obtain rfl : i = 4 := by omega
    rw [lX6_receive_20, lX12_send_76, if_pos (by decide), if_pos (by decide)]
    exact ⟨v, X, Y, rfl, rfl, h, h40, hh⟩
  | succ m ih =>
    intro i f g X Y v hi hf hg h h40 hh hj
    obtain ⟨f, rfl⟩ : ∃ g, f = g + 1 := ⟨f - 1, by omega⟩
    obtain ⟨g, rfl⟩ : ∃ f, g = f + 1 := ⟨g - 1, by omega⟩
    obtain ⟨⟨z, z1, z2, z3⟩, ⟨w, w1, w2, w3⟩, hb⟩ := hj i (by omega) (by omega)
    obtain ⟨X1, a1, a2, a3, a4, a5, a6⟩ := sx_come (X := X) (i := i) (z := z) (cut := cut) z1 z2
    have eX1 : ∀ q, q ≠ 25 → q ≠ 30 → X1 q = X q := fun q h1 h2 => funext fun j => a2 q j (fun u => h1 u.1) (fun u => h2 u.1)
    have e25 : ∀ j q, q ≠ 8 → q ≠ 9 → X1 25 j q = X 25 j q := fun j q h1 h2 => by
      by_cases hji : j = i
      · rw [hji]; exact a3 q h1 h2
      · rw [a2 25 j (fun u => hji u.2) (fun u => by omega)]
    obtain ⟨ht, hT, hR, hW, hC, hD, hS, hO, hL, hB, hM, hQ, hXb, hP, hG, hU, hE, hZ⟩ := id h
    have hE1 : sE X1 Y := by
      unfold sE sEo
      rw [eX1 22 (by decide) (by decide), eX1 23 (by decide) (by decide), eX1 24 (by decide) (by decide)]
      exact hE
    have h1 : sNx X1 Y n t k := h.fr (fun q _ _ _ _ u1 u2 => eX1 q u1 u2) e25 (by rw [eX1 20 (by decide) (by decide)]) (fun _ _ _ _ _ _ => rfl) (fun _ _ _ _ => rfl) hE1 (by rw [eX1 20 (by decide) (by decide)]; exact hZ.1)
    have hh1 : ∀ j, j < i + 1 → sHo X1 Y j := by
      intro j hj1
      by_cases hji : j = i
      · subst hji
        refine ⟨z, z1, a4, z3, fun _ => by rw [a5, w2, w3], fun q hq => ?_⟩
        rw [a6 q hq]
        exact hb q (by omega)
      · have := hh j (by omega)
        unfold sHo at this ⊢
        rw [a2 25 j (fun u => hji u.2) (fun u => by omega), a2 30 j (fun u => by omega) (fun u => hji u.2)]
        exact this
    have hj1 : ∀ j, i + 1 ≤ j → j < 4 → sJ X1 Y cut j := by
      intro j q1 q2
      have := hj j (by omega) q2
      unfold sJ at this ⊢
      have e0 : ∀ q, hv X1 cut j q = hv X cut j q := fun q => hv_eq (by rw [a2 25 j (fun u => by omega) (fun u => by omega)]) (by rw [eX1 26 (by decide) (by decide)]) (eX1 28 (by decide) (by decide))
      simp only [e0]
      rw [a2 25 j (fun u => by omega) (fun u => by omega), eX1 27 (by decide) (by decide)]
      exact this
    have hcx : X1 25 i 0 = Y 64 0 i := by rw [e25 i 0 (by decide) (by decide)]; exact (hG i (by omega)).1.1
    have hc0 : (Y 64 0 i ≤ 0) = (Y 64 0 i = 0) := propext ⟨fun u => by have := (hG i (by omega)).1.2.1; grind, fun u => by rw [u]; decide⟩
    have hi4 : ¬ (4 : Int32) ≤ nI i := fun w => by have := (nI_leI (a := 4) (by omega) (by omega)).mp w; omega
    rw [lX6_receive_20, lX12_send_76, if_neg hi4, if_neg hi4]
    unfold jX6_receive_61 jX12_send_104
    simp only [si_pin2 (show i < 4 by omega) (by decide), if_true, si_cl (show i < 2 ^ 31 by omega), a1, Option.bind_some, hcx, hc0, nI_1]
    by_cases h0 : Y 64 0 i = 0
    · rw [if_pos h0, if_pos h0]
      exact ih (i + 1) f g X1 Y v (by omega) (by omega) (by omega) h1 h40 hh1 hj1
    · rw [if_neg h0, if_neg h0]
      obtain ⟨-, -, -, -, -, -, -, -, -, -, -, -, -, -, hG1, -, hEE, hZ1⟩ := id h1
      obtain ⟨X2, Y2, b1, b2, b3, b4, b5, b6, b7, b8⟩ := ss_keep (X := X1) (Y := Y) (i := i) (w := w) (by omega) hEE (hG1 i (by omega)) (by omega) (by rw [a5, w2]) w3 hZ1.1
      rw [b1, b2, Option.bind_some, Option.bind_some]
      have h2 : sNx X2 Y2 n t k := h1.fr (fun q u1 u2 u3 u4 _ _ => b3 q u1 u2 u3 u4) (fun j q _ _ => by rw [b3 25 (by decide) (by decide) (by decide) (by decide)]) (b4 4 (by decide)) (fun q u1 _ _ _ u2 => b5 q u1 u2) (fun a _ u1 u2 => b6 a u1 u2) b7 b8
      have x25 : X2 25 = X1 25 := b3 25 (by decide) (by decide) (by decide) (by decide)
      have x30 : X2 30 = X1 30 := b3 30 (by decide) (by decide) (by decide) (by decide)
      have y71 : Y2 71 0 = Y 71 0 := b5 71 (by decide) (by decide)
      have y72 : Y2 72 0 = Y 72 0 := b5 72 (by decide) (by decide)
      have y73 : Y2 73 0 = Y 73 0 := b5 73 (by decide) (by decide)
      have hh2 : ∀ j, j < i + 1 → sHo X2 Y2 j := by
        intro j hj1
        unfold sHo
        rw [x25, x30, y71, y72, y73]
        exact hh1 j hj1
      have hj2 : ∀ j, i + 1 ≤ j → j < 4 → sJ X2 Y2 cut j := by
        intro j q1 q2
        have := hj1 j q1 q2
        unfold sJ at this ⊢
        have e0 : ∀ q, hv X2 cut j q = hv X1 cut j q := fun q => hv_eq (by rw [x25]) (by rw [b3 26 (by decide) (by decide) (by decide) (by decide)]) (b3 28 (by decide) (by decide) (by decide) (by decide))
        simp only [e0]
        rw [x25, b3 27 (by decide) (by decide) (by decide) (by decide), y71, y72, y73]
        exact this
      have hsum : v + X1 25 i 8 = v + Y2 72 0 i := by rw [a5, w2, y72, w3]
      rw [hsum]
      exact ih (i + 1) f g X2 Y2 _ (by omega) (by omega) (by omega) h2 (by rw [b6 40 (by decide) (by decide)]; exact h40) hh2 hj2
theorem sx_has : ∀ (m i f : Nat), i + m = 4 → m < f → lX6_hasCommands_2 X f (nI i) = some (if qHc (fun j => X 25 j 0) m i then 1 else 0) := by
  intro m
  induction m with
  | zero =>
    intro i f hi hf
    obtain ⟨f, rfl⟩ : ∃ g, f = g + 1 := ⟨f - 1, by omega⟩
    obtain rfl : i = 4 := by omega
    rw [lX6_hasCommands_2, if_pos (by decide)]
    rfl
  | succ m ih =>
    intro i f hi hf
    obtain ⟨f, rfl⟩ : ∃ g, f = g + 1 := ⟨f - 1, by omega⟩
    rw [lX6_hasCommands_2, if_neg (fun w => by have := (nI_leI (a := 4) (by omega) (by omega)).mp w; omega), si_pin2 (by omega) (by decide), if_pos rfl, si_cl (by omega), nI_1, ih (i + 1) f (by omega) (by omega), qHc_s]
    by_cases h : X 25 i 0 = 0
    · rw [if_pos h, if_pos h]
    · rw [if_neg h, if_neg h]; rfl
theorem sy_has (hG : ∀ i, i < 4 → 0 ≤ Y 64 0 i) (kx : Int32 → pf_M → Option (Int32 × pf_M)) : ∀ (m i f : Nat) (v : Int32), i + m = 4 → m < f → (v = 0 ∨ v = 1) → lX12_send_4 kx f v (nI i) Y = kx (if v = 1 ∨ qHc (Y 64 0) m i = true then 1 else 0) Y := by
  intro m
  induction m with
  | zero =>
    intro i f v hi hf hv
    obtain ⟨f, rfl⟩ : ∃ g, f = g + 1 := ⟨f - 1, by omega⟩
    obtain rfl : i = 4 := by omega
    rw [lX12_send_4, if_pos (by decide)]
    rcases hv with rfl | rfl <;> rfl
  | succ m ih =>
    intro i f v hi hf hv
    obtain ⟨f, rfl⟩ : ∃ g, f = g + 1 := ⟨f - 1, by omega⟩
    rw [lX12_send_4, if_neg (fun w => by have := (nI_leI (a := 4) (by omega) (by omega)).mp w; omega)]
    unfold jX12_send_22 jX12_send_27
    rw [si_pin2 (show i < 4 by omega) (by decide), if_pos rfl, si_cl (by omega), nI_1, ih (i + 1) f 1 (by omega) (by omega) (Or.inr rfl), ih (i + 1) f 0 (by omega) (by omega) (Or.inl rfl), qHc_s]
    have g0 := hG i (by omega)
    rcases hv with rfl | rfl
    · rw [if_pos rfl]
      by_cases h : Y 64 0 i = 0
      · rw [if_pos (show Y 64 0 i ≤ 0 by rw [h]; decide), if_pos h]
      · rw [if_neg (show ¬ Y 64 0 i ≤ 0 from fun u => h (by grind)), if_neg h, if_pos (Or.inl rfl), if_pos (Or.inr rfl)]
    · rw [if_neg (by decide), if_pos (Or.inl rfl), if_pos (Or.inl rfl)]
theorem qHc_eq {g g' : Nat → Int32} : ∀ m i, (∀ j, i ≤ j → j < i + m → g j = g' j) → qHc g m i = qHc g' m i
  | 0, _, _ => rfl
  | m + 1, i, h => by
    rw [qHc_s, qHc_s, h i (by omega) (by omega), qHc_eq m (i + 1) (fun j h1 h2 => h j (by omega) (by omega))]
theorem ss_fin {cut : Bool} (h : sN X Y n t k) (hF : sF X Y 32) (hcut : cut = false → sFk Y ∧ sFb Y) (v0 : Nat) (hv0 : v0 = 0) : ∃ r X' Y', lX6_receive_20 (if cut then 1 else 0) pf_fu 0 0 X = some (r, X') ∧ ((fX12_joins Y).bind fun q12 => lX12_send_76 pf_fu (0 : Int32) (0 : Int32) q12) = some (r, Y') ∧ sN X' Y' n t k := by
  obtain ⟨ht, hT, hR, hW, hC, hD, hS, hO, hL, hB, hM, hQ, hXb, hP, hG, hU, hH, hE, hZ⟩ := id h
  obtain ⟨Z, a1, a2, -, -, a3⟩ := sy_join (fun u19_Me2 => some (pf_up u19_Me2 40 0 40 (1 : Int32))) 4 0 pf_fu Y (by omega) (by unfold pf_fu; omega)
  have a1' : fX12_joins Y = some (pf_up Z 40 0 40 1) := a1
  have z40 : ∀ a, a ≠ 40 → pf_up Z 40 0 40 1 40 0 a = Y 40 0 a := fun a ha => by rw [pf_up_j _ _ _ _ _ _ ha, a2 40 (by decide) (by decide) (by decide)]
  have zk : ∀ q, q ≠ 40 → q ≠ 71 → q ≠ 72 → q ≠ 73 → pf_up Z 40 0 40 1 q 0 = Y q 0 := fun q h0 h1 h2 h3 => by rw [pf_up_k _ h0, a2 q h1 h2 h3]
  have hE1 : sE X (pf_up Z 40 0 40 1) := by
    unfold sE sEo
    rw [z40 44 (by decide), zk 74 (by decide) (by decide) (by decide) (by decide)]
    exact hE
  have h1 : sNx X (pf_up Z 40 0 40 1) n t k := h.x.fr (fun _ _ _ _ _ _ _ => rfl) (fun _ _ _ _ => rfl) rfl (fun q u1 u2 u3 u4 _ => zk q u1 u2 u3 u4) (fun a u1 _ _ => z40 a u1) hE1 (by rw [z40 46 (by decide)]; exact hZ.1)
  have hJ : ∀ j, 0 ≤ j → j < 4 → sJ X (pf_up Z 40 0 40 1) cut j := by
    intro j _ hj
    obtain ⟨b1, b2, b3⟩ := a3 j (by omega) hj
    obtain ⟨⟨g1, -, -⟩, -, -, ⟨g2, g3, g4⟩, -⟩ := hG j hj
    obtain ⟨⟨c0, c1, c2, c3⟩, c4⟩ := hF j hj 0 (by omega)
    obtain ⟨⟨d0, d1, d2, d3⟩, d4⟩ := hF j hj 1 (by omega)
    obtain ⟨z, z1, z2⟩ := si_nat (b := 8) ⟨g3, g4⟩ (by decide)
    have c2' : X 27 (2 * j) 2 = nI c0 := c2
    have c3' : Y 70 0 j = nI c0 := by rw [show 4 * 0 + j = j by omega] at c3; exact c3
    have d3' : Y 70 0 (4 + j) = nI d0 := d3
    have c4' : ∀ q, q < 8 → X 28 (2 * j) q = Y 69 0 (8 * j + q) := fun q hq => by
      have := c4 q hq
      rw [show 32 * 0 + 8 * j + q = 8 * j + q by omega] at this
      exact this
    have d4' : ∀ q, q < 8 → X 28 (2 * j + 1) q = Y 69 0 (32 + 8 * j + q) := fun q hq => d4 q hq
    refine ⟨?_, ?_, fun q hq => ?_⟩
    · show ∃ z : Nat, z ≤ 8 ∧ _ ∧ Z 71 0 j = nI z
      rw [b1, g1, g2]
      by_cases h0 : Y 64 0 j = 0
      · rw [if_pos h0]
        exact ⟨0, by omega, rfl, rfl⟩
      · rw [if_neg h0]
        exact ⟨z, z1, z2, z2⟩
    · show ∃ w : Nat, w < 1000 ∧ _ ∧ Z 72 0 j = nI w
      rw [b2, c2', d2, c3', d3']
      cases cut with
      | true => exact ⟨c0 + d0, by omega, by rw [if_pos rfl, nI_add], nI_add _ _⟩
      | false =>
        have hz := ((hcut rfl).2 j hj).1
        rw [d3'] at hz
        exact ⟨c0, by omega, rfl, by rw [hz, Int32.add_zero]⟩
    · show _ = Z 73 0 (8 * j + q)
      rw [b3 q hq]
      unfold hv jv
      rw [g1, c4' q hq, d4' q hq, hU j hj q hq]
      cases cut with
      | true => rfl
      | false =>
        obtain ⟨hk, hb⟩ := hcut rfl
        have e1 := (hb j hj).2 q hq
        rw [e1]
        by_cases h7 : Y 64 0 j = 7 ∨ Y 64 0 j = 9
        · rw [if_pos h7, hk j hj h7 q hq]; rfl
        · rw [if_neg h7]
          by_cases hp : Y 69 0 (8 * j + q) = Y 68 0 (8 * j + q)
          · rw [if_pos hp, hp]; rfl
          · rw [if_neg hp]; rfl
  obtain ⟨r, X', Y', b1, b2, b3, b4, b5⟩ := ss_recv (n := n) (t := t) (k := k) cut 4 0 pf_fu pf_fu X (pf_up Z 40 0 40 1) 0 (by omega) (by unfold pf_fu; omega) (by unfold pf_fu; omega) h1 (pf_up_s _ _ _ _ _) (fun j hj => by omega) hJ
  refine ⟨r, X', Y', b1, ?_, b3.back (Or.inr ⟨b4, b5⟩)⟩
  rw [a1', Option.bind_some]
  exact b2
theorem sc_send (h : sRR X Y k) (hk : k ≤ 512) : sim k (fX11_send X) (fX12_send Y) := by
  obtain ⟨n, t, h⟩ := h
  obtain ⟨ht, hT, hR, hW, hC, hD, hS, hO, hL, hB, hM, hQ, hXb, hP, hG, hU, hH, hE, hZ⟩ := id h
  obtain ⟨hn, ⟨hX, hY⟩, -⟩ := id hR
  unfold fX11_send fX12_send fX6_hasCommands
  have e1 := sx_has (X := X) 4 0 pf_fu (by omega) (by unfold pf_fu; omega)
  have e1' : lX6_hasCommands_2 X pf_fu 0 = _ := e1
  rw [qHc_eq (g' := Y 64 0) 4 0 (fun j _ h2 => (hG j (by omega)).1.1)] at e1'
  have e2 := sy_has (Y := Y) (fun i hi => (hG i hi).1.2.1) (fun u9_e4_1 u9_Me4 => (if u9_e4_1 = (0 : Int32) then some ((-2 : Int32), u9_Me4)
  else ((fX12_goes u9_Me4).bind fun q10 => ((fX12_trip q10).bind fun r11 => (if ((fX12_isLost (pf_up q10 40 0 22 ((q10 40 0 22) + r11))).1) = (0 : Int32) then ((fX12_joins (fX12_isLost (pf_up q10 40 0 22 ((q10 40 0 22) + r11))).2).bind fun q12 => lX12_send_76 pf_fu (0 : Int32) (0 : Int32) q12)
  else some ((-5 : Int32), (fX12_isLost (pf_up q10 40 0 22 ((q10 40 0 22) + r11))).2)))))) 4 0 pf_fu 0 (by omega) (by unfold pf_fu; omega) (Or.inl rfl)
  have e2' : lX12_send_4 (fun u9_e4_1 u9_Me4 => (if u9_e4_1 = (0 : Int32) then some ((-2 : Int32), u9_Me4)
  else ((fX12_goes u9_Me4).bind fun q10 => ((fX12_trip q10).bind fun r11 => (if ((fX12_isLost (pf_up q10 40 0 22 ((q10 40 0 22) + r11))).1) = (0 : Int32) then ((fX12_joins (fX12_isLost (pf_up q10 40 0 22 ((q10 40 0 22) + r11))).2).bind fun q12 => lX12_send_76 pf_fu (0 : Int32) (0 : Int32) q12)
  else some ((-5 : Int32), (fX12_isLost (pf_up q10 40 0 22 ((q10 40 0 22) + r11))).2)))))) pf_fu 0 0 Y = _ := e2
  rw [e1', e2', Option.bind_some]
  cases hq : qHc (Y 64 0) 4 0 with
  | false =>
    rw [if_neg (show ¬ false = true by decide), if_pos rfl, if_neg (show ¬ ((0 : Int32) = 1 ∨ false = true) from fun w => w.elim (by decide) (by decide)), if_pos rfl]
    exact sim_same h (-2) rfl rfl
  | true =>
    rw [if_pos rfl, if_neg (by decide), if_pos (Or.inr rfl), if_neg (by decide)]
    unfold fX6_sendFrame
    obtain ⟨X1, X2, Y2, c1, c2, c3, c4, c5, c6, c7⟩ := ss_goes h (by omega) (by omega) (fun u6_Me2 => ((fX6_passA u6_Me2).bind fun q7 => ((fX6_passB q7).bind fun q8 => ((fX6_frameComesHome q8).bind fun q9 => (if q9.1 = (0 : Int32) then some ((-5 : Int32), q9.2)
  else ((fX6_receive q9.2).bind fun q10 => some (q10.1, q10.2)))))))
    rw [c1]
    have hb : ((fX6_passA X1).bind fun q7 => ((fX6_passB q7).bind fun q8 => ((fX6_frameComesHome q8).bind fun q9 => (if q9.1 = (0 : Int32) then some ((-5 : Int32), q9.2)
  else ((fX6_receive q9.2).bind fun q10 => some (q10.1, q10.2)))))) = (((fX6_passA X1).bind fun q => fX6_passB q).bind fun q8 => ((fX6_frameComesHome q8).bind fun q9 => (if q9.1 = (0 : Int32) then some ((-5 : Int32), q9.2)
  else ((fX6_receive q9.2).bind fun q10 => some (q10.1, q10.2))))) := by
      rw [Option.bind_assoc]
    rw [hb, c2, c3, Option.bind_some, Option.bind_some]
    obtain ⟨ht2, hT2, hR2, hW2, hC2, hD2, hS2, hO2, hL2, hB2, hM2, hQ2, hXb2, hP2, hG2, hU2, hH2, hE2, hZ2⟩ := id c4
    obtain ⟨T, hT3, v1, hv⟩ := ss_home hR2 hW2 hC2 hZ2
    rcases hv with ⟨q1, q2, q3⟩ | ⟨q1, q2, q3⟩
    · simp only [v1, q2, q3, Option.bind_some, si_10, if_false, if_true]
      have hN := c4.home1 hT3
      obtain ⟨ht4, hT4, hR4, hW4, hC4, -⟩ := id hN
      obtain ⟨hn4, ⟨hX4, hY4⟩, -⟩ := id hR4
      have hNN : qN (pf_up X2 7 0 6 (nI (t + T)) 10 0) 0 (n + 1) = qN (Y 50 0) 0 (n + 1) := by
        rw [qN_congr (c' := Y 50 0) (n + 1) 0 (fun v _ h2 => ?_)]
        rw [(hC4 v (by omega)).1]
        show Y2 50 0 v = _
        rw [c6]
      have hF4 : sF (pf_up X2 7 0 6 (nI (t + T))) (pf_up Y2 40 0 22 (nI (t + T))) 32 := c5.mono (by omega)
      unfold fX6_receive jX6_receive_15
      rw [sx_N (X := pf_up X2 7 0 6 (nI (t + T))) hn4.2 hX4 (fun v hv => by rw [(hC4 v hv).1]; exact (hC4 v hv).2), hNN, Option.bind_some]
      have hql := qN_le (Y 50 0) (n + 1) 0
      by_cases h0 : qN (Y 50 0) 0 (n + 1) = 0
      · obtain ⟨r, X', Y', r1, r2, r3⟩ := ss_fin (cut := false) hN hF4 (fun _ => c7 h0) 0 rfl
        have r1' : lX6_receive_20 0 pf_fu 0 0 (pf_up X2 7 0 6 (nI (t + T))) = some (r, X') := r1
        rw [if_pos (show nI (qN (Y 50 0) 0 (n + 1)) ≤ 0 by rw [h0]; decide), r1', r2]
        exact sim_mk rfl rfl rfl ⟨n, t + T, r3⟩
      · obtain ⟨r, X', Y', r1, r2, r3⟩ := ss_fin (cut := true) hN hF4 (fun w => by cases w) 0 rfl
        have r1' : lX6_receive_20 1 pf_fu 0 0 (pf_up X2 7 0 6 (nI (t + T))) = some (r, X') := r1
        rw [if_neg (nI_nle (by omega) (by omega)), r1', r2]
        exact sim_mk rfl rfl rfl ⟨n, t + T, r3⟩
    · simp only [v1, q2, q3, Option.bind_some, si_10, if_false, if_true]
      exact sim_mk rfl rfl rfl ⟨n, _, c4.home2 hT3 q1⟩
end
