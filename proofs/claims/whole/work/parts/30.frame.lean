theorem cpy_v (f g : Nat → Int32) {k : Nat} (hk : k < 8) : va_cpy f g (0 : Int32).toNatClampNeg (0 : Int32).toNatClampNeg (8 : Int32).toNatClampNeg k = f k := by
  show (if 0 ≤ k ∧ k < 0 + 8 then f (0 + (k - 0)) else g k) = f k
  rw [if_pos ⟨by omega, by omega⟩]
  congr 1
  omega
/-- the frame's datagrams: side s of the datagram i -/
def sFo (X Y : pf_M) (m i s : Nat) : Prop := (∃ c : Nat, c ≤ 3 * m ∧ X 27 (2 * i + s) 2 = nI c ∧ Y 70 0 (4 * s + i) = nI c) ∧ ∀ k, k < 8 → X 28 (2 * i + s) k = Y 69 0 (32 * s + 8 * i + k)
def sF (X Y : pf_M) (m : Nat) : Prop := ∀ i, i < 4 → ∀ s, s < 2 → sFo X Y m i s
/-- what reading and writing keeps -/
def sFk (Y : pf_M) : Prop := ∀ i, i < 4 → (Y 64 0 i = 7 ∨ Y 64 0 i = 9) → ∀ k, k < 8 → Y 69 0 (8 * i + k) ||| Y 68 0 (8 * i + k) = Y 69 0 (8 * i + k)
def sFb (Y : pf_M) : Prop := ∀ i, i < 4 → Y 70 0 (4 + i) = 0 ∧ ∀ k, k < 8 → Y 69 0 (32 + 8 * i + k) = Y 68 0 (8 * i + k)
theorem sF.mono {X Y : pf_M} {m m' : Nat} (h : sF X Y m) (hm : m ≤ m') : sF X Y m' := fun i hi s hs => by
  obtain ⟨⟨c, c1, c2⟩, c3⟩ := h i hi s hs
  exact ⟨⟨c, by omega, c2⟩, c3⟩
theorem qA_no (c : Nat → Int32) : ∀ m w v, w ≤ v → v < qA c m w → ¬ c v = 1
  | 0, w, v, h1, h2 => by unfold qA at h2; omega
  | m + 1, w, v, h1, h2 => by
    unfold qA at h2
    by_cases hc : c w = 1
    · rw [if_pos hc] at h2; omega
    · rw [if_neg hc] at h2
      by_cases hv : v = w
      · rw [hv]; exact hc
      · exact qA_no c m (w + 1) v (by omega) h2
theorem qB_or (c : Nat → Int32) (n : Nat) : ∀ w, qB c n w = n ∨ c (qB c n w) = 1
  | 0 => by
    unfold qB
    split
    · rename_i h; exact Or.inr h
    · exact Or.inl rfl
  | w + 1 => by
    unfold qB
    split
    · rename_i h; exact Or.inr h
    · exact qB_or c n w
theorem qAB (c : Nat → Int32) (n : Nat) : qA c n 0 ≤ qB c n n := by
  rcases qB_or c n n with h | h
  · rw [h]
    have := qA_le c n 0
    omega
  · by_cases hl : qA c n 0 ≤ qB c n n
    · exact hl
    · exact absurd h (qA_no c n 0 _ (by omega) (by omega))
/-- no wire is cut: all devices are on side A -/
theorem qN_0 (c : Nat → Int32) : ∀ m a, qN c a m = 0 → ∀ v, a ≤ v → v < a + m → ¬ c v = 1
  | 0, a, _, v, h1, h2 => by omega
  | m + 1, a, h, v, h1, h2 => by
    rw [qN_s] at h
    by_cases hv : v = a
    · subst hv
      intro w
      rw [if_pos w] at h
      omega
    · exact qN_0 c m (a + 1) (by omega) v (by omega) (by omega)
theorem qB_0 (c : Nat → Int32) (n : Nat) (h : qN c 0 (n + 1) = 0) : qB c n n = n := by
  rcases qB_or c n n with h1 | h1
  · exact h1
  · exact absurd h1 (qN_0 c (n + 1) 0 h _ (by omega) (by have := qB_le c n n (Nat.le_refl n); omega))
section
variable {X Y : pf_M} {n t k : Nat}
theorem sx_leave (X : pf_M) (i : Nat) : ∃ X', fX2_leave i X = X' ∧ (∀ k i', k ≠ 27 → k ≠ 28 → X' k i' = X k i') ∧ (∀ j, ¬ (j = 2 * i) → ¬ (j = 2 * i + 1) → X' 27 j = X 27 j ∧ X' 28 j = X 28 j) ∧
    (∀ s, s < 2 → X' 27 (2 * i + s) 2 = 0 ∧ ∀ k, k < 8 → X' 28 (2 * i + s) k = X 26 i k) := by
  unfold fX2_leave fX0_load
  refine ⟨_, rfl, ?_, ?_, ?_⟩
  · intro k i' h1 h2
    rw [pf_up_k _ h1, pf_upf_k _ h2, pf_up_k _ h1, pf_upf_k _ h2]
  · intro j h1 h2
    refine ⟨?_, ?_⟩
    · rw [pf_up_i _ _ _ _ _ _ h2]
      show pf_up _ 27 (2 * i) 2 0 27 j = _
      rw [pf_up_i _ _ _ _ _ _ h1]
      rfl
    · show pf_upf _ 28 (2 * i + 1) _ 28 j = _
      rw [pf_upf_n _ _ _ _ _ h2]
      show pf_upf _ 28 (2 * i) _ 28 j = _
      rw [pf_upf_n _ _ _ _ _ h1]
  · intro s hs
    match s, hs with
    | 0, _ =>
      refine ⟨?_, fun k hk => ?_⟩
      · rw [pf_up_i _ _ _ _ _ _ (show 2 * i + 0 ≠ 2 * i + 1 by omega)]
        exact pf_up_s _ _ _ _ _
      · show pf_upf _ 28 (2 * i + 1) _ 28 (2 * i + 0) k = _
        rw [pf_upf_n _ _ _ _ _ (show 2 * i + 0 ≠ 2 * i + 1 by omega)]
        show pf_upf _ 28 (2 * i) _ 28 (2 * i) k = _
        rw [pf_upf_s]
        exact cpy_v _ _ hk
    | 1, _ =>
      refine ⟨pf_up_s _ _ _ _ _, fun k hk => ?_⟩
      show pf_upf _ 28 (2 * i + 1) _ 28 (2 * i + 1) k = _
      rw [pf_upf_s]
      exact cpy_v _ _ hk
theorem sx_leaveL (kx : pf_M → Option (Int32 × pf_M)) : ∀ (m i f : Nat) (X : pf_M), i + m = 4 → m < f → ∃ X', lX6_sendFrame_2 kx f (nI i) X = kx X' ∧ (∀ k i', k ≠ 27 → k ≠ 28 → X' k i' = X k i') ∧ (∀ j, j < 2 * i → X' 27 j = X 27 j ∧ X' 28 j = X 28 j) ∧
    ∀ i', i ≤ i' → i' < 4 → ∀ s, s < 2 → X' 27 (2 * i' + s) 2 = 0 ∧ ∀ k, k < 8 → X' 28 (2 * i' + s) k = X 26 i' k := by
  intro m
  induction m with
  | zero =>
    intro i f X hi hf
    obtain ⟨f, rfl⟩ : ∃ g, f = g + 1 := ⟨f - 1, by omega⟩
    obtain rfl : i = 4 := by omega
    rw [lX6_sendFrame_2, if_pos (by decide)]
    exact ⟨X, rfl, fun _ _ _ _ => rfl, fun _ _ => ⟨rfl, rfl⟩, fun i' h1 h2 => by omega⟩
  | succ m ih =>
    intro i f X hi hf
    obtain ⟨f, rfl⟩ : ∃ g, f = g + 1 := ⟨f - 1, by omega⟩
    rw [lX6_sendFrame_2, if_neg (fun w => by have := (nI_leI (a := 4) (by omega) (by omega)).mp w; omega), si_pin2 (by omega) (by decide), if_pos rfl, nI_1, si_cl (by omega)]
    obtain ⟨X1, a1, a2, a3, a4⟩ := sx_leave X i
    rw [a1]
    obtain ⟨X2, b1, b2, b3, b4⟩ := ih (i + 1) f X1 (by omega) (by omega)
    refine ⟨X2, b1, fun k i' h1 h2 => (b2 k i' h1 h2).trans (a2 k i' h1 h2), fun j hj => ?_, fun i' h1 h2 s hs => ?_⟩
    · rw [(b3 j (by omega)).1, (b3 j (by omega)).2]
      exact a3 j (by omega) (by omega)
    · by_cases hii : i' = i
      · subst hii
        rw [(b3 (2 * i' + s) (by omega)).1, (b3 (2 * i' + s) (by omega)).2]
        exact a4 s hs
      · have := b4 i' (by omega) h2 s hs
        rw [a2 26 i' (by decide) (by decide)] at this
        exact this
theorem sy_out1 (Y : pf_M) {s : Nat} (hs : s < 2) (kx : pf_M → Option pf_M) : ∀ (m j f : Nat) (G : Nat → Int32), j + m = 32 → m < f → ∃ G', lX12_goesOut_2 (nI s) kx f (nI j) (pf_upf Y 69 0 G) = kx (pf_upf Y 69 0 G') ∧ (∀ a, a < 32 * s + j → G' a = G a) ∧ (∀ a, 32 * s + 32 ≤ a → G' a = G a) ∧ ∀ j', j ≤ j' → j' < 32 → G' (32 * s + j') = Y 68 0 j' := by
  intro m
  induction m with
  | zero =>
    intro j f G hj hf
    obtain ⟨f, rfl⟩ : ∃ g, f = g + 1 := ⟨f - 1, by omega⟩
    obtain rfl : j = 32 := by omega
    rw [lX12_goesOut_2, if_pos (by decide)]
    exact ⟨G, rfl, fun _ _ => rfl, fun _ _ => rfl, fun j' h1 h2 => by omega⟩
  | succ m ih =>
    intro j f G hj hf
    obtain ⟨f, rfl⟩ : ∃ g, f = g + 1 := ⟨f - 1, by omega⟩
    have e : (32 : Int32) * nI s + nI j = nI (32 * s + j) := by rw [show (32 : Int32) = nI 32 from rfl, nI_mul, nI_add]
    have e68 : pf_upf Y 69 0 G 68 0 = Y 68 0 := rfl
    rw [lX12_goesOut_2, if_neg (fun w => by have := (nI_leI (a := 32) (by omega) (by omega)).mp w; omega), si_pin2 (by omega) (by decide), if_pos rfl, e, si_pin2 (by omega) (by decide), if_pos rfl, nI_1, si_cl (by omega), si_cl (by omega), pf_upf_up, e68]
    obtain ⟨G', a1, a2, a3, a4⟩ := ih (j + 1) f (upd G (32 * s + j) (Y 68 0 j)) (by omega) (by omega)
    refine ⟨G', a1, fun a ha => ?_, fun a ha => ?_, fun j' h1 h2 => ?_⟩
    · rw [a2 a (by omega), upd_n _ _ (by omega)]
    · rw [a3 a ha, upd_n _ _ (by omega)]
    · by_cases hjj : j' = j
      · subst hjj
        rw [a2 _ (by omega), upd_s]
      · exact a4 j' (by omega) h2
theorem sy_out2 (Y : pf_M) {s : Nat} (hs : s < 2) : ∀ (m j f : Nat) (G : Nat → Int32), j + m = 4 → m < f → ∃ G', lX12_goesOut_33 (nI s) f (nI j) (pf_upf Y 70 0 G) = some (pf_upf Y 70 0 G') ∧ (∀ a, a < 4 * s + j → G' a = G a) ∧ (∀ a, 4 * s + 4 ≤ a → G' a = G a) ∧ ∀ j', j ≤ j' → j' < 4 → G' (4 * s + j') = 0 := by
  intro m
  induction m with
  | zero =>
    intro j f G hj hf
    obtain ⟨f, rfl⟩ : ∃ g, f = g + 1 := ⟨f - 1, by omega⟩
    obtain rfl : j = 4 := by omega
    rw [lX12_goesOut_33, if_pos (by decide)]
    exact ⟨G, rfl, fun _ _ => rfl, fun _ _ => rfl, fun j' h1 h2 => by omega⟩
  | succ m ih =>
    intro j f G hj hf
    obtain ⟨f, rfl⟩ : ∃ g, f = g + 1 := ⟨f - 1, by omega⟩
    have e : (4 : Int32) * nI s + nI j = nI (4 * s + j) := by rw [show (4 : Int32) = nI 4 from rfl, nI_mul, nI_add]
    rw [lX12_goesOut_33, if_neg (fun w => by have := (nI_leI (a := 4) (by omega) (by omega)).mp w; omega), e, si_pin2 (by omega) (by decide), if_pos rfl, nI_1, si_cl (by omega), pf_upf_up]
    obtain ⟨G', a1, a2, a3, a4⟩ := ih (j + 1) f (upd G (4 * s + j) 0) (by omega) (by omega)
    refine ⟨G', a1, fun a ha => ?_, fun a ha => ?_, fun j' h1 h2 => ?_⟩
    · rw [a2 a (by omega), upd_n _ _ (by omega)]
    · rw [a3 a ha, upd_n _ _ (by omega)]
    · by_cases hjj : j' = j
      · subst hjj
        rw [a2 _ (by omega), upd_s]
      · exact a4 j' (by omega) h2
theorem sy_out (Y : pf_M) : ∃ P Q : Nat → Int32, ((fX12_goesOut 0 Y).bind fun q11 => fX12_goesOut 1 q11) = some (pf_upf (pf_upf Y 69 0 P) 70 0 Q) ∧ (∀ s, s < 2 → ∀ j, j < 32 → P (32 * s + j) = Y 68 0 j) ∧ (∀ s, s < 2 → ∀ j, j < 4 → Q (4 * s + j) = 0) := by
  unfold fX12_goesOut
  obtain ⟨P, a1, a2, a3, a4⟩ := sy_out1 Y (s := 0) (by omega) (fun u6_Me2 => lX12_goesOut_33 0 pf_fu (0 : Int32) u6_Me2) 32 0 pf_fu (Y 69 0) (by omega) (by unfold pf_fu; omega)
  rw [pf_upf_id] at a1
  obtain ⟨Q, b1, b2, b3, b4⟩ := sy_out2 (pf_upf Y 69 0 P) (s := 0) (by omega) 4 0 pf_fu (Y 70 0) (by omega) (by unfold pf_fu; omega)
  have i1 : pf_upf (pf_upf Y 69 0 P) 70 0 (Y 70 0) = pf_upf Y 69 0 P := pf_upf_id (pf_upf Y 69 0 P) 70 0
  rw [i1] at b1
  obtain ⟨P', c1, c2, c3, c4⟩ := sy_out1 (pf_upf Y 70 0 Q) (s := 1) (by omega) (fun u6_Me2 => lX12_goesOut_33 1 pf_fu (0 : Int32) u6_Me2) 32 0 pf_fu P (by omega) (by unfold pf_fu; omega)
  obtain ⟨Q', d1, d2, d3, d4⟩ := sy_out2 (pf_upf Y 69 0 P') (s := 1) (by omega) 4 0 pf_fu Q (by omega) (by unfold pf_fu; omega)
  have cm : ∀ A B : Nat → Int32, pf_upf (pf_upf Y 70 0 B) 69 0 A = pf_upf (pf_upf Y 69 0 A) 70 0 B := by
    intro A B
    funext x y
    unfold pf_upf
    by_cases h : x = 69 ∧ y = 0
    · rw [if_pos h, if_neg (fun w => by omega), if_pos h]
    · rw [if_neg h]
      by_cases h2 : x = 70 ∧ y = 0
      · rw [if_pos h2, if_pos h2]
      · rw [if_neg h2, if_neg h2, if_neg h]
  rw [cm, cm] at c1
  refine ⟨P', Q', ?_, ?_, ?_⟩
  · have a1' : lX12_goesOut_2 0 (fun u6_Me2 => lX12_goesOut_33 0 pf_fu (0 : Int32) u6_Me2) pf_fu 0 Y = lX12_goesOut_33 0 pf_fu 0 (pf_upf Y 69 0 P) := a1
    have b1' : lX12_goesOut_33 0 pf_fu 0 (pf_upf Y 69 0 P) = some (pf_upf (pf_upf Y 69 0 P) 70 0 Q) := b1
    have c1' : lX12_goesOut_2 1 (fun u6_Me2 => lX12_goesOut_33 1 pf_fu (0 : Int32) u6_Me2) pf_fu 0 (pf_upf (pf_upf Y 69 0 P) 70 0 Q) = lX12_goesOut_33 1 pf_fu 0 (pf_upf (pf_upf Y 69 0 P') 70 0 Q) := c1
    have d1' : lX12_goesOut_33 1 pf_fu 0 (pf_upf (pf_upf Y 69 0 P') 70 0 Q) = some (pf_upf (pf_upf Y 69 0 P') 70 0 Q') := d1
    rw [a1', b1', Option.bind_some, c1', d1']
  · intro s hs j hj
    match s, hs with
    | 0, _ =>
      rw [c2 _ (by omega)]
      exact a4 j (by omega) hj
    | 1, _ => exact c4 j (by omega) hj
  · intro s hs j hj
    match s, hs with
    | 0, _ =>
      rw [d2 _ (by omega)]
      exact b4 j (by omega) hj
    | 1, _ => exact d4 j (by omega) hj
end
