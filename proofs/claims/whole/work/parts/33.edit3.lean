theorem pf_upf_in (M : pf_M) {k i k2 i2 j : Nat} {A B : Nat → Int32} {v : Int32} (h : k ≠ k2) : pf_up (pf_upf (pf_upf M k i A) k2 i2 B) k i j v = pf_upf (pf_upf M k i (upd A j v)) k2 i2 B := by
  funext x y
  by_cases h1 : x = k ∧ y = i
  · obtain ⟨rfl, rfl⟩ := h1
    rw [pf_up_upf, pf_upf_s, pf_upf_k _ h, pf_upf_s, pf_upf_k _ h, pf_upf_s]
  · rw [pf_up_o _ h1]
    unfold pf_upf
    by_cases h2 : x = k2 ∧ y = i2
    · rw [if_pos h2, if_pos h2]
    · rw [if_neg h2, if_neg h2, if_neg h1, if_neg h1]
theorem qV_eq {Y Y' : pf_M} {d T b : Nat} (h1 : Y' 46 0 = Y 46 0) (h2 : Y' 51 0 = Y 51 0) (h3 : Y' 52 0 = Y 52 0) (h4 : Y' 48 0 = Y 48 0) (h5 : Y' 49 0 = Y 49 0) (h6 : Y' 53 0 = Y 53 0) : qV Y' d T b = qV Y d T b := by
  unfold qV qM
  rw [h1, h2, h3, h4, h5, h6]
section
variable {X Y : pf_M} {n t K : Nat}
theorem sy_ownL {s i d z o c T : Nat} {R cb : Bool} (hD : sD X Y n) (hn : n ≤ 8) (hO : sO X Y n K) (hK : K ≤ 600) (hd : d < n) (hT : T ≤ 7000000) (hi : i < 4) (hs : s < 2) (hz8 : z ≤ 8) (ho : o ≤ 15) (hc : c ≤ 12)
    (hz : Y 67 0 i = nI z) (ho2 : Y 66 0 i = nI o) (hc2 : Y 64 0 i = nI c) (hR : R = true → o + z ≤ 16) (hcb : R = true → cb = decide (7 ≤ c)) (kx : pf_M → Option pf_M) :
    ∀ (m k f : Nat) (A B : Nat → Int32), k + m = z → m < f → ∃ A' B', lX12_editOwn_85 (nI s) (nI i) (nI d) (nI T) (if R then 1 else 0) kx f (nI k) (pf_upf (pf_upf Y 75 0 A) 69 0 B) = kx (pf_upf (pf_upf Y 75 0 A') 69 0 B') ∧
      (∀ k', k' < k → A' k' = A k') ∧ (∀ k', k ≤ k' → k' < z → A' k' = B (32 * s + 8 * i + k') ∧ B' (32 * s + 8 * i + k') = if R = true then rd cb (B (32 * s + 8 * i + k')) (qV Y d T (o + k')) else B (32 * s + 8 * i + k')) ∧
      (∀ a, (a < 32 * s + 8 * i + k ∨ 32 * s + 8 * i + z ≤ a) → B' a = B a) := by
  intro m
  induction m with
  | zero =>
    intro k f A B hk hf
    obtain ⟨f, rfl⟩ : ∃ g, f = g + 1 := ⟨f - 1, by omega⟩
    obtain rfl : k = z := by omega
    have e67 : pf_upf (pf_upf Y 75 0 A) 69 0 B 67 0 i = nI k := hz
    refine ⟨A, B, ?_, fun _ _ => rfl, fun k' h1 h2 => by omega, fun _ _ => rfl⟩
    rw [lX12_editOwn_85, si_pin2 hi (by decide), if_pos rfl, si_cl (by omega), e67, if_pos (Int32.le_refl _)]
  | succ m ih =>
    intro k f A B hk hf
    obtain ⟨f, rfl⟩ : ∃ g, f = g + 1 := ⟨f - 1, by omega⟩
    have e67 : pf_upf (pf_upf Y 75 0 A) 69 0 B 67 0 i = nI z := hz
    have e69 : pf_upf (pf_upf Y 75 0 A) 69 0 B 69 0 = B := rfl
    have eb : (32 : Int32) * nI s + (8 : Int32) * nI i + nI k = nI (32 * s + 8 * i + k) := by rw [show (32 : Int32) = nI 32 from rfl, show (8 : Int32) = nI 8 from rfl, nI_mul, nI_mul, nI_add, nI_add]
    have e66 : ∀ A B, pf_upf (pf_upf Y 75 0 A) 69 0 B 66 0 i = nI o := fun _ _ => ho2
    have e64 : ∀ A B, pf_upf (pf_upf Y 75 0 A) 69 0 B 64 0 i = nI c := fun _ _ => hc2
    have e75 : ∀ A B, pf_upf (pf_upf Y 75 0 A) 69 0 B 75 0 = A := fun _ _ => rfl
    have eby : ∀ A B b, b < 16 → fX12_byteAt (nI d) (nI b) (nI T) (pf_upf (pf_upf Y 75 0 A) 69 0 B) = some (qV Y d T b) := fun A B b hb => (sy_byte (X := X) (Y := pf_upf (pf_upf Y 75 0 A) 69 0 B) (n := n) (k := K) hD hn hO hK hd hT hb).trans (congrArg some (qV_eq rfl rfl rfl rfl rfl rfl))
    obtain ⟨A', B', a1, a2, a3, a4⟩ := ih (k + 1) f (upd A k (B (32 * s + 8 * i + k))) (upd B (32 * s + 8 * i + k) (if R = true then rd cb (B (32 * s + 8 * i + k)) (qV Y d T (o + k)) else B (32 * s + 8 * i + k))) (by omega) (by omega)
    refine ⟨A', B', ?_, fun k' h => ?_, fun k' h1 h2 => ?_, fun a ha => ?_⟩
    · rw [lX12_editOwn_85, si_pin2 hi (by decide), if_pos rfl, si_cl (by omega), e67, if_neg (fun w => by have := (nI_leI (by omega) (by omega)).mp w; omega), eb]
      simp only [si_pin2 (show 32 * s + 8 * i + k < 64 by omega) (by decide), si_pin2 (show k < 8 by omega) (by decide), if_true, si_cl (show k < 2 ^ 31 by omega), si_cl (show 32 * s + 8 * i + k < 2 ^ 31 by omega), e69, pf_upf_in Y (show 75 ≠ 69 by decide), e66, nI_add]
      refine Eq.trans ?_ a1
      have fin : ∀ b, b < 16 → (R = true → b = o + k) → jX12_editOwn_153 (nI i) (nI T) (if R = true then 1 else 0) (lX12_editOwn_85 (nI s) (nI i) (nI d) (nI T) (if R = true then 1 else 0) kx f) (nI k) (nI (32 * s + 8 * i + k)) (nI d) (nI b) (pf_upf (pf_upf Y 75 0 (upd A k (B (32 * s + 8 * i + k)))) 69 0 B) = lX12_editOwn_85 (nI s) (nI i) (nI d) (nI T) (if R = true then 1 else 0) kx f (nI (k + 1)) (pf_upf (pf_upf Y 75 0 (upd A k (B (32 * s + 8 * i + k)))) 69 0 (upd B (32 * s + 8 * i + k) (if R = true then rd cb (B (32 * s + 8 * i + k)) (qV Y d T (o + k)) else B (32 * s + 8 * i + k)))) := by
        intro b hb hRb
        unfold jX12_editOwn_153 jX12_editOwn_207
        rw [eby _ _ _ hb, Option.bind_some]
        simp only [si_pin2 (show k < 8 by omega) (by decide), si_pin2 hi (by decide), si_pin2 (show 32 * s + 8 * i + k < 64 by omega) (by decide), if_true, si_cl (show k < 2 ^ 31 by omega), si_cl (show i < 2 ^ 31 by omega), si_cl (show 32 * s + 8 * i + k < 2 ^ 31 by omega), e75, e64, upd_s, nI_1, pf_upf_up]
        cases R with
        | false => rfl
        | true =>
          obtain rfl := hRb rfl
          have hcb := hcb rfl
          subst hcb
          simp only [if_true, si_10, if_false]
          unfold rd
          by_cases h7 : 7 ≤ c
          · rw [if_neg (fun w => by have := (nI_ltI (b := 7) (by omega) (by omega)).mp w; omega), if_pos (decide_eq_true h7), Int32.or_comm]
          · rw [if_pos (show nI c < 7 from (nI_ltI (a := c) (b := 7) (by omega) (by omega)).mpr (by omega)), if_neg (fun w => h7 (of_decide_eq_true w))]
      by_cases h16 : 16 ≤ o + k
      · rw [if_pos (show (16 : Int32) ≤ nI (o + k) from (nI_leI (a := 16) (b := o + k) (by omega) (by omega)).mpr h16)]
        exact fin 0 (by omega) (fun w => by have := hR w; omega)
      · rw [if_neg (show ¬ (16 : Int32) ≤ nI (o + k) from fun w => h16 ((nI_leI (a := 16) (b := o + k) (by omega) (by omega)).mp w))]
        exact fin (o + k) (by omega) (fun _ => rfl)
    · rw [a2 k' (by omega), upd_n _ _ (by omega)]
    · by_cases hkk : k' = k
      · subst hkk
        rw [a2 k' (by omega), a4 _ (by omega), upd_s, upd_s]
        exact ⟨rfl, rfl⟩
      · obtain ⟨b1, b2⟩ := a3 k' (by omega) h2
        rw [b1, b2, upd_n _ _ (by omega)]
        exact ⟨rfl, rfl⟩
    · rw [a4 a (by omega), upd_n _ _ (by omega)]
theorem sy_ownW {i d z o : Nat} {W : Bool} (hd : d < 8) (hi : i < 4) (hz8 : z ≤ 8) (hz : Y 67 0 i = nI z) (ho2 : Y 66 0 i = nI o) (hW : W = true → o + z ≤ 16) (kx : pf_M → Option pf_M) :
    ∀ (m k f : Nat) (G : Nat → Int32), k + m = z → m < f → ∃ G', lX12_editOwn_217 (nI i) (nI d) (if W then 1 else 0) kx f (nI k) (pf_upf Y 52 0 G) = kx (pf_upf Y 52 0 G') ∧
      (∀ a, (W = false ∨ a < 16 * d + o + k ∨ 16 * d + o + z ≤ a) → G' a = G a) ∧ (W = true → ∀ k', k ≤ k' → k' < z → G' (16 * d + o + k') = Y 75 0 k') := by
  intro m
  induction m with
  | zero =>
    intro k f G hk hf
    obtain ⟨f, rfl⟩ : ∃ g, f = g + 1 := ⟨f - 1, by omega⟩
    obtain rfl : k = z := by omega
    have e67 : pf_upf Y 52 0 G 67 0 i = nI k := hz
    refine ⟨G, ?_, fun _ _ => rfl, fun _ k' h1 h2 => by omega⟩
    rw [lX12_editOwn_217, si_pin2 hi (by decide), if_pos rfl, si_cl (by omega), e67, if_pos (Int32.le_refl _)]
  | succ m ih =>
    intro k f G hk hf
    obtain ⟨f, rfl⟩ : ∃ g, f = g + 1 := ⟨f - 1, by omega⟩
    have e67 : pf_upf Y 52 0 G 67 0 i = nI z := hz
    have e66 : pf_upf Y 52 0 G 66 0 i = nI o := ho2
    have e75 : pf_upf Y 52 0 G 75 0 = Y 75 0 := rfl
    cases W with
    | false =>
      refine ⟨G, ?_, fun _ _ => rfl, fun w => by cases w⟩
      rw [lX12_editOwn_217, si_pin2 hi (by decide), if_pos rfl, si_cl (by omega), e67, if_neg (fun w => by have := (nI_leI (by omega) (by omega)).mp w; omega)]
      rfl
    | true =>
      have := hW rfl
      have eb : (16 : Int32) * nI d + nI o + nI k = nI (16 * d + o + k) := by rw [show (16 : Int32) = nI 16 from rfl, nI_mul, nI_add, nI_add]
      obtain ⟨G', a1, a2, a3⟩ := ih (k + 1) f (upd G (16 * d + o + k) (Y 75 0 k)) (by omega) (by omega)
      refine ⟨G', ?_, fun a ha => ?_, fun _ k' h1 h2 => ?_⟩
      · rw [lX12_editOwn_217, si_pin2 hi (by decide), if_pos rfl, si_cl (by omega), e67, if_neg (fun w => by have := (nI_leI (by omega) (by omega)).mp w; omega)]
        simp only [if_true, si_10, if_false, e66, eb, e75, si_pin2 (show k < 8 by omega) (by decide), si_pin2 (show 16 * d + o + k < 128 by omega) (by decide), si_cl (show k < 2 ^ 31 by omega), si_cl (show 16 * d + o + k < 2 ^ 31 by omega), nI_1, pf_upf_up]
        exact a1
      · rcases ha with ha | ha
        · cases ha
        · rw [a2 a (Or.inr (by omega)), upd_n _ _ (by omega)]
      · by_cases hkk : k' = k
        · subst hkk
          rw [a2 _ (Or.inr (by omega)), upd_s]
        · exact a3 rfl k' (by omega) h2
/-- what the model's edit does -/
def eY (s i d z T : Nat) (cb R W : Bool) (br bw : Nat → Option Nat) (u : Int32) (Y Y' : pf_M) : Prop :=
  (∀ k, k ≠ 75 → k ≠ 69 → k ≠ 52 → k ≠ 70 → Y' k 0 = Y k 0) ∧
  (∀ k, k < 8 → Y' 69 0 (32 * s + 8 * i + k) = if R = true ∧ k < z then rdo cb (qV Y d T) (Y 69 0 (32 * s + 8 * i + k)) (br k) else Y 69 0 (32 * s + 8 * i + k)) ∧
  (∀ a, (a < 32 * s + 8 * i ∨ 32 * s + 8 * i + 8 ≤ a) → Y' 69 0 a = Y 69 0 a) ∧
  (∀ a, (W = false ∨ ∀ k b, k < z → bw k = some b → a ≠ 16 * d + b) → Y' 52 0 a = Y 52 0 a) ∧ (W = true → ∀ k b, k < z → bw k = some b → Y' 52 0 (16 * d + b) = Y 69 0 (32 * s + 8 * i + k)) ∧
  Y' 70 0 (4 * s + i) = Y 70 0 (4 * s + i) + u ∧ ∀ a, a ≠ 4 * s + i → Y' 70 0 a = Y 70 0 a
end
