/-! the relation between the class's memory X and the model's memory Y, with n devices, at time t, before the k-th call -/
def sT (X Y : pf_M) : Prop := ∃ L : Nat, L ≤ 200 ∧ X 1 0 5 = nI L ∧ Y 40 0 0 = nI L ∧ ∀ j, j < L → X 2 0 j = Y 41 0 j ∧ 32 ≤ Y 41 0 j ∧ Y 41 0 j ≤ 126
def sR (X Y : pf_M) (n t : Nat) : Prop := (1 ≤ n ∧ n ≤ 8) ∧ (X 7 0 3 = nI n ∧ Y 40 0 10 = nI n) ∧ (X 7 0 4 = Y 40 0 15 ∧ 0 ≤ Y 40 0 15 ∧ Y 40 0 15 ≤ 9) ∧ (X 7 0 5 = Y 40 0 16 ∧ 0 ≤ Y 40 0 16 ∧ Y 40 0 16 ≤ 9) ∧ X 7 0 6 = nI t ∧ Y 40 0 22 = nI t
def sW (X Y : pf_M) (n : Nat) : Prop := ∀ w, w ≤ n → X 9 0 w = Y 47 0 w ∧ 1 ≤ Y 47 0 w ∧ Y 47 0 w ≤ 9
def sC (X Y : pf_M) (n : Nat) : Prop := ∀ w, w ≤ n → X 10 0 w = Y 50 0 w ∧ (Y 50 0 w = 0 ∨ Y 50 0 w = 1)
def sD (X Y : pf_M) (n : Nat) : Prop := ∀ d, d < n → (X 11 d 4 = Y 46 0 d ∧ 1 ≤ Y 46 0 d ∧ Y 46 0 d ≤ 99) ∧ (X 11 d 5 = Y 48 0 d ∧ 0 ≤ Y 48 0 d ∧ Y 48 0 d ≤ 999) ∧ (X 11 d 6 = Y 49 0 d ∧ 0 ≤ Y 49 0 d ∧ Y 49 0 d ≤ 8)
def sS (X Y : pf_M) (n : Nat) : Prop := ∀ d, d < n → X 11 d 7 = Y 51 0 d ∧ 0 ≤ Y 51 0 d ∧ Y 51 0 d ≤ 3
def sO (X Y : pf_M) (n k : Nat) : Prop := ∀ d, d < n → X 11 d 8 = Y 53 0 d ∧ -((1000000 + 100 * k : Nat) : Int) ≤ (Y 53 0 d).toInt ∧ (Y 53 0 d).toInt ≤ ((1000000 + 100 * k : Nat) : Int)
def sL (X Y : pf_M) (n : Nat) : Prop := ∀ d, d < n → X 11 d 9 = Y 54 0 d ∧ 0 ≤ Y 54 0 d ∧ Y 54 0 d ≤ 100000
def sB (X Y : pf_M) (n : Nat) : Prop := ∀ d, d < n → ∀ b, 4 ≤ b → b < 16 → X 12 d b = Y 52 0 (16 * d + b)
def sMo (X Y : pf_M) (o : Nat) : Prop := X 13 o 1 = Y 56 0 o ∧ ((Y 56 0 o = 0 ∧ 0 ≤ Y 55 0 o) ∨ ∃ p z b : Nat, 1 ≤ z ∧ z ≤ 8 ∧ p + z ≤ 32 ∧ b + z ≤ 16 ∧ (o % 2 = 1 → 4 ≤ b) ∧ Y 56 0 o = nI z ∧ X 13 o 0 = nI p ∧ Y 55 0 o = nI p ∧ X 13 o 2 = nI b ∧ Y 57 0 o = nI b)
def sM (X Y : pf_M) (n : Nat) : Prop := ∀ o, o < 2 * n → sMo X Y o
def sQo (X Y : pf_M) (q : Nat) : Prop := ∃ z : Nat, z ≤ 4 ∧ X 15 q 1 = nI z ∧ Y 59 0 q = nI z ∧ ∀ j, j < z → X 16 q j = Y 58 0 (4 * q + j) ∧ 1 ≤ Y 58 0 (4 * q + j) ∧ Y 58 0 (4 * q + j) ≤ 255
def sQ (X Y : pf_M) (n : Nat) : Prop := ∀ q, q < 2 * n → sQo X Y q
def sX (X Y : pf_M) (n : Nat) : Prop := ∀ d, d < n → X 14 d 2 = Y 60 0 (2 * d) ∧ X 14 d 3 = Y 60 0 (2 * d + 1) ∧ X 14 d 4 = Y 61 0 (2 * d) ∧ X 14 d 5 = Y 61 0 (2 * d + 1)
def sPo (a b : Int32) : Prop := (a = 0 ∧ b = -4) ∨ (a = b ∧ 1 ≤ b ∧ b ≤ 255)
def sP (X Y : pf_M) (n : Nat) : Prop := ∀ d, d < n → sPo (X 14 d 6) (Y 62 0 d) ∧ sPo (X 14 d 7) (Y 63 0 d)
def sGo (X Y : pf_M) (i : Nat) : Prop := (X 25 i 0 = Y 64 0 i ∧ 0 ≤ Y 64 0 i ∧ Y 64 0 i ≤ 12) ∧ (X 25 i 1 = Y 65 0 i ∧ 0 ≤ Y 65 0 i ∧ Y 65 0 i ≤ 99) ∧ (X 25 i 2 = Y 66 0 i ∧ 0 ≤ Y 66 0 i ∧ Y 66 0 i ≤ 15) ∧ (X 25 i 3 = Y 67 0 i ∧ 0 ≤ Y 67 0 i ∧ Y 67 0 i ≤ 8) ∧ (¬ Y 64 0 i = 0 → 1 ≤ Y 67 0 i)
def sG (X Y : pf_M) : Prop := ∀ i, i < 4 → sGo X Y i
def sU (X Y : pf_M) : Prop := ∀ i, i < 4 → ∀ k, k < 8 → X 26 i k = Y 68 0 (8 * i + k)
def sHo (X Y : pf_M) (i : Nat) : Prop := ∃ z : Nat, z ≤ 8 ∧ X 25 i 9 = nI z ∧ Y 71 0 i = nI z ∧ (1 ≤ z → X 25 i 8 = Y 72 0 i) ∧ ∀ k, k < z → X 30 i k = Y 73 0 (8 * i + k)
def sH (X Y : pf_M) : Prop := (Y 40 0 40 = 0 ∧ ∀ i, i < 4 → X 25 i 9 = 0) ∨ (Y 40 0 40 = 1 ∧ ∀ i, i < 4 → sHo X Y i)
def sEo (X Y : pf_M) (j : Nat) : Prop := (0 ≤ Y 74 0 (5 * j) ∧ Y 74 0 (5 * j) ≤ 12) ∧ (0 ≤ Y 74 0 (5 * j + 1) ∧ Y 74 0 (5 * j + 1) ≤ 99) ∧ (0 ≤ Y 74 0 (5 * j + 2) ∧ Y 74 0 (5 * j + 2) ≤ 15) ∧ (0 ≤ Y 74 0 (5 * j + 3) ∧ Y 74 0 (5 * j + 3) ≤ 8) ∧
  X 23 0 j = ((Y 74 0 (5 * j) * 100 + Y 74 0 (5 * j + 1)) * 16 + Y 74 0 (5 * j + 2)) * 10 + Y 74 0 (5 * j + 3) ∧ X 24 0 j = Y 74 0 (5 * j + 4) ∧ 0 ≤ Y 74 0 (5 * j + 4)
def sE (X Y : pf_M) : Prop := ∃ z : Nat, z ≤ 6 ∧ X 22 0 2 = nI z ∧ Y 40 0 44 = nI z ∧ ∀ j, j < z → sEo X Y j
def sZ (X Y : pf_M) : Prop := X 20 0 3 = Y 40 0 46 ∧ X 20 0 4 = Y 40 0 23 ∧ 0 ≤ Y 40 0 23 ∧ Y 40 0 23 ≤ 9 ∧ ∀ o, o < 16 → 0 ≤ Y 55 0 o
def sN (X Y : pf_M) (n t k : Nat) : Prop := t ≤ 10000 * k ∧ sT X Y ∧ sR X Y n t ∧ sW X Y n ∧ sC X Y n ∧ sD X Y n ∧ sS X Y n ∧ sO X Y n k ∧ sL X Y n ∧ sB X Y n ∧ sM X Y n ∧ sQ X Y n ∧ sX X Y n ∧ sP X Y n ∧ sG X Y ∧ sU X Y ∧ sH X Y ∧ sE X Y ∧ sZ X Y
def sRR (X Y : pf_M) (k : Nat) : Prop := ∃ n t : Nat, sN X Y n t k
theorem sO.mono {X Y : pf_M} {n k k' : Nat} (h : sO X Y n k) (hk : k ≤ k') : sO X Y n k' := fun d hd => ⟨(h d hd).1, by have := (h d hd).2.1; omega, by have := (h d hd).2.2; omega⟩
/-- a call that changes nothing that is related -/
theorem sN.next {X Y : pf_M} {n t k : Nat} (h : sN X Y n t k) : sN X Y n t (k + 1) := by
  obtain ⟨h1, h2, h3, h4, h5, h6, h7, h8, h9⟩ := h
  exact ⟨by omega, h2, h3, h4, h5, h6, h7, h8.mono (by omega), h9⟩
/-- the device that is asked for -/
theorem si_dev {n : Nat} (hn : 1 ≤ n ∧ n ≤ 8) {X Y : pf_M} (hX : X 7 0 3 = nI n) (hY : Y 40 0 10 = nI n) (x : Int32) : (fX9_find x X = some none ∧ fX12_isDevice x Y = 0) ∨ ∃ d : Nat, d < n ∧ x = nI d ∧ fX9_find x X = some (some d) ∧ fX12_isDevice x Y = 1 := by
  unfold fX9_find fX12_isDevice jX9_find_21
  rw [hX, hY, si_0b, show nI n - 1 = nI (n - 1) by rw [show n = (n - 1) + 1 by omega, nI_pred]; rfl]
  by_cases h0 : x < 0
  · rw [if_pos h0, if_neg (fun h => absurd h0 (Int32.not_lt.mpr h.1))]
    exact Or.inl ⟨rfl, rfl⟩
  · rw [if_neg h0]
    obtain ⟨d, hd, rfl⟩ := nI_of h0
    by_cases h1 : nI n ≤ nI d
    · rw [if_pos h1, if_neg]
      · exact Or.inl ⟨rfl, rfl⟩
      · rintro ⟨-, h⟩
        rw [nI_leI (by omega) (by omega)] at h1 h
        omega
    · rw [if_neg h1]
      rw [nI_leI (by omega) (by omega)] at h1
      rw [si_pin2 (by omega) (by decide), if_pos rfl, if_pos ⟨Int32.not_lt.mp h0, (nI_leI (by omega) (by omega)).mpr (by omega)⟩, si_cl hd]
      exact Or.inr ⟨d, by omega, rfl, rfl, rfl⟩
/-! the sides -/
def qA (c : Nat → Int32) : Nat → Nat → Nat
  | 0, w => w
  | m + 1, w => if c w = 1 then w else qA c m (w + 1)
def qB (c : Nat → Int32) (n : Nat) : Nat → Nat
  | 0 => if c 0 = 1 then 0 else n
  | w + 1 => if c (w + 1) = 1 then w + 1 else qB c n w
theorem qA_le (c : Nat → Int32) : ∀ m w, qA c m w ≤ m + w
  | 0, w => by simp [qA]
  | m + 1, w => by
    unfold qA
    split
    · omega
    · have := qA_le c m (w + 1); omega
theorem qB_le (c : Nat → Int32) (n : Nat) : ∀ w, w ≤ n → qB c n w ≤ n
  | 0, h => by unfold qB; split <;> omega
  | w + 1, h => by
    unfold qB
    split
    · exact h
    · exact qB_le c n w (by omega)
theorem qA_congr {c c' : Nat → Int32} : ∀ m w, (∀ v, v < m + w → c v = c' v) → qA c m w = qA c' m w
  | 0, w, h => rfl
  | m + 1, w, h => by
    unfold qA
    rw [h w (by omega), qA_congr m (w + 1) (fun v hv => h v (by omega))]
theorem qB_congr {c c' : Nat → Int32} {n : Nat} : ∀ w, (∀ v, v ≤ w → c v = c' v) → qB c n w = qB c' n w
  | 0, h => by unfold qB; rw [h 0 (by omega)]
  | w + 1, h => by
    unfold qB
    rw [h (w + 1) (by omega), qB_congr w (fun v hv => h v (by omega))]
theorem lX9_A {X : pf_M} {n : Nat} (hn : n ≤ 8) (hX : X 7 0 3 = nI n) (kx : Option Int32) : ∀ (m w f : Nat), m + w = n → m < f → lX9_sizeOfA_2 X (some (nI n)) f (nI w) = some (nI (qA (X 10 0) m w)) := by
  intro m
  induction m with
  | zero =>
    intro w f hw hf
    obtain ⟨f, rfl⟩ : ∃ g, f = g + 1 := ⟨f - 1, by omega⟩
    rw [lX9_sizeOfA_2, hX, if_pos ((nI_leI (by omega) (by omega)).mpr (by omega)), show w = n by omega]
    rfl
  | succ m ih =>
    intro w f hw hf
    obtain ⟨f, rfl⟩ : ∃ g, f = g + 1 := ⟨f - 1, by omega⟩
    rw [lX9_sizeOfA_2, hX, if_neg (fun h => by rw [nI_leI (by omega) (by omega)] at h; omega), si_pin2 (by omega) (by decide), if_pos rfl, si_cl (by omega)]
    unfold qA
    by_cases hc : X 10 0 w = 1
    · rw [if_pos hc, if_pos hc]
    · rw [if_neg hc, if_neg hc, nI_1]
      exact ih (w + 1) f (by omega) (by omega)
theorem sx_A {X : pf_M} {n : Nat} (hn : n ≤ 8) (hX : X 7 0 3 = nI n) : fX9_sizeOfA X = some (nI (qA (X 10 0) n 0)) := by
  unfold fX9_sizeOfA
  rw [hX]
  exact lX9_A hn hX none n 0 pf_fu (by omega) (by unfold pf_fu; omega)
theorem lX12_A {Y : pf_M} {n : Nat} (hn : n ≤ 8) (hY : Y 40 0 10 = nI n) : ∀ (m w f : Nat), m + w = n → m + 1 < f → lX12_sideA_2 Y (some (nI n)) f (nI w) = some (nI (qA (Y 50 0) m w)) := by
  intro m
  induction m with
  | zero =>
    intro w f hw hf
    obtain ⟨f, rfl⟩ : ∃ g, f = g + 2 := ⟨f - 2, by omega⟩
    rw [lX12_sideA_2, hY, if_neg (fun h => by rw [nI_ltI (by omega) (by omega)] at h; omega), si_pin2 (by omega) (by decide), if_pos rfl]
    unfold qA
    split
    · rfl
    · rw [nI_1, lX12_sideA_2, hY, if_pos ((nI_ltI (by omega) (by omega)).mpr (by omega)), show w = n by omega]
  | succ m ih =>
    intro w f hw hf
    obtain ⟨f, rfl⟩ : ∃ g, f = g + 1 := ⟨f - 1, by omega⟩
    rw [lX12_sideA_2, hY, if_neg (fun h => by rw [nI_ltI (by omega) (by omega)] at h; omega), si_pin2 (by omega) (by decide), if_pos rfl, si_cl (by omega)]
    unfold qA
    by_cases hc : Y 50 0 w = 1
    · rw [if_pos hc, if_pos hc]
    · rw [if_neg hc, if_neg hc, nI_1]
      exact ih (w + 1) f (by omega) (by omega)
theorem sy_A {Y : pf_M} {n : Nat} (hn : n ≤ 8) (hY : Y 40 0 10 = nI n) : fX12_sideA Y = some (nI (qA (Y 50 0) n 0)) := by
  unfold fX12_sideA
  rw [hY]
  exact lX12_A hn hY n 0 pf_fu (by omega) (by unfold pf_fu; omega)
theorem nI_m1 (w : Nat) : nI (w + 1) + -1 = nI w := by
  rw [← nI_pred w, Int32.sub_eq_add_neg]
theorem lX9_B {X : pf_M} {n : Nat} (hn : n ≤ 8) : ∀ (w f : Nat), w ≤ n → w + 1 < f → lX9_firstOfB_5 X (some (nI n)) f (nI w) = some (nI (qB (X 10 0) n w)) := by
  intro w
  induction w with
  | zero =>
    intro f hw hf
    obtain ⟨f, rfl⟩ : ∃ g, f = g + 2 := ⟨f - 2, by omega⟩
    rw [lX9_firstOfB_5, if_neg (nI_pos (by omega)), si_pin2 (by omega) (by decide), if_pos rfl, si_cl (by omega)]
    unfold qB
    split
    · rfl
    · rw [lX9_firstOfB_5, if_pos (by decide)]
  | succ w ih =>
    intro f hw hf
    obtain ⟨f, rfl⟩ : ∃ g, f = g + 1 := ⟨f - 1, by omega⟩
    rw [lX9_firstOfB_5, if_neg (nI_pos (by omega)), si_pin2 (by omega) (by decide), if_pos rfl, si_cl (by omega), nI_m1]
    unfold qB
    split
    · rfl
    · exact ih f (by omega) (by omega)
theorem sx_B {X : pf_M} {n : Nat} (hn : n ≤ 8) (hX : X 7 0 3 = nI n) : fX9_firstOfB X = some (nI (qB (X 10 0) n n)) := by
  unfold fX9_firstOfB
  rw [hX]
  exact lX9_B hn n pf_fu (by omega) (by unfold pf_fu; omega)
theorem lX12_B {Y : pf_M} {n : Nat} (hn : n ≤ 8) : ∀ (w f : Nat), w ≤ n → w + 1 < f → lX12_firstB_5 Y (some (nI n)) f (nI w) = some (nI (qB (Y 50 0) n w)) := by
  intro w
  induction w with
  | zero =>
    intro f hw hf
    obtain ⟨f, rfl⟩ : ∃ g, f = g + 2 := ⟨f - 2, by omega⟩
    rw [lX12_firstB_5, if_neg (nI_pos (by omega)), si_pin2 (by omega) (by decide), if_pos rfl, si_cl (by omega)]
    unfold qB
    split
    · rfl
    · rw [lX12_firstB_5, if_pos (by decide)]
  | succ w ih =>
    intro f hw hf
    obtain ⟨f, rfl⟩ : ∃ g, f = g + 1 := ⟨f - 1, by omega⟩
    rw [lX12_firstB_5, if_neg (nI_pos (by omega)), si_pin2 (by omega) (by decide), if_pos rfl, si_cl (by omega), nI_m1]
    unfold qB
    split
    · rfl
    · exact ih f (by omega) (by omega)
theorem sy_B {Y : pf_M} {n : Nat} (hn : n ≤ 8) (hY : Y 40 0 10 = nI n) : fX12_firstB Y = some (nI (qB (Y 50 0) n n)) := by
  unfold fX12_firstB
  rw [hY]
  exact lX12_B hn n pf_fu (by omega) (by unfold pf_fu; omega)
