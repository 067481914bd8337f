def qW (g : Nat → Int32) : Int32 → Nat → Nat → Int32
  | s, _, 0 => s
  | s, a, m + 1 => qW g (s + g a) (a + 1) m
theorem qW_congr {g g' : Nat → Int32} : ∀ (m : Nat) (s : Int32) (a : Nat), (∀ v, a ≤ v → v < a + m → g v = g' v) → qW g s a m = qW g' s a m
  | 0, s, a, h => rfl
  | m + 1, s, a, h => by
    unfold qW
    rw [h a (by omega) (by omega), qW_congr m _ (a + 1) (fun v h1 h2 => h v (by omega) (by omega))]
theorem qW_b {g : Nat → Int32} : ∀ (m s a : Nat), (∀ v, a ≤ v → v < a + m → 0 ≤ g v ∧ g v ≤ 9) → ∃ N : Nat, N ≤ 9 * m ∧ qW g (nI s) a m = nI (s + N)
  | 0, s, a, h => ⟨0, by omega, rfl⟩
  | m + 1, s, a, h => by
    obtain ⟨j, hj, he⟩ := nI_of2 (x := g a) (M := 9) (n := 9) (by decide) (Int32.not_lt.mpr (h a (by omega) (by omega)).1) (h a (by omega) (by omega)).2
    obtain ⟨N, hN, hE⟩ := qW_b m (s + j) (a + 1) (fun v h1 h2 => h v (by omega) (by omega))
    refine ⟨j + N, by omega, ?_⟩
    unfold qW
    rw [he, nI_add, hE]
    congr 1
    omega
theorem sx_wt {X : pf_M} {n w : Nat} (hn : n ≤ 8) (hX : X 7 0 3 = nI n) (hw : w ≤ n) : fX9_wireTime (nI w) X = some (X 9 0 w) := by
  unfold fX9_wireTime
  rw [hX, if_neg (nI_pos (by omega)), if_neg (fun h => by rw [nI_ltI (by omega) (by omega)] at h; omega), si_pin2 (by omega) (by decide), if_pos rfl, si_cl (by omega)]
theorem lX9_W {X : pf_M} {n c : Nat} {last : Int32} (hn : n ≤ 8) (hX : X 7 0 3 = nI n) (hc : c ≤ n + 1) (hl : ∀ j, j ≤ 10 → (last < nI j ↔ c ≤ j)) : ∀ (m a f : Nat) (s : Int32), m = c - a → a ≤ 9 → m < f → lX9_wireTimes_5 last X f s (nI a) = some (qW (X 9 0) s a m) := by
  intro m
  induction m with
  | zero =>
    intro a f s hm ha hf
    obtain ⟨f, rfl⟩ : ∃ g, f = g + 1 := ⟨f - 1, by omega⟩
    rw [lX9_wireTimes_5, if_pos ((hl a (by omega)).mpr (by omega))]
    rfl
  | succ m ih =>
    intro a f s hm ha hf
    obtain ⟨f, rfl⟩ : ∃ g, f = g + 1 := ⟨f - 1, by omega⟩
    rw [lX9_wireTimes_5, if_neg (fun h => by rw [hl a (by omega)] at h; omega), sx_wt hn hX (by omega)]
    show lX9_wireTimes_5 last X f (s + X 9 0 a) (nI a + 1) = _
    rw [nI_1, ih (a + 1) f _ (by omega) (by omega) (by omega)]
    rfl
theorem sx_W {X : pf_M} {n c a : Nat} {last : Int32} (hn : n ≤ 8) (hX : X 7 0 3 = nI n) (hc : c ≤ n + 1) (ha : a ≤ 9) (hl : ∀ j, j ≤ 10 → (last < nI j ↔ c ≤ j)) : fX9_wireTimes (nI a) last X = some (qW (X 9 0) 0 a (c - a)) := by
  unfold fX9_wireTimes
  exact lX9_W hn hX hc hl (c - a) a pf_fu 0 rfl ha (by unfold pf_fu; omega)
theorem lX12_W {Y : pf_M} {n c : Nat} {last : Int32} (hn : n ≤ 8) (hc : c ≤ n + 1) (hl : ∀ j, j ≤ 10 → (last < nI j ↔ c ≤ j)) : ∀ (m a f : Nat) (s : Int32), m = c - a → a ≤ 9 → m < f → lX12_wires_5 last Y f s (nI a) = some (qW (Y 47 0) s a m) := by
  intro m
  induction m with
  | zero =>
    intro a f s hm ha hf
    obtain ⟨f, rfl⟩ : ∃ g, f = g + 1 := ⟨f - 1, by omega⟩
    rw [lX12_wires_5, if_pos ((hl a (by omega)).mpr (by omega))]
    rfl
  | succ m ih =>
    intro a f s hm ha hf
    obtain ⟨f, rfl⟩ : ∃ g, f = g + 1 := ⟨f - 1, by omega⟩
    rw [lX12_wires_5, if_neg (fun h => by rw [hl a (by omega)] at h; omega), si_pin2 (by omega) (by decide), if_pos rfl, si_cl (by omega), nI_1, ih (a + 1) f _ (by omega) (by omega) (by omega)]
    rfl
theorem sy_W {Y : pf_M} {n c a : Nat} {last : Int32} (hn : n ≤ 8) (hc : c ≤ n + 1) (ha : a ≤ 9) (hl : ∀ j, j ≤ 10 → (last < nI j ↔ c ≤ j)) : fX12_wires (nI a) last Y = some (qW (Y 47 0) 0 a (c - a)) := by
  unfold fX12_wires
  exact lX12_W hn hc hl (c - a) a pf_fu 0 rfl ha (by unfold pf_fu; omega)
theorem si_last (d : Nat) (hd : d ≤ 10) : ∀ j, j ≤ 10 → (nI d < nI j ↔ d + 1 ≤ j) := fun j hj => by
  rw [nI_ltI (by omega) (by omega)]
  omega
theorem si_last1 (d : Nat) (hd : d ≤ 10) : ∀ j, j ≤ 10 → (nI d - 1 < nI j ↔ d ≤ j) := fun j hj => by
  cases d with
  | zero =>
    refine ⟨fun _ => by omega, fun _ => ?_⟩
    rw [nI_0, Int32.lt_iff_toInt_lt, nI_toInt (by omega)]
    have : ((0 : Int32) - 1).toInt = -1 := by decide
    omega
  | succ d =>
    rw [nI_pred, nI_ltI (by omega) (by omega)]
    omega
/-! cut wires -/
def qN (c : Nat → Int32) : Nat → Nat → Nat
  | _, 0 => 0
  | a, m + 1 => (if c a = 1 then 1 else 0) + qN c (a + 1) m
theorem qN_s (c : Nat → Int32) (a m : Nat) : qN c a (m + 1) = (if c a = 1 then 1 else 0) + qN c (a + 1) m := rfl
theorem qN_le (c : Nat → Int32) : ∀ m a, qN c a m ≤ m
  | 0, a => Nat.le_refl _
  | m + 1, a => by
    unfold qN
    have := qN_le c m (a + 1)
    split <;> omega
theorem qN_congr {c c' : Nat → Int32} : ∀ (m a : Nat), (∀ v, a ≤ v → v < a + m → c v = c' v) → qN c a m = qN c' a m
  | 0, a, h => rfl
  | m + 1, a, h => by
    unfold qN
    rw [h a (by omega) (by omega), qN_congr m (a + 1) (fun v h1 h2 => h v (by omega) (by omega))]
theorem lX9_N {X : pf_M} {n : Nat} (hn : n ≤ 8) (hX : X 7 0 3 = nI n) (hc : ∀ w, w ≤ n → X 10 0 w = 0 ∨ X 10 0 w = 1) : ∀ (m a f s : Nat), a + m = n + 1 → m < f → lX9_cutWires_4 X f (nI s) (nI a) = some (nI (s + qN (X 10 0) a m)) := by
  intro m
  induction m with
  | zero =>
    intro a f s hm hf
    obtain ⟨f, rfl⟩ : ∃ g, f = g + 1 := ⟨f - 1, by omega⟩
    rw [lX9_cutWires_4, hX, if_pos ((nI_ltI (by omega) (by omega)).mpr (by omega))]
    rfl
  | succ m ih =>
    intro a f s hm hf
    obtain ⟨f, rfl⟩ : ∃ g, f = g + 1 := ⟨f - 1, by omega⟩
    rw [lX9_cutWires_4, hX, if_neg (fun h => by rw [nI_ltI (by omega) (by omega)] at h; omega), si_pin2 (by omega) (by decide), if_pos rfl, si_cl (by omega), nI_1]
    unfold qN
    rcases hc a (by omega) with q | q
    · rw [q, if_neg (by decide), show nI s + 0 = nI s by rw [Int32.add_zero], ih (a + 1) f s (by omega) (by omega)]
      congr 2
      omega
    · rw [q, if_pos rfl, nI_1, ih (a + 1) f (s + 1) (by omega) (by omega)]
      congr 2
      omega
theorem sx_N {X : pf_M} {n : Nat} (hn : n ≤ 8) (hX : X 7 0 3 = nI n) (hc : ∀ w, w ≤ n → X 10 0 w = 0 ∨ X 10 0 w = 1) : fX9_cutWires X = some (nI (qN (X 10 0) 0 (n + 1))) := by
  have := lX9_N hn hX hc (n + 1) 0 pf_fu 0 (by omega) (by unfold pf_fu; omega)
  rw [Nat.zero_add] at this
  exact this
theorem lX12_N {Y : pf_M} {n : Nat} (hn : n ≤ 8) (hY : Y 40 0 10 = nI n) (hc : ∀ w, w ≤ n → Y 50 0 w = 0 ∨ Y 50 0 w = 1) : ∀ (m a f s : Nat), a + m = n + 1 → m < f → lX12_cutMany_4 Y f (nI s) (nI a) = some (nI (s + qN (Y 50 0) a m)) := by
  intro m
  induction m with
  | zero =>
    intro a f s hm hf
    obtain ⟨f, rfl⟩ : ∃ g, f = g + 1 := ⟨f - 1, by omega⟩
    rw [lX12_cutMany_4, hY, if_pos ((nI_ltI (by omega) (by omega)).mpr (by omega))]
    rfl
  | succ m ih =>
    intro a f s hm hf
    obtain ⟨f, rfl⟩ : ∃ g, f = g + 1 := ⟨f - 1, by omega⟩
    rw [lX12_cutMany_4, hY, if_neg (fun h => by rw [nI_ltI (by omega) (by omega)] at h; omega), si_pin2 (by omega) (by decide), if_pos rfl, si_cl (by omega), nI_1]
    unfold qN
    rcases hc a (by omega) with q | q
    · rw [q, if_neg (by decide), show nI s + 0 = nI s by rw [Int32.add_zero], ih (a + 1) f s (by omega) (by omega)]
      congr 2
      omega
    · rw [q, if_pos rfl, nI_1, ih (a + 1) f (s + 1) (by omega) (by omega)]
      congr 2
      omega
theorem sy_N {Y : pf_M} {n : Nat} (hn : n ≤ 8) (hY : Y 40 0 10 = nI n) (hc : ∀ w, w ≤ n → Y 50 0 w = 0 ∨ Y 50 0 w = 1) : fX12_cutMany Y = some (nI (qN (Y 50 0) 0 (n + 1))) := by
  have := lX12_N hn hY hc (n + 1) 0 pf_fu 0 (by omega) (by unfold pf_fu; omega)
  rw [Nat.zero_add] at this
  exact this
theorem lX12_I {Y : pf_M} {n : Nat} (hn : n ≤ 8) (hY : Y 40 0 10 = nI n) : ∀ (m a f : Nat) (s : Int32), (s = 0 ∨ s = 1) → a + m = n + 1 → m < f → lX12_isCut_4 Y f s (nI a) = some (if s = 1 ∨ 0 < qN (Y 50 0) a m then 1 else 0) := by
  intro m
  induction m with
  | zero =>
    intro a f s hs hm hf
    obtain ⟨f, rfl⟩ : ∃ g, f = g + 1 := ⟨f - 1, by omega⟩
    rw [lX12_isCut_4, hY, if_pos ((nI_ltI (by omega) (by omega)).mpr (by omega)), if_pos (pf_b_iff.mpr hs)]
    rcases hs with rfl | rfl <;> simp [qN]
  | succ m ih =>
    intro a f s hs hm hf
    obtain ⟨f, rfl⟩ : ∃ g, f = g + 1 := ⟨f - 1, by omega⟩
    rw [lX12_isCut_4, hY, if_neg (fun h => by rw [nI_ltI (by omega) (by omega)] at h; omega)]
    unfold jX12_isCut_26 jX12_isCut_31
    rw [nI_1, si_pin2 (by omega) (by decide), if_pos rfl, si_cl (by omega), ih (a + 1) f 1 (Or.inr rfl) (by omega) (by omega), ih (a + 1) f 0 (Or.inl rfl) (by omega) (by omega)]
    rw [qN_s]
    rcases hs with rfl | rfl
    · by_cases hc : Y 50 0 a = 1
      · simp [hc]
      · simp [hc]
    · simp
theorem sy_I {Y : pf_M} {n : Nat} (hn : n ≤ 8) (hY : Y 40 0 10 = nI n) : fX12_isCut Y = some (if 0 < qN (Y 50 0) 0 (n + 1) then 1 else 0) := by
  have := lX12_I hn hY (n + 1) 0 pf_fu 0 (Or.inl rfl) (by omega) (by unfold pf_fu; omega)
  unfold fX12_isCut
  refine this.trans ?_
  simp
/-! both sides' wires, sides, trips -/
section
variable {X Y : pf_M} {n t : Nat}
theorem ss_A (hR : sR X Y n t) (hC : sC X Y n) : qA (X 10 0) n 0 = qA (Y 50 0) n 0 := qA_congr n 0 (fun v hv => (hC v (by omega)).1)
theorem ss_B (hR : sR X Y n t) (hC : sC X Y n) : qB (X 10 0) n n = qB (Y 50 0) n n := qB_congr n (fun v hv => (hC v (by omega)).1)
/-- the side of a device: 0 none, 1, 2 -/
def qS (c : Nat → Int32) (n d : Nat) : Int32 := if d < qA c n 0 then 1 else if d < qB c n n then 0 else 2
theorem sx_S (hR : sR X Y n t) (hC : sC X Y n) {d : Nat} (hd : d < n) : fX9_sideOf (nI d) X = some (qS (Y 50 0) n d) := by
  obtain ⟨hn, ⟨hX, hY⟩, -⟩ := id hR
  have hA := qA_le (Y 50 0) n 0
  have hB := qB_le (Y 50 0) n n (Nat.le_refl _)
  unfold fX9_sideOf qS
  rw [sx_A hn.2 hX, ss_A hR hC]
  show (if nI (qA (Y 50 0) n 0) ≤ nI d then _ else _) = _
  rw [sx_B hn.2 hX, ss_B hR hC]
  show (if nI (qA (Y 50 0) n 0) ≤ nI d then (if nI d < nI (qB (Y 50 0) n n) then _ else _) else _) = _
  by_cases h1 : d < qA (Y 50 0) n 0
  · rw [if_pos h1, if_neg (fun h => by rw [nI_leI (by omega) (by omega)] at h; omega)]
  · rw [if_neg h1, if_pos ((nI_leI (by omega) (by omega)).mpr (by omega))]
    by_cases h2 : d < qB (Y 50 0) n n
    · rw [if_pos h2, if_pos ((nI_ltI (by omega) (by omega)).mpr h2)]
    · rw [if_neg h2, if_neg (fun h => by rw [nI_ltI (by omega) (by omega)] at h; omega)]
theorem sy_S (hR : sR X Y n t) {d : Nat} (hd : d < n) : fX12_sideOf (nI d) Y = some (qS (Y 50 0) n d) := by
  obtain ⟨hn, ⟨hX, hY⟩, -⟩ := id hR
  have hA := qA_le (Y 50 0) n 0
  have hB := qB_le (Y 50 0) n n (Nat.le_refl _)
  unfold fX12_sideOf qS
  rw [sy_A hn.2 hY]
  show (if nI (qA (Y 50 0) n 0) ≤ nI d then _ else _) = _
  rw [sy_B hn.2 hY]
  show (if nI (qA (Y 50 0) n 0) ≤ nI d then (if nI d < nI (qB (Y 50 0) n n) then _ else _) else _) = _
  by_cases h1 : d < qA (Y 50 0) n 0
  · rw [if_pos h1, if_neg (fun h => by rw [nI_leI (by omega) (by omega)] at h; omega)]
  · rw [if_neg h1, if_pos ((nI_leI (by omega) (by omega)).mpr (by omega))]
    by_cases h2 : d < qB (Y 50 0) n n
    · rw [if_pos h2, if_pos ((nI_ltI (by omega) (by omega)).mpr h2)]
    · rw [if_neg h2, if_neg (fun h => by rw [nI_ltI (by omega) (by omega)] at h; omega)]
theorem ss_WX (hR : sR X Y n t) (hW : sW X Y n) {c a : Nat} {last : Int32} (hc : c ≤ n + 1) (ha : a ≤ 9) (hl : ∀ j, j ≤ 10 → (last < nI j ↔ c ≤ j)) : fX9_wireTimes (nI a) last X = some (qW (Y 47 0) 0 a (c - a)) := by
  obtain ⟨hn, ⟨hX, hY⟩, -⟩ := id hR
  rw [sx_W hn.2 hX hc ha hl, qW_congr (c - a) 0 a (fun v h1 h2 => (hW v (by omega)).1)]
theorem ss_WY (hR : sR X Y n t) {c a : Nat} {last : Int32} (hc : c ≤ n + 1) (ha : a ≤ 9) (hl : ∀ j, j ≤ 10 → (last < nI j ↔ c ≤ j)) : fX12_wires (nI a) last Y = some (qW (Y 47 0) 0 a (c - a)) := by
  obtain ⟨hn, ⟨hX, hY⟩, -⟩ := id hR
  exact sy_W hn.2 hc ha hl
theorem ss_Wb (hW : sW X Y n) {c a : Nat} (hc : c ≤ n + 1) : ∃ N : Nat, N ≤ 9 * (c - a) ∧ qW (Y 47 0) 0 a (c - a) = nI N := by
  obtain ⟨N, h1, h2⟩ := qW_b (g := Y 47 0) (c - a) 0 a (fun v h1 h2 => ⟨by have := (hW v (by omega)).2.1; grind, (hW v (by omega)).2.2⟩)
  rw [Nat.zero_add] at h2
  exact ⟨N, h1, h2⟩
theorem nI_mul (a b : Nat) : nI a * nI b = nI (a * b) := (Int32.ofNat_mul a b).symm
theorem nI_subI {a b : Nat} (h : b ≤ a) : nI a - nI b = nI (a - b) := by
  obtain ⟨c, rfl⟩ : ∃ c, a = b + c := ⟨a - b, by omega⟩
  rw [← nI_add, Nat.add_sub_cancel_left, Int32.add_comm, Int32.add_sub_cancel]
def qT (p f : Int32) (m w : Nat) : Int32 := if m = 0 then 0 else nI 2 * nI w + nI m * p + nI (m - 1) * f
theorem sx_st {m w : Nat} (hm : m ≤ 8) (hR : sR X Y n t) : fX9_sideTrip (nI m) (nI w) X = qT (Y 40 0 15) (Y 40 0 16) m w ∧ fX12_tripOf (nI m) (nI w) Y = qT (Y 40 0 15) (Y 40 0 16) m w := by
  obtain ⟨hn, ⟨hX, hY⟩, hp, hf, -⟩ := id hR
  unfold fX9_sideTrip fX12_tripOf qT
  rw [hp.1, hf.1]
  cases m with
  | zero => exact ⟨by rw [nI_0, if_pos rfl, if_pos rfl], by rw [nI_0, if_pos rfl, if_pos rfl]⟩
  | succ m =>
    have h1 : ¬ nI (m + 1) = 0 := nI_ne0 (by omega) (by omega)
    rw [if_neg h1, if_neg (by omega), nI_pred]
    exact ⟨rfl, rfl⟩
theorem qT_b {p f : Int32} {m w : Nat} (hm : m ≤ 8) (hw : w ≤ 100) (hp : 0 ≤ p ∧ p ≤ 9) (hf : 0 ≤ f ∧ f ≤ 9) : ∃ N : Nat, N ≤ 1000 ∧ qT p f m w = nI N := by
  obtain ⟨p', h1, rfl⟩ := nI_of2 (M := 9) (n := 9) (by decide) (Int32.not_lt.mpr hp.1) hp.2
  obtain ⟨f', h2, rfl⟩ := nI_of2 (M := 9) (n := 9) (by decide) (Int32.not_lt.mpr hf.1) hf.2
  unfold qT
  split
  · exact ⟨0, by omega, rfl⟩
  · rw [nI_mul, nI_mul, nI_mul, nI_add, nI_add]
    refine ⟨_, ?_, rfl⟩
    have a1 : m * p' ≤ 8 * 9 := Nat.mul_le_mul hm h1
    have a2 : (m - 1) * f' ≤ 8 * 9 := Nat.mul_le_mul (by omega) h2
    omega
theorem ss_trip (hR : sR X Y n t) (hW : sW X Y n) (hC : sC X Y n) : ∃ T : Nat, T ≤ 1000 ∧ fX9_trip X = some (nI T) ∧ fX12_trip Y = some (nI T) := by
  obtain ⟨hn, ⟨hX, hY⟩, hp, hf, -⟩ := id hR
  have hA := qA_le (Y 50 0) n 0
  have hB := qB_le (Y 50 0) n n (Nat.le_refl _)
  have eN : qN (X 10 0) 0 (n + 1) = qN (Y 50 0) 0 (n + 1) := qN_congr (n + 1) 0 (fun v h1 h2 => (hC v (by omega)).1)
  have hNl := qN_le (Y 50 0) (n + 1) 0
  unfold fX9_trip fX12_trip
  rw [sx_N hn.2 hX (fun w hw => by rw [(hC w hw).1]; exact (hC w hw).2), sy_I hn.2 hY, eN, hX, hY, hp.1]
  obtain ⟨N0, b0, e0⟩ := ss_Wb hW (c := n + 1) (a := 0) (Nat.le_refl _)
  obtain ⟨N1, b1, e1⟩ := ss_Wb hW (c := qA (Y 50 0) n 0) (a := 0) (by omega)
  obtain ⟨N2, b2, e2⟩ := ss_Wb hW (c := n + 1) (a := qB (Y 50 0) n n + 1) (Nat.le_refl _)
  have x0 := ss_WX hR hW (c := n + 1) (a := 0) (last := nI n) (Nat.le_refl _) (by omega) (si_last n (by omega))
  have y0 := ss_WY hR (c := n + 1) (a := 0) (last := nI n) (Nat.le_refl _) (by omega) (si_last n (by omega))
  have x1 := ss_WX hR hW (c := qA (Y 50 0) n 0) (a := 0) (last := nI (qA (Y 50 0) n 0) - 1) (by omega) (by omega) (si_last1 _ (by omega))
  have y1 := ss_WY hR (c := qA (Y 50 0) n 0) (a := 0) (last := nI (qA (Y 50 0) n 0) - 1) (by omega) (by omega) (si_last1 _ (by omega))
  have x2 := ss_WX hR hW (c := n + 1) (a := qB (Y 50 0) n n + 1) (last := nI n) (Nat.le_refl _) (by omega) (si_last n (by omega))
  have y2 := ss_WY hR (c := n + 1) (a := qB (Y 50 0) n n + 1) (last := nI n) (Nat.le_refl _) (by omega) (si_last n (by omega))
  rw [e0] at x0 y0
  rw [e1] at x1 y1
  rw [e2] at x2 y2
  rw [nI_0] at x0 y0 x1 y1
  obtain ⟨p', hp1, hp2⟩ := nI_of2 (M := 9) (n := 9) (by decide) (Int32.not_lt.mpr hp.2.1) hp.2.2
  by_cases hz : 0 < qN (Y 50 0) 0 (n + 1)
  · obtain ⟨T1, t1, u1⟩ := qT_b (p := Y 40 0 15) (f := Y 40 0 16) (m := qA (Y 50 0) n 0) (w := N1) (by omega) (by omega) hp.2 hf.2
    obtain ⟨T2, t2, u2⟩ := qT_b (p := Y 40 0 15) (f := Y 40 0 16) (m := n - qB (Y 50 0) n n) (w := N2) (by omega) (by omega) hp.2 hf.2
    have s1 := sx_st (m := qA (Y 50 0) n 0) (w := N1) (by omega) hR
    have s2 := sx_st (m := n - qB (Y 50 0) n n) (w := N2) (by omega) hR
    rw [u1] at s1
    rw [u2] at s2
    refine ⟨if T1 ≤ T2 then T2 else T1, by split <;> omega, ?_, ?_⟩
    · simp only [Option.bind_some]
      rw [if_neg (nI_ne0 (by omega) (by omega)), sx_A hn.2 hX, ss_A hR hC]
      simp only [Option.bind_some]
      rw [x1]
      unfold fX9_sizeOfB
      rw [sx_B hn.2 hX, ss_B hR hC, hX]
      simp only [Option.bind_some]
      rw [nI_1, x2, nI_subI hB]
      simp only [Option.bind_some]
      rw [s1.1, s2.1]
      unfold fJ9_max_7cf53
      by_cases hT : T1 ≤ T2
      · rw [if_pos hT]
        by_cases hT2 : T1 < T2
        · rw [if_pos ((nI_ltI (by omega) (by omega)).mpr hT2)]
        · rw [if_neg (fun h => hT2 ((nI_ltI (by omega) (by omega)).mp h)), show T1 = T2 by omega]
      · rw [if_neg hT, if_neg (fun h => by have := (nI_ltI (by omega) (by omega)).mp h; omega)]
    · simp only [Option.bind_some, if_pos hz]
      rw [if_neg (by decide), sy_A hn.2 hY]
      simp only [Option.bind_some]
      rw [y1, sy_B hn.2 hY]
      simp only [Option.bind_some]
      rw [nI_1, y2, nI_subI hB]
      simp only [Option.bind_some]
      rw [s1.2, s2.2]
      by_cases hT : T1 ≤ T2
      · rw [if_pos hT, if_pos ((nI_leI (by omega) (by omega)).mpr hT)]
      · rw [if_neg hT, if_neg (fun h => hT ((nI_leI (by omega) (by omega)).mp h))]
  · refine ⟨N0 + p' * n, ?_, ?_, ?_⟩
    · have : p' * n ≤ 9 * 8 := Nat.mul_le_mul hp1 hn.2
      omega
    · simp only [Option.bind_some]
      rw [show qN (Y 50 0) 0 (n + 1) = 0 by omega, nI_0, if_pos rfl, x0]
      simp only [Option.bind_some]
      rw [hp2, nI_mul, nI_add]
    · simp only [Option.bind_some, if_neg hz, if_true]
      rw [y0]
      simp only [Option.bind_some]
      rw [hp2, nI_mul, nI_add, Nat.mul_comm]
end
