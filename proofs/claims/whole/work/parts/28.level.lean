theorem qO_r {r : Int32} (hr : 0 ≤ r ∧ r ≤ 8) : r.toInt = 0 ∨ r.toInt = 1 ∨ r.toInt = 2 ∨ r.toInt = 3 ∨ r.toInt = 4 ∨ r.toInt = 5 ∨ r.toInt = 6 ∨ r.toInt = 7 ∨ r.toInt = 8 := by
  rw [Int32.le_iff_toInt_le, Int32.le_iff_toInt_le] at hr
  have a1 : ((0 : Int32)).toInt = 0 := rfl
  have a3 : ((8 : Int32)).toInt = 8 := rfl
  omega
theorem qO_d {st r : Int32} {t T1 T2 : Nat} (hr : 0 ≤ r ∧ r ≤ 8) (h1 : t ≤ T1 ∧ T1 ≤ t + 1200) (h2 : t ≤ T2 ∧ T2 ≤ t + 1200) : -1400 ≤ qO st r T2 - qO st r T1 ∧ qO st r T2 - qO st r T1 ≤ 1400 := by
  unfold qO
  rcases qO_r hr with h | h | h | h | h | h | h | h | h <;> rw [h] <;> omega
theorem qO_e {st r : Int32} {T : Nat} (hs : 0 ≤ st ∧ st ≤ 999) (hr : 0 ≤ r ∧ r ≤ 8) (hT : T ≤ 5300000) : (T : Int) - 212001 ≤ qO st r T ∧ qO st r T ≤ (T : Int) + 213000 := by
  rw [Int32.le_iff_toInt_le, Int32.le_iff_toInt_le] at hs
  have a1 : ((0 : Int32)).toInt = 0 := rfl
  have a2 : ((999 : Int32)).toInt = 999 := rfl
  rw [a1, a2] at hs
  unfold qO
  rcases qO_r hr with h | h | h | h | h | h | h | h | h <;> rw [h] <;> omega
section
variable {n t k a : Nat}
theorem sN.del {X Y : pf_M} (h : sN X Y n t k) {d : Nat} {v : Int32} (hv : 0 ≤ v ∧ v ≤ 100000) : sN (pf_up X 11 d 9 v) (pf_up Y 54 0 d v) n t k := by
  obtain ⟨ht, hT, hR, hW, hC, hD, hS, hO, hL, hr⟩ := h
  have e : ∀ i j, j ≠ 9 → pf_up X 11 d 9 v 11 i j = X 11 i j := fun i j hj => by rw [pf_up_v, if_neg (fun w => hj w.2)]
  refine ⟨ht, hT, hR, hW, hC, hD.st d v (by decide), ?_, ?_, ?_, hr⟩
  · intro i hi
    rw [e i 7 (by decide)]
    exact hS i hi
  · intro i hi
    rw [e i 8 (by decide)]
    exact hO i hi
  · intro i hi
    by_cases hid : i = d
    · subst hid
      rw [pf_up_s, pf_up_s]
      exact ⟨rfl, hv⟩
    · rw [pf_up_i _ _ _ _ _ _ hid, pf_up_j _ _ _ _ _ _ hid]
      exact hL i hi
def sTm (t lo hi : Nat) (G H : Nat → Int32) (b : Nat) : Prop := ∀ j, lo ≤ j → j < hi → ∃ T : Nat, t ≤ T ∧ T ≤ t + b ∧ G j = nI T ∧ H j = nI T
theorem sTm.upd1 {t i b T : Nat} {G H : Nat → Int32} (h : sTm t 0 i G H b) (h1 : t ≤ T) (h2 : T ≤ t + b) : sTm t 0 (i + 1) (upd G i (nI T)) (upd H i (nI T)) b := by
  intro j _ hj
  by_cases hji : j = i
  · subst hji
    rw [upd_s, upd_s]
    exact ⟨T, h1, h2, rfl, rfl⟩
  · rw [upd_n _ _ hji, upd_n _ _ hji]
    exact h j (by omega) (by omega)
theorem ss_l1 {X Y : pf_M} (hN : sN X Y n t k) (ht : t ≤ 6000000) {l : Nat} (ha : l + 1 = qA (Y 50 0) n 0) : ∀ (m i f g : Nat) (G H : Nat → Int32), i + m = l + 1 → m < f → m < g → sTm t 0 i G H 1000 →
    ∃ G' H', (∀ kx, lX1_setTimes_2 (nI l) kx f (nI i) (pf_upf X 18 0 G) = kx (pf_upf X 18 0 G')) ∧ (∀ ky, lX12_level_14 (nI (l + 1)) ky g (nI i) (pf_upf Y 76 0 H) = ky (pf_upf Y 76 0 H')) ∧ sTm t 0 (l + 1) G' H' 1000 := by
  have hq := qA_le (Y 50 0) n 0
  obtain ⟨-, hT, hR, hW, hC, -⟩ := id hN
  obtain ⟨hn, -⟩ := id hR
  intro m
  induction m with
  | zero =>
    intro i f g G H hi hf hg h
    obtain ⟨f, rfl⟩ : ∃ g, f = g + 1 := ⟨f - 1, by omega⟩
    obtain ⟨g, rfl⟩ : ∃ f, g = f + 1 := ⟨g - 1, by omega⟩
    obtain rfl : i = l + 1 := by omega
    refine ⟨G, H, fun kx => ?_, fun ky => ?_, h⟩
    · rw [lX1_setTimes_2, if_pos ((nI_ltI (by omega) (by omega)).mpr (by omega))]
    · rw [lX12_level_14, if_pos ((nI_leI (by omega) (by omega)).mpr (by omega))]
  | succ m ih =>
    intro i f g G H hi hf hg h
    obtain ⟨f, rfl⟩ : ∃ g, f = g + 1 := ⟨f - 1, by omega⟩
    obtain ⟨g, rfl⟩ : ∃ f, g = f + 1 := ⟨g - 1, by omega⟩
    obtain ⟨T, T1, T2, w1, w2⟩ := ss_onA (X := pf_upf X 18 0 G) (Y := pf_upf Y 76 0 H) (n := n) (t := t) hR hW hC ht (d := i) (show i < qA (Y 50 0) n 0 by omega)
    obtain ⟨G', H', u1, u2, u3⟩ := ih (i + 1) f g _ _ (by omega) (by omega) (by omega) (h.upd1 T1 T2)
    refine ⟨G', H', fun kx => ?_, fun ky => ?_, u3⟩
    · rw [lX1_setTimes_2, if_neg (fun w => by have := (nI_ltI (by omega) (by omega)).mp w; omega), w1, Option.bind_some, si_pin2 (by omega) (by decide), if_pos rfl, si_cl (by omega), nI_1, pf_upf_up]
      exact u1 kx
    · rw [lX12_level_14, if_neg (fun w => by have := (nI_leI (by omega) (by omega)).mp w; omega), w2, Option.bind_some, si_pin2 (by omega) (by decide), if_pos rfl, si_cl (by omega), nI_1, pf_upf_up]
      exact u2 ky
theorem sTm.upd2 {t i hi b T : Nat} {G H : Nat → Int32} (h : sTm t (i + 1) hi G H b) (h1 : t ≤ T) (h2 : T ≤ t + b) : sTm t i hi (upd G i (nI T)) (upd H i (nI T)) b := by
  intro j hj hj2
  by_cases hji : j = i
  · subst hji
    rw [upd_s, upd_s]
    exact ⟨T, h1, h2, rfl, rfl⟩
  · rw [upd_n _ _ hji, upd_n _ _ hji]
    exact h j (by omega) hj2
theorem sTm.mono {t lo hi b b' : Nat} {G H : Nat → Int32} (h : sTm t lo hi G H b) (hb : b ≤ b') : sTm t lo hi G H b' := fun j h1 h2 => by
  obtain ⟨T, c1, c2, c3⟩ := h j h1 h2
  exact ⟨T, c1, by omega, c3⟩
theorem si_nat {x : Int32} {b : Nat} (h : 0 ≤ x ∧ x ≤ nI b) (hb : b < 2 ^ 31) : ∃ j : Nat, j ≤ b ∧ x = nI j := by
  obtain ⟨j, hj, e⟩ := nI_of2 (M := nI b) (n := b) (nI_toInt hb) (Int32.not_lt.mpr h.1) h.2
  exact ⟨j, by omega, e⟩
theorem ss_l2 {X Y : pf_M} {G H : Nat → Int32} (hN : sN X Y n t k) (ht : t ≤ 6000000) {l : Nat} (ha : l + 1 ≤ n) (hg : sTm t 0 (l + 1) G H 1000) : ∀ (i f g : Nat) (P Q : Nat → Int32), i ≤ l + 1 → i + 1 < f → i + 1 < g → sTm t i (l + 1) P Q (1000 + 18 * (l + 1 - i)) →
    ∃ P' Q', lX1_setTimes_29 (nI l) f (nI i + -1) (pf_upf (pf_upf X 18 0 G) 19 0 P) = some (pf_upf (pf_upf X 18 0 G) 19 0 P') ∧
      (∀ ky, lX12_level_40 (nI (l + 1)) ky g (nI i + -1) (pf_upf (pf_upf Y 76 0 H) 77 0 Q) = ky (pf_upf (pf_upf Y 76 0 H) 77 0 Q')) ∧ sTm t 0 (l + 1) P' Q' (1000 + 18 * (l + 1)) := by
  obtain ⟨-, hT, hR, hW, hC, -⟩ := id hN
  obtain ⟨hn, ⟨hX, hY⟩, ⟨p1, p2⟩, ⟨f1, f2⟩, hx, hy⟩ := id hR
  obtain ⟨p, hp, pe⟩ := si_nat (b := 9) p2 (by decide)
  obtain ⟨u, hu, ue⟩ := si_nat (b := 9) f2 (by decide)
  intro i
  induction i with
  | zero =>
    intro f g P Q hi hf hg h
    obtain ⟨f, rfl⟩ : ∃ g, f = g + 1 := ⟨f - 1, by omega⟩
    obtain ⟨g, rfl⟩ : ∃ f, g = f + 1 := ⟨g - 1, by omega⟩
    refine ⟨P, Q, ?_, fun ky => ?_, h⟩
    · rw [lX1_setTimes_29, if_pos (by decide)]
    · rw [lX12_level_40, if_pos (by decide)]
  | succ i ih =>
    intro f g P Q hi hf hg2 h
    obtain ⟨f, rfl⟩ : ∃ g, f = g + 1 := ⟨f - 1, by omega⟩
    obtain ⟨g, rfl⟩ : ∃ f, g = f + 1 := ⟨g - 1, by omega⟩
    have e18 : pf_upf (pf_upf X 18 0 G) 19 0 P 18 0 = G := rfl
    have e76 : pf_upf (pf_upf Y 76 0 H) 77 0 Q 76 0 = H := rfl
    have e19 : pf_upf (pf_upf X 18 0 G) 19 0 P 19 0 = P := rfl
    have e77 : pf_upf (pf_upf Y 76 0 H) 77 0 Q 77 0 = Q := rfl
    have e47 : pf_upf (pf_upf Y 76 0 H) 77 0 Q 47 0 = Y 47 0 := rfl
    have eps : fX9_pass (pf_upf (pf_upf X 18 0 G) 19 0 P) = nI p := p1.trans pe
    have epy : pf_upf (pf_upf Y 76 0 H) 77 0 Q 40 0 15 = nI p := pe
    have ety : pf_upf (pf_upf Y 76 0 H) 77 0 Q 40 0 16 = nI u := ue
    have etx : fX9_turn (pf_upf (pf_upf X 18 0 G) 19 0 P) = nI u := f1.trans ue
    rw [lX1_setTimes_29, nI_m1, if_neg (nI_pos (by omega))]
    by_cases hil : i = l
    · subst hil
      obtain ⟨T, T1, T2, T3, T4⟩ := hg i (by omega) (by omega)
      obtain ⟨P', Q', u1, u2, u3⟩ := ih f g (upd P i (nI (T + p))) (upd Q i (nI (T + p))) (by omega) (by omega) (by omega) ((h.mono (by omega)).upd2 (by omega) (by omega))
      refine ⟨P', Q', ?_, fun ky => ?_, u3⟩
      · unfold jX1_setTimes_88
        rw [if_pos rfl, si_pin2 (by omega) (by decide), if_pos rfl, if_pos rfl, si_cl (by omega), e18, eps, T3, nI_add, pf_upf_up]
        exact u1
      · rw [lX12_level_40, if_neg (nI_pos (by omega)), nI_pred, if_pos rfl, si_pin2 (by omega) (by decide), if_pos rfl]
        unfold jX12_level_105
        rw [si_pin2 (by omega) (by decide), if_pos rfl, si_cl (by omega), e76, epy, T4, nI_add, pf_upf_up]
        exact u2 ky
    · obtain ⟨T, T1, T2, T3, T4⟩ := h (i + 1) (by omega) (by omega)
      obtain ⟨w1, w2⟩ := hW (i + 1) (by omega)
      obtain ⟨w, hw, we⟩ := si_nat (b := 9) ⟨by have := w2.1; grind, w2.2⟩ (by decide)
      have hne : ¬ nI i = nI l := fun q => by have := (nI_eq (by omega) (by omega)).mp q; omega
      have ewx : fX9_wireTime (nI (i + 1)) (pf_upf (pf_upf X 18 0 G) 19 0 P) = some (nI w) := (sx_wt (X := pf_upf (pf_upf X 18 0 G) 19 0 P) hn.2 hX (by omega)).trans (congrArg some (w1.trans we))
      have etb : fX1_turnBefore (nI (i + 1)) (nI l) (pf_upf (pf_upf X 18 0 G) 19 0 P) = nI (if i + 1 = l then 0 else u) := by
        unfold fX1_turnBefore
        rw [etx]
        by_cases h1 : i + 1 = l
        · subst h1
          rw [if_pos rfl, if_pos rfl]; rfl
        · rw [if_neg (fun q => h1 ((nI_eq (by omega) (by omega)).mp q)), if_neg h1]
      have hub : (if i + 1 = l then 0 else u) ≤ 9 := by split <;> omega
      obtain ⟨P', Q', u1, u2, u3⟩ := ih f g (upd P i (nI (T + w + (if i + 1 = l then 0 else u)))) (upd Q i (nI (T + w + (if i + 1 = l then 0 else u)))) (by omega) (by omega) (by omega) ((h.mono (by omega)).upd2 (by omega) (by omega))
      refine ⟨P', Q', ?_, fun ky => ?_, u3⟩
      · unfold jX1_setTimes_88
        rw [if_neg hne, nI_1, si_pin2 (by omega) (by decide), if_pos rfl, ewx, Option.bind_some, si_pin2 (by omega) (by decide), if_pos rfl, si_cl (by omega), si_cl (by omega), e19, etb, T3, nI_add, nI_add, pf_upf_up]
        exact u1
      · rw [lX12_level_40, if_neg (nI_pos (by omega)), nI_pred, if_neg hne, nI_1, si_pin2 (by omega) (by decide), if_pos rfl, si_cl (by omega), e77, T4, ety]
        have hg3 : (if nI (i + 1) = nI l then jX12_level_95 (lX12_level_40 (nI (l + 1)) ky g) (nI i) (nI i) (nI T) 0 (pf_upf (pf_upf Y 76 0 H) 77 0 Q) else jX12_level_95 (lX12_level_40 (nI (l + 1)) ky g) (nI i) (nI i) (nI T) (nI u) (pf_upf (pf_upf Y 76 0 H) 77 0 Q)) = jX12_level_95 (lX12_level_40 (nI (l + 1)) ky g) (nI i) (nI i) (nI T) (nI (if i + 1 = l then 0 else u)) (pf_upf (pf_upf Y 76 0 H) 77 0 Q) := by
          by_cases h1 : i + 1 = l
          · rw [if_pos (congrArg nI h1), if_pos h1]; rfl
          · rw [if_neg (fun q => h1 ((nI_eq (by omega) (by omega)).mp q)), if_neg h1]
        rw [hg3]
        unfold jX12_level_95 jX12_level_105
        rw [nI_1, si_pin2 (by omega) (by decide), if_pos rfl, si_pin2 (by omega) (by decide), if_pos rfl, si_cl (by omega), si_cl (by omega), e47, we, nI_add, nI_add, pf_upf_up, show T + (if i + 1 = l then 0 else u) + w = T + w + (if i + 1 = l then 0 else u) by omega]
        exact u2 ky
end
