section
variable {n t K : Nat}
theorem ss_edsA {d T : Nat} (hK : K ≤ 600) (hd : d < n) (hT : T ≤ 7000000) : ∀ (m i f M : Nat) (X Y : pf_M), i + m = 4 → m < f → sN X Y n t K → sShow X Y d T → sF X Y M → sFk Y → sFb Y →
    ∃ X' Y', (∀ kx, lX6_passA_40 (nI d) d kx f (nI i) X = kx X') ∧ (∀ g, lX12_edit_3 (nI 0) (nI d) (nI d) (nI T) (g + m + 1) (nI i) Y = some Y') ∧ sN X' Y' n t K ∧ sF X' Y' (M + m) ∧ sFk Y' ∧ sFb Y' ∧ Y' 50 0 = Y 50 0 := by
  intro m
  induction m with
  | zero =>
    intro i f M X Y hi hf h h1 h2 h3 h4
    obtain ⟨f, rfl⟩ : ∃ g, f = g + 1 := ⟨f - 1, by omega⟩
    obtain rfl : i = 4 := by omega
    refine ⟨X, Y, fun kx => ?_, fun g => ?_, h, h2, h3, h4, rfl⟩
    · rw [lX6_passA_40, if_pos (by decide)]
    · rw [lX12_edit_3, if_pos (by decide)]
  | succ m ih =>
    intro i f M X Y hi hf h h1 h2 h3 h4
    obtain ⟨f, rfl⟩ : ∃ g, f = g + 1 := ⟨f - 1, by omega⟩
    obtain ⟨X1, Y1, a1, a2, a3, a4, a5, a6, a7, a8⟩ := ss_edit (i := i) (s := 0) (x3 := d) h hK hd hT (by omega) (by omega) h1 h2
    obtain ⟨X2, Y2, b1, b2, b3, b4, b5, b6, b7⟩ := ih (i + 1) f (M + 1) X1 Y1 (by omega) (by omega) a3 a4 a5 (a6 rfl h3) (a7 rfl h4)
    refine ⟨X2, Y2, fun kx => ?_, fun g => ?_, b3, by rw [show M + (m + 1) = M + 1 + m by omega]; exact b4, b5, b6, b7.trans a8⟩
    · have a1' : fX2_edit i (2 * i) d (nI d) X = some X1 := a1
      rw [lX6_passA_40, if_neg (fun w => by have := (nI_leI (a := 4) (by omega) (by omega)).mp w; omega), si_pin2 (by omega) (by decide), if_pos rfl, if_pos rfl, si_cl (by omega), a1', Option.bind_some, nI_1]
      exact b1 kx
    · rw [show g + (m + 1) + 1 = (g + m + 1) + 1 by omega, a2]
      exact b2 g
theorem ss_edsB {d T fb : Nat} (hK : K ≤ 600) (hd : d < n) (hn : n ≤ 8) (hfb : fb ≤ d) (hT : T ≤ 7000000) : ∀ (m i f M : Nat) (X Y : pf_M), i + m = 4 → m < f → sN X Y n t K → sShow X Y d T → sF X Y M →
    ∃ X' Y', (∀ kx, lX6_passB_50 (nI fb) (nI d) d kx f (nI i) X = kx X') ∧ (∀ g, lX12_edit_3 (nI 1) (nI d) (nI (d - fb)) (nI T) (g + m + 1) (nI i) Y = some Y') ∧ sN X' Y' n t K ∧ sF X' Y' (M + m) ∧ Y' 50 0 = Y 50 0 := by
  intro m
  induction m with
  | zero =>
    intro i f M X Y hi hf h h1 h2
    obtain ⟨f, rfl⟩ : ∃ g, f = g + 1 := ⟨f - 1, by omega⟩
    obtain rfl : i = 4 := by omega
    refine ⟨X, Y, fun kx => ?_, fun g => ?_, h, h2, rfl⟩
    · rw [lX6_passB_50, if_pos (by decide)]
    · rw [lX12_edit_3, if_pos (by decide)]
  | succ m ih =>
    intro i f M X Y hi hf h h1 h2
    obtain ⟨f, rfl⟩ : ∃ g, f = g + 1 := ⟨f - 1, by omega⟩
    obtain ⟨X1, Y1, a1, a2, a3, a4, a5, a6, a7, a8⟩ := ss_edit (i := i) (s := 1) (x3 := d - fb) h hK hd hT (by omega) (by omega) h1 h2
    obtain ⟨X2, Y2, b1, b2, b3, b4, b7⟩ := ih (i + 1) f (M + 1) X1 Y1 (by omega) (by omega) a3 a4 a5
    refine ⟨X2, Y2, fun kx => ?_, fun g => ?_, b3, by rw [show M + (m + 1) = M + 1 + m by omega]; exact b4, b7.trans a8⟩
    · rw [lX6_passB_50, if_neg (fun w => by have := (nI_leI (a := 4) (by omega) (by omega)).mp w; omega), si_pin2 (by omega) (by decide), if_pos rfl, if_pos rfl, si_cl (by omega), nI_subI hfb, a1, Option.bind_some, nI_1]
      exact b1 kx
    · rw [show g + (m + 1) + 1 = (g + m + 1) + 1 by omega, a2]
      exact b2 g
/-- the device shows its bytes -/
theorem ss_show {X Y : pf_M} {d T M : Nat} (h : sN X Y n t K) (hK : K ≤ 600) (hd : d < n) (hT : T ≤ 7000000) (hF : sF X Y M) : ∃ X', fX3_showAt d (nI T) X = some X' ∧ sN X' Y n t K ∧ sShow X' Y d T ∧ sF X' Y M := by
  obtain ⟨ht, hT0, hR, hW, hC, hD, hS, hO, hL, hB, hr⟩ := id h
  obtain ⟨g, hg1, hg2⟩ := sx_show hD hO hK hS hB hd hT
  refine ⟨_, hg1, ⟨ht, hT0, hR, hW, hC, hD, hS, hO, hL, hB.upf d g (fun _ b h1 h2 => ?_), hr⟩, fun b hb => ?_, hF⟩
  · rw [hg2 b h2]
    obtain ⟨b, rfl⟩ : ∃ c, b = c + 4 := ⟨b - 4, by omega⟩
    rfl
  · rw [pf_upf_s]
    exact hg2 b hb
theorem ss_passA {c : Nat → Int32} (hK : K ≤ 600) (ht : t ≤ 6000000) : ∀ (m d f : Nat) (X Y : pf_M), d + m = qA c n 0 → m < f → Y 50 0 = c → sN X Y n t K → sF X Y (4 * d) → sFk Y → sFb Y →
    ∃ X' Y', lX6_passA_10 (nI (qA c n 0)) f (nI d) X = some X' ∧ (∀ g, lX12_goes_12 (g + m) (nI d) Y = lX12_goes_12 g (nI (qA c n 0)) Y') ∧ sN X' Y' n t K ∧ sF X' Y' (4 * qA c n 0) ∧ sFk Y' ∧ sFb Y' ∧ Y' 50 0 = c := by
  have hq := qA_le c n 0
  intro m
  induction m with
  | zero =>
    intro d f X Y hd hf hc h h1 h2 h3
    obtain ⟨f, rfl⟩ : ∃ g, f = g + 1 := ⟨f - 1, by omega⟩
    obtain rfl : d = qA c n 0 := by omega
    refine ⟨X, Y, ?_, fun g => rfl, h, h1, h2, h3, hc⟩
    rw [lX6_passA_10, if_pos (Int32.le_refl _)]
  | succ m ih =>
    intro d f X Y hd hf hc h h1 h2 h3
    obtain ⟨f, rfl⟩ : ∃ g, f = g + 1 := ⟨f - 1, by omega⟩
    obtain ⟨ht1, hT0, hR, hW, hC, hD, hS, hO, hr⟩ := id h
    obtain ⟨hn, ⟨hX, hY⟩, -⟩ := id hR
    obtain ⟨T, T1, T2, w1, w2⟩ := ss_onA hR hW hC ht (show d < qA (Y 50 0) n 0 by rw [hc]; omega)
    obtain ⟨X1, a1, a2, a3, a4⟩ := ss_show h hK (show d < n by omega) (T := T) (by omega) h1
    obtain ⟨X2, Y2, b1, b2, b3, b4, b5, b6, b7⟩ := ss_edsA hK (show d < n by omega) (T := T) (by omega) 4 0 pf_fu (4 * d) X1 Y (by omega) (by unfold pf_fu; omega) a2 a3 a4 h2 h3
    obtain ⟨X3, Y3, c1, c2, c3, c4, c5, c6, c7⟩ := ih (d + 1) f X2 Y2 (by omega) (by omega) (b7.trans hc) b3 b4 b5 b6
    refine ⟨X3, Y3, ?_, fun g => ?_, c3, c4, c5, c6, c7⟩
    · have b1' : ∀ kx, lX6_passA_40 (nI d) d kx pf_fu 0 X1 = kx X2 := b1
      rw [lX6_passA_10, if_neg (fun w => by have := (nI_leI (by omega) (by omega)).mp w; omega), si_pin2 (by omega) (by decide), if_pos rfl, w1, Option.bind_some, si_cl (by omega), a1, Option.bind_some, b1', nI_1]
      exact c1
    · have hS1 : fX12_sideOf (nI d) Y = some 1 := by
        rw [sy_S hR (show d < n by omega), hc]
        unfold qS
        rw [if_pos (by omega)]
      have b2' : fX12_edit 0 (nI d) (nI d) (nI T) Y = some Y2 := by
        unfold fX12_edit
        exact b2 995
      rw [show g + (m + 1) = (g + m) + 1 by omega, lX12_goes_12, hY, if_neg (fun w => by have := (nI_leI (by omega) (by omega)).mp w; omega), hS1, Option.bind_some, if_neg (by decide), if_pos rfl]
      unfold jX12_goes_50 jX12_goes_58
      rw [w2, Option.bind_some, show (1 : Int32) - 1 = 0 from rfl, b2', Option.bind_some, nI_1]
      exact c2 g
theorem ss_passM {X Y : pf_M} (h : sN X Y n t K) : ∀ (m d : Nat), d + m = qB (Y 50 0) n n → qA (Y 50 0) n 0 ≤ d → ∀ g, lX12_goes_12 (g + m) (nI d) Y = lX12_goes_12 g (nI (qB (Y 50 0) n n)) Y := by
  obtain ⟨ht1, hT0, hR, -⟩ := id h
  obtain ⟨hn, ⟨hX, hY⟩, -⟩ := id hR
  have hq := qB_le (Y 50 0) n n (Nat.le_refl n)
  intro m
  induction m with
  | zero =>
    intro d hd hd2 g
    rw [show d = qB (Y 50 0) n n by omega]
    rfl
  | succ m ih =>
    intro d hd hd2 g
    have hS1 : fX12_sideOf (nI d) Y = some 0 := by
      rw [sy_S hR (show d < n by omega)]
      unfold qS
      rw [if_neg (by omega), if_pos (by omega)]
    rw [show g + (m + 1) = (g + m) + 1 by omega, lX12_goes_12, hY, if_neg (fun w => by have := (nI_leI (by omega) (by omega)).mp w; omega), hS1, Option.bind_some, if_pos (by decide)]
    unfold jX12_goes_58
    rw [nI_1]
    exact ih (d + 1) (by omega) (by omega) g
theorem ss_passB {c : Nat → Int32} (hK : K ≤ 600) (ht : t ≤ 6000000) : ∀ (m d f : Nat) (X Y : pf_M), d + m = n → m < f → qB c n n ≤ d → Y 50 0 = c → sN X Y n t K → sF X Y (4 * d) →
    ∃ X' Y', lX6_passB_18 (nI (qB c n n)) (nI n) f (nI d) X = some X' ∧ (∀ g, lX12_goes_12 (g + m + 1) (nI d) Y = some Y') ∧ sN X' Y' n t K ∧ sF X' Y' (4 * n) ∧ Y' 50 0 = c ∧ (m = 0 → Y' = Y) := by
  have hqab := qAB c n
  intro m
  induction m with
  | zero =>
    intro d f X Y hd hf hqd hc h h1
    obtain ⟨f, rfl⟩ : ∃ g, f = g + 1 := ⟨f - 1, by omega⟩
    obtain rfl : d = n := by omega
    obtain ⟨ht1, hT0, hR, hW, hC, hD, hS, hO, hr⟩ := id h
    obtain ⟨hn, ⟨hX, hY⟩, -⟩ := id hR
    refine ⟨X, Y, ?_, fun g => ?_, h, h1, hc, fun _ => rfl⟩
    · rw [lX6_passB_18, if_pos (Int32.le_refl _)]
    · rw [lX12_goes_12, hY, if_pos (Int32.le_refl _)]
  | succ m ih =>
    intro d f X Y hd hf hqd hc h h1
    obtain ⟨f, rfl⟩ : ∃ g, f = g + 1 := ⟨f - 1, by omega⟩
    obtain ⟨ht1, hT0, hR, hW, hC, hD, hS, hO, hr⟩ := id h
    obtain ⟨hn, ⟨hX, hY⟩, -⟩ := id hR
    obtain ⟨T, T1, T2, w1, w2⟩ := ss_onB hR hW hC ht (show d < n by omega) (by rw [hc]; omega) (by rw [hc]; omega)
    obtain ⟨X1, a1, a2, a3, a4⟩ := ss_show h hK (show d < n by omega) (T := T) (by omega) h1
    obtain ⟨X2, Y2, b1, b2, b3, b4, b7⟩ := ss_edsB (fb := qB c n n) hK (show d < n by omega) hn.2 hqd (T := T) (by omega) 4 0 pf_fu (4 * d) X1 Y (by omega) (by unfold pf_fu; omega) a2 a3 a4
    obtain ⟨X3, Y3, c1, c2, c3, c4, c7, -⟩ := ih (d + 1) f X2 Y2 (by omega) (by omega) (by omega) (b7.trans hc) b3 b4
    refine ⟨X3, Y3, ?_, fun g => ?_, c3, c4, c7, fun w => by omega⟩
    · have b1' : ∀ kx, lX6_passB_50 (nI (qB c n n)) (nI d) d kx pf_fu 0 X1 = kx X2 := b1
      rw [lX6_passB_18, if_neg (fun w => by have := (nI_leI (by omega) (by omega)).mp w; omega), si_pin2 (by omega) (by decide), if_pos rfl, w1, Option.bind_some, si_cl (by omega), a1, Option.bind_some, b1', nI_1]
      exact c1
    · have hS1 : fX12_sideOf (nI d) Y = some 2 := by
        rw [sy_S hR (show d < n by omega), hc]
        unfold qS
        rw [if_neg (by omega), if_neg (by omega)]
      have b2' : fX12_edit 1 (nI d) (nI (d - qB c n n)) (nI T) Y = some Y2 := by
        unfold fX12_edit
        exact b2 995
      rw [show g + (m + 1) + 1 = (g + m + 1) + 1 by omega, lX12_goes_12, hY, if_neg (fun w => by have := (nI_leI (by omega) (by omega)).mp w; omega), hS1, Option.bind_some, if_neg (by decide), if_neg (by decide), sy_B hn.2 hY, hc, Option.bind_some, nI_subI hqd]
      unfold jX12_goes_50 jX12_goes_58
      rw [w2, Option.bind_some, show (2 : Int32) - 1 = 1 from rfl, b2', Option.bind_some, nI_1]
      exact c2 g
/-- the frame's way -/
theorem ss_goes {X Y : pf_M} (h : sN X Y n t K) (hK : K ≤ 600) (ht : t ≤ 6000000) (kx : pf_M → Option (Int32 × pf_M)) : ∃ X1 X' Y', lX6_sendFrame_2 kx pf_fu 0 X = kx X1 ∧ ((fX6_passA X1).bind fun q => fX6_passB q) = some X' ∧ fX12_goes Y = some Y' ∧ sN X' Y' n t K ∧ sF X' Y' (4 * n) ∧ Y' 50 0 = Y 50 0 ∧ (qN (Y 50 0) 0 (n + 1) = 0 → sFk Y' ∧ sFb Y') := by
  obtain ⟨X1, a1, a2, a3, a4⟩ := sx_leaveL kx 4 0 pf_fu X (by omega) (by unfold pf_fu; omega)
  obtain ⟨P, Q, b1, b2, b3⟩ := sy_out Y
  obtain ⟨ht1, hT0, hR, hW, hC, hD, hS, hO, hL, hB, hM, hQ, hXb, hP, hG, hU, hr⟩ := id h
  obtain ⟨hn, ⟨hX, hY⟩, -⟩ := id hR
  have h0 : sN X1 (pf_upf (pf_upf Y 69 0 P) 70 0 Q) n t K := by
    refine h.fr (fun k h1 h2 h3 h4 => funext fun j => a2 k j h2 h3) (fun k h1 h2 h3 h4 => by rw [pf_upf_k _ h4, pf_upf_k _ h2]) ?_
    intro d hd b h4 h16
    rw [a2 12 d (by decide) (by decide)]
    exact hB d hd b h4 h16
  have hF0 : sF X1 (pf_upf (pf_upf Y 69 0 P) 70 0 Q) 0 := by
    intro i hi s hs
    obtain ⟨e1, e2⟩ := a4 i (by omega) hi s hs
    refine ⟨⟨0, by omega, e1, ?_⟩, fun k hk => ?_⟩
    · show Q (4 * s + i) = _
      rw [b3 s hs i hi]; rfl
    · rw [e2 k hk, hU i hi k hk]
      show _ = P (32 * s + 8 * i + k)
      rw [show 32 * s + 8 * i + k = 32 * s + (8 * i + k) by omega, b2 s hs (8 * i + k) (by omega)]
  have hk0 : sFk (pf_upf (pf_upf Y 69 0 P) 70 0 Q) := by
    intro i hi _ k hk
    show P (8 * i + k) ||| Y 68 0 (8 * i + k) = P (8 * i + k)
    have := b2 0 (by omega) (8 * i + k) (by omega)
    rw [show 32 * 0 + (8 * i + k) = 8 * i + k by omega] at this
    rw [this, Int32.or_self]
  have hb0 : sFb (pf_upf (pf_upf Y 69 0 P) 70 0 Q) := by
    intro i hi
    refine ⟨b3 1 (by omega) i hi, fun k hk => ?_⟩
    show P (32 + 8 * i + k) = Y 68 0 (8 * i + k)
    have := b2 1 (by omega) (8 * i + k) (by omega)
    rw [show 32 * 1 + (8 * i + k) = 32 + 8 * i + k by omega] at this
    exact this
  obtain ⟨X2, Y2, c1, c2, c3, c4, c5, c6, c7⟩ := ss_passA (c := Y 50 0) hK ht (qA (Y 50 0) n 0) 0 pf_fu X1 (pf_upf (pf_upf Y 69 0 P) 70 0 Q) (by omega) (by have := qA_le (Y 50 0) n 0; unfold pf_fu; omega) rfl h0 hF0 hk0 hb0
  have hqb := qB_le (Y 50 0) n n (Nat.le_refl n)
  have hqab := qAB (Y 50 0) n
  have hm := ss_passM c3 (qB (Y 50 0) n n - qA (Y 50 0) n 0) (qA (Y 50 0) n 0) (by rw [c7]; omega) (by rw [c7]; omega)
  rw [c7] at hm
  obtain ⟨ht2, hT2, hR2, hW2, hC2, -⟩ := id c3
  obtain ⟨hn2, ⟨hX2, hY2⟩, -⟩ := id hR2
  obtain ⟨X3, Y3, d1, d2, d3, d4, d5, d6⟩ := ss_passB (c := Y 50 0) hK ht (n - qB (Y 50 0) n n) (qB (Y 50 0) n n) pf_fu X2 Y2 (by omega) (by unfold pf_fu; omega) (Nat.le_refl _) c7 c3 (c4.mono (by omega))
  refine ⟨X1, X3, Y3, a1, ?_, ?_, d3, d4, d5, fun h0 => ?_⟩
  · obtain ⟨-, -, hRx, hWx, hCx, -⟩ := id h0
    obtain ⟨-, ⟨hXx, -⟩, -⟩ := id hRx
    unfold fX6_passA fX6_passB
    have hAx : qA (X1 10 0) n 0 = qA (Y 50 0) n 0 := ss_A (X := X1) (Y := pf_upf (pf_upf Y 69 0 P) 70 0 Q) (n := n) (t := t) hRx hCx
    have hBx : qB (X2 10 0) n n = qB (Y 50 0) n n := by rw [ss_B hR2 hC2, c7]
    have c1' : lX6_passA_10 (nI (qA (Y 50 0) n 0)) pf_fu 0 X1 = some X2 := c1
    rw [sx_A hn.2 hXx, hAx, Option.bind_some, c1', Option.bind_some, sx_B hn.2 hX2, hBx, Option.bind_some]
    unfold fX9_size
    rw [hX2]
    exact d1
  · unfold fX12_goes
    have hb : ((fX12_goesOut 0 Y).bind fun q11 => (fX12_goesOut 1 q11).bind fun q12 => lX12_goes_12 pf_fu 0 q12) = (((fX12_goesOut 0 Y).bind fun q11 => fX12_goesOut 1 q11).bind fun q12 => lX12_goes_12 pf_fu 0 q12) := by
      rw [Option.bind_assoc]
    rw [hb, b1, Option.bind_some]
    have e := c2 ((pf_fu - n - 1) + (n - qB (Y 50 0) n n) + 1 + (qB (Y 50 0) n n - qA (Y 50 0) n 0))
    rw [hm, d2] at e
    rw [show (pf_fu - n - 1) + (n - qB (Y 50 0) n n) + 1 + (qB (Y 50 0) n n - qA (Y 50 0) n 0) + qA (Y 50 0) n 0 = pf_fu by unfold pf_fu; omega] at e
    exact e
  · have := qB_0 (Y 50 0) n h0
    have e := d6 (by omega)
    rw [e]
    exact ⟨c5, c6⟩
end
