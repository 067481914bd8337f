section
variable {X Y : pf_M} {c : Nat}
def xBld (X X' : pf_M) (c : Nat) : Prop := (X' 7 0 3 = nI c ∧ X' 7 0 4 = X 1 0 8 ∧ X' 7 0 5 = X 1 0 9 ∧ X' 7 0 6 = 0) ∧ (∀ w, w < 9 → X' 10 0 w = 0) ∧ (∀ w, w < c → X' 9 0 w = X 4 0 w) ∧ X' 9 0 c = X 1 0 7 ∧ ∀ d, d < c → gX X' d (X 3 0 d) (X 5 0 d) (X 6 0 d)
theorem sx_bld (hc : c ≤ 8) (h6 : X 1 0 6 = nI c) : ∃ X', fX9_build X = some X' ∧ (∀ q, q ≠ 7 → q ≠ 9 → q ≠ 10 → q ≠ 11 → q ≠ 12 → q ≠ 13 → q ≠ 14 → q ≠ 15 → X' q = X q) ∧ xBld X X' c := by
  unfold fX9_build
  obtain ⟨Z, a1, a2, a3⟩ := sj_fills (kd := 10) (i := 0) (nn := 9) (by omega) 0 (pf_up (pf_up (pf_up (pf_up X 7 0 3 (X 1 0 6)) 7 0 4 ((pf_up X 7 0 3 (X 1 0 6)) 1 0 8)) 7 0 5 ((pf_up (pf_up X 7 0 3 (X 1 0 6)) 7 0 4 ((pf_up X 7 0 3 (X 1 0 6)) 1 0 8)) 1 0 9)) 7 0 6 (0 : Int32))
  have p8 : (pf_up X 7 0 3 (X 1 0 6)) 1 0 8 = X 1 0 8 := by rw [pf_up_k _ (by decide)]
  have p9 : ∀ v, (pf_up (pf_up X 7 0 3 (X 1 0 6)) 7 0 4 v) 1 0 9 = X 1 0 9 := fun v => by rw [pf_up_k _ (by decide), pf_up_k _ (by decide)]
  rw [p9, p8] at a1 a2
  rw [p9, p8, a1, Option.bind_some]
  clear a1
  have zk : ∀ q, q ≠ 10 → q ≠ 7 → Z q = X q := fun q h1 h2 => funext fun i => by rw [a2 q i (fun w => h1 w.1), pf_up_k _ h2, pf_up_k _ h2, pf_up_k _ h2, pf_up_k _ h2]
  have z7 : ∀ f, Z 7 0 f = pf_up (pf_up (pf_up (pf_up X 7 0 3 (X 1 0 6)) 7 0 4 (X 1 0 8)) 7 0 5 (X 1 0 9)) 7 0 6 (0 : Int32) 7 0 f := fun f => by rw [a2 7 0 (fun w => by omega)]
  clear a2
  have z73 : Z 7 0 3 = nI c := by rw [z7, pf_up_j _ _ _ _ _ _ (by decide), pf_up_j _ _ _ _ _ _ (by decide), pf_up_j _ _ _ _ _ _ (by decide), pf_up_s]; exact h6
  have z74 : Z 7 0 4 = X 1 0 8 := by rw [z7, pf_up_j _ _ _ _ _ _ (by decide), pf_up_j _ _ _ _ _ _ (by decide), pf_up_s]
  have z75 : Z 7 0 5 = X 1 0 9 := by rw [z7, pf_up_j _ _ _ _ _ _ (by decide), pf_up_s]
  have z76 : Z 7 0 6 = 0 := by rw [z7, pf_up_s]
  clear z7
  obtain ⟨W, b1, b2, -, -, -, b6⟩ := sx_build hc c 0 pf_fu Z (by omega) (by unfold pf_fu; omega) z73
  have w7 : W 7 = Z 7 := b2 7 (by decide) (by decide) (by decide) (by decide) (by decide) (by decide)
  have w10 : W 10 = Z 10 := b2 10 (by decide) (by decide) (by decide) (by decide) (by decide) (by decide)
  have w1 : W 1 = X 1 := (b2 1 (by decide) (by decide) (by decide) (by decide) (by decide) (by decide)).trans (zk 1 (by decide) (by decide))
  have g := b1 (fun u12_Me39 => (if pf_in (u12_Me39 7 0 3) 9 = true then some (pf_up u12_Me39 9 0 (u12_Me39 7 0 3).toNatClampNeg (u12_Me39 1 0 7)) else none))
  refine ⟨pf_up W 9 0 c (X 1 0 7), ?_, fun q u7 u9 u10 u11 u12 u13 u14 u15 => ?_, ⟨?_, ?_, ?_, ?_⟩, fun w hw => ?_, fun w hw => ?_, ?_, fun d hd => ?_⟩
  · refine Eq.trans g ?_
    simp only [w7, z73, w1, si_pin2 (show c < 9 by omega) (by decide), if_true, si_cl (show c < 2 ^ 31 by omega)]
  · rw [show pf_up W 9 0 c (X 1 0 7) q = W q from funext fun i => pf_up_k _ u9, b2 q u9 u11 u12 u13 u14 u15, zk q u10 u7]
  · rw [pf_up_k _ (by decide), w7]; exact z73
  · rw [pf_up_k _ (by decide), w7]; exact z74
  · rw [pf_up_k _ (by decide), w7]; exact z75
  · rw [pf_up_k _ (by decide), w7]; exact z76
  · rw [pf_up_k _ (by decide), w10]; exact a3 w hw
  · rw [pf_up_j _ _ _ _ _ _ (by omega), (b6 w (by omega) hw).2, zk 4 (by decide) (by decide)]
  · rw [pf_up_s]
  · have h := (b6 d (by omega) hd).1
    rw [zk 3 (by decide) (by decide), zk 5 (by decide) (by decide), zk 6 (by decide) (by decide)] at h
    exact h.keep (by rw [pf_up_k _ (by decide)]) (by rw [pf_up_k _ (by decide)]) (by rw [pf_up_k _ (by decide)]) (by rw [pf_up_k _ (by decide)]) (by rw [pf_up_k _ (by decide)]) (by rw [pf_up_k _ (by decide)]) (by rw [pf_up_k _ (by decide)])
end
