section
variable {X Y : pf_M} {c : Nat}
theorem sy_lay (hp : pR X Y c) : ∃ Y', fX12_begin Y = some Y' ∧ (∀ q, q ≠ 40 → q ≠ 46 → q ≠ 47 → q ≠ 48 → q ≠ 49 → q ≠ 50 → q ≠ 51 → q ≠ 52 → q ≠ 53 → q ≠ 54 → q ≠ 56 → q ≠ 59 → q ≠ 60 → q ≠ 61 → q ≠ 62 → q ≠ 63 → q ≠ 64 → q ≠ 68 → Y' q 0 = Y q 0) ∧
    (Y' 40 0 0 = Y 40 0 0 ∧ Y' 40 0 10 = nI c ∧ Y' 40 0 15 = Y 40 0 8 ∧ Y' 40 0 16 = Y 40 0 9 ∧ Y' 40 0 22 = 0 ∧ Y' 40 0 23 = 0 ∧ Y' 40 0 40 = 0 ∧ Y' 40 0 44 = 0 ∧ Y' 40 0 46 = 0) ∧ (∀ d, d < 8 → Y' 46 0 d = Y 42 0 d ∧ Y' 48 0 d = Y 44 0 d ∧ Y' 49 0 d = Y 45 0 d ∧ Y' 51 0 d = 0 ∧ Y' 53 0 d = 0 ∧ Y' 54 0 d = 0 ∧ Y' 62 0 d = -4 ∧ Y' 63 0 d = -4) ∧
    (∀ d, d < 8 → (Y' 59 0 (2 * d) = 0 ∧ Y' 59 0 (2 * d + 1) = 0) ∧ (Y' 60 0 (2 * d) = 0 ∧ Y' 60 0 (2 * d + 1) = 0) ∧ (Y' 61 0 (2 * d) = 1 ∧ Y' 61 0 (2 * d + 1) = 1)) ∧ (∀ w, w < c → Y' 47 0 w = Y 43 0 w) ∧ Y' 47 0 c = Y 43 0 8 ∧
    (∀ a, a < 9 → Y' 50 0 a = 0) ∧ (∀ a, a < 128 → Y' 52 0 a = 0) ∧ (∀ a, a < 16 → Y' 56 0 a = 0) ∧ (∀ a, a < 32 → Y' 68 0 a = 0) ∧ (∀ a, a < 4 → Y' 64 0 a = 0) := by
  obtain ⟨hc, -, h3, -⟩ := id hp
  unfold fX12_begin
  have q8 : pf_up Y 40 0 10 (Y 40 0 3) 40 0 8 = Y 40 0 8 := pf_up_j _ _ _ _ _ _ (by decide)
  have q9 : pf_up (pf_up Y 40 0 10 (Y 40 0 3)) 40 0 15 (Y 40 0 8) 40 0 9 = Y 40 0 9 := (pf_up_j _ _ _ _ _ _ (by decide)).trans (pf_up_j _ _ _ _ _ _ (by decide))
  rw [q8, q9, h3]
  obtain ⟨W, b1, b2, -, -, b5⟩ := sy_build 8 0 pf_fu (pf_up (pf_up (pf_up Y 40 0 10 (nI c)) 40 0 15 (Y 40 0 8)) 40 0 16 (Y 40 0 9)) (by omega) (by unfold pf_fu; omega)
  have w40 : W 40 0 = pf_up (pf_up (pf_up Y 40 0 10 (nI c)) 40 0 15 (Y 40 0 8)) 40 0 16 (Y 40 0 9) 40 0 := b2 40 (by decide) (by decide) (by decide) (by decide) (by decide) (by decide) (by decide) (by decide) (by decide) (by decide) (by decide) (by decide)
  have w10 : W 40 0 10 = nI c := by rw [w40, pf_up_j _ _ _ _ _ _ (by decide), pf_up_j _ _ _ _ _ _ (by decide), pf_up_s]
  have w43 : W 43 0 = Y 43 0 := (b2 43 (by decide) (by decide) (by decide) (by decide) (by decide) (by decide) (by decide) (by decide) (by decide) (by decide) (by decide) (by decide)).trans rfl
  obtain ⟨V1, c1, d1, -, e1⟩ := sy_fill123 (fun u21_Me123 => lX12_begin_144 (fun u22_Me144 => lX12_begin_166 (fun u23_Me166 => lX12_begin_187 (fun u24_Me187 => lX12_begin_208 (fun u25_Me208 => some (pf_up (pf_up (pf_up (pf_up (pf_up u25_Me208 40 0 22 (0 : Int32)) 40 0 23 (0 : Int32)) 40 0 40 (0 : Int32)) 40 0 44 (0 : Int32)) 40 0 46 (0 : Int32))) pf_fu (0 : Int32) u24_Me187) pf_fu (0 : Int32) u23_Me166) pf_fu (0 : Int32) u22_Me144) pf_fu (0 : Int32) u21_Me123) 9 0 pf_fu (pf_up W 47 0 c (Y 43 0 8)) (by omega) (by unfold pf_fu; omega)
  obtain ⟨V2, c2, d2, -, e2⟩ := sy_fill144 (fun u22_Me144 => lX12_begin_166 (fun u23_Me166 => lX12_begin_187 (fun u24_Me187 => lX12_begin_208 (fun u25_Me208 => some (pf_up (pf_up (pf_up (pf_up (pf_up u25_Me208 40 0 22 (0 : Int32)) 40 0 23 (0 : Int32)) 40 0 40 (0 : Int32)) 40 0 44 (0 : Int32)) 40 0 46 (0 : Int32))) pf_fu (0 : Int32) u24_Me187) pf_fu (0 : Int32) u23_Me166) pf_fu (0 : Int32) u22_Me144) 128 0 pf_fu V1 (by omega) (by unfold pf_fu; omega)
  obtain ⟨V3, c3, d3, -, e3⟩ := sy_fill166 (fun u23_Me166 => lX12_begin_187 (fun u24_Me187 => lX12_begin_208 (fun u25_Me208 => some (pf_up (pf_up (pf_up (pf_up (pf_up u25_Me208 40 0 22 (0 : Int32)) 40 0 23 (0 : Int32)) 40 0 40 (0 : Int32)) 40 0 44 (0 : Int32)) 40 0 46 (0 : Int32))) pf_fu (0 : Int32) u24_Me187) pf_fu (0 : Int32) u23_Me166) 16 0 pf_fu V2 (by omega) (by unfold pf_fu; omega)
  obtain ⟨V4, c4, d4, -, e4⟩ := sy_fill187 (fun u24_Me187 => lX12_begin_208 (fun u25_Me208 => some (pf_up (pf_up (pf_up (pf_up (pf_up u25_Me208 40 0 22 (0 : Int32)) 40 0 23 (0 : Int32)) 40 0 40 (0 : Int32)) 40 0 44 (0 : Int32)) 40 0 46 (0 : Int32))) pf_fu (0 : Int32) u24_Me187) 32 0 pf_fu V3 (by omega) (by unfold pf_fu; omega)
  obtain ⟨V5, c5, d5, -, e5⟩ := sy_fill208 (fun u25_Me208 => some (pf_up (pf_up (pf_up (pf_up (pf_up u25_Me208 40 0 22 (0 : Int32)) 40 0 23 (0 : Int32)) 40 0 40 (0 : Int32)) 40 0 44 (0 : Int32)) 40 0 46 (0 : Int32))) 4 0 pf_fu V4 (by omega) (by unfold pf_fu; omega)
  have vk : ∀ q, q ≠ 40 → q ≠ 47 → q ≠ 50 → q ≠ 52 → q ≠ 56 → q ≠ 68 → q ≠ 64 → pf_up (pf_up (pf_up (pf_up (pf_up V5 40 0 22 (0 : Int32)) 40 0 23 (0 : Int32)) 40 0 40 (0 : Int32)) 40 0 44 (0 : Int32)) 40 0 46 (0 : Int32) q 0 = W q 0 := fun q u40 u47 u50 u52 u56 u68 u64 => by
    rw [pf_up_k _ u40, pf_up_k _ u40, pf_up_k _ u40, pf_up_k _ u40, pf_up_k _ u40, d5 q u64, d4 q u68, d3 q u56, d2 q u52, d1 q u50, pf_up_k _ u47]
  have v40 : V5 40 0 = W 40 0 := by rw [d5 40 (by decide), d4 40 (by decide), d3 40 (by decide), d2 40 (by decide), d1 40 (by decide), pf_up_k _ (by decide)]
  have v47 : V5 47 0 = upd (W 47 0) c (Y 43 0 8) := by rw [d5 47 (by decide), d4 47 (by decide), d3 47 (by decide), d2 47 (by decide), d1 47 (by decide)]; rfl
  have g40 : ∀ a, a ≠ 22 → a ≠ 23 → a ≠ 40 → a ≠ 44 → a ≠ 46 → pf_up (pf_up (pf_up (pf_up (pf_up V5 40 0 22 (0 : Int32)) 40 0 23 (0 : Int32)) 40 0 40 (0 : Int32)) 40 0 44 (0 : Int32)) 40 0 46 (0 : Int32) 40 0 a = W 40 0 a := fun a u1 u2 u3 u4 u5 => by
    rw [pf_up_j _ _ _ _ _ _ u5, pf_up_j _ _ _ _ _ _ u4, pf_up_j _ _ _ _ _ _ u3, pf_up_j _ _ _ _ _ _ u2, pf_up_j _ _ _ _ _ _ u1, v40]
  refine ⟨pf_up (pf_up (pf_up (pf_up (pf_up V5 40 0 22 (0 : Int32)) 40 0 23 (0 : Int32)) 40 0 40 (0 : Int32)) 40 0 44 (0 : Int32)) 40 0 46 (0 : Int32), ?_, fun q u40 u46 u47 u48 u49 u50 u51 u52 u53 u54 u56 u59 u60 u61 u62 u63 u64 u68 => ?_, ⟨?_, ?_, ?_, ?_, ?_, ?_, ?_, ?_, ?_⟩, fun d hd => ?_, fun d hd => ?_, fun w hw => ?_, ?_, fun a ha => ?_, fun a ha => ?_, fun a ha => ?_, fun a ha => ?_, fun a ha => e5 a (by omega) ha⟩
  · refine Eq.trans (b1 _) ?_
    have k8 : (8 : Int32).toNatClampNeg = 8 := rfl
    simp only [w10, w43, si_pin2 (show c < 9 by omega) (by decide), if_true, si_cl (show c < 2 ^ 31 by omega), k8]
    refine Eq.trans c1 ?_
    refine Eq.trans c2 ?_
    refine Eq.trans c3 ?_
    refine Eq.trans c4 ?_
    exact c5
  · rw [vk q u40 u47 u50 u52 u56 u68 u64, b2 q u46 u47 u48 u49 u51 u53 u54 u59 u60 u61 u62 u63, pf_up_k _ u40, pf_up_k _ u40, pf_up_k _ u40]
  · rw [g40 0 (by decide) (by decide) (by decide) (by decide) (by decide), w40, pf_up_j _ _ _ _ _ _ (by decide), pf_up_j _ _ _ _ _ _ (by decide), pf_up_j _ _ _ _ _ _ (by decide)]
  · rw [g40 10 (by decide) (by decide) (by decide) (by decide) (by decide)]; exact w10
  · rw [g40 15 (by decide) (by decide) (by decide) (by decide) (by decide), w40, pf_up_j _ _ _ _ _ _ (by decide), pf_up_s]
  · rw [g40 16 (by decide) (by decide) (by decide) (by decide) (by decide), w40, pf_up_s]
  · rw [pf_up_j _ _ _ _ _ _ (by decide), pf_up_j _ _ _ _ _ _ (by decide), pf_up_j _ _ _ _ _ _ (by decide), pf_up_j _ _ _ _ _ _ (by decide), pf_up_s]
  · rw [pf_up_j _ _ _ _ _ _ (by decide), pf_up_j _ _ _ _ _ _ (by decide), pf_up_j _ _ _ _ _ _ (by decide), pf_up_s]
  · rw [pf_up_j _ _ _ _ _ _ (by decide), pf_up_j _ _ _ _ _ _ (by decide), pf_up_s]
  · rw [pf_up_j _ _ _ _ _ _ (by decide), pf_up_s]
  · rw [pf_up_s]
  · obtain ⟨⟨f1, f2, f3, f4⟩, ⟨f5, f6, f7, f8, f9⟩, -⟩ := b5 d (by omega) hd
    rw [vk 46 (by decide) (by decide) (by decide) (by decide) (by decide) (by decide) (by decide), vk 48 (by decide) (by decide) (by decide) (by decide) (by decide) (by decide) (by decide), vk 49 (by decide) (by decide) (by decide) (by decide) (by decide) (by decide) (by decide), vk 51 (by decide) (by decide) (by decide) (by decide) (by decide) (by decide) (by decide), vk 53 (by decide) (by decide) (by decide) (by decide) (by decide) (by decide) (by decide), vk 54 (by decide) (by decide) (by decide) (by decide) (by decide) (by decide) (by decide), vk 62 (by decide) (by decide) (by decide) (by decide) (by decide) (by decide) (by decide), vk 63 (by decide) (by decide) (by decide) (by decide) (by decide) (by decide) (by decide)]
    exact ⟨f1, f3, f4, f5, f6, f7, f8, f9⟩
  · obtain ⟨-, -, f1, f2, f3⟩ := b5 d (by omega) hd
    rw [vk 59 (by decide) (by decide) (by decide) (by decide) (by decide) (by decide) (by decide), vk 60 (by decide) (by decide) (by decide) (by decide) (by decide) (by decide) (by decide), vk 61 (by decide) (by decide) (by decide) (by decide) (by decide) (by decide) (by decide)]
    exact ⟨f1, f2, f3⟩
  · show V5 47 0 w = _
    rw [v47, upd_n _ _ (by omega)]
    exact (b5 w (by omega) (by omega)).1.2.1
  · show V5 47 0 c = _
    rw [v47, upd_s]
  · show V5 50 0 a = _
    rw [d5 50 (by decide), d4 50 (by decide), d3 50 (by decide), d2 50 (by decide)]
    exact e1 a (by omega) ha
  · show V5 52 0 a = _
    rw [d5 52 (by decide), d4 52 (by decide), d3 52 (by decide)]
    exact e2 a (by omega) ha
  · show V5 56 0 a = _
    rw [d5 56 (by decide), d4 56 (by decide)]
    exact e3 a (by omega) ha
  · show V5 68 0 a = _
    rw [d5 68 (by decide)]
    exact e4 a (by omega) ha
end
