section
variable {X Y : pf_M} {n t K : Nat}
theorem sy_mapL {s i d z a T : Nat} {R : Bool} (hD : sD X Y n) (hn : n ≤ 8) (hO : sO X Y n K) (hK : K ≤ 600) (hM : sM X Y n) (hd : d < n) (hT : T ≤ 7000000) (hi : i < 4) (hs : s < 2) (hz8 : z ≤ 8) (ha : a ≤ 99)
    (hz : Y 67 0 i = nI z) (ha2 : Y 65 0 i = nI a) (kx : Int32 → pf_M → Option pf_M) :
    ∀ (m k f : Nat) (v : Int32) (A B : Nat → Int32), k + m = z → m < f → ∃ A' B', lX12_editMap_65 (nI s) (nI i) (nI d) (nI T) (if R then 1 else 0) kx f v (nI k) (pf_upf (pf_upf Y 75 0 A) 69 0 B) = kx (if R then qG (fun j => bM Y (2 * d) (a + j)) m k v else v) (pf_upf (pf_upf Y 75 0 A') 69 0 B') ∧
      (∀ k', k' < k → A' k' = A k') ∧ (∀ k', k ≤ k' → k' < z → A' k' = B (32 * s + 8 * i + k') ∧ B' (32 * s + 8 * i + k') = if R = true then rdo false (qV Y d T) (B (32 * s + 8 * i + k')) (bM Y (2 * d) (a + k')) else B (32 * s + 8 * i + k')) ∧
      (∀ a, (a < 32 * s + 8 * i + k ∨ 32 * s + 8 * i + z ≤ a) → B' a = B a) := by
  intro m
  induction m with
  | zero =>
    intro k f v A B hk hf
    obtain ⟨f, rfl⟩ : ∃ g, f = g + 1 := ⟨f - 1, by omega⟩
    obtain rfl : k = z := by omega
    have e67 : pf_upf (pf_upf Y 75 0 A) 69 0 B 67 0 i = nI k := hz
    refine ⟨A, B, ?_, fun _ _ => rfl, fun k' h1 h2 => by omega, fun _ _ => rfl⟩
    rw [lX12_editMap_65, si_pin2 hi (by decide), if_pos rfl, si_cl (by omega), e67, if_pos (Int32.le_refl _)]
    cases R <;> rfl
  | succ m ih =>
    intro k f v A B hk hf
    obtain ⟨f, rfl⟩ : ∃ g, f = g + 1 := ⟨f - 1, by omega⟩
    have e67 : pf_upf (pf_upf Y 75 0 A) 69 0 B 67 0 i = nI z := hz
    have e69 : pf_upf (pf_upf Y 75 0 A) 69 0 B 69 0 = B := rfl
    have eb : (32 : Int32) * nI s + (8 : Int32) * nI i + nI k = nI (32 * s + 8 * i + k) := by rw [show (32 : Int32) = nI 32 from rfl, show (8 : Int32) = nI 8 from rfl, nI_mul, nI_mul, nI_add, nI_add]
    have e65 : ∀ A B, pf_upf (pf_upf Y 75 0 A) 69 0 B 65 0 i = nI a := fun _ _ => ha2
    have hmo := hM (2 * d) (by omega)
    have eov : ∀ A B, fX12_byteOver (nI d) 0 (nI (a + k)) (pf_upf (pf_upf Y 75 0 A) 69 0 B) = some (ov (bM Y (2 * d) (a + k))) := fun A B => sy_over (X := X) (Y := pf_upf (pf_upf Y 75 0 A) 69 0 B) (d := d) (e := 0) hmo (by omega) (by omega)
    have eby : ∀ A B b, b < 16 → fX12_byteAt (nI d) (nI b) (nI T) (pf_upf (pf_upf Y 75 0 A) 69 0 B) = some (qV Y d T b) := fun A B b hb => (sy_byte (X := X) (Y := pf_upf (pf_upf Y 75 0 A) 69 0 B) (n := n) (k := K) hD hn hO hK hd hT hb).trans (congrArg some (qV_eq rfl rfl rfl rfl rfl rfl))
    obtain ⟨A', B', a1, a2, a3, a4⟩ := ih (k + 1) f (if R then (if (bM Y (2 * d) (a + k)).isSome then 1 else v) else v) (upd A k (B (32 * s + 8 * i + k))) (upd B (32 * s + 8 * i + k) (if R = true then rdo false (qV Y d T) (B (32 * s + 8 * i + k)) (bM Y (2 * d) (a + k)) else B (32 * s + 8 * i + k))) (by omega) (by omega)
    refine ⟨A', B', ?_, fun k' h => ?_, fun k' h1 h2 => ?_, fun a ha => ?_⟩
    · rw [lX12_editMap_65, si_pin2 hi (by decide), if_pos rfl, si_cl (by omega), e67, if_neg (fun w => by have := (nI_leI (by omega) (by omega)).mp w; omega), eb]
      unfold jX12_editMap_152
      simp only [si_pin2 (show 32 * s + 8 * i + k < 64 by omega) (by decide), si_pin2 (show k < 8 by omega) (by decide), if_true, si_cl (show k < 2 ^ 31 by omega), si_cl (show 32 * s + 8 * i + k < 2 ^ 31 by omega), e69, pf_upf_in Y (show 75 ≠ 69 by decide), e65, nI_add, eov, Option.bind_some, nI_1, pf_upf_up]
      have same : upd B (32 * s + 8 * i + k) (B (32 * s + 8 * i + k)) = B := by
        funext x
        unfold upd
        split
        · rename_i h; rw [h]
        · rfl
      cases R with
      | false =>
        simp only [Bool.false_eq_true, if_false, if_true] at a1 ⊢
        rw [same] at a1
        exact a1
      | true =>
        simp only [if_true, si_10, if_false] at a1 ⊢
        cases hb : bM Y (2 * d) (a + k) with
        | none =>
          rw [hb] at a1
          simp only [Option.isSome_none, Bool.false_eq_true, if_false] at a1
          rw [show rdo false (qV Y d T) (B (32 * s + 8 * i + k)) none = B (32 * s + 8 * i + k) from rfl, same] at a1
          rw [if_pos (show ov none = -4 from rfl)]
          refine Eq.trans a1 ?_
          congr 1
          rw [qG, hb]
          rfl
        | some b =>
          have hb1 := (bM_b hmo hb).1
          rw [hb] at a1
          simp only [Option.isSome_some, if_true] at a1
          have h4 : ¬ ov (some b) = -4 := fun w => by
            rw [ov_m4 (some b) (fun b' h => by cases h; exact hb1)] at w
            cases w
          rw [if_neg h4]
          unfold ov
          simp only [eby _ _ b hb1, Option.bind_some]
          refine Eq.trans a1 ?_
          congr 1
          rw [qG, hb]
          rfl
    · rw [a2 k' (by omega), upd_n _ _ (by omega)]
    · by_cases hkk : k' = k
      · subst hkk
        rw [a2 k' (by omega), a4 _ (by omega), upd_s, upd_s]
        exact ⟨rfl, rfl⟩
      · obtain ⟨b1, b2⟩ := a3 k' (by omega) h2
        rw [b1, b2, upd_n _ _ (by omega)]
        exact ⟨rfl, rfl⟩
    · rw [a4 a (by omega), upd_n _ _ (by omega)]
theorem sy_mapW {i d z a : Nat} {W : Bool} (hn : n ≤ 8) (hM : sM X Y n) (hd : d < n) (hi : i < 4) (hz8 : z ≤ 8) (ha : a ≤ 99) (hz : Y 67 0 i = nI z) (ha2 : Y 65 0 i = nI a) (kx : Int32 → pf_M → Option pf_M) :
    ∀ (m k f : Nat) (v : Int32) (G : Nat → Int32), k + m = z → m < f → ∃ G', lX12_editMap_161 (nI i) (nI d) (if W then 1 else 0) kx f v (nI k) (pf_upf Y 52 0 G) = kx (if W then qG (fun j => bM Y (2 * d + 1) (a + j)) m k v else v) (pf_upf Y 52 0 G') ∧
      (∀ x, (W = false ∨ ∀ k' b, k ≤ k' → k' < z → bM Y (2 * d + 1) (a + k') = some b → x ≠ 16 * d + b) → G' x = G x) ∧ (W = true → ∀ k' b, k ≤ k' → k' < z → bM Y (2 * d + 1) (a + k') = some b → G' (16 * d + b) = Y 75 0 k') := by
  intro m
  induction m with
  | zero =>
    intro k f v G hk hf
    obtain ⟨f, rfl⟩ : ∃ g, f = g + 1 := ⟨f - 1, by omega⟩
    obtain rfl : k = z := by omega
    have e67 : pf_upf Y 52 0 G 67 0 i = nI k := hz
    refine ⟨G, ?_, fun _ _ => rfl, fun _ k' b h1 h2 => by omega⟩
    rw [lX12_editMap_161, si_pin2 hi (by decide), if_pos rfl, si_cl (by omega), e67, if_pos (Int32.le_refl _)]
    cases W <;> rfl
  | succ m ih =>
    intro k f v G hk hf
    obtain ⟨f, rfl⟩ : ∃ g, f = g + 1 := ⟨f - 1, by omega⟩
    have e67 : pf_upf Y 52 0 G 67 0 i = nI z := hz
    have e65 : pf_upf Y 52 0 G 65 0 i = nI a := ha2
    have e75 : pf_upf Y 52 0 G 75 0 = Y 75 0 := rfl
    have hmo := hM (2 * d + 1) (by omega)
    have eov : fX12_byteOver (nI d) 1 (nI (a + k)) (pf_upf Y 52 0 G) = some (ov (bM Y (2 * d + 1) (a + k))) := sy_over (X := X) (Y := pf_upf Y 52 0 G) (d := d) (e := 1) hmo (by omega) (by omega)
    have start : lX12_editMap_161 (nI i) (nI d) (if W then 1 else 0) kx (f + 1) v (nI k) (pf_upf Y 52 0 G) = (if (if W = true then (1 : Int32) else 0) = (0 : Int32) then lX12_editMap_161 (nI i) (nI d) (if W then 1 else 0) kx f v (nI (k + 1)) (pf_upf Y 52 0 G)
        else (if ov (bM Y (2 * d + 1) (a + k)) = (-4 : Int32) then lX12_editMap_161 (nI i) (nI d) (if W then 1 else 0) kx f v (nI (k + 1)) (pf_upf Y 52 0 G)
        else (if pf_in (((16 : Int32) * nI d) + ov (bM Y (2 * d + 1) (a + k))) 128 = true then lX12_editMap_161 (nI i) (nI d) (if W then 1 else 0) kx f 1 (nI (k + 1)) (pf_upf Y 52 0 (upd G (((16 : Int32) * nI d) + ov (bM Y (2 * d + 1) (a + k))).toNatClampNeg (Y 75 0 k))) else none))) := by
      rw [lX12_editMap_161, si_pin2 hi (by decide), if_pos rfl, si_cl (by omega), e67, if_neg (fun w => by have := (nI_leI (by omega) (by omega)).mp w; omega), e65, nI_add, if_pos rfl, eov, Option.bind_some]
      unfold jX12_editMap_223
      simp only [si_pin2 (show k < 8 by omega) (by decide), if_true, si_cl (show k < 2 ^ 31 by omega), e75, nI_1, pf_upf_up]
    rw [start]
    cases W with
    | false =>
      obtain ⟨G', a1, a2, a3⟩ := ih (k + 1) f v G (by omega) (by omega)
      refine ⟨G', ?_, fun x _ => a2 x (Or.inl rfl), fun w => by cases w⟩
      exact a1
    | true =>
      rw [if_pos rfl, if_neg (by decide)]
      cases hb : bM Y (2 * d + 1) (a + k) with
      | none =>
        obtain ⟨G', a1, a2, a3⟩ := ih (k + 1) f v G (by omega) (by omega)
        refine ⟨G', ?_, fun x h => a2 x (Or.inr (fun k' b h1 h2 h3 => (h.resolve_left (by intro w; cases w)) k' b (by omega) h2 h3)), fun w k' b h1 h2 h3 => ?_⟩
        · rw [if_pos (show ov none = -4 from rfl)]
          refine Eq.trans a1 ?_
          congr 1
          rw [if_pos rfl, if_pos rfl, qG, hb]
          rfl
        · by_cases hkk : k' = k
          · subst hkk
            rw [hb] at h3
            cases h3
          · exact a3 rfl k' b (by omega) h2 h3
      | some b =>
        have hb1 := bM_b hmo hb
        have h4 : ¬ ov (some b) = -4 := fun w => by
          rw [ov_m4 (some b) (fun b' h => by cases h; exact hb1.1)] at w
          cases w
        have e16 : (16 : Int32) * nI d + ov (some b) = nI (16 * d + b) := by
          show (16 : Int32) * nI d + nI b = _
          rw [show (16 : Int32) = nI 16 from rfl, nI_mul, nI_add]
        obtain ⟨G', a1, a2, a3⟩ := ih (k + 1) f 1 (upd G (16 * d + b) (Y 75 0 k)) (by omega) (by omega)
        refine ⟨G', ?_, fun x h => ?_, fun w k' b' h1 h2 h3 => ?_⟩
        · rw [if_neg h4, e16, si_pin2 (by omega) (by decide), if_pos rfl, si_cl (by omega)]
          refine Eq.trans a1 ?_
          congr 1
          rw [if_pos rfl, if_pos rfl, qG, hb]
          rfl
        · have h5 := h.resolve_left (by intro w; cases w)
          rw [a2 x (Or.inr (fun k' b' h1 h2 h3 => h5 k' b' (by omega) h2 h3)), upd_n _ _ (h5 k b (by omega) (by omega) hb)]
        · by_cases hkk : k' = k
          · subst hkk
            rw [hb] at h3
            cases h3
            rw [a2 _ (Or.inr (fun k'' b'' h4 h5 h6 h7 => ?_)), upd_s]
            have e : b'' = b := by omega
            rw [e] at h6
            have := bM_inj hb h6
            omega
          · exact a3 rfl k' b' (by omega) h2 h3
theorem sy_edit_map {s i d z a c T : Nat} {R W cb : Bool} (hD : sD X Y n) (hn : n ≤ 8) (hO : sO X Y n K) (hK : K ≤ 600) (hM : sM X Y n) (hS : sS X Y n) (hd : d < n) (hT : T ≤ 7000000) (hi : i < 4) (hs : s < 2) (hz8 : z ≤ 8) (ha : a ≤ 99) (hc1 : 10 ≤ c) (hc : c ≤ 12)
    (hz : Y 67 0 i = nI z) (ha2 : Y 65 0 i = nI a) (hc2 : Y 64 0 i = nI c) (hR : R = decide ((c - 1) % 3 ≠ 1 ∧ ¬ Y 51 0 d < 2)) (hW : W = decide ((c - 1) % 3 ≠ 0 ∧ Y 51 0 d = 3)) (hcb : cb = false) :
    ∃ Y', fX12_editMap (nI s) (nI i) (nI d) (nI T) Y = some Y' ∧ eY s i d z T cb R W (fun j => bM Y (2 * d) (a + j)) (fun j => bM Y (2 * d + 1) (a + j)) (fR R (fun j => bM Y (2 * d) (a + j)) z + fW ((c - 1) % 3) W (fun j => bM Y (2 * d + 1) (a + j)) z) Y Y' := by
  subst hcb
  have hkc : (c - 1) % 3 = c - 10 := by omega
  have h54 : fX12_editMap (nI s) (nI i) (nI d) (nI T) Y = jX12_editMap_54 (nI s) (nI i) (nI d) (nI T) (nI (c - 10)) (if R then 1 else 0) (if W then 1 else 0) Y := by
    unfold fX12_editMap jX12_editMap_31 jX12_editMap_32 jX12_editMap_53
    have hk0 : (nI (c - 10) = 0) = (c - 10 = 0) := propext (nI_eq (b := 0) (by omega) (by omega))
    have hk1 : (nI (c - 10) = 1) = (c - 10 = 1) := propext (nI_eq (b := 1) (by omega) (by omega))
    simp only [si_pin2 hi (by decide), si_pin2 (show d < 8 by omega) (by decide), if_true, si_cl (show i < 2 ^ 31 by omega), si_cl (show d < 2 ^ 31 by omega), hc2, si_10c hc1, hk0, hk1]
    subst hR hW
    rw [hkc]
    by_cases q1 : c - 10 = 1
    · rw [if_pos q1, if_neg (by omega)]
      by_cases q3 : Y 51 0 d = 3
      · rw [if_pos q3, decide_eq_false (show ¬ (c - 10 ≠ 1 ∧ ¬ Y 51 0 d < 2) from fun w => w.1 q1), decide_eq_true (show c - 10 ≠ 0 ∧ Y 51 0 d = 3 from ⟨by omega, q3⟩)]
        rfl
      · rw [if_neg q3, decide_eq_false (show ¬ (c - 10 ≠ 1 ∧ ¬ Y 51 0 d < 2) from fun w => w.1 q1), decide_eq_false (show ¬ (c - 10 ≠ 0 ∧ Y 51 0 d = 3) from fun w => q3 w.2)]
        rfl
    · rw [if_neg q1]
      by_cases q2 : Y 51 0 d < 2
      · have q3 : ¬ Y 51 0 d = 3 := fun w => by rw [w] at q2; exact absurd q2 (by decide)
        rw [if_pos q2, if_neg q3, decide_eq_false (show ¬ (c - 10 ≠ 1 ∧ ¬ Y 51 0 d < 2) from fun w => w.2 q2), decide_eq_false (show ¬ (c - 10 ≠ 0 ∧ Y 51 0 d = 3) from fun w => q3 w.2)]
        split <;> rfl
      · rw [if_neg q2, decide_eq_true (show c - 10 ≠ 1 ∧ ¬ Y 51 0 d < 2 from ⟨q1, q2⟩)]
        by_cases q0 : c - 10 = 0
        · rw [if_pos q0, decide_eq_false (show ¬ (c - 10 ≠ 0 ∧ Y 51 0 d = 3) from fun w => w.1 q0)]
          rfl
        · rw [if_neg q0]
          by_cases q3 : Y 51 0 d = 3
          · rw [if_pos q3, decide_eq_true (show c - 10 ≠ 0 ∧ Y 51 0 d = 3 from ⟨q0, q3⟩)]
            rfl
          · rw [if_neg q3, decide_eq_false (show ¬ (c - 10 ≠ 0 ∧ Y 51 0 d = 3) from fun w => q3 w.2)]
            rfl
  rw [h54]
  unfold jX12_editMap_54
  have e4 : (4 : Int32) * nI s + nI i = nI (4 * s + i) := by rw [show (4 : Int32) = nI 4 from rfl, nI_mul, nI_add]
  rw [e4]
  obtain ⟨A, B, a1, a2, a3, a4⟩ := sy_mapL (X := X) (Y := Y) (s := s) (i := i) (d := d) (z := z) (a := a) (T := T) (R := R) hD hn hO hK hM hd hT hi hs hz8 ha hz ha2 (fun u29_e65_8 u29_Me65 => lX12_editMap_161 (nI i) (nI d) (if W then 1 else 0) (fun u30_e161_9 u30_Me161 => (if pf_in (nI (4 * s + i)) 8 = true then (if u29_e65_8 = (0 : Int32) then jX12_editMap_250 (nI (c - 10)) u30_e161_9 (nI (4 * s + i)) (u30_Me161 70 0 (nI (4 * s + i)).toNatClampNeg) (0 : Int32) u30_Me161 else jX12_editMap_250 (nI (c - 10)) u30_e161_9 (nI (4 * s + i)) (u30_Me161 70 0 (nI (4 * s + i)).toNatClampNeg) (1 : Int32) u30_Me161) else none)) pf_fu (0 : Int32) (0 : Int32) u29_Me65) z 0 pf_fu 0 (Y 75 0) (Y 69 0) (by omega) (by unfold pf_fu; omega)
  have i1 : pf_upf (pf_upf Y 75 0 (Y 75 0)) 69 0 (Y 69 0) = Y := by
    have : pf_upf (pf_upf Y 75 0 (Y 75 0)) 69 0 (Y 69 0) = pf_upf Y 75 0 (Y 75 0) := pf_upf_id (pf_upf Y 75 0 (Y 75 0)) 69 0
    rw [this, pf_upf_id]
  rw [i1] at a1
  obtain ⟨G, b1, b2, b3⟩ := sy_mapW (X := X) (Y := pf_upf (pf_upf Y 75 0 A) 69 0 B) (i := i) (d := d) (z := z) (a := a) (W := W) (n := n) hn hM hd hi hz8 ha hz ha2 (fun u30_e161_9 u30_Me161 => (if pf_in (nI (4 * s + i)) 8 = true then (if (if R then qG (fun j => bM Y (2 * d) (a + j)) z 0 0 else 0) = (0 : Int32) then jX12_editMap_250 (nI (c - 10)) u30_e161_9 (nI (4 * s + i)) (u30_Me161 70 0 (nI (4 * s + i)).toNatClampNeg) (0 : Int32) u30_Me161 else jX12_editMap_250 (nI (c - 10)) u30_e161_9 (nI (4 * s + i)) (u30_Me161 70 0 (nI (4 * s + i)).toNatClampNeg) (1 : Int32) u30_Me161) else none)) z 0 pf_fu 0 (Y 52 0) (by omega) (by unfold pf_fu; omega)
  have i2 : pf_upf (pf_upf (pf_upf Y 75 0 A) 69 0 B) 52 0 (Y 52 0) = pf_upf (pf_upf Y 75 0 A) 69 0 B := pf_upf_id (pf_upf (pf_upf Y 75 0 A) 69 0 B) 52 0
  rw [i2] at b1
  have bm : ∀ o x, bM (pf_upf (pf_upf Y 75 0 A) 69 0 B) o x = bM Y o x := fun _ _ => rfl
  have e70 : pf_upf (pf_upf (pf_upf Y 75 0 A) 69 0 B) 52 0 G 70 0 = Y 70 0 := rfl
  refine ⟨pf_up (pf_upf (pf_upf (pf_upf Y 75 0 A) 69 0 B) 52 0 G) 70 0 (4 * s + i) (Y 70 0 (4 * s + i) + (fR R (fun j => bM Y (2 * d) (a + j)) z + fW ((c - 1) % 3) W (fun j => bM Y (2 * d + 1) (a + j)) z)), ?_, ?_, ?_, ?_, ?_, ?_, ?_, ?_⟩
  · refine Eq.trans a1 (Eq.trans b1 ?_)
    have hk1 : (nI (c - 10) = 1) = ((c - 1) % 3 = 1) := by rw [hkc]; exact propext (nI_eq (b := 1) (by omega) (by omega))
    unfold jX12_editMap_250 jX12_editMap_270
    simp only [si_pin2 (show 4 * s + i < 8 by omega) (by decide), if_true, si_cl (show 4 * s + i < 2 ^ 31 by omega), e70, hk1, bm]
    unfold fW
    rcases fR_01 R (fun j => bM Y (2 * d) (a + j)) z with h | h
    · have h' : (if R = true then qG (fun j => bM Y (2 * d) (a + j)) z 0 0 else 0) = 0 := h
      rw [h, if_pos h']
      generalize (if W = true then qG (fun j => bM Y (2 * d + 1) (a + j)) z 0 0 else 0) = w0
      by_cases g0 : w0 = 0
      · rw [if_pos g0, if_pos g0]
      · rw [if_neg g0, if_neg g0]
        by_cases g1 : (c - 1) % 3 = 1
        · rw [if_pos g1, if_pos g1]
        · rw [if_neg g1, if_neg g1]
    · have h' : (if R = true then qG (fun j => bM Y (2 * d) (a + j)) z 0 0 else 0) = 1 := h
      rw [h, if_neg (show ¬ (if R = true then qG (fun j => bM Y (2 * d) (a + j)) z 0 0 else 0) = 0 from fun w => by rw [h'] at w; exact absurd w (by decide))]
      generalize (if W = true then qG (fun j => bM Y (2 * d + 1) (a + j)) z 0 0 else 0) = w0
      by_cases g0 : w0 = 0
      · rw [if_pos g0, if_pos g0]
      · rw [if_neg g0, if_neg g0]
        by_cases g1 : (c - 1) % 3 = 1
        · rw [if_pos g1, if_pos g1]
        · rw [if_neg g1, if_neg g1]
  · intro k h1 h2 h3 h4
    rw [pf_up_k _ h4, pf_upf_k _ h3, pf_upf_k _ h2, pf_upf_k _ h1]
  · intro k hk
    show B _ = _
    by_cases hkz : k < z
    · rw [(a3 k (by omega) hkz).2]
      cases R with
      | false => rfl
      | true => rw [if_pos rfl, if_pos ⟨rfl, hkz⟩]
    · rw [if_neg (fun w => hkz w.2)]
      exact a4 _ (by omega)
  · intro x hx
    exact a4 x (by omega)
  · intro x hx
    show G x = _
    refine b2 x (hx.imp_right (fun h k' b _ h2 h3 => h k' b h2 h3))
  · intro hw k b hk hb
    show G _ = _
    rw [b3 hw k b (by omega) hk hb]
    exact (a3 k (by omega) hk).1
  · rw [pf_up_s]
  · intro x hx
    rw [pf_up_j _ _ _ _ _ _ hx]
    rfl
end
