def bO (o k : Nat) : Option Nat := if o + k < 16 then some (o + k) else none
def bW (o k : Nat) : Option Nat := if 4 ≤ o + k ∧ o + k < 16 then some (o + k) else none
theorem bO_s {o k b : Nat} (h : bO o k = some b) : b = o + k ∧ b < 16 := by
  unfold bO at h
  split at h
  · cases h
    exact ⟨rfl, by assumption⟩
  · cases h
theorem bW_s {o k b : Nat} (h : bW o k = some b) : b = o + k ∧ 4 ≤ b ∧ b < 16 := by
  unfold bW at h
  split at h
  · rename_i w
    cases h
    exact ⟨rfl, w⟩
  · cases h
theorem si_kd : ∀ c : Nat, c < 13 → 1 ≤ c → (nI c - 1) - (nI c - 1) / 3 * 3 = nI ((c - 1) % 3) ∧ (nI c - 1) / 3 = nI ((c - 1) / 3) := by decide +kernel
theorem si_10c {c : Nat} (h : 10 ≤ c) : nI c - 10 = nI (c - 10) := nI_subI h
section
variable {X Y : pf_M} {n t K : Nat}
theorem sy_own80 {s i d z o c T kd : Nat} {R W cb : Bool} (hD : sD X Y n) (hn : n ≤ 8) (hO : sO X Y n K) (hK : K ≤ 600) (hd : d < n) (hT : T ≤ 7000000) (hi : i < 4) (hs : s < 2) (hz1 : 1 ≤ z) (hz8 : z ≤ 8) (ho : o ≤ 15) (hc : c ≤ 12)
    (hz : Y 67 0 i = nI z) (ho2 : Y 66 0 i = nI o) (hc2 : Y 64 0 i = nI c) (hR : R = true → o + z ≤ 16) (hW : W = true → 4 ≤ o ∧ o + z ≤ 16) (hcb : R = true → cb = decide (7 ≤ c)) (hkd : kd < 3) :
    ∃ Y', jX12_editOwn_80 (nI s) (nI i) (nI d) (nI T) (nI kd) (if R then 1 else 0) (if W then 1 else 0) Y = some Y' ∧ eY s i d z T cb R W (bO o) (bW o) (fR R (bO o) z + fW kd W (bW o) z) Y Y' := by
  unfold jX12_editOwn_80
  obtain ⟨A, B, a1, a2, a3, a4⟩ := sy_ownL (X := X) (Y := Y) (s := s) (i := i) (d := d) (z := z) (o := o) (c := c) (T := T) (R := R) (cb := cb) hD hn hO hK hd hT hi hs hz8 ho hc hz ho2 hc2 hR hcb (fun u32_Me85 => lX12_editOwn_217 (nI i) (nI d) (if W then 1 else 0) (fun u33_Me217 => (if pf_in (((4 : Int32) * nI s) + nI i) 8 = true then (if (if R = true then (1 : Int32) else 0) = (0 : Int32) then jX12_editOwn_286 (nI kd) (if W then 1 else 0) (((4 : Int32) * nI s) + nI i) (u33_Me217 70 0 (((4 : Int32) * nI s) + nI i).toNatClampNeg) (0 : Int32) u33_Me217 else jX12_editOwn_286 (nI kd) (if W then 1 else 0) (((4 : Int32) * nI s) + nI i) (u33_Me217 70 0 (((4 : Int32) * nI s) + nI i).toNatClampNeg) (1 : Int32) u33_Me217) else none)) pf_fu (0 : Int32) u32_Me85) z 0 pf_fu (Y 75 0) (Y 69 0) (by omega) (by unfold pf_fu; omega)
  have i1 : pf_upf (pf_upf Y 75 0 (Y 75 0)) 69 0 (Y 69 0) = Y := by
    have : pf_upf (pf_upf Y 75 0 (Y 75 0)) 69 0 (Y 69 0) = pf_upf Y 75 0 (Y 75 0) := pf_upf_id (pf_upf Y 75 0 (Y 75 0)) 69 0
    rw [this, pf_upf_id]
  rw [i1] at a1
  obtain ⟨G, b1, b2, b3⟩ := sy_ownW (Y := pf_upf (pf_upf Y 75 0 A) 69 0 B) (i := i) (d := d) (z := z) (o := o) (W := W) (by omega) hi hz8 hz ho2 (fun w => (hW w).2) (fun u33_Me217 => (if pf_in (((4 : Int32) * nI s) + nI i) 8 = true then (if (if R = true then (1 : Int32) else 0) = (0 : Int32) then jX12_editOwn_286 (nI kd) (if W then 1 else 0) (((4 : Int32) * nI s) + nI i) (u33_Me217 70 0 (((4 : Int32) * nI s) + nI i).toNatClampNeg) (0 : Int32) u33_Me217 else jX12_editOwn_286 (nI kd) (if W then 1 else 0) (((4 : Int32) * nI s) + nI i) (u33_Me217 70 0 (((4 : Int32) * nI s) + nI i).toNatClampNeg) (1 : Int32) u33_Me217) else none)) z 0 pf_fu (Y 52 0) (by omega) (by unfold pf_fu; omega)
  have i2 : pf_upf (pf_upf (pf_upf Y 75 0 A) 69 0 B) 52 0 (Y 52 0) = pf_upf (pf_upf Y 75 0 A) 69 0 B := pf_upf_id (pf_upf (pf_upf Y 75 0 A) 69 0 B) 52 0
  rw [i2] at b1
  have a1' : lX12_editOwn_85 (nI s) (nI i) (nI d) (nI T) (if R then 1 else 0) _ pf_fu 0 Y = _ := a1
  have b1' : lX12_editOwn_217 (nI i) (nI d) (if W then 1 else 0) _ pf_fu 0 (pf_upf (pf_upf Y 75 0 A) 69 0 B) = _ := b1
  rw [a1']
  rw [b1']
  have e4 : (4 : Int32) * nI s + nI i = nI (4 * s + i) := by rw [show (4 : Int32) = nI 4 from rfl, nI_mul, nI_add]
  have e70 : pf_upf (pf_upf (pf_upf Y 75 0 A) 69 0 B) 52 0 G 70 0 = Y 70 0 := rfl
  have hfr : (if R = true then (1 : Int32) else 0) = fR R (bO o) z := by
    unfold fR
    cases R with
    | false => rfl
    | true =>
      have := hR rfl
      rw [if_pos rfl, if_pos rfl, qG_all (bO o) z 0 0 (fun k' _ h2 => by unfold bO; rw [if_pos (by omega)]; rfl) (Or.inl hz1)]
  have hfw : (if (if W = true then (1 : Int32) else 0) = 0 then (0 : Int32) else if nI kd = 1 then 1 else 2) = fW kd W (bW o) z := by
    unfold fW
    have hk : (nI kd = 1) = (kd = 1) := propext (nI_eq (b := 1) (by omega) (by omega))
    simp only [hk]
    cases W with
    | false => rfl
    | true =>
      have := hW rfl
      rw [if_pos rfl, if_pos rfl, qG_all (bW o) z 0 0 (fun k' _ h2 => by unfold bW; rw [if_pos (by omega)]; rfl) (Or.inl hz1)]
  refine ⟨pf_up (pf_upf (pf_upf (pf_upf Y 75 0 A) 69 0 B) 52 0 G) 70 0 (4 * s + i) (Y 70 0 (4 * s + i) + (fR R (bO o) z + fW kd W (bW o) z)), ?_, ?_, ?_, ?_, ?_, ?_, ?_, ?_⟩
  · rw [← hfr, ← hfw]
    show (if pf_in (4 * nI s + nI i) 8 = true then _ else none) = _
    unfold jX12_editOwn_286 jX12_editOwn_306
    simp only [e4, si_pin2 (show 4 * s + i < 8 by omega) (by decide), if_true, si_cl (show 4 * s + i < 2 ^ 31 by omega), e70]
    cases R <;> cases W <;> simp only [Bool.false_eq_true, if_false, if_true, si_10] <;> split <;> rfl
  · intro k h1 h2 h3 h4
    rw [pf_up_k _ h4, pf_upf_k _ h3, pf_upf_k _ h2, pf_upf_k _ h1]
  · intro k hk
    show B _ = _
    by_cases hkz : k < z
    · rw [(a3 k (by omega) hkz).2]
      cases R with
      | false => rfl
      | true =>
        have := hR rfl
        rw [if_pos rfl, if_pos ⟨rfl, hkz⟩]
        unfold bO
        rw [if_pos (by omega)]
        rfl
    · rw [if_neg (fun w => hkz w.2)]
      exact a4 _ (by omega)
  · intro a ha
    exact a4 a (by omega)
  · intro a ha
    show G a = _
    refine b2 a ?_
    cases W with
    | false => exact Or.inl rfl
    | true =>
      refine Or.inr ?_
      have h2 := hW rfl
      have h3 := ha.resolve_left (by intro w; cases w)
      by_cases h4 : a < 16 * d + o + 0 ∨ 16 * d + o + z ≤ a
      · exact h4
      · exact absurd (show a = 16 * d + (o + (a - (16 * d + o))) by omega) (h3 (a - (16 * d + o)) (o + (a - (16 * d + o))) (by omega) (by unfold bW; rw [if_pos (by omega)]))
  · intro hw k b hk hb
    obtain ⟨rfl, -⟩ := bW_s hb
    show G _ = _
    rw [show 16 * d + (o + k) = 16 * d + o + k by omega, b3 hw k (by omega) hk]
    exact (a3 k (by omega) hk).1
  · rw [pf_up_s]
  · intro a ha
    rw [pf_up_j _ _ _ _ _ _ ha]
    rfl
theorem sy_edit_own {s i d z o c T : Nat} {R W cb : Bool} (hD : sD X Y n) (hn : n ≤ 8) (hO : sO X Y n K) (hK : K ≤ 600) (hd : d < n) (hT : T ≤ 7000000) (hi : i < 4) (hs : s < 2) (hz1 : 1 ≤ z) (hz8 : z ≤ 8) (ho : o ≤ 15) (hc1 : 1 ≤ c) (hc : c ≤ 12)
    (hz : Y 67 0 i = nI z) (ho2 : Y 66 0 i = nI o) (hc2 : Y 64 0 i = nI c) (hR : R = decide ((c - 1) % 3 ≠ 1 ∧ o + z ≤ 16)) (hW : W = decide ((c - 1) % 3 ≠ 0 ∧ 4 ≤ o ∧ o + z ≤ 16)) (hcb : R = true → cb = decide (7 ≤ c)) :
    ∃ Y', fX12_editOwn (nI s) (nI i) (nI d) (nI T) Y = some Y' ∧ eY s i d z T cb R W (bO o) (bW o) (fR R (bO o) z + fW ((c - 1) % 3) W (bW o) z) Y Y' := by
  have hk3 : (c - 1) % 3 < 3 := Nat.mod_lt _ (by decide)
  obtain ⟨Y', h1, h2⟩ := sy_own80 (X := X) (Y := Y) (s := s) (i := i) (d := d) (z := z) (o := o) (c := c) (T := T) (R := R) (W := W) (cb := cb) hD hn hO hK hd hT hi hs hz1 hz8 ho hc hz ho2 hc2 (fun w => by rw [hR] at w; exact (of_decide_eq_true w).2) (fun w => by rw [hW] at w; exact (of_decide_eq_true w).2) hcb hk3
  refine ⟨Y', Eq.trans ?_ h1, h2⟩
  unfold fX12_editOwn jX12_editOwn_35 jX12_editOwn_52 jX12_editOwn_53 jX12_editOwn_79
  have hk0 : (nI ((c - 1) % 3) = 0) = ((c - 1) % 3 = 0) := propext (nI_eq (b := 0) (by omega) (by omega))
  have hk1 : (nI ((c - 1) % 3) = 1) = ((c - 1) % 3 = 1) := propext (nI_eq (b := 1) (by omega) (by omega))
  have h16 : ((16 : Int32) < nI o + nI z) = (16 < o + z) := by rw [nI_add]; exact propext (nI_ltI (a := 16) (by omega) (by omega))
  have h4 : (nI o < (4 : Int32)) = (o < 4) := propext (nI_ltI (b := 4) (by omega) (by omega))
  simp only [si_pin2 hi (by decide), if_true, si_cl (show i < 2 ^ 31 by omega), hz, ho2, hc2, (si_kd c (by omega) hc1).1, hk0, hk1, h16, h4, si_10, si_00, if_false]
  subst hR hW
  by_cases q1 : 16 < o + z
  · simp only [if_pos q1, show decide ((c - 1) % 3 ≠ 1 ∧ o + z ≤ 16) = false from decide_eq_false (by omega), show decide ((c - 1) % 3 ≠ 0 ∧ 4 ≤ o ∧ o + z ≤ 16) = false from decide_eq_false (by omega), Bool.false_eq_true, if_false, ite_self]
  · simp only [if_neg q1]
    by_cases q2 : (c - 1) % 3 = 1
    · by_cases q3 : o < 4
      · simp only [if_pos q2, if_pos q3, show decide ((c - 1) % 3 ≠ 1 ∧ o + z ≤ 16) = false from decide_eq_false (by omega), show decide ((c - 1) % 3 ≠ 0 ∧ 4 ≤ o ∧ o + z ≤ 16) = false from decide_eq_false (by omega), Bool.false_eq_true, if_false, ite_self]
      · simp only [if_pos q2, if_neg q3, if_neg (show ¬ (c - 1) % 3 = 0 by omega), show decide ((c - 1) % 3 ≠ 1 ∧ o + z ≤ 16) = false from decide_eq_false (by omega), show decide ((c - 1) % 3 ≠ 0 ∧ 4 ≤ o ∧ o + z ≤ 16) = true from decide_eq_true (by omega), Bool.false_eq_true, if_false, if_true]
    · by_cases q0 : (c - 1) % 3 = 0
      · simp only [if_neg q2, if_pos q0, show decide ((c - 1) % 3 ≠ 1 ∧ o + z ≤ 16) = true from decide_eq_true (by omega), show decide ((c - 1) % 3 ≠ 0 ∧ 4 ≤ o ∧ o + z ≤ 16) = false from decide_eq_false (by omega), Bool.false_eq_true, if_false, if_true]
      · by_cases q3 : o < 4
        · simp only [if_neg q2, if_neg q0, if_pos q3, show decide ((c - 1) % 3 ≠ 1 ∧ o + z ≤ 16) = true from decide_eq_true (by omega), show decide ((c - 1) % 3 ≠ 0 ∧ 4 ≤ o ∧ o + z ≤ 16) = false from decide_eq_false (by omega), Bool.false_eq_true, if_false, if_true]
        · simp only [if_neg q2, if_neg q0, if_neg q3, show decide ((c - 1) % 3 ≠ 1 ∧ o + z ≤ 16) = true from decide_eq_true (by omega), show decide ((c - 1) % 3 ≠ 0 ∧ 4 ≤ o ∧ o + z ≤ 16) = true from decide_eq_true (by omega), Bool.false_eq_true, if_false, if_true]
end
