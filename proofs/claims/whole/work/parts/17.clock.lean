section
variable {X Y : pf_M} {n t : Nat}
theorem ss_onA (hR : sR X Y n t) (hW : sW X Y n) (hC : sC X Y n) (ht : t ≤ 6000000) {d : Nat} (hd : d < qA (Y 50 0) n 0) : ∃ T : Nat, t ≤ T ∧ T ≤ t + 1000 ∧ fX9_timeOnA (nI d) X = some (nI T) ∧ fX12_whenBy (nI d) Y = some (nI T) := by
  obtain ⟨hn, ⟨hX, hY⟩, hp, hf, hx, hy⟩ := id hR
  have hA := qA_le (Y 50 0) n 0
  obtain ⟨N0, b0, e0⟩ := ss_Wb hW (c := d + 1) (a := 0) (by omega)
  have x0 := ss_WX hR hW (c := d + 1) (a := 0) (last := nI d) (by omega) (by omega) (si_last d (by omega))
  have y0 := ss_WY hR (c := d + 1) (a := 0) (last := nI d) (by omega) (by omega) (si_last d (by omega))
  rw [e0, nI_0] at x0 y0
  obtain ⟨p', hp1, hp2⟩ := nI_of2 (M := 9) (n := 9) (by decide) (Int32.not_lt.mpr hp.2.1) hp.2.2
  have a1 : d * p' ≤ 8 * 9 := Nat.mul_le_mul (by omega) hp1
  refine ⟨t + N0 + d * p', by omega, by omega, ?_, ?_⟩
  · unfold fX9_timeOnA
    rw [x0, hp.1, hx, hp2]
    show some (nI t + nI N0 + nI d * nI p') = _
    rw [nI_mul, nI_add, nI_add]
  · unfold fX12_whenBy
    rw [sy_A hn.2 hY]
    show (if nI (qA (Y 50 0) n 0) ≤ nI d then _ else _) = _
    rw [if_neg (fun h => by rw [nI_leI (by omega) (by omega)] at h; omega), y0, hy, hp2]
    show some (nI t + nI N0 + nI d * nI p') = _
    rw [nI_mul, nI_add, nI_add]
theorem ss_onB (hR : sR X Y n t) (hW : sW X Y n) (hC : sC X Y n) (ht : t ≤ 6000000) {d : Nat} (hd : d < n) (hA : qA (Y 50 0) n 0 ≤ d) (hB : qB (Y 50 0) n n ≤ d) : ∃ T : Nat, t ≤ T ∧ T ≤ t + 1000 ∧ fX9_timeOnB (nI d) X = some (nI T) ∧ fX12_whenBy (nI d) Y = some (nI T) := by
  obtain ⟨hn, ⟨hX, hY⟩, hp, hf, hx, hy⟩ := id hR
  generalize hb : qB (Y 50 0) n n = b at hB
  obtain ⟨N1, b1, e1⟩ := ss_Wb hW (c := n + 1) (a := b + 1) (by omega)
  obtain ⟨N2, b2, e2⟩ := ss_Wb hW (c := d + 1) (a := b + 1) (by omega)
  have x1 := ss_WX hR hW (c := n + 1) (a := b + 1) (last := nI n) (by omega) (by omega) (si_last n (by omega))
  have y1 := ss_WY hR (c := n + 1) (a := b + 1) (last := nI n) (by omega) (by omega) (si_last n (by omega))
  have x2 := ss_WX hR hW (c := d + 1) (a := b + 1) (last := nI d) (by omega) (by omega) (si_last d (by omega))
  have y2 := ss_WY hR (c := d + 1) (a := b + 1) (last := nI d) (by omega) (by omega) (si_last d (by omega))
  rw [e1] at x1 y1
  rw [e2] at x2 y2
  obtain ⟨p', hp1, hp2⟩ := nI_of2 (M := 9) (n := 9) (by decide) (Int32.not_lt.mpr hp.2.1) hp.2.2
  obtain ⟨f', hf1, hf2⟩ := nI_of2 (M := 9) (n := 9) (by decide) (Int32.not_lt.mpr hf.2.1) hf.2.2
  have a1 : (d - b) * p' ≤ 8 * 9 := Nat.mul_le_mul (by omega) hp1
  have a2 : (n - b - 1) * f' ≤ 8 * 9 := Nat.mul_le_mul (by omega) hf1
  have eb : nI n - nI b - 1 = nI (n - b - 1) := by
    rw [nI_subI (by omega), show n - b = (n - b - 1) + 1 by omega, nI_pred]
    rfl
  refine ⟨t + N1 + (n - b - 1) * f' + N2 + (d - b) * p', by omega, by omega, ?_, ?_⟩
  · unfold fX9_timeOnB
    rw [sx_B hn.2 hX, ss_B hR hC, hb, hX]
    simp only [Option.bind_some]
    rw [nI_1, x1]
    simp only [Option.bind_some]
    rw [x2]
    simp only [Option.bind_some]
    rw [eb, hx, hf.1, hp.1, hp2, hf2, nI_subI hB, nI_mul, nI_mul, nI_add, nI_add, nI_add, nI_add, Nat.mul_comm f', Nat.mul_comm p']
  · unfold fX12_whenBy
    rw [sy_A hn.2 hY]
    show (if nI (qA (Y 50 0) n 0) ≤ nI d then _ else _) = _
    rw [if_pos ((nI_leI (by omega) (by omega)).mpr hA), sy_B hn.2 hY, hb, hY]
    simp only [Option.bind_some]
    rw [nI_1, y1]
    simp only [Option.bind_some]
    rw [y2]
    simp only [Option.bind_some]
    rw [eb, hy, hp2, hf2, nI_subI hB, nI_mul, nI_mul, nI_add, nI_add, nI_add, nI_add]
end
/-! numbers -/
theorem si_add {a b : Int32} (h1 : -2147483648 ≤ a.toInt + b.toInt) (h2 : a.toInt + b.toInt < 2147483648) : (a + b).toInt = a.toInt + b.toInt := by
  rw [Int32.toInt_add]
  exact Int.bmod_eq_of_le (by omega) (by omega)
theorem si_sub {a b : Int32} (h1 : -2147483648 ≤ a.toInt - b.toInt) (h2 : a.toInt - b.toInt < 2147483648) : (a - b).toInt = a.toInt - b.toInt := by
  rw [Int32.toInt_sub]
  exact Int.bmod_eq_of_le (by omega) (by omega)
theorem si_mul {a b : Int32} (h1 : -2147483648 ≤ a.toInt * b.toInt) (h2 : a.toInt * b.toInt < 2147483648) : (a * b).toInt = a.toInt * b.toInt := by
  rw [Int32.toInt_mul]
  exact Int.bmod_eq_of_le (by omega) (by omega)
theorem si_add64 {a b : Int64} (h1 : -9223372036854775808 ≤ a.toInt + b.toInt) (h2 : a.toInt + b.toInt < 9223372036854775808) : (a + b).toInt = a.toInt + b.toInt := by
  rw [Int64.toInt_add]
  exact Int.bmod_eq_of_le (by omega) (by omega)
theorem si_sub64 {a b : Int64} (h1 : -9223372036854775808 ≤ a.toInt - b.toInt) (h2 : a.toInt - b.toInt < 9223372036854775808) : (a - b).toInt = a.toInt - b.toInt := by
  rw [Int64.toInt_sub]
  exact Int.bmod_eq_of_le (by omega) (by omega)
theorem si_mul64 {a b : Int64} (h1 : -9223372036854775808 ≤ a.toInt * b.toInt) (h2 : a.toInt * b.toInt < 9223372036854775808) : (a * b).toInt = a.toInt * b.toInt := by
  rw [Int64.toInt_mul]
  exact Int.bmod_eq_of_le (by omega) (by omega)
theorem si_div64 {a b : Int64} (hb : 0 < b.toInt) (h1 : -9223372036854775808 < a.toInt) : (a / b).toInt = a.toInt.tdiv b.toInt := by
  rw [Int64.toInt_div]
  have h2 := a.toInt_lt
  have := Int.natAbs_tdiv_le_natAbs a.toInt b.toInt
  exact Int.bmod_eq_of_le (by omega) (by omega)
theorem si_div {a b : Int32} (hb : 0 < b.toInt) (h1 : -2147483648 < a.toInt) : (a / b).toInt = a.toInt.tdiv b.toInt := by
  rw [Int32.toInt_div]
  have h2 := a.toInt_lt
  have := Int.natAbs_tdiv_le_natAbs a.toInt b.toInt
  exact Int.bmod_eq_of_le (by omega) (by omega)
theorem si_sgn (x y : Int32) (hy : 0 ≤ y) : (0 : Int32) ≤ x ^^^ y ↔ 0 ≤ x := by
  have e : ∀ z : Int32, (0 : Int32) ≤ z ↔ z.toBitVec.msb = false := by
    intro z
    rw [BitVec.msb_eq_toInt, Int32.le_iff_toInt_le, Int32.toInt_zero]
    show 0 ≤ z.toBitVec.toInt ↔ _
    rw [decide_eq_false_iff_not]
    omega
  rw [e, e, Int32.toBitVec_xor, BitVec.msb_xor, (e y).mp hy, Bool.xor_false]
/-- a floor out of a quotient toward 0 -/
theorem si_fl (a b : Int) (hb : 0 < b) : a / b = if a.tdiv b * b = a ∨ 0 ≤ a then a.tdiv b else a.tdiv b - 1 := by
  have h1 := Int.mul_tdiv_add_tmod a b
  have h2 : a.tdiv b * b = b * a.tdiv b := Int.mul_comm _ _
  rcases Int.le_total 0 a with h | h
  · rw [if_pos (Or.inr h)]
    exact (Int.tdiv_eq_ediv_of_nonneg h).symm
  · have h3 := tmod_bounds (a := a) hb
    have h5 : a.tmod b ≤ 0 := by
      rw [← Int.neg_neg a, Int.neg_tmod]
      have := Int.tmod_nonneg b (show 0 ≤ -a by omega)
      omega
    by_cases hz : a.tdiv b * b = a ∨ 0 ≤ a
    · rw [if_pos hz]
      have hz2 : a.tdiv b * b = a := by
        rcases hz with q | q
        · exact q
        · have : a = 0 := by omega
          subst this
          simp
      conv => lhs; rw [← hz2]
      exact Int.mul_ediv_cancel _ (by omega)
    · rw [if_neg hz]
      have hne : a.tmod b ≠ 0 := fun q => hz (Or.inl (by omega))
      have e1 : a = (a.tmod b + b) + b * (a.tdiv b - 1) := by
        rw [Int.mul_sub]; omega
      conv => lhs; rw [e1]
      rw [Int.add_mul_ediv_left _ _ (by omega), Int.ediv_eq_zero_of_lt (by omega) (by omega)]
      omega
theorem sx_fdiv {x y : Int32} (hy : 0 < y.toInt) (hy3 : y.toInt ≤ 100000) (h1 : -2000000000 < x.toInt) (h2 : x.toInt < 2000000000) : ∃ z : Int32, fJ9_floorDiv_7cf53 x y = some z ∧ z.toInt = x.toInt / y.toInt := by
  have hd := si_div (a := x) hy (by omega)
  have hb := Int.natAbs_tdiv_le_natAbs x.toInt y.toInt
  have h0 := Int.mul_tdiv_add_tmod x.toInt y.toInt
  have hc : x.toInt.tdiv y.toInt * y.toInt = y.toInt * x.toInt.tdiv y.toInt := Int.mul_comm _ _
  have h3 := tmod_bounds (a := x.toInt) hy
  have hy2 := y.toInt_lt
  have hq : (x / y * y).toInt = x.toInt.tdiv y.toInt * y.toInt := by
    rw [Int32.toInt_mul, hd]
    refine Int.bmod_eq_of_le ?_ ?_ <;> omega
  unfold fJ9_floorDiv_7cf53
  rw [if_pos (pf_nz_iff.mpr (fun h => by rw [h] at hy; exact absurd hy (by decide)))]
  rw [si_fl _ _ hy]
  by_cases hx : (0 : Int32) ≤ x ^^^ y
  · rw [if_pos hx]
    have := (si_sgn x y (by rw [Int32.le_iff_toInt_le]; exact Int.le_of_lt hy)).mp hx
    rw [Int32.le_iff_toInt_le] at this
    have this : (0 : Int) ≤ x.toInt := this
    exact ⟨_, rfl, by rw [hd, if_pos (Or.inr this)]⟩
  · rw [if_neg hx]
    have hx0 : ¬ 0 ≤ x.toInt := fun q => hx ((si_sgn x y (by rw [Int32.le_iff_toInt_le]; exact Int.le_of_lt hy)).mpr (by rw [Int32.le_iff_toInt_le]; exact q))
    by_cases he : x / y * y = x
    · rw [if_pos he]
      refine ⟨_, rfl, ?_⟩
      rw [hd, if_pos (Or.inl (by rw [← hq, he]))]
    · rw [if_neg he]
      refine ⟨_, rfl, ?_⟩
      rw [si_sub (by rw [hd]; show _ ≤ _ - (1 : Int); omega) (by rw [hd]; show _ - (1 : Int) < _; omega), hd, if_neg]
      · rfl
      · rintro (q | q)
        · exact he (Int32.toInt_inj.mp (by rw [hq, q]))
        · exact hx0 q
theorem sx_fmod {x y : Int32} (hy : 0 < y.toInt) (hy3 : y.toInt ≤ 100000) (h1 : -2000000000 < x.toInt) (h2 : x.toInt < 2000000000) : ∃ z : Int32, fJ9_floorMod_7cf53 x y = some z ∧ z.toInt = x.toInt % y.toInt := by
  have hd := si_div (a := x) hy (by omega)
  have hb := Int.natAbs_tdiv_le_natAbs x.toInt y.toInt
  have h0 := Int.mul_tdiv_add_tmod x.toInt y.toInt
  have hc : x.toInt.tdiv y.toInt * y.toInt = y.toInt * x.toInt.tdiv y.toInt := Int.mul_comm _ _
  have h3 := tmod_bounds (a := x.toInt) hy
  have hq : (x / y * y).toInt = x.toInt.tdiv y.toInt * y.toInt := by
    rw [Int32.toInt_mul, hd]
    refine Int.bmod_eq_of_le ?_ ?_ <;> omega
  have hr : (x - x / y * y).toInt = x.toInt.tmod y.toInt := by
    rw [si_sub (by rw [hq]; omega) (by rw [hq]; omega), hq]
    omega
  have hfl := si_fl x.toInt y.toInt hy
  have hem := Int.mul_ediv_add_emod x.toInt y.toInt
  unfold fJ9_floorMod_7cf53
  rw [if_pos (pf_nz_iff.mpr (fun h => by rw [h] at hy; exact absurd hy (by decide)))]
  have hs : 0 ≤ x ^^^ y ↔ (0 : Int) ≤ x.toInt := (si_sgn x y (by rw [Int32.le_iff_toInt_le]; exact Int.le_of_lt hy)).trans Int32.le_iff_toInt_le
  by_cases hx : (0 : Int32) ≤ x ^^^ y
  · rw [if_pos hx]
    have := hs.mp hx
    rw [if_pos (Or.inr this)] at hfl
    refine ⟨_, rfl, ?_⟩
    rw [hr]
    rw [hfl] at hem
    omega
  · rw [if_neg hx]
    have hx0 : ¬ 0 ≤ x.toInt := fun q => hx (hs.mpr q)
    by_cases he : x - x / y * y = 0
    · rw [if_pos he]
      refine ⟨_, rfl, ?_⟩
      have e0 : x.toInt.tmod y.toInt = 0 := by rw [← hr, he]; rfl
      rw [hr]
      rw [if_pos (Or.inl (by omega))] at hfl
      rw [hfl] at hem
      omega
    · rw [if_neg he]
      refine ⟨_, rfl, ?_⟩
      have e0 : ¬ x.toInt.tmod y.toInt = 0 := fun q => he (Int32.toInt_inj.mp (by rw [hr, q]; rfl))
      rw [if_neg (by rintro (q | q) <;> omega)] at hfl
      rw [si_add (by rw [hr]; omega) (by rw [hr]; omega), hr]
      rw [hfl, Int.mul_sub] at hem
      omega
/-! clocks -/
def qO (st r : Int32) (T : Nat) : Int := st.toInt + (T : Int) + ((T : Int) * (r.toInt - 4)) / 100
theorem qO_b {st r : Int32} {T : Nat} (hs : 0 ≤ st ∧ st ≤ 999) (hr : 0 ≤ r ∧ r ≤ 8) (hT : T ≤ 7000000) : 0 ≤ qO st r T ∧ qO st r T ≤ 8000000 ∧ (-28000000 ≤ (T : Int) * (r.toInt - 4) ∧ (T : Int) * (r.toInt - 4) ≤ 28000000) := by
  unfold qO
  rw [Int32.le_iff_toInt_le, Int32.le_iff_toInt_le] at hs hr
  have a1 : ((0 : Int32)).toInt = 0 := rfl
  have a2 : ((999 : Int32)).toInt = 999 := rfl
  have a3 : ((8 : Int32)).toInt = 8 := rfl
  rw [a1, a2] at hs
  rw [a1, a3] at hr
  have m1 : (T : Int) * (-4) ≤ (T : Int) * (r.toInt - 4) := Int.mul_le_mul_of_nonneg_left (by omega) (by omega)
  have m2 : (T : Int) * (r.toInt - 4) ≤ (T : Int) * 4 := Int.mul_le_mul_of_nonneg_left (by omega) (by omega)
  refine ⟨?_, ?_, ?_, ?_⟩ <;> omega
section
variable {X Y : pf_M} {n t : Nat}
theorem sx_own (hD : sD X Y n) {d : Nat} (hd : d < n) {T : Nat} (hT : T ≤ 7000000) : ∃ z : Int32, fX3_ownClock d (nI T) X = some z ∧ z.toInt = qO (Y 48 0 d) (Y 49 0 d) T := by
  obtain ⟨-, ⟨hs, hs1, hs2⟩, hr, hr1, hr2⟩ := hD d hd
  have hb := qO_b ⟨hs1, hs2⟩ ⟨hr1, hr2⟩ hT
  unfold fX3_ownClock
  rw [hs, hr]
  rw [Int32.le_iff_toInt_le] at hs1 hs2 hr1 hr2
  have a1 : ((0 : Int32)).toInt = 0 := rfl
  have a2 : ((999 : Int32)).toInt = 999 := rfl
  have a3 : ((8 : Int32)).toInt = 8 := rfl
  have a4 : ((4 : Int32)).toInt = 4 := rfl
  have a5 : ((100 : Int32)).toInt = 100 := rfl
  rw [a1] at hs1 hr1
  rw [a2] at hs2
  rw [a3] at hr2
  have e4 : (Y 49 0 d - 4).toInt = (Y 49 0 d).toInt - 4 := si_sub (by rw [a4]; omega) (by rw [a4]; omega)
  have eT : (nI T).toInt = (T : Int) := nI_toInt (by omega)
  have eM : (nI T * (Y 49 0 d - 4)).toInt = (T : Int) * ((Y 49 0 d).toInt - 4) := by
    rw [si_mul (by rw [e4, eT]; omega) (by rw [e4, eT]; omega), e4, eT]
  obtain ⟨z, hz, hz2⟩ := sx_fdiv (x := nI T * (Y 49 0 d - 4)) (y := 100) (by decide) (by decide) (by rw [eM]; omega) (by rw [eM]; omega)
  rw [hz]
  rw [eM, a5] at hz2
  have eS : (Y 48 0 d + nI T).toInt = (Y 48 0 d).toInt + T := by
    rw [si_add (by rw [eT]; omega) (by rw [eT]; omega), eT]
  refine ⟨_, rfl, ?_⟩
  rw [si_add (by rw [eS, hz2]; omega) (by rw [eS, hz2]; omega), eS, hz2]
  rfl
theorem sy_own (hD : sD X Y n) (hn : n ≤ 8) {d : Nat} (hd : d < n) {T : Nat} (hT : T ≤ 7000000) : ∃ z : Int64, fX12_ownAt (nI d) (nI T) Y = some z ∧ z.toInt = qO (Y 48 0 d) (Y 49 0 d) T := by
  obtain ⟨-, ⟨hs, hs1, hs2⟩, hr, hr1, hr2⟩ := hD d hd
  have hb := qO_b ⟨hs1, hs2⟩ ⟨hr1, hr2⟩ hT
  unfold fX12_ownAt jX12_ownAt_49
  rw [si_pin2 (by omega) (by decide), if_pos rfl, if_pos rfl, si_cl (by omega)]
  rw [Int32.le_iff_toInt_le] at hs1 hs2 hr1 hr2
  have a1 : ((0 : Int32)).toInt = 0 := rfl
  have a2 : ((999 : Int32)).toInt = 999 := rfl
  have a3 : ((8 : Int32)).toInt = 8 := rfl
  have a4 : ((4 : Int32)).toInt = 4 := rfl
  have a5 : ((100 : Int64)).toInt = 100 := rfl
  have a6 : ((1 : Int64)).toInt = 1 := rfl
  rw [a1] at hs1 hr1
  rw [a2] at hs2
  rw [a3] at hr2
  have e4 : (Y 49 0 d - 4).toInt = (Y 49 0 d).toInt - 4 := si_sub (by rw [a4]; omega) (by rw [a4]; omega)
  have eT : (nI T).toInt = (T : Int) := nI_toInt (by omega)
  have eM : ((nI T).toInt64 * (Y 49 0 d - 4).toInt64).toInt = (T : Int) * ((Y 49 0 d).toInt - 4) := by
    rw [si_mul64 (by rw [Int32.toInt_toInt64, Int32.toInt_toInt64, e4, eT]; omega) (by rw [Int32.toInt_toInt64, Int32.toInt_toInt64, e4, eT]; omega), Int32.toInt_toInt64, Int32.toInt_toInt64, e4, eT]
  generalize hx : (nI T).toInt64 * (Y 49 0 d - 4).toInt64 = x at eM
  have eS : ((Y 48 0 d + nI T).toInt64).toInt = (Y 48 0 d).toInt + T := by
    rw [Int32.toInt_toInt64, si_add (by rw [eT]; omega) (by rw [eT]; omega), eT]
  have hdv : (x / 100).toInt = x.toInt.tdiv 100 := si_div64 (b := 100) (by decide) (by rw [eM]; omega)
  have hfl := si_fl x.toInt 100 (by omega)
  have h0 := Int.mul_tdiv_add_tmod x.toInt 100
  have h3 := tmod_bounds (a := x.toInt) (M := 100) (by omega)
  have hmu : (x / 100 * 100).toInt = x.toInt.tdiv 100 * 100 := by
    rw [si_mul64 (by rw [hdv, a5]; omega) (by rw [hdv, a5]; omega), hdv, a5]
  simp only [si_cmp_le, Int64.lt_iff_toInt_lt, hmu]
  unfold qO
  rw [← eM]
  have hsg : 0 ≤ x.toInt → 0 ≤ x.toInt.tmod 100 := fun q => Int.tmod_nonneg 100 q
  have hsg2 : x.toInt ≤ 0 → x.toInt.tmod 100 ≤ 0 := fun q => by
    rw [← Int.neg_neg x.toInt, Int.neg_tmod]
    have := Int.tmod_nonneg 100 (show 0 ≤ -x.toInt by omega)
    omega
  by_cases hc : x.toInt < x.toInt.tdiv 100 * 100
  · rw [if_neg (fun h => h hc)]
    rw [if_neg (by rintro (q | q) <;> omega)] at hfl
    have hd1 : (x / 100 - 1).toInt = x.toInt.tdiv 100 - 1 := by
      rw [si_sub64 (by rw [hdv, a6]; omega) (by rw [hdv, a6]; omega), hdv, a6]
    refine ⟨_, rfl, ?_⟩
    rw [si_add64 (by rw [eS, hd1]; omega) (by rw [eS, hd1]; omega), eS, hd1, hfl]
  · rw [if_pos hc]
    rw [if_pos (by omega)] at hfl
    refine ⟨_, rfl, ?_⟩
    rw [si_add64 (by rw [eS, hdv]; omega) (by rw [eS, hdv]; omega), eS, hdv, hfl]
end
theorem pf_upf_up (M : pf_M) (k i j : Nat) (g : Nat → Int32) (v : Int32) : pf_up (pf_upf M k i g) k i j v = pf_upf M k i (upd g j v) := by
  funext k' i'
  unfold pf_up pf_upf
  by_cases h : k' = k ∧ i' = i
  · rw [if_pos h, if_pos h, if_pos ⟨rfl, rfl⟩]
  · rw [if_neg h, if_neg h, if_neg h]
theorem pf_up_up (M : pf_M) (k i j j' : Nat) (v v' : Int32) : pf_up (pf_up M k i j v) k i j' v' = pf_upf M k i (upd (upd (M k i) j v) j' v') := pf_upf_up M k i j' _ v'
theorem pf_up4 (M : pf_M) (k i a b c d : Nat) (v1 v2 v3 v4 : Int32) : pf_up (pf_up (pf_up (pf_up M k i a v1) k i b v2) k i c v3) k i d v4 = pf_upf M k i (upd (upd (upd (upd (M k i) a v1) b v2) c v3) d v4) := by
  rw [pf_up_upf M k i a v1, pf_upf_up, pf_upf_up, pf_upf_up]
theorem pf_upf_upf (M : pf_M) (k i : Nat) (g g' : Nat → Int32) : pf_upf (pf_upf M k i g) k i g' = pf_upf M k i g' := by
  funext k' i'
  unfold pf_upf
  by_cases h : k' = k ∧ i' = i
  · rw [if_pos h, if_pos h]
  · rw [if_neg h, if_neg h, if_neg h]
theorem pf_upf_s (M : pf_M) (k i : Nat) (g : Nat → Int32) : pf_upf M k i g k i = g := by
  unfold pf_upf
  rw [if_pos ⟨rfl, rfl⟩]
theorem pf_upf_n (M : pf_M) (k i i' : Nat) (g : Nat → Int32) (h : i' ≠ i) : pf_upf M k i g k i' = M k i' := by
  unfold pf_upf
  rw [if_neg (fun q => h q.2)]
theorem pf_up_s (M : pf_M) (k i j : Nat) (v : Int32) : pf_up M k i j v k i j = v := by
  unfold pf_up upd
  rw [if_pos ⟨rfl, rfl⟩, if_pos rfl]
theorem pf_up_j (M : pf_M) (k i j j' : Nat) (v : Int32) (h : j' ≠ j) : pf_up M k i j v k i j' = M k i j' := by
  unfold pf_up upd
  rw [if_pos ⟨rfl, rfl⟩, if_neg h]
theorem pf_up_i (M : pf_M) (k i i' j : Nat) (v : Int32) (h : i' ≠ i) : pf_up M k i j v k i' = M k i' := by
  unfold pf_up
  rw [if_neg (fun q => h q.2)]
theorem upd_s (g : Nat → Int32) (j : Nat) (v : Int32) : upd g j v j = v := by simp [upd]
theorem upd_n (g : Nat → Int32) {j j' : Nat} (v : Int32) (h : j' ≠ j) : upd g j v j' = g j' := by simp [upd, h]
section
variable {X Y : pf_M} {n t k : Nat}
theorem sO.b (hO : sO X Y n k) (hk : k ≤ 600) {d : Nat} (hd : d < n) : X 11 d 8 = Y 53 0 d ∧ -2000000 ≤ (Y 53 0 d).toInt ∧ (Y 53 0 d).toInt ≤ 2000000 := ⟨(hO d hd).1, by have := (hO d hd).2.1; omega, by have := (hO d hd).2.2; omega⟩
theorem sD.b (hD : sD X Y n) {d : Nat} (hd : d < n) {T : Nat} (hT : T ≤ 7000000) : 0 ≤ qO (Y 48 0 d) (Y 49 0 d) T ∧ qO (Y 48 0 d) (Y 49 0 d) T ≤ 8000000 := by
  obtain ⟨-, ⟨hs, hs1, hs2⟩, hr, hr1, hr2⟩ := hD d hd
  have := qO_b ⟨hs1, hs2⟩ ⟨hr1, hr2⟩ hT
  exact ⟨this.1, this.2.1⟩
theorem sx_sys (hD : sD X Y n) (hO : sO X Y n k) (hk : k ≤ 600) {d : Nat} (hd : d < n) {T : Nat} (hT : T ≤ 7000000) : ∃ z : Int32, fX3_systemClock d (nI T) X = some z ∧ z.toInt = qO (Y 48 0 d) (Y 49 0 d) T + (Y 53 0 d).toInt := by
  obtain ⟨z, h1, h2⟩ := sx_own hD hd hT
  have hb := hD.b hd hT
  have ho := hO.b hk hd
  unfold fX3_systemClock
  rw [h1, ho.1]
  refine ⟨_, rfl, ?_⟩
  rw [si_add (by omega) (by omega), h2]
theorem sy_sys (hD : sD X Y n) (hn : n ≤ 8) (hO : sO X Y n k) (hk : k ≤ 600) {d : Nat} (hd : d < n) {T : Nat} (hT : T ≤ 7000000) : ∃ z : Int64, fX12_systemAt (nI d) (nI T) Y = some z ∧ z.toInt = qO (Y 48 0 d) (Y 49 0 d) T + (Y 53 0 d).toInt := by
  obtain ⟨z, h1, h2⟩ := sy_own hD hn hd hT
  have hb := hD.b hd hT
  have ho := hO.b hk hd
  unfold fX12_systemAt
  rw [h1]
  show ∃ z', (if pf_in (nI d) 8 = true then _ else _) = some z' ∧ _
  rw [si_pin2 (by omega) (by decide), if_pos rfl, si_cl (by omega)]
  refine ⟨_, rfl, ?_⟩
  rw [si_add64 (by rw [Int32.toInt_toInt64]; omega) (by rw [Int32.toInt_toInt64]; omega), h2, Int32.toInt_toInt64]
def qM (Y : pf_M) (d T : Nat) : Int32 := Int32.ofInt ((qO (Y 48 0 d) (Y 49 0 d) T + (Y 53 0 d).toInt) % 65536)
theorem si_ofInt {z : Int} (h1 : 0 ≤ z) (h2 : z < 65536) : (Int32.ofInt z).toInt = z := by
  rw [Int32.toInt_ofInt, show Int32.size = 4294967296 from rfl]
  exact Int.bmod_eq_of_le (by omega) (by omega)
/-- a byte of a device at a time -/
def qV (Y : pf_M) (d T b : Nat) : Int32 := match b with
  | 0 => Y 46 0 d
  | 1 => Y 51 0 d
  | 2 => qM Y d T - qM Y d T / 256 * 256
  | 3 => qM Y d T / 256
  | b => Y 52 0 (16 * d + b)
theorem sx_show (hD : sD X Y n) (hO : sO X Y n k) (hk : k ≤ 600) (hS : sS X Y n) (hB : sB X Y n) {d : Nat} (hd : d < n) {T : Nat} (hT : T ≤ 7000000) : ∃ g : Nat → Int32, fX3_showAt d (nI T) X = some (pf_upf X 12 d g) ∧ ∀ b, b < 16 → g b = qV Y d T b := by
  obtain ⟨z, h1, h2⟩ := sx_sys hD hO hk hd hT
  have hb := hD.b hd hT
  have ho := hO.b hk hd
  obtain ⟨m, h3, h4⟩ := sx_fmod (x := z) (y := 65536) (by decide +kernel) (by decide +kernel) (by omega) (by omega)
  have hm : m = qM Y d T := by
    apply Int32.toInt_inj.mp
    unfold qM
    rw [h4, h2, si_ofInt]
    · rfl
    · exact Int.emod_nonneg _ (by decide)
    · exact Int.emod_lt_of_pos _ (by decide)
  unfold fX3_showAt
  rw [h1]
  simp only [Option.bind_some]
  rw [h3]
  simp only [Option.bind_some]
  rw [hm, pf_up4]
  refine ⟨_, rfl, fun b hb2 => ?_⟩
  have e0 : (0 : Int32).toNatClampNeg = 0 := by decide
  have e1 : (1 : Int32).toNatClampNeg = 1 := by decide
  have e2 : (2 : Int32).toNatClampNeg = 2 := by decide
  have e3 : (3 : Int32).toNatClampNeg = 3 := by decide
  rw [e0, e1, e2, e3]
  have q7 : pf_up X 12 d 0 (X 11 d 4) 11 d 7 = X 11 d 7 := rfl
  rw [q7, (hS d hd).1, (hD d hd).1.1]
  unfold qV
  match b, hb2 with
  | 0, _ => rfl
  | 1, _ => rfl
  | 2, _ => rfl
  | 3, _ => rfl
  | b + 4, hb2 =>
    rw [upd_n _ _ (by omega), upd_n _ _ (by omega), upd_n _ _ (by omega), upd_n _ _ (by omega)]
    exact hB d hd (b + 4) (by omega) hb2
theorem sy_byte (hD : sD X Y n) (hn : n ≤ 8) (hO : sO X Y n k) (hk : k ≤ 600) {d : Nat} (hd : d < n) {T : Nat} (hT : T ≤ 7000000) {b : Nat} (hb16 : b < 16) : fX12_byteAt (nI d) (nI b) (nI T) Y = some (qV Y d T b) := by
  obtain ⟨z, h1, h2⟩ := sy_sys hD hn hO hk hd hT
  have hb := hD.b hd hT
  have ho := hO.b hk hd
  have a5 : ((65536 : Int64)).toInt = 65536 := rfl
  have a0 : ((0 : Int64)).toInt = 0 := rfl
  have hdv : (z / 65536).toInt = z.toInt.tdiv 65536 := si_div64 (b := 65536) (by decide) (by omega)
  have h0 := Int.mul_tdiv_add_tmod z.toInt 65536
  have h3 := tmod_bounds (a := z.toInt) (M := 65536) (by omega)
  have hmu : (z / 65536 * 65536).toInt = z.toInt.tdiv 65536 * 65536 := by
    rw [si_mul64 (by rw [hdv, a5]; omega) (by rw [hdv, a5]; omega), hdv, a5]
  have hr : (z - z / 65536 * 65536).toInt = z.toInt.tmod 65536 := by
    rw [si_sub64 (by rw [hmu]; omega) (by rw [hmu]; omega), hmu]
    omega
  have hem := Int.mul_ediv_add_emod z.toInt 65536
  have hem1 := Int.emod_nonneg z.toInt (show (65536 : Int) ≠ 0 by decide)
  have hem2 := Int.emod_lt_of_pos z.toInt (show (0 : Int) < 65536 by decide)
  unfold fX12_byteAt
  rw [h1]
  simp only [Option.bind_some, si_cmp_ge, Int64.lt_iff_toInt_lt]
  have key : ∀ u : Int64, u.toInt = z.toInt % 65536 → jX12_byteAt_30 (nI d) (nI b) Y u = some (qV Y d T b) := by
    intro u hu
    have hu2 : u.toInt32 = qM Y d T := by
      apply Int32.toInt_inj.mp
      unfold qM
      rw [Int64.toInt_toInt32, hu, h2, si_ofInt (by rw [← h2]; exact hem1) (by rw [← h2]; exact hem2)]
      rw [← h2]
      exact Int.bmod_eq_of_le (by omega) (by omega)
    unfold jX12_byteAt_30
    rw [si_pin2 (by omega) (by decide), si_cl (by omega), hu2]
    have e16 : (16 : Int32) * nI d + nI b = nI (16 * d + b) := by
      rw [show (16 : Int32) = nI 16 from rfl, nI_mul, nI_add]
    rw [e16, si_pin2 (by omega) (by decide), si_cl (by omega)]
    have eqb : ∀ c : Nat, c < 100 → (nI b = nI c ↔ b = c) := fun c hc => nI_eq (by omega) (by omega)
    have c0 := eqb 0 (by omega)
    have c1 := eqb 1 (by omega)
    have c2 := eqb 2 (by omega)
    have c3 := eqb 3 (by omega)
    simp only [show (0 : Int32) = nI 0 from rfl, show (1 : Int32) = nI 1 from rfl, show (2 : Int32) = nI 2 from rfl, show (3 : Int32) = nI 3 from rfl, c0, c1, c2, c3]
    unfold qV
    match b, hb16 with
    | 0, _ => rfl
    | 1, _ => rfl
    | 2, _ => rfl
    | 3, _ => rfl
    | b + 4, _ => rfl
  by_cases hc : (z - z / 65536 * 65536).toInt < (0 : Int64).toInt
  · rw [if_neg (fun h => h hc)]
    rw [hr, a0] at hc
    refine key _ ?_
    rw [si_add64 (by rw [hr, a5]; omega) (by rw [hr, a5]; omega), hr, a5]
    omega
  · rw [if_pos hc]
    rw [hr, a0] at hc
    exact key _ (by rw [hr]; omega)
end
