def sv (a : Int32) (b : Int64) : Prop := a.toInt = b.toInt ∧ -12000000 ≤ a.toInt ∧ a.toInt ≤ 12000000
section
variable {X Y : pf_M} {n t k : Nat}
theorem si_tt (T : Nat) : ((T : Int)) = T := rfl
theorem ss_sys (hD : sD X Y n) (hn : n ≤ 8) (hO : sO X Y n k) (hk : k ≤ 600) {d : Nat} (hd : d < n) {T : Nat} (hT : T ≤ 7000000) : ∃ (a : Int32) (b : Int64), fX3_systemClock d (nI T) X = some a ∧ fX12_systemAt (nI d) (nI T) Y = some b ∧ sv a b := by
  obtain ⟨c, c1, c2⟩ := sx_sys hD hO hk hd hT
  obtain ⟨e, e1, e2⟩ := sy_sys hD hn hO hk hd hT
  have hb := hD.b hd hT
  have ho := hO.b hk hd
  exact ⟨c, e, c1, e1, c2.trans e2.symm, by omega, by omega⟩
theorem ss_apartL {T : Nat} (hT : T ≤ 7000000) (hR : sR X Y n T) (hD : sD X Y n) (hO : sO X Y n k) (hk : k ≤ 600) (kx : Int32 → Int32 → Option Int32) (ky : Int64 → Int64 → Option Int32) : ∀ (m i f g : Nat) (a1 a2 : Int32) (b1 b2 : Int64), i + m = n → m < f → m < g → sv a1 b1 → sv a2 b2 →
    ∃ c1 c2 e1 e2, lX1_spread_24 X kx f a1 a2 (nI i) = kx c1 c2 ∧ lX12_apart_15 Y ky g b1 b2 (nI i) = ky e1 e2 ∧ sv c1 e1 ∧ sv c2 e2 := by
  obtain ⟨hn, ⟨hX, hY⟩, -, -, hx, hy⟩ := id hR
  intro m
  induction m with
  | zero =>
    intro i f g a1 a2 b1 b2 hi hf hg h1 h2
    obtain ⟨f, rfl⟩ : ∃ g, f = g + 1 := ⟨f - 1, by omega⟩
    obtain ⟨g, rfl⟩ : ∃ f, g = f + 1 := ⟨g - 1, by omega⟩
    unfold lX1_spread_24 lX12_apart_15 fX9_size
    rw [hX, hY, if_pos ((nI_leI (by omega) (by omega)).mpr (by omega)), if_pos ((nI_leI (by omega) (by omega)).mpr (by omega))]
    exact ⟨_, _, _, _, rfl, rfl, h1, h2⟩
  | succ m ih =>
    intro i f g a1 a2 b1 b2 hi hf hg h1 h2
    obtain ⟨f, rfl⟩ : ∃ g, f = g + 1 := ⟨f - 1, by omega⟩
    obtain ⟨g, rfl⟩ : ∃ f, g = f + 1 := ⟨g - 1, by omega⟩
    obtain ⟨r, r', w1, w2, w3⟩ := ss_sys hD hn.2 hO hk (show i < n by omega) hT
    have hni : ¬ nI n ≤ nI i := fun w => by have := (nI_leI (by omega) (by omega)).mp w; omega
    rw [lX1_spread_24, lX12_apart_15]
    unfold fX9_size fX9_time jX12_apart_49 jX12_apart_63
    simp only [hX, hY, if_neg hni, si_pin2 (show i < 8 by omega) (by decide), if_true, si_cl (show i < 2 ^ 31 by omega), hx, hy, w1, w2, Option.bind_some, nI_1]
    have g1 : sv (fJ9_min_7cf53 a1 r) (if 0 ≤ lg_cmp r' b1 then b1 else r') := by
      unfold fJ9_min_7cf53
      by_cases h : r < a1
      · rw [if_pos h, if_neg]
        · exact w3
        · rw [si_cmp_ge, Decidable.not_not, Int64.lt_iff_toInt_lt, ← w3.1, ← h1.1]
          exact Int32.lt_iff_toInt_lt.mp h
      · rw [if_neg h, if_pos]
        · exact h1
        · rw [si_cmp_ge, Int64.lt_iff_toInt_lt, ← w3.1, ← h1.1]
          exact fun w => h (Int32.lt_iff_toInt_lt.mpr w)
    have g2 : sv (fJ9_max_7cf53 a2 r) (if lg_cmp r' b2 ≤ 0 then b2 else r') := by
      unfold fJ9_max_7cf53
      by_cases h : a2 < r
      · rw [if_pos h, if_neg]
        · exact w3
        · rw [si_cmp_le, Decidable.not_not, Int64.lt_iff_toInt_lt, ← w3.1, ← h2.1]
          exact Int32.lt_iff_toInt_lt.mp h
      · rw [if_neg h, if_pos]
        · exact h2
        · rw [si_cmp_le, Int64.lt_iff_toInt_lt, ← w3.1, ← h2.1]
          exact fun w => h (Int32.lt_iff_toInt_lt.mpr w)
    obtain ⟨c1, c2, e1, e2, q1, q2, q3⟩ := ih (i + 1) f g _ _ _ _ (by omega) (by omega) (by omega) g1 g2
    refine ⟨c1, c2, e1, e2, q1, Eq.trans ?_ q2, q3⟩
    split <;> split <;> rfl
theorem sc_apart (h : sRR X Y k) (hk : k ≤ 512) : simP (fX11_apart X) (fX12_apart Y) := by
  obtain ⟨n, t, h⟩ := h
  obtain ⟨ht, hT, hR, hW, hC, hD, hS, hO, hL, hr⟩ := id h
  obtain ⟨hn, ⟨hX, hY⟩, -, -, hx, hy⟩ := id hR
  unfold fX11_apart fX12_apart fX1_spread
  obtain ⟨r, r', w1, w2, w3⟩ := ss_sys hD hn.2 hO (show k ≤ 600 by omega) (show 0 < n by omega) (T := t) (by omega)
  obtain ⟨c1, c2, e1, e2, q1, q2, q3, q4⟩ := ss_apartL (T := t) (by omega) hR hD hO (show k ≤ 600 by omega) (fun u6_e24_1 u6_e24_2 => some (u6_e24_2 - u6_e24_1)) (fun u5_e15_1 u5_e15_3 => some ((u5_e15_3 - u5_e15_1).toInt32)) (n - 1) 1 pf_fu pf_fu r r r' r' (by omega) (by unfold pf_fu; omega) (by unfold pf_fu; omega) w3 w3
  unfold fX9_time
  have w1' : fX3_systemClock ((0 : Int32).toNatClampNeg) (nI t) X = some r := w1
  have w2' : fX12_systemAt 0 (nI t) Y = some r' := w2
  have q1' : lX1_spread_24 X (fun u6_e24_1 u6_e24_2 => some (u6_e24_2 - u6_e24_1)) pf_fu r r 1 = some (c2 - c1) := q1
  have q2' : lX12_apart_15 Y (fun u5_e15_1 u5_e15_3 => some ((u5_e15_3 - u5_e15_1).toInt32)) pf_fu r' r' 1 = some ((e2 - e1).toInt32) := q2
  rw [hx, hy, w1', w2', Option.bind_some, Option.bind_some, q1', q2', Option.bind_some]
  refine ⟨_, rfl, congrArg some ?_⟩
  unfold sv at q3 q4
  exact si_t32 (v := c2.toInt - c1.toInt) (si_sub (by omega) (by omega)) (by rw [si_sub64 (by omega) (by omega)]; omega)
theorem sN.off (h : sN X Y n t k) {d : Nat} {v : Int32} (hv : -((1000000 + 100 * k : Nat) : Int) ≤ v.toInt ∧ v.toInt ≤ ((1000000 + 100 * k : Nat) : Int)) : sN (pf_up X 11 d 8 v) (pf_up Y 53 0 d v) n t k := by
  obtain ⟨ht, hT, hR, hW, hC, hD, hS, hO, hL, hr⟩ := h
  have e : ∀ i j, j ≠ 8 → pf_up X 11 d 8 v 11 i j = X 11 i j := fun i j hj => by rw [pf_up_v, if_neg (fun w => hj w.2)]
  refine ⟨ht, hT, hR, hW, hC, ?_, ?_, ?_, ?_, hr⟩
  · intro i hi
    rw [e i 4 (by decide), e i 5 (by decide), e i 6 (by decide)]
    exact hD i hi
  · intro i hi
    rw [e i 7 (by decide)]
    exact hS i hi
  · intro i hi
    by_cases hid : i = d
    · subst hid
      rw [pf_up_s, pf_up_s]
      exact ⟨rfl, hv⟩
    · rw [pf_up_i _ _ _ _ _ _ hid, pf_up_j _ _ _ _ _ _ hid]
      exact hO i hi
  · intro i hi
    rw [e i 9 (by decide)]
    exact hL i hi
theorem sN.mono (h : sN X Y n t k) {k' : Nat} (hk : k ≤ k') : sN X Y n t k' := by
  obtain ⟨ht, hT, hR, hW, hC, hD, hS, hO, hr⟩ := h
  exact ⟨by omega, hT, hR, hW, hC, hD, hS, hO.mono hk, hr⟩
theorem si_64 (x : Int32) : x.toInt64.toInt = x.toInt := Int32.toInt_toInt64 x
theorem si_neg {a : Int32} (h : -2147483648 < a.toInt) : (-a).toInt = -a.toInt := by
  have h2 := a.toInt_lt
  have e : -a = 0 - a := by grind
  rw [e, si_sub (by have : ((0 : Int32)).toInt = 0 := rfl; omega) (by have : ((0 : Int32)).toInt = 0 := rfl; omega)]
  have : ((0 : Int32)).toInt = 0 := rfl
  omega
theorem si_neg64 {a : Int64} (h : -2147483648 < a.toInt) (h2 : a.toInt < 2147483648) : (-a).toInt = -a.toInt := by
  have e : -a = 0 - a := by grind
  have e0 : ((0 : Int64)).toInt = 0 := rfl
  rw [e, si_sub64 (by omega) (by omega)]
  omega
/-- how far a clock is put right -/
theorem ss_right {x1 d : Int32} {d' : Int64} (hx : 1 ≤ x1 ∧ x1 ≤ 99) (hd : d.toInt = d'.toInt) (hb : -100000000 ≤ d.toInt ∧ d.toInt ≤ 100000000) :
    ∃ a' : Int64, (if 0 ≤ lg_cmp d' 0 then d' else -d') = a' ∧ (fJ9_abs_0f7a4 d).toInt = a'.toInt ∧ 0 ≤ a'.toInt ∧ a'.toInt ≤ 100000000 ∧
      ∃ c' : Int64, (if lg_cmp a' x1.toInt64 ≤ 0 then a' else x1.toInt64) = c' ∧ (fJ9_max_7cf53 (-x1) (fJ9_min_7cf53 x1 d)) = (if 0 ≤ lg_cmp d' 0 then c'.toInt32 else -c'.toInt32) ∧ -99 ≤ (fJ9_max_7cf53 (-x1) (fJ9_min_7cf53 x1 d)).toInt ∧ (fJ9_max_7cf53 (-x1) (fJ9_min_7cf53 x1 d)).toInt ≤ 99 := by
  rw [Int32.le_iff_toInt_le, Int32.le_iff_toInt_le] at hx
  have a1 : ((1 : Int32)).toInt = 1 := rfl
  have a2 : ((99 : Int32)).toInt = 99 := rfl
  have a0 : ((0 : Int32)).toInt = 0 := rfl
  have b0 : ((0 : Int64)).toInt = 0 := rfl
  rw [a1, a2] at hx
  have n1 : (-x1).toInt = -x1.toInt := si_neg (by omega)
  have n2 : (-d).toInt = -d.toInt := si_neg (by omega)
  have n3 : (-d').toInt = -d'.toInt := si_neg64 (by omega) (by omega)
  refine ⟨_, rfl, ?_⟩
  unfold fJ9_abs_0f7a4
  have e1 : (0 ≤ lg_cmp d' 0) ↔ 0 ≤ d.toInt := by rw [si_cmp_ge, Int64.lt_iff_toInt_lt, b0, ← hd]; omega
  have e2 : (0 : Int32) ≤ d ↔ 0 ≤ d.toInt := Int32.le_iff_toInt_le
  have e3 : ∀ a : Int64, (lg_cmp a x1.toInt64 ≤ 0) ↔ a.toInt ≤ x1.toInt := fun a => by rw [si_cmp_le, Int64.lt_iff_toInt_lt, si_64]; omega
  by_cases h0 : 0 ≤ d.toInt
  · rw [if_pos (e1.mpr h0), if_pos (e2.mpr h0)]
    refine ⟨hd, by omega, by omega, _, rfl, ?_⟩
    rw [if_pos (e1.mpr h0)]
    have : fJ9_max_7cf53 (-x1) (fJ9_min_7cf53 x1 d) = if d < x1 then d else x1 := by
      unfold fJ9_max_7cf53 fJ9_min_7cf53
      rw [if_pos]
      rw [Int32.lt_iff_toInt_lt, n1]
      split <;> omega
    rw [this]
    by_cases h1 : d.toInt ≤ x1.toInt
    · rw [if_pos ((e3 d').mpr (by omega))]
      by_cases h2 : d < x1
      · rw [if_pos h2]
        exact ⟨(si_t32 rfl hd.symm).symm, by omega, by rw [Int32.lt_iff_toInt_lt] at h2; omega⟩
      · rw [if_neg h2]
        rw [Int32.lt_iff_toInt_lt] at h2
        exact ⟨(si_t32 (v := x1.toInt) rfl (by omega)).symm, by omega, by omega⟩
    · rw [if_neg (fun w => by rw [Int32.lt_iff_toInt_lt] at w; omega), if_neg (fun w => h1 (by have := (e3 d').mp w; omega))]
      exact ⟨(si_t32 rfl (si_64 x1)).symm, by omega, by omega⟩
  · rw [if_neg (fun w => h0 (e1.mp w)), if_neg (fun w => h0 (e2.mp w))]
    refine ⟨by omega, by omega, by omega, _, rfl, ?_⟩
    rw [if_neg (fun w => h0 (e1.mp w))]
    have : fJ9_max_7cf53 (-x1) (fJ9_min_7cf53 x1 d) = if -x1 < d then d else -x1 := by
      unfold fJ9_max_7cf53 fJ9_min_7cf53
      have : d < x1 := by rw [Int32.lt_iff_toInt_lt]; omega
      rw [if_pos this]
    rw [this]
    by_cases h1 : (-d').toInt ≤ x1.toInt
    · rw [if_pos ((e3 _).mpr h1)]
      have q : (-d').toInt32 = -d := si_t32 n2 (by omega)
      rw [q]
      by_cases h2 : -x1 < d
      · rw [if_pos h2]
        exact ⟨by grind, by rw [Int32.lt_iff_toInt_lt] at h2; omega, by omega⟩
      · rw [if_neg h2]
        rw [Int32.lt_iff_toInt_lt] at h2
        have : d = -x1 := by rw [← Int32.toInt_inj]; omega
        exact ⟨by rw [this]; grind, by omega, by omega⟩
    · rw [if_neg (fun w => h1 ((e3 _).mp w)), if_neg (fun w => by rw [Int32.lt_iff_toInt_lt] at w; omega)]
      rw [si_t32 (a := x1) rfl (si_64 x1)]
      exact ⟨rfl, by omega, by omega⟩
end
