def fX12_sideOf (x1 : Int32) (M : pf_M) : Option (Int32) :=
  ((fX12_sideA M).bind fun r3 => (if r3 ≤ x1 then ((fX12_firstB M).bind fun r4 => (if x1 < r4 then some (0 : Int32)
  else some (2 : Int32)))
  else some (1 : Int32)))
set_option maxRecDepth 4000 in
theorem c_X12_sideOf (G : pf_G) (x1 : Int32) (M : pf_M) (q : Int32) (h : fX12_sideOf x1 M = some q) : pf_Met G yX12_sideOf cX12_sideOf 2 (some .int) 1 21 [pf_R 40 0, pf_I x1] M (some (pf_I q)) M := by
  refine pf_Met.of (by decide +kernel) (Nat.le_of_ble_eq_true rfl) (fun K R => ?_)
  show K 0 [pf_R 40 0, pf_I x1] [] M
  unfold fX12_sideOf at h
  refine r_iload_n R 1 dX12_sideOf_0 rfl rfl ?_
  refine r_aload_n R 2 dX12_sideOf_1 rfl rfl ?_
  obtain ⟨r3, hr3, h⟩ := pf_bd h
  refine r_cvI0 R 5 dX12_sideOf_2 rfl lk_X12_209 rfl (c_X12_sideA G M _ hr3) rfl rfl rfl ?_
  refine r_icmp_ge R 8 12 dX12_sideOf_5 rfl (by decide) (fun hc => ?_) (fun hc => ?_)
  · have h := pf_ifp hc h
    refine r_iload_n R 13 dX12_sideOf_12 rfl rfl ?_
    refine r_aload_n R 14 dX12_sideOf_13 rfl rfl ?_
    obtain ⟨r4, hr4, h⟩ := pf_bd h
    refine r_cvI0 R 17 dX12_sideOf_14 rfl lk_X12_212 rfl (c_X12_firstB G M _ hr4) rfl rfl rfl ?_
    refine r_icmp_lt R 20 24 dX12_sideOf_17 rfl (by decide) (fun hc => ?_) (fun hc => ?_)
    · have h := pf_ifp hc h
      refine r_iconst R 25 dX12_sideOf_24 rfl ic_iconst_0 ?_
      obtain rfl := Option.some.inj h
      exact r_ireturn R dX12_sideOf_25 rfl rfl rfl rfl
    · have h := pf_ifn hc h
      refine r_iconst R 21 dX12_sideOf_20 rfl ic_iconst_2 ?_
      refine r_goto R 25 dX12_sideOf_21 (by decide) ?_
      obtain rfl := Option.some.inj h
      exact r_ireturn R dX12_sideOf_25 rfl rfl rfl rfl
  · have h := pf_ifn hc h
    refine r_iconst R 9 dX12_sideOf_8 rfl ic_iconst_1 ?_
    refine r_goto R 25 dX12_sideOf_9 (by decide) ?_
    obtain rfl := Option.some.inj h
    exact r_ireturn R dX12_sideOf_25 rfl rfl rfl rfl
def fX12_isTalkedTo (x1 : Int32) (M : pf_M) : Option (Int32) :=
  ((fX12_sideOf x1 M).bind fun r3 => (if r3 ≤ (0 : Int32) then some (0 : Int32)
  else (if pf_in x1 8 = true then (if (M 51 0 x1.toNatClampNeg) ≤ (0 : Int32) then some (0 : Int32)
  else some (1 : Int32))
  else none)))
set_option maxRecDepth 4000 in
theorem c_X12_isTalkedTo (G : pf_G) (x1 : Int32) (M : pf_M) (q : Int32) (h : fX12_isTalkedTo x1 M = some q) : pf_Met G yX12_isTalkedTo cX12_isTalkedTo 2 (some .boolean) 2 42 [pf_R 40 0, pf_I x1] M (some (pf_I q)) M := by
  refine pf_Met.of (by decide +kernel) (Nat.le_of_ble_eq_true rfl) (fun K R => ?_)
  show K 0 [pf_R 40 0, pf_I x1] [] M
  unfold fX12_isTalkedTo at h
  refine r_aload_n R 1 dX12_isTalkedTo_0 rfl rfl ?_
  refine r_iload_n R 2 dX12_isTalkedTo_1 rfl rfl ?_
  obtain ⟨r3, hr3, h⟩ := pf_bd h
  refine r_cvI1 R 5 dX12_isTalkedTo_2 rfl lk_X12_242 rfl (c_X12_sideOf G x1 M _ hr3) rfl rfl rfl ?_
  refine r_if_le R 8 21 dX12_isTalkedTo_5 rfl (by decide) (fun hc => ?_) (fun hc => ?_)
  · have h := pf_ifp hc h
    refine r_iconst R 22 dX12_isTalkedTo_21 rfl ic_iconst_0 ?_
    obtain rfl := Option.some.inj h
    exact r_ireturn R dX12_isTalkedTo_22 rfl rfl rfl rfl
  · have h := pf_ifn hc h
    refine r_aload_n R 9 dX12_isTalkedTo_8 rfl rfl ?_
    refine r_getfield R 12 dX12_isTalkedTo_9 rfl fl_X12_40 rfl (show _ = pf_R 51 0 from rfl) ?_
    refine r_iload_n R 13 dX12_isTalkedTo_12 rfl rfl ?_
    obtain ⟨hi4, h⟩ := pf_gd h
    refine r_iaload R 14 dX12_isTalkedTo_13 rfl ⟨rfl, rfl⟩ (pf_in_iff.mp hi4) ?_
    refine r_if_le R 17 21 dX12_isTalkedTo_14 rfl (by decide) (fun hc => ?_) (fun hc => ?_)
    · have h := pf_ifp hc h
      refine r_iconst R 22 dX12_isTalkedTo_21 rfl ic_iconst_0 ?_
      obtain rfl := Option.some.inj h
      exact r_ireturn R dX12_isTalkedTo_22 rfl rfl rfl rfl
    · have h := pf_ifn hc h
      refine r_iconst R 18 dX12_isTalkedTo_17 rfl ic_iconst_1 ?_
      refine r_goto R 22 dX12_isTalkedTo_18 (by decide) ?_
      obtain rfl := Option.some.inj h
      exact r_ireturn R dX12_isTalkedTo_22 rfl rfl rfl rfl
def jX12_isCut_31 (rec4 : Int32 → Int32 → Option (Int32)) (w31_2 : Int32) (s31_0 : Int32) : Option (Int32) :=
  rec4 s31_0 (w31_2 + (1 : Int32))
def jX12_isCut_26 (rec4 : Int32 → Int32 → Option (Int32)) (w26_2 : Int32) : Option (Int32) :=
  jX12_isCut_31 rec4 w26_2 (1 : Int32)
def lX12_isCut_4 (M : pf_M) : Nat → Int32 → Int32 → Option (Int32)
  | 0, _, _ => none
  | n + 1, v4_1, v4_2 =>
  (if (M 40 0 10) < v4_2 then if pf_b v4_1 = true then some v4_1 else none
  else (if v4_1 = (0 : Int32) then (if pf_in v4_2 9 = true then (if (M 50 0 v4_2.toNatClampNeg) = (1 : Int32) then jX12_isCut_26 (lX12_isCut_4 M n) v4_2
  else jX12_isCut_31 (lX12_isCut_4 M n) v4_2 (0 : Int32))
  else none)
  else jX12_isCut_26 (lX12_isCut_4 M n) v4_2))
def fX12_isCut (M : pf_M) : Option (Int32) :=
  lX12_isCut_4 M pf_fu (0 : Int32) (0 : Int32)
set_option maxRecDepth 4000 in
theorem c_X12_isCut (G : pf_G) (M : pf_M) (q : Int32) (h : fX12_isCut M = some q) : pf_Met G yX12_isCut cX12_isCut 3 (some .boolean) 0 0 [pf_R 40 0] M (some (pf_I q)) M := by
  refine pf_Met.of (by decide +kernel) (Nat.le_of_ble_eq_true rfl) (fun K R => ?_)
  show K 0 [pf_R 40 0, pf_U, pf_U] [] M
  have hl4 : ∀ (n : Nat) (v4_1 : Int32) (v4_2 : Int32), lX12_isCut_4 M n v4_1 v4_2 = some q → K 4 [pf_R 40 0, pf_I v4_1, pf_I v4_2] [] M := by
    intro n
    induction n with
    | zero =>
      intro v4_1 v4_2 h
      rw [lX12_isCut_4] at h
      cases h
    | succ n ih4 =>
        have hj31 : ∀ (w31_2 : Int32) (s31_0 : Int32), jX12_isCut_31 (lX12_isCut_4 M n) w31_2 s31_0 = some q → K 31 [pf_R 40 0, pf_U, pf_I w31_2] [pf_I s31_0] M := by
          intro w31_2 s31_0 h
          unfold jX12_isCut_31 at h
          refine r_istore_n R 32 dX12_isCut_31 rfl rfl (show _ = [pf_R 40 0, pf_I s31_0, pf_I w31_2] from rfl) ?_
          refine r_iinc R 35 dX12_isCut_32 rfl rfl ic_iconst_1 (show _ = [pf_R 40 0, pf_I s31_0, pf_I (w31_2 + (1 : Int32))] from rfl) ?_
          refine r_goto R 4 dX12_isCut_35 (by decide) ?_
          exact ih4 _ _ h
        have hj26 : ∀ (w26_2 : Int32), jX12_isCut_26 (lX12_isCut_4 M n) w26_2 = some q → K 26 [pf_R 40 0, pf_U, pf_I w26_2] [] M := by
          intro w26_2 h
          unfold jX12_isCut_26 at h
          refine r_iconst R 27 dX12_isCut_26 rfl ic_iconst_1 ?_
          refine r_goto R 31 dX12_isCut_27 (by decide) ?_
          exact hj31 _ _ h
        intro v4_1 v4_2 h
        rw [lX12_isCut_4] at h
        refine r_iload_n R 5 dX12_isCut_4 rfl rfl ?_
        refine r_aload_n R 6 dX12_isCut_5 rfl rfl ?_
        refine r_getfield R 9 dX12_isCut_6 rfl fl_X12_180 rfl (show _ = pf_I (M 40 0 10) from rfl) ?_
        refine r_icmp_gt R 12 38 dX12_isCut_9 rfl (by decide) (fun hc => ?_) (fun hc => ?_)
        · have h := pf_ifp hc h
          refine r_iload_n R 39 dX12_isCut_38 rfl rfl ?_
          obtain ⟨hb1, h⟩ := pf_gd h
          obtain rfl := Option.some.inj h
          exact r_ireturn R dX12_isCut_39 rfl (pf_bool (pf_b_iff.mp hb1)) rfl rfl
        · have h := pf_ifn hc h
          refine r_iload_n R 13 dX12_isCut_12 rfl rfl ?_
          refine r_if_ne R 16 26 dX12_isCut_13 rfl (by decide) (fun hc => ?_) (fun hc => ?_)
          · have h := pf_ifp hc h
            refine r_aload_n R 17 dX12_isCut_16 rfl rfl ?_
            refine r_getfield R 20 dX12_isCut_17 rfl fl_X12_37 rfl (show _ = pf_R 50 0 from rfl) ?_
            refine r_iload_n R 21 dX12_isCut_20 rfl rfl ?_
            obtain ⟨hi2, h⟩ := pf_gd h
            refine r_iaload R 22 dX12_isCut_21 rfl ⟨rfl, rfl⟩ (pf_in_iff.mp hi2) ?_
            refine r_iconst R 23 dX12_isCut_22 rfl ic_iconst_1 ?_
            refine r_icmp_ne R 26 30 dX12_isCut_23 rfl (by decide) (fun hc => ?_) (fun hc => ?_)
            · have h := pf_ifp hc h
              refine r_fg R [true, false, true] (show _ = [pf_R 40 0, pf_U, pf_I v4_2] from rfl) ?_
              exact hj26 _ h
            · have h := pf_ifn hc h
              refine r_iconst R 31 dX12_isCut_30 rfl ic_iconst_0 ?_
              refine r_fg R [true, false, true] (show _ = [pf_R 40 0, pf_U, pf_I v4_2] from rfl) ?_
              exact hj31 _ _ h
          · have h := pf_ifn hc h
            refine r_fg R [true, false, true] (show _ = [pf_R 40 0, pf_U, pf_I v4_2] from rfl) ?_
            exact hj26 _ h
  unfold fX12_isCut at h
  refine r_iconst R 1 dX12_isCut_0 rfl ic_iconst_0 ?_
  refine r_istore_n R 2 dX12_isCut_1 rfl rfl (show _ = [pf_R 40 0, pf_I (0 : Int32), pf_U] from rfl) ?_
  refine r_iconst R 3 dX12_isCut_2 rfl ic_iconst_0 ?_
  refine r_istore_n R 4 dX12_isCut_3 rfl rfl (show _ = [pf_R 40 0, pf_I (0 : Int32), pf_I (0 : Int32)] from rfl) ?_
  exact hl4 pf_fu _ _ h
def lX12_wires_5 (x2 : Int32) (M : pf_M) : Nat → Int32 → Int32 → Option (Int32)
  | 0, _, _ => none
  | n + 1, v5_3, v5_4 =>
  (if x2 < v5_4 then some v5_3
  else (if pf_in v5_4 9 = true then (lX12_wires_5 x2 M n) (v5_3 + (M 47 0 v5_4.toNatClampNeg)) (v5_4 + (1 : Int32))
  else none))
def fX12_wires (x1 : Int32) (x2 : Int32) (M : pf_M) : Option (Int32) :=
  lX12_wires_5 x2 M pf_fu (0 : Int32) x1
set_option maxRecDepth 4000 in
theorem c_X12_wires (G : pf_G) (x1 : Int32) (x2 : Int32) (M : pf_M) (q : Int32) (h : fX12_wires x1 x2 M = some q) : pf_Met G yX12_wires cX12_wires 5 (some .int) 0 0 [pf_R 40 0, pf_I x1, pf_I x2] M (some (pf_I q)) M := by
  refine pf_Met.of (by decide +kernel) (Nat.le_of_ble_eq_true rfl) (fun K R => ?_)
  show K 0 [pf_R 40 0, pf_I x1, pf_I x2, pf_U, pf_U] [] M
  have hl5 : ∀ (n : Nat) (v5_3 : Int32) (v5_4 : Int32), lX12_wires_5 x2 M n v5_3 v5_4 = some q → K 5 [pf_R 40 0, pf_U, pf_I x2, pf_I v5_3, pf_I v5_4] [] M := by
    intro n
    induction n with
    | zero =>
      intro v5_3 v5_4 h
      rw [lX12_wires_5] at h
      cases h
    | succ n ih5 =>
        intro v5_3 v5_4 h
        rw [lX12_wires_5] at h
        refine r_iload R 7 dX12_wires_5 rfl rfl ?_
        refine r_iload_n R 8 dX12_wires_7 rfl rfl ?_
        refine r_icmp_gt R 11 27 dX12_wires_8 rfl (by decide) (fun hc => ?_) (fun hc => ?_)
        · have h := pf_ifp hc h
          refine r_iload_n R 28 dX12_wires_27 rfl rfl ?_
          obtain rfl := Option.some.inj h
          exact r_ireturn R dX12_wires_28 rfl rfl rfl rfl
        · have h := pf_ifn hc h
          refine r_iload_n R 12 dX12_wires_11 rfl rfl ?_
          refine r_aload_n R 13 dX12_wires_12 rfl rfl ?_
          refine r_getfield R 16 dX12_wires_13 rfl fl_X12_28 rfl (show _ = pf_R 47 0 from rfl) ?_
          refine r_iload R 18 dX12_wires_16 rfl rfl ?_
          obtain ⟨hi2, h⟩ := pf_gd h
          refine r_iaload R 19 dX12_wires_18 rfl ⟨rfl, rfl⟩ (pf_in_iff.mp hi2) ?_
          refine r_iadd R 20 dX12_wires_19 rfl ?_
          refine r_istore_n R 21 dX12_wires_20 rfl rfl (show _ = [pf_R 40 0, pf_U, pf_I x2, pf_I (v5_3 + (M 47 0 v5_4.toNatClampNeg)), pf_I v5_4] from rfl) ?_
          refine r_iinc R 24 dX12_wires_21 rfl rfl ic_iconst_1 (show _ = [pf_R 40 0, pf_U, pf_I x2, pf_I (v5_3 + (M 47 0 v5_4.toNatClampNeg)), pf_I (v5_4 + (1 : Int32))] from rfl) ?_
          refine r_goto R 5 dX12_wires_24 (by decide) ?_
          exact ih5 _ _ h
  unfold fX12_wires at h
  refine r_iconst R 1 dX12_wires_0 rfl ic_iconst_0 ?_
  refine r_istore_n R 2 dX12_wires_1 rfl rfl (show _ = [pf_R 40 0, pf_I x1, pf_I x2, pf_I (0 : Int32), pf_U] from rfl) ?_
  refine r_iload_n R 3 dX12_wires_2 rfl rfl ?_
  refine r_istore R 5 dX12_wires_3 rfl rfl (show _ = [pf_R 40 0, pf_I x1, pf_I x2, pf_I (0 : Int32), pf_I x1] from rfl) ?_
  refine r_fg R [true, false, true, true, true] (show _ = [pf_R 40 0, pf_U, pf_I x2, pf_I (0 : Int32), pf_I x1] from rfl) ?_
  exact hl5 pf_fu _ _ h
def fX12_tripOf (x1 : Int32) (x2 : Int32) (M : pf_M) : Int32 :=
  (if x1 = (0 : Int32) then (0 : Int32)
  else (((2 : Int32) * x2) + (x1 * (M 40 0 15))) + ((x1 - (1 : Int32)) * (M 40 0 16)))
set_option maxRecDepth 4000 in
theorem c_X12_tripOf (G : pf_G) (x1 : Int32) (x2 : Int32) (M : pf_M) (q : Int32) (h : fX12_tripOf x1 x2 M = q) : pf_Met G yX12_tripOf cX12_tripOf 3 (some .int) 0 0 [pf_R 40 0, pf_I x1, pf_I x2] M (some (pf_I q)) M := by
  refine pf_Met.of (by decide +kernel) (Nat.le_of_ble_eq_true rfl) (fun K R => ?_)
  show K 0 [pf_R 40 0, pf_I x1, pf_I x2] [] M
  unfold fX12_tripOf at h
  refine r_iload_n R 1 dX12_tripOf_0 rfl rfl ?_
  refine r_if_ne R 4 8 dX12_tripOf_1 rfl (by decide) (fun hc => ?_) (fun hc => ?_)
  · have h := pf_ifp hc h
    refine r_iconst R 5 dX12_tripOf_4 rfl ic_iconst_0 ?_
    refine r_goto R 27 dX12_tripOf_5 (by decide) ?_
    subst h
    exact r_ireturn R dX12_tripOf_27 rfl rfl rfl rfl
  · have h := pf_ifn hc h
    refine r_iconst R 9 dX12_tripOf_8 rfl ic_iconst_2 ?_
    refine r_iload_n R 10 dX12_tripOf_9 rfl rfl ?_
    refine r_imul R 11 dX12_tripOf_10 rfl ?_
    refine r_iload_n R 12 dX12_tripOf_11 rfl rfl ?_
    refine r_aload_n R 13 dX12_tripOf_12 rfl rfl ?_
    refine r_getfield R 16 dX12_tripOf_13 rfl fl_X12_183 rfl (show _ = pf_I (M 40 0 15) from rfl) ?_
    refine r_imul R 17 dX12_tripOf_16 rfl ?_
    refine r_iadd R 18 dX12_tripOf_17 rfl ?_
    refine r_iload_n R 19 dX12_tripOf_18 rfl rfl ?_
    refine r_iconst R 20 dX12_tripOf_19 rfl ic_iconst_1 ?_
    refine r_isub R 21 dX12_tripOf_20 rfl ?_
    refine r_aload_n R 22 dX12_tripOf_21 rfl rfl ?_
    refine r_getfield R 25 dX12_tripOf_22 rfl fl_X12_186 rfl (show _ = pf_I (M 40 0 16) from rfl) ?_
    refine r_imul R 26 dX12_tripOf_25 rfl ?_
    refine r_iadd R 27 dX12_tripOf_26 rfl ?_
    subst h
    exact r_ireturn R dX12_tripOf_27 rfl rfl rfl rfl
def fX12_trip (M : pf_M) : Option (Int32) :=
  ((fX12_isCut M).bind fun r9 => (if r9 = (0 : Int32) then ((fX12_wires (0 : Int32) (M 40 0 10) M).bind fun r16 => some (r16 + ((M 40 0 10) * (M 40 0 15))))
  else ((fX12_sideA M).bind fun r10 => ((fX12_sideA M).bind fun r11 => ((fX12_wires (0 : Int32) (r11 - (1 : Int32)) M).bind fun r12 => ((fX12_firstB M).bind fun r13 => ((fX12_firstB M).bind fun r14 => ((fX12_wires (r14 + (1 : Int32)) (M 40 0 10) M).bind fun r15 => (if (fX12_tripOf r10 r12 M) ≤ (fX12_tripOf ((M 40 0 10) - r13) r15 M) then some (fX12_tripOf ((M 40 0 10) - r13) r15 M)
  else some (fX12_tripOf r10 r12 M))))))))))
set_option maxRecDepth 4000 in
theorem c_X12_trip (G : pf_G) (M : pf_M) (q : Int32) (h : fX12_trip M = some q) : pf_Met G yX12_trip cX12_trip 3 (some .int) 1 24 [pf_R 40 0] M (some (pf_I q)) M := by
  refine pf_Met.of (by decide +kernel) (Nat.le_of_ble_eq_true rfl) (fun K R => ?_)
  show K 0 [pf_R 40 0, pf_U, pf_U] [] M
  unfold fX12_trip at h
  refine r_aload_n R 1 dX12_trip_0 rfl rfl ?_
  obtain ⟨r9, hr9, h⟩ := pf_bd h
  refine r_cvI0 R 4 dX12_trip_1 rfl lk_X12_219 rfl (c_X12_isCut G M _ hr9) rfl rfl rfl ?_
  refine r_if_ne R 7 27 dX12_trip_4 rfl (by decide) (fun hc => ?_) (fun hc => ?_)
  · have h := pf_ifp hc h
    refine r_aload_n R 8 dX12_trip_7 rfl rfl ?_
    refine r_iconst R 9 dX12_trip_8 rfl ic_iconst_0 ?_
    refine r_aload_n R 10 dX12_trip_9 rfl rfl ?_
    refine r_getfield R 13 dX12_trip_10 rfl fl_X12_180 rfl (show _ = pf_I (M 40 0 10) from rfl) ?_
    obtain ⟨r16, hr16, h⟩ := pf_bd h
    refine r_cvI2 R 16 dX12_trip_13 rfl lk_X12_215 rfl (c_X12_wires G (0 : Int32) (M 40 0 10) M _ hr16) rfl rfl rfl ?_
    refine r_aload_n R 17 dX12_trip_16 rfl rfl ?_
    refine r_getfield R 20 dX12_trip_17 rfl fl_X12_180 rfl (show _ = pf_I (M 40 0 10) from rfl) ?_
    refine r_aload_n R 21 dX12_trip_20 rfl rfl ?_
    refine r_getfield R 24 dX12_trip_21 rfl fl_X12_183 rfl (show _ = pf_I (M 40 0 15) from rfl) ?_
    refine r_imul R 25 dX12_trip_24 rfl ?_
    refine r_iadd R 26 dX12_trip_25 rfl ?_
    obtain rfl := Option.some.inj h
    exact r_ireturn R dX12_trip_26 rfl rfl rfl rfl
  · have h := pf_ifn hc h
    refine r_aload_n R 28 dX12_trip_27 rfl rfl ?_
    refine r_aload_n R 29 dX12_trip_28 rfl rfl ?_
    obtain ⟨r10, hr10, h⟩ := pf_bd h
    refine r_cvI0 R 32 dX12_trip_29 rfl lk_X12_209 rfl (c_X12_sideA G M _ hr10) rfl rfl rfl ?_
    refine r_aload_n R 33 dX12_trip_32 rfl rfl ?_
    refine r_iconst R 34 dX12_trip_33 rfl ic_iconst_0 ?_
    refine r_aload_n R 35 dX12_trip_34 rfl rfl ?_
    obtain ⟨r11, hr11, h⟩ := pf_bd h
    refine r_cvI0 R 38 dX12_trip_35 rfl lk_X12_209 rfl (c_X12_sideA G M _ hr11) rfl rfl rfl ?_
    refine r_iconst R 39 dX12_trip_38 rfl ic_iconst_1 ?_
    refine r_isub R 40 dX12_trip_39 rfl ?_
    obtain ⟨r12, hr12, h⟩ := pf_bd h
    refine r_cvI2 R 43 dX12_trip_40 rfl lk_X12_215 rfl (c_X12_wires G (0 : Int32) (r11 - (1 : Int32)) M _ hr12) rfl rfl rfl ?_
    refine r_cvI2 R 46 dX12_trip_43 rfl lk_X12_222 rfl (c_X12_tripOf G r10 r12 M _ rfl) rfl rfl rfl ?_
    refine r_istore_n R 47 dX12_trip_46 rfl rfl (show _ = [pf_R 40 0, pf_I (fX12_tripOf r10 r12 M), pf_U] from rfl) ?_
    refine r_aload_n R 48 dX12_trip_47 rfl rfl ?_
    refine r_aload_n R 49 dX12_trip_48 rfl rfl ?_
    refine r_getfield R 52 dX12_trip_49 rfl fl_X12_180 rfl (show _ = pf_I (M 40 0 10) from rfl) ?_
    refine r_aload_n R 53 dX12_trip_52 rfl rfl ?_
    obtain ⟨r13, hr13, h⟩ := pf_bd h
    refine r_cvI0 R 56 dX12_trip_53 rfl lk_X12_212 rfl (c_X12_firstB G M _ hr13) rfl rfl rfl ?_
    refine r_isub R 57 dX12_trip_56 rfl ?_
    refine r_aload_n R 58 dX12_trip_57 rfl rfl ?_
    refine r_aload_n R 59 dX12_trip_58 rfl rfl ?_
    obtain ⟨r14, hr14, h⟩ := pf_bd h
    refine r_cvI0 R 62 dX12_trip_59 rfl lk_X12_212 rfl (c_X12_firstB G M _ hr14) rfl rfl rfl ?_
    refine r_iconst R 63 dX12_trip_62 rfl ic_iconst_1 ?_
    refine r_iadd R 64 dX12_trip_63 rfl ?_
    refine r_aload_n R 65 dX12_trip_64 rfl rfl ?_
    refine r_getfield R 68 dX12_trip_65 rfl fl_X12_180 rfl (show _ = pf_I (M 40 0 10) from rfl) ?_
    obtain ⟨r15, hr15, h⟩ := pf_bd h
    refine r_cvI2 R 71 dX12_trip_68 rfl lk_X12_215 rfl (c_X12_wires G (r14 + (1 : Int32)) (M 40 0 10) M _ hr15) rfl rfl rfl ?_
    refine r_cvI2 R 74 dX12_trip_71 rfl lk_X12_222 rfl (c_X12_tripOf G ((M 40 0 10) - r13) r15 M _ rfl) rfl rfl rfl ?_
    refine r_istore_n R 75 dX12_trip_74 rfl rfl (show _ = [pf_R 40 0, pf_I (fX12_tripOf r10 r12 M), pf_I (fX12_tripOf ((M 40 0 10) - r13) r15 M)] from rfl) ?_
    refine r_iload_n R 76 dX12_trip_75 rfl rfl ?_
    refine r_iload_n R 77 dX12_trip_76 rfl rfl ?_
    refine r_icmp_le R 80 84 dX12_trip_77 rfl (by decide) (fun hc => ?_) (fun hc => ?_)
    · have h := pf_ifp hc h
      refine r_iload_n R 85 dX12_trip_84 rfl rfl ?_
      obtain rfl := Option.some.inj h
      exact r_ireturn R dX12_trip_85 rfl rfl rfl rfl
    · have h := pf_ifn hc h
      refine r_iload_n R 81 dX12_trip_80 rfl rfl ?_
      refine r_goto R 85 dX12_trip_81 (by decide) ?_
      obtain rfl := Option.some.inj h
      exact r_ireturn R dX12_trip_85 rfl rfl rfl rfl
def fX12_isLost (M : pf_M) : Int32 × pf_M :=
  (if (M 40 0 23) = (0 : Int32) then ((0 : Int32), M)
  else ((1 : Int32), (pf_up M 40 0 23 ((M 40 0 23) - (1 : Int32)))))
set_option maxRecDepth 4000 in
theorem c_X12_isLost (G : pf_G) (M : pf_M) (q : Int32 × pf_M) (h : fX12_isLost M = q) : pf_Met G yX12_isLost cX12_isLost 1 (some .boolean) 0 0 [pf_R 40 0] M (some (pf_I q.1)) q.2 := by
  refine pf_Met.of (by decide +kernel) (Nat.le_of_ble_eq_true rfl) (fun K R => ?_)
  show K 0 [pf_R 40 0] [] M
  unfold fX12_isLost at h
  refine r_aload_n R 1 dX12_isLost_0 rfl rfl ?_
  refine r_getfield R 4 dX12_isLost_1 rfl fl_X12_196 rfl (show _ = pf_I (M 40 0 23) from rfl) ?_
  refine r_if_ne R 7 9 dX12_isLost_4 rfl (by decide) (fun hc => ?_) (fun hc => ?_)
  · have h := pf_ifp hc h
    refine r_iconst R 8 dX12_isLost_7 rfl ic_iconst_0 ?_
    subst h
    exact r_ireturn R dX12_isLost_8 rfl rfl rfl rfl
  · have h := pf_ifn hc h
    refine r_aload_n R 10 dX12_isLost_9 rfl rfl ?_
    refine r_dup R 11 dX12_isLost_10 rfl rfl ?_
    refine r_getfield R 14 dX12_isLost_11 rfl fl_X12_196 rfl (show _ = pf_I (M 40 0 23) from rfl) ?_
    refine r_iconst R 15 dX12_isLost_14 rfl ic_iconst_1 ?_
    refine r_isub R 16 dX12_isLost_15 rfl ?_
    refine r_putfield R 19 dX12_isLost_16 rfl fl_X12_196 rfl rfl rfl rfl ?_
    refine r_iconst R 20 dX12_isLost_19 rfl ic_iconst_1 ?_
    subst h
    exact r_ireturn R dX12_isLost_20 rfl rfl rfl rfl
def jX12_pushes_86 (x1 : Int32) (w86_2 : Int32) (w86_3 : Int32) (M86 : pf_M) : Option (Int32 × pf_M) :=
  ((fX12_trip M86).bind fun r16 => (if ((fX12_isLost (pf_up M86 40 0 22 ((M86 40 0 22) + r16))).1) = (0 : Int32) then (if w86_3 = (0 : Int32) then some ((-3 : Int32), (fX12_isLost (pf_up M86 40 0 22 ((M86 40 0 22) + r16))).2)
  else (if pf_in w86_2 16 = true then (if pf_in w86_2 16 = true then (if pf_in x1 8 = true then (if pf_in w86_2 16 = true then some ((pf_up (pf_up (fX12_isLost (pf_up M86 40 0 22 ((M86 40 0 22) + r16))).2 61 0 w86_2.toNatClampNeg ((1 : Int32) - (((fX12_isLost (pf_up M86 40 0 22 ((M86 40 0 22) + r16))).2) 61 0 w86_2.toNatClampNeg))) 63 0 x1.toNatClampNeg (-4 : Int32)) 59 0 w86_2.toNatClampNeg, (pf_up (pf_up (fX12_isLost (pf_up M86 40 0 22 ((M86 40 0 22) + r16))).2 61 0 w86_2.toNatClampNeg ((1 : Int32) - (((fX12_isLost (pf_up M86 40 0 22 ((M86 40 0 22) + r16))).2) 61 0 w86_2.toNatClampNeg))) 63 0 x1.toNatClampNeg (-4 : Int32)))
  else none)
  else none)
  else none)
  else none))
  else some ((-5 : Int32), (fX12_isLost (pf_up M86 40 0 22 ((M86 40 0 22) + r16))).2)))
def jX12_pushes_26 (x1 : Int32) (w26_2 : Int32) (s26_0 : Int32) (M26 : pf_M) : Option (Int32 × pf_M) :=
  (if s26_0 = (0 : Int32) then (if pf_in w26_2 16 = true then (if (4 : Int32) ≤ (M26 59 0 w26_2.toNatClampNeg) then jX12_pushes_86 x1 w26_2 s26_0 M26
  else (if pf_in w26_2 16 = true then (if pf_in x1 8 = true then (if pf_in (((4 : Int32) * w26_2) + (M26 59 0 w26_2.toNatClampNeg)) 64 = true then (if pf_in w26_2 16 = true then (if pf_in w26_2 16 = true then (if pf_in w26_2 16 = true then (if pf_in w26_2 16 = true then jX12_pushes_86 x1 w26_2 (1 : Int32) (pf_up (pf_up (pf_up M26 58 0 (((4 : Int32) * w26_2) + (M26 59 0 w26_2.toNatClampNeg)).toNatClampNeg (M26 63 0 x1.toNatClampNeg)) 59 0 w26_2.toNatClampNeg (((pf_up M26 58 0 (((4 : Int32) * w26_2) + (M26 59 0 w26_2.toNatClampNeg)).toNatClampNeg (M26 63 0 x1.toNatClampNeg)) 59 0 w26_2.toNatClampNeg) + (1 : Int32))) 60 0 w26_2.toNatClampNeg ((pf_up (pf_up M26 58 0 (((4 : Int32) * w26_2) + (M26 59 0 w26_2.toNatClampNeg)).toNatClampNeg (M26 63 0 x1.toNatClampNeg)) 59 0 w26_2.toNatClampNeg (((pf_up M26 58 0 (((4 : Int32) * w26_2) + (M26 59 0 w26_2.toNatClampNeg)).toNatClampNeg (M26 63 0 x1.toNatClampNeg)) 59 0 w26_2.toNatClampNeg) + (1 : Int32))) 61 0 w26_2.toNatClampNeg))
  else none)
  else none)
  else none)
  else none)
  else none)
  else none)
  else none))
  else none)
  else jX12_pushes_86 x1 w26_2 s26_0 M26)
def fX12_pushes (x1 : Int32) (M : pf_M) : Option (Int32 × pf_M) :=
  (if pf_in (((2 : Int32) * x1) + (1 : Int32)) 16 = true then (if pf_in (((2 : Int32) * x1) + (1 : Int32)) 16 = true then (if (M 61 0 (((2 : Int32) * x1) + (1 : Int32)).toNatClampNeg) = (M 60 0 (((2 : Int32) * x1) + (1 : Int32)).toNatClampNeg) then jX12_pushes_26 x1 (((2 : Int32) * x1) + (1 : Int32)) (1 : Int32) M
  else jX12_pushes_26 x1 (((2 : Int32) * x1) + (1 : Int32)) (0 : Int32) M)
  else none)
  else none)
set_option maxRecDepth 4000 in
theorem c_X12_pushes (G : pf_G) (x1 : Int32) (M : pf_M) (q : Int32 × pf_M) (h : fX12_pushes x1 M = some q) : pf_Met G yX12_pushes cX12_pushes 4 (some .int) 2 46 [pf_R 40 0, pf_I x1] M (some (pf_I q.1)) q.2 := by
  refine pf_Met.of (by decide +kernel) (Nat.le_of_ble_eq_true rfl) (fun K R => ?_)
  show K 0 [pf_R 40 0, pf_I x1, pf_U, pf_U] [] M
  have hj86 : ∀ (w86_2 : Int32) (w86_3 : Int32) (M86 : pf_M), jX12_pushes_86 x1 w86_2 w86_3 M86 = some q → K 86 [pf_R 40 0, pf_I x1, pf_I w86_2, pf_I w86_3] [] M86 := by
    intro w86_2 w86_3 M86 h
    unfold jX12_pushes_86 at h
    refine r_aload_n R 87 dX12_pushes_86 rfl rfl ?_
    refine r_dup R 88 dX12_pushes_87 rfl rfl ?_
    refine r_getfield R 91 dX12_pushes_88 rfl fl_X12_193 rfl (show _ = pf_I (M86 40 0 22) from rfl) ?_
    refine r_aload_n R 92 dX12_pushes_91 rfl rfl ?_
    obtain ⟨r16, hr16, h⟩ := pf_bd h
    refine r_cvI0 R 95 dX12_pushes_92 rfl lk_X12_304 rfl (c_X12_trip G M86 _ hr16) rfl rfl rfl ?_
    refine r_iadd R 96 dX12_pushes_95 rfl ?_
    refine r_putfield R 99 dX12_pushes_96 rfl fl_X12_193 rfl rfl rfl rfl ?_
    refine r_aload_n R 100 dX12_pushes_99 rfl rfl ?_
    refine r_cvI0 R 103 dX12_pushes_100 rfl lk_X12_307 rfl (c_X12_isLost G (pf_up M86 40 0 22 ((M86 40 0 22) + r16)) _ rfl) rfl rfl rfl ?_
    refine r_if_eq R 106 109 dX12_pushes_103 rfl (by decide) (fun hc => ?_) (fun hc => ?_)
    · have h := pf_ifp hc h
      refine r_iload_n R 110 dX12_pushes_109 rfl rfl ?_
      refine r_if_ne R 113 116 dX12_pushes_110 rfl (by decide) (fun hc => ?_) (fun hc => ?_)
      · have h := pf_ifp hc h
        refine r_bipush R 115 dX12_pushes_113 rfl ic_bipush_m3 ?_
        obtain rfl := Option.some.inj h
        exact r_ireturn R dX12_pushes_115 rfl rfl rfl rfl
      · have h := pf_ifn hc h
        refine r_aload_n R 117 dX12_pushes_116 rfl rfl ?_
        refine r_getfield R 120 dX12_pushes_117 rfl fl_X12_70 rfl (show _ = pf_R 61 0 from rfl) ?_
        refine r_iload_n R 121 dX12_pushes_120 rfl rfl ?_
        refine r_iconst R 122 dX12_pushes_121 rfl ic_iconst_1 ?_
        refine r_aload_n R 123 dX12_pushes_122 rfl rfl ?_
        refine r_getfield R 126 dX12_pushes_123 rfl fl_X12_70 rfl (show _ = pf_R 61 0 from rfl) ?_
        refine r_iload_n R 127 dX12_pushes_126 rfl rfl ?_
        obtain ⟨hi17, h⟩ := pf_gd h
        refine r_iaload R 128 dX12_pushes_127 rfl ⟨rfl, rfl⟩ (pf_in_iff.mp hi17) ?_
        refine r_isub R 129 dX12_pushes_128 rfl ?_
        obtain ⟨hi18, h⟩ := pf_gd h
        refine r_iastore R 130 dX12_pushes_129 rfl ⟨rfl, rfl⟩ (pf_in_iff.mp hi18) ?_
        refine r_aload_n R 131 dX12_pushes_130 rfl rfl ?_
        refine r_getfield R 134 dX12_pushes_131 rfl fl_X12_76 rfl (show _ = pf_R 63 0 from rfl) ?_
        refine r_iload_n R 135 dX12_pushes_134 rfl rfl ?_
        refine r_bipush R 137 dX12_pushes_135 rfl ic_bipush_m4 ?_
        obtain ⟨hi19, h⟩ := pf_gd h
        refine r_iastore R 138 dX12_pushes_137 rfl ⟨rfl, rfl⟩ (pf_in_iff.mp hi19) ?_
        refine r_aload_n R 139 dX12_pushes_138 rfl rfl ?_
        refine r_getfield R 142 dX12_pushes_139 rfl fl_X12_64 rfl (show _ = pf_R 59 0 from rfl) ?_
        refine r_iload_n R 143 dX12_pushes_142 rfl rfl ?_
        obtain ⟨hi20, h⟩ := pf_gd h
        refine r_iaload R 144 dX12_pushes_143 rfl ⟨rfl, rfl⟩ (pf_in_iff.mp hi20) ?_
        obtain rfl := Option.some.inj h
        exact r_ireturn R dX12_pushes_144 rfl rfl rfl rfl
    · have h := pf_ifn hc h
      refine r_bipush R 108 dX12_pushes_106 rfl ic_bipush_m5 ?_
      obtain rfl := Option.some.inj h
      exact r_ireturn R dX12_pushes_108 rfl rfl rfl rfl
  have hj26 : ∀ (w26_2 : Int32) (s26_0 : Int32) (M26 : pf_M), jX12_pushes_26 x1 w26_2 s26_0 M26 = some q → K 26 [pf_R 40 0, pf_I x1, pf_I w26_2, pf_U] [pf_I s26_0] M26 := by
    intro w26_2 s26_0 M26 h
    unfold jX12_pushes_26 at h
    refine r_istore_n R 27 dX12_pushes_26 rfl rfl (show _ = [pf_R 40 0, pf_I x1, pf_I w26_2, pf_I s26_0] from rfl) ?_
    refine r_iload_n R 28 dX12_pushes_27 rfl rfl ?_
    refine r_if_ne R 31 86 dX12_pushes_28 rfl (by decide) (fun hc => ?_) (fun hc => ?_)
    · have h := pf_ifp hc h
      refine r_aload_n R 32 dX12_pushes_31 rfl rfl ?_
      refine r_getfield R 35 dX12_pushes_32 rfl fl_X12_64 rfl (show _ = pf_R 59 0 from rfl) ?_
      refine r_iload_n R 36 dX12_pushes_35 rfl rfl ?_
      obtain ⟨hi21, h⟩ := pf_gd h
      refine r_iaload R 37 dX12_pushes_36 rfl ⟨rfl, rfl⟩ (pf_in_iff.mp hi21) ?_
      refine r_iconst R 38 dX12_pushes_37 rfl ic_iconst_4 ?_
      refine r_icmp_ge R 41 86 dX12_pushes_38 rfl (by decide) (fun hc => ?_) (fun hc => ?_)
      · have h := pf_ifp hc h
        exact hj86 _ _ _ h
      · have h := pf_ifn hc h
        refine r_aload_n R 42 dX12_pushes_41 rfl rfl ?_
        refine r_getfield R 45 dX12_pushes_42 rfl fl_X12_61 rfl (show _ = pf_R 58 0 from rfl) ?_
        refine r_iconst R 46 dX12_pushes_45 rfl ic_iconst_4 ?_
        refine r_iload_n R 47 dX12_pushes_46 rfl rfl ?_
        refine r_imul R 48 dX12_pushes_47 rfl ?_
        refine r_aload_n R 49 dX12_pushes_48 rfl rfl ?_
        refine r_getfield R 52 dX12_pushes_49 rfl fl_X12_64 rfl (show _ = pf_R 59 0 from rfl) ?_
        refine r_iload_n R 53 dX12_pushes_52 rfl rfl ?_
        obtain ⟨hi22, h⟩ := pf_gd h
        refine r_iaload R 54 dX12_pushes_53 rfl ⟨rfl, rfl⟩ (pf_in_iff.mp hi22) ?_
        refine r_iadd R 55 dX12_pushes_54 rfl ?_
        refine r_aload_n R 56 dX12_pushes_55 rfl rfl ?_
        refine r_getfield R 59 dX12_pushes_56 rfl fl_X12_76 rfl (show _ = pf_R 63 0 from rfl) ?_
        refine r_iload_n R 60 dX12_pushes_59 rfl rfl ?_
        obtain ⟨hi23, h⟩ := pf_gd h
        refine r_iaload R 61 dX12_pushes_60 rfl ⟨rfl, rfl⟩ (pf_in_iff.mp hi23) ?_
        obtain ⟨hi24, h⟩ := pf_gd h
        refine r_iastore R 62 dX12_pushes_61 rfl ⟨rfl, rfl⟩ (pf_in_iff.mp hi24) ?_
        refine r_aload_n R 63 dX12_pushes_62 rfl rfl ?_
        refine r_getfield R 66 dX12_pushes_63 rfl fl_X12_64 rfl (show _ = pf_R 59 0 from rfl) ?_
        refine r_iload_n R 67 dX12_pushes_66 rfl rfl ?_
        refine r_dup2 R 68 dX12_pushes_67 rfl rfl rfl ?_
        obtain ⟨hi25, h⟩ := pf_gd h
        refine r_iaload R 69 dX12_pushes_68 rfl ⟨rfl, rfl⟩ (pf_in_iff.mp hi25) ?_
        refine r_iconst R 70 dX12_pushes_69 rfl ic_iconst_1 ?_
        refine r_iadd R 71 dX12_pushes_70 rfl ?_
        obtain ⟨hi26, h⟩ := pf_gd h
        refine r_iastore R 72 dX12_pushes_71 rfl ⟨rfl, rfl⟩ (pf_in_iff.mp hi26) ?_
        refine r_aload_n R 73 dX12_pushes_72 rfl rfl ?_
        refine r_getfield R 76 dX12_pushes_73 rfl fl_X12_67 rfl (show _ = pf_R 60 0 from rfl) ?_
        refine r_iload_n R 77 dX12_pushes_76 rfl rfl ?_
        refine r_aload_n R 78 dX12_pushes_77 rfl rfl ?_
        refine r_getfield R 81 dX12_pushes_78 rfl fl_X12_70 rfl (show _ = pf_R 61 0 from rfl) ?_
        refine r_iload_n R 82 dX12_pushes_81 rfl rfl ?_
        obtain ⟨hi27, h⟩ := pf_gd h
        refine r_iaload R 83 dX12_pushes_82 rfl ⟨rfl, rfl⟩ (pf_in_iff.mp hi27) ?_
        obtain ⟨hi28, h⟩ := pf_gd h
        refine r_iastore R 84 dX12_pushes_83 rfl ⟨rfl, rfl⟩ (pf_in_iff.mp hi28) ?_
        refine r_iconst R 85 dX12_pushes_84 rfl ic_iconst_1 ?_
        refine r_istore_n R 86 dX12_pushes_85 rfl rfl (show _ = [pf_R 40 0, pf_I x1, pf_I w26_2, pf_I (1 : Int32)] from rfl) ?_
        exact hj86 _ _ _ h
    · have h := pf_ifn hc h
      exact hj86 _ _ _ h
  unfold fX12_pushes at h
  refine r_iconst R 1 dX12_pushes_0 rfl ic_iconst_2 ?_
  refine r_iload_n R 2 dX12_pushes_1 rfl rfl ?_
  refine r_imul R 3 dX12_pushes_2 rfl ?_
  refine r_iconst R 4 dX12_pushes_3 rfl ic_iconst_1 ?_
  refine r_iadd R 5 dX12_pushes_4 rfl ?_
  refine r_istore_n R 6 dX12_pushes_5 rfl rfl (show _ = [pf_R 40 0, pf_I x1, pf_I (((2 : Int32) * x1) + (1 : Int32)), pf_U] from rfl) ?_
  refine r_aload_n R 7 dX12_pushes_6 rfl rfl ?_
  refine r_getfield R 10 dX12_pushes_7 rfl fl_X12_70 rfl (show _ = pf_R 61 0 from rfl) ?_
  refine r_iload_n R 11 dX12_pushes_10 rfl rfl ?_
  obtain ⟨hi29, h⟩ := pf_gd h
  refine r_iaload R 12 dX12_pushes_11 rfl ⟨rfl, rfl⟩ (pf_in_iff.mp hi29) ?_
  refine r_aload_n R 13 dX12_pushes_12 rfl rfl ?_
  refine r_getfield R 16 dX12_pushes_13 rfl fl_X12_67 rfl (show _ = pf_R 60 0 from rfl) ?_
  refine r_iload_n R 17 dX12_pushes_16 rfl rfl ?_
  obtain ⟨hi30, h⟩ := pf_gd h
  refine r_iaload R 18 dX12_pushes_17 rfl ⟨rfl, rfl⟩ (pf_in_iff.mp hi30) ?_
  refine r_icmp_ne R 21 25 dX12_pushes_18 rfl (by decide) (fun hc => ?_) (fun hc => ?_)
  · have h := pf_ifp hc h
    refine r_iconst R 22 dX12_pushes_21 rfl ic_iconst_1 ?_
    refine r_goto R 26 dX12_pushes_22 (by decide) ?_
    exact hj26 _ _ _ h
  · have h := pf_ifn hc h
    refine r_iconst R 26 dX12_pushes_25 rfl ic_iconst_0 ?_
    exact hj26 _ _ _ h
def fX12_again (x1 : Int32) (M : pf_M) : Option (Int32 × pf_M) :=
  (if (fX12_isDevice x1 M) = (0 : Int32) then some ((-1 : Int32), M)
  else ((fX12_isTalkedTo x1 M).bind fun r4 => (if r4 = (0 : Int32) then some ((-2 : Int32), M)
  else (if pf_in x1 8 = true then (if (M 63 0 x1.toNatClampNeg) = (-4 : Int32) then some ((-2 : Int32), M)
  else ((fX12_pushes x1 M).bind fun q6 => some (q6.1, q6.2)))
  else none))))
set_option maxRecDepth 4000 in
theorem c_X12_again (G : pf_G) (x1 : Int32) (M : pf_M) (q : Int32 × pf_M) (h : fX12_again x1 M = some q) : pf_Met G yX12_again cX12_again 2 (some .int) 3 69 [pf_R 40 0, pf_I x1] M (some (pf_I q.1)) q.2 := by
  refine pf_Met.of (by decide +kernel) (Nat.le_of_ble_eq_true rfl) (fun K R => ?_)
  show K 0 [pf_R 40 0, pf_I x1] [] M
  unfold fX12_again at h
  refine r_aload_n R 1 dX12_again_0 rfl rfl ?_
  refine r_iload_n R 2 dX12_again_1 rfl rfl ?_
  refine r_cvI1 R 5 dX12_again_2 rfl lk_X12_236 rfl (c_X12_isDevice G x1 M _ rfl) rfl rfl rfl ?_
  refine r_if_ne R 8 10 dX12_again_5 rfl (by decide) (fun hc => ?_) (fun hc => ?_)
  · have h := pf_ifp hc h
    refine r_iconst R 9 dX12_again_8 rfl ic_iconst_m1 ?_
    obtain rfl := Option.some.inj h
    exact r_ireturn R dX12_again_9 rfl rfl rfl rfl
  · have h := pf_ifn hc h
    refine r_aload_n R 11 dX12_again_10 rfl rfl ?_
    refine r_iload_n R 12 dX12_again_11 rfl rfl ?_
    obtain ⟨r4, hr4, h⟩ := pf_bd h
    refine r_cvI1 R 15 dX12_again_12 rfl lk_X12_321 rfl (c_X12_isTalkedTo G x1 M _ hr4) rfl rfl rfl ?_
    refine r_if_eq R 18 37 dX12_again_15 rfl (by decide) (fun hc => ?_) (fun hc => ?_)
    · have h := pf_ifp hc h
      refine r_bipush R 39 dX12_again_37 rfl ic_bipush_m2 ?_
      obtain rfl := Option.some.inj h
      exact r_ireturn R dX12_again_39 rfl rfl rfl rfl
    · have h := pf_ifn hc h
      refine r_aload_n R 19 dX12_again_18 rfl rfl ?_
      refine r_getfield R 22 dX12_again_19 rfl fl_X12_76 rfl (show _ = pf_R 63 0 from rfl) ?_
      refine r_iload_n R 23 dX12_again_22 rfl rfl ?_
      obtain ⟨hi5, h⟩ := pf_gd h
      refine r_iaload R 24 dX12_again_23 rfl ⟨rfl, rfl⟩ (pf_in_iff.mp hi5) ?_
      refine r_bipush R 26 dX12_again_24 rfl ic_bipush_m4 ?_
      refine r_icmp_eq R 29 37 dX12_again_26 rfl (by decide) (fun hc => ?_) (fun hc => ?_)
      · have h := pf_ifp hc h
        refine r_bipush R 39 dX12_again_37 rfl ic_bipush_m2 ?_
        obtain rfl := Option.some.inj h
        exact r_ireturn R dX12_again_39 rfl rfl rfl rfl
      · have h := pf_ifn hc h
        refine r_aload_n R 30 dX12_again_29 rfl rfl ?_
        refine r_iload_n R 31 dX12_again_30 rfl rfl ?_
        obtain ⟨q6, hq6, h⟩ := pf_bd h
        refine r_cvI1 R 34 dX12_again_31 rfl lk_X12_324 rfl (c_X12_pushes G x1 M _ hq6) rfl rfl rfl ?_
        refine r_goto R 39 dX12_again_34 (by decide) ?_
        obtain rfl := Option.some.inj h
        exact r_ireturn R dX12_again_39 rfl rfl rfl rfl
def jX12_ownAt_49 (s49_0 : Int64) (s49_1 : Int64) : Option (Int64) :=
  some (s49_0 + s49_1)
def fX12_ownAt (x1 : Int32) (x2 : Int32) (M : pf_M) : Option (Int64) :=
  (if pf_in x1 8 = true then (if pf_in x1 8 = true then (if (lg_cmp (((x2.toInt64 * (((M 49 0 x1.toNatClampNeg) - (4 : Int32)).toInt64)) / (100 : Int64)) * (100 : Int64)) (x2.toInt64 * (((M 49 0 x1.toNatClampNeg) - (4 : Int32)).toInt64))) ≤ (0 : Int32) then jX12_ownAt_49 (((M 48 0 x1.toNatClampNeg) + x2).toInt64) ((x2.toInt64 * (((M 49 0 x1.toNatClampNeg) - (4 : Int32)).toInt64)) / (100 : Int64))
  else jX12_ownAt_49 (((M 48 0 x1.toNatClampNeg) + x2).toInt64) (((x2.toInt64 * (((M 49 0 x1.toNatClampNeg) - (4 : Int32)).toInt64)) / (100 : Int64)) - (1 : Int64)))
  else none)
  else none)
set_option maxRecDepth 4000 in
theorem c_X12_ownAt (G : pf_G) (x1 : Int32) (x2 : Int32) (M : pf_M) (q : Int64) (h : fX12_ownAt x1 x2 M = some q) : pf_Met G yX12_ownAt cX12_ownAt 7 (some .long) 0 0 [pf_R 40 0, pf_I x1, pf_I x2] M (some (pf_L q)) M := by
  refine pf_Met.of (by decide +kernel) (Nat.le_of_ble_eq_true rfl) (fun K R => ?_)
  show K 0 [pf_R 40 0, pf_I x1, pf_I x2, pf_U, pf_U, pf_U, pf_U] [] M
  have hj49 : ∀ (s49_0 : Int64) (s49_1 : Int64), jX12_ownAt_49 s49_0 s49_1 = some q → K 49 [pf_U, pf_U, pf_U, pf_U, pf_U, pf_U, pf_U] [pf_L s49_1, pf_L s49_0] M := by
    intro s49_0 s49_1 h
    unfold jX12_ownAt_49 at h
    refine r_ladd R 50 dX12_ownAt_49 rfl ?_
    obtain rfl := Option.some.inj h
    exact r_lreturn R dX12_ownAt_50 rfl rfl rfl
  unfold fX12_ownAt at h
  refine r_iload_n R 1 dX12_ownAt_0 rfl rfl ?_
  refine r_i2l R 2 dX12_ownAt_1 rfl ?_
  refine r_aload_n R 3 dX12_ownAt_2 rfl rfl ?_
  refine r_getfield R 6 dX12_ownAt_3 rfl fl_X12_34 rfl (show _ = pf_R 49 0 from rfl) ?_
  refine r_iload_n R 7 dX12_ownAt_6 rfl rfl ?_
  obtain ⟨hi3, h⟩ := pf_gd h
  refine r_iaload R 8 dX12_ownAt_7 rfl ⟨rfl, rfl⟩ (pf_in_iff.mp hi3) ?_
  refine r_iconst R 9 dX12_ownAt_8 rfl ic_iconst_4 ?_
  refine r_isub R 10 dX12_ownAt_9 rfl ?_
  refine r_i2l R 11 dX12_ownAt_10 rfl ?_
  refine r_lmul R 12 dX12_ownAt_11 rfl ?_
  refine r_lstore_n R 13 dX12_ownAt_12 rfl rfl (show _ = [pf_R 40 0, pf_I x1, pf_I x2, pf_L (x2.toInt64 * (((M 49 0 x1.toNatClampNeg) - (4 : Int32)).toInt64)), pf_U, pf_U, pf_U] from rfl) ?_
  refine r_lload_n R 14 dX12_ownAt_13 rfl rfl ?_
  refine r_ldc2_w R 17 dX12_ownAt_14 rfl kc_X12_225 ?_
  refine r_ldiv R 18 dX12_ownAt_17 rfl (by decide) ?_
  refine r_lstore R 20 dX12_ownAt_18 rfl rfl (show _ = [pf_R 40 0, pf_I x1, pf_I x2, pf_L (x2.toInt64 * (((M 49 0 x1.toNatClampNeg) - (4 : Int32)).toInt64)), pf_U, pf_L ((x2.toInt64 * (((M 49 0 x1.toNatClampNeg) - (4 : Int32)).toInt64)) / (100 : Int64)), pf_U] from rfl) ?_
  refine r_aload_n R 21 dX12_ownAt_20 rfl rfl ?_
  refine r_getfield R 24 dX12_ownAt_21 rfl fl_X12_31 rfl (show _ = pf_R 48 0 from rfl) ?_
  refine r_iload_n R 25 dX12_ownAt_24 rfl rfl ?_
  obtain ⟨hi4, h⟩ := pf_gd h
  refine r_iaload R 26 dX12_ownAt_25 rfl ⟨rfl, rfl⟩ (pf_in_iff.mp hi4) ?_
  refine r_iload_n R 27 dX12_ownAt_26 rfl rfl ?_
  refine r_iadd R 28 dX12_ownAt_27 rfl ?_
  refine r_i2l R 29 dX12_ownAt_28 rfl ?_
  refine r_lload R 31 dX12_ownAt_29 rfl rfl ?_
  refine r_ldc2_w R 34 dX12_ownAt_31 rfl kc_X12_225 ?_
  refine r_lmul R 35 dX12_ownAt_34 rfl ?_
  refine r_lload_n R 36 dX12_ownAt_35 rfl rfl ?_
  refine r_lcmp R 37 dX12_ownAt_36 rfl ?_
  refine r_if_le R 40 47 dX12_ownAt_37 rfl (by decide) (fun hc => ?_) (fun hc => ?_)
  · have h := pf_ifp hc h
    refine r_lload R 49 dX12_ownAt_47 rfl rfl ?_
    refine r_fg R [false, false, false, false, true, false, true] (show _ = [pf_U, pf_U, pf_U, pf_U, pf_U, pf_U, pf_U] from rfl) ?_
    exact hj49 _ _ h
  · have h := pf_ifn hc h
    refine r_lload R 42 dX12_ownAt_40 rfl rfl ?_
    refine r_lconst R 43 dX12_ownAt_42 rfl lc_1 ?_
    refine r_lsub R 44 dX12_ownAt_43 rfl ?_
    refine r_goto R 49 dX12_ownAt_44 (by decide) ?_
    refine r_fg R [false, false, false, false, true, false, true] (show _ = [pf_U, pf_U, pf_U, pf_U, pf_U, pf_U, pf_U] from rfl) ?_
    exact hj49 _ _ h
def fX12_systemAt (x1 : Int32) (x2 : Int32) (M : pf_M) : Option (Int64) :=
  ((fX12_ownAt x1 x2 M).bind fun r3 => (if pf_in x1 8 = true then some (r3 + ((M 53 0 x1.toNatClampNeg).toInt64))
  else none))
set_option maxRecDepth 4000 in
theorem c_X12_systemAt (G : pf_G) (x1 : Int32) (x2 : Int32) (M : pf_M) (q : Int64) (h : fX12_systemAt x1 x2 M = some q) : pf_Met G yX12_systemAt cX12_systemAt 3 (some .long) 1 26 [pf_R 40 0, pf_I x1, pf_I x2] M (some (pf_L q)) M := by
  refine pf_Met.of (by decide +kernel) (Nat.le_of_ble_eq_true rfl) (fun K R => ?_)
  show K 0 [pf_R 40 0, pf_I x1, pf_I x2] [] M
  unfold fX12_systemAt at h
  refine r_aload_n R 1 dX12_systemAt_0 rfl rfl ?_
  refine r_iload_n R 2 dX12_systemAt_1 rfl rfl ?_
  refine r_iload_n R 3 dX12_systemAt_2 rfl rfl ?_
  obtain ⟨r3, hr3, h⟩ := pf_bd h
  refine r_cvL2 R 6 dX12_systemAt_3 rfl lk_X12_227 rfl (c_X12_ownAt G x1 x2 M _ hr3) rfl rfl rfl ?_
  refine r_aload_n R 7 dX12_systemAt_6 rfl rfl ?_
  refine r_getfield R 10 dX12_systemAt_7 rfl fl_X12_46 rfl (show _ = pf_R 53 0 from rfl) ?_
  refine r_iload_n R 11 dX12_systemAt_10 rfl rfl ?_
  obtain ⟨hi4, h⟩ := pf_gd h
  refine r_iaload R 12 dX12_systemAt_11 rfl ⟨rfl, rfl⟩ (pf_in_iff.mp hi4) ?_
  refine r_i2l R 13 dX12_systemAt_12 rfl ?_
  refine r_ladd R 14 dX12_systemAt_13 rfl ?_
  obtain rfl := Option.some.inj h
  exact r_lreturn R dX12_systemAt_14 rfl rfl rfl
def jX12_apart_63 (rec15 : Int64 → Int64 → Int32 → Option (Int32)) (w63_1 : Int64) (w63_5 : Int32) (s63_0 : Int64) : Option (Int32) :=
  rec15 w63_1 s63_0 (w63_5 + (1 : Int32))
def jX12_apart_49 (rec15 : Int64 → Int64 → Int32 → Option (Int32)) (w49_3 : Int64) (w49_5 : Int32) (w49_6 : Int64) (s49_0 : Int64) : Option (Int32) :=
  (if (lg_cmp w49_6 w49_3) ≤ (0 : Int32) then jX12_apart_63 rec15 s49_0 w49_5 w49_3
  else jX12_apart_63 rec15 s49_0 w49_5 w49_6)
def lX12_apart_15 (M : pf_M) (kx15 : Int64 → Int64 → Option (Int32)) : Nat → Int64 → Int64 → Int32 → Option (Int32)
  | 0, _, _, _ => none
  | n + 1, v15_1, v15_3, v15_5 =>
  (if (M 40 0 10) ≤ v15_5 then kx15 v15_1 v15_3
  else ((fX12_systemAt v15_5 (M 40 0 22) M).bind fun r3 => (if (0 : Int32) ≤ (lg_cmp r3 v15_1) then jX12_apart_49 (lX12_apart_15 M kx15 n) v15_3 v15_5 r3 v15_1
  else jX12_apart_49 (lX12_apart_15 M kx15 n) v15_3 v15_5 r3 r3)))
def fX12_apart (M : pf_M) : Option (Int32) :=
  ((fX12_systemAt (0 : Int32) (M 40 0 22) M).bind fun r4 => lX12_apart_15 M (fun u5_e15_1 u5_e15_3 => some ((u5_e15_3 - u5_e15_1).toInt32)) pf_fu r4 r4 (1 : Int32))
set_option maxRecDepth 4000 in
theorem c_X12_apart (G : pf_G) (M : pf_M) (q : Int32) (h : fX12_apart M = some q) : pf_Met G yX12_apart cX12_apart 8 (some .int) 2 48 [pf_R 40 0] M (some (pf_I q)) M := by
  refine pf_Met.of (by decide +kernel) (Nat.le_of_ble_eq_true rfl) (fun K R => ?_)
  show K 0 [pf_R 40 0, pf_U, pf_U, pf_U, pf_U, pf_U, pf_U, pf_U] [] M
  have hl15 : ∀ (kx15 : Int64 → Int64 → Option (Int32)), (∀ (e15_1 : Int64) (e15_3 : Int64), kx15 e15_1 e15_3 = some q → K 70 [pf_U, pf_L e15_1, pf_U, pf_L e15_3, pf_U, pf_U, pf_U, pf_U] [] M) → ∀ (n : Nat) (v15_1 : Int64) (v15_3 : Int64) (v15_5 : Int32), lX12_apart_15 M kx15 n v15_1 v15_3 v15_5 = some q → K 15 [pf_R 40 0, pf_L v15_1, pf_U, pf_L v15_3, pf_U, pf_I v15_5, pf_U, pf_U] [] M := by
    intro kx15 hkx15 n
    induction n with
    | zero =>
      intro v15_1 v15_3 v15_5 h
      rw [lX12_apart_15] at h
      cases h
    | succ n ih15 =>
        have hj63 : ∀ (w63_1 : Int64) (w63_5 : Int32) (s63_0 : Int64), jX12_apart_63 (lX12_apart_15 M kx15 n) w63_1 w63_5 s63_0 = some q → K 63 [pf_R 40 0, pf_L w63_1, pf_U, pf_U, pf_U, pf_I w63_5, pf_U, pf_U] [pf_L s63_0] M := by
          intro w63_1 w63_5 s63_0 h
          unfold jX12_apart_63 at h
          refine r_lstore_n R 64 dX12_apart_63 rfl rfl (show _ = [pf_R 40 0, pf_L w63_1, pf_U, pf_L s63_0, pf_U, pf_I w63_5, pf_U, pf_U] from rfl) ?_
          refine r_iinc R 67 dX12_apart_64 rfl rfl ic_iconst_1 (show _ = [pf_R 40 0, pf_L w63_1, pf_U, pf_L s63_0, pf_U, pf_I (w63_5 + (1 : Int32)), pf_U, pf_U] from rfl) ?_
          refine r_goto R 15 dX12_apart_67 (by decide) ?_
          exact ih15 _ _ _ h
        have hj49 : ∀ (w49_3 : Int64) (w49_5 : Int32) (w49_6 : Int64) (s49_0 : Int64), jX12_apart_49 (lX12_apart_15 M kx15 n) w49_3 w49_5 w49_6 s49_0 = some q → K 49 [pf_R 40 0, pf_U, pf_U, pf_L w49_3, pf_U, pf_I w49_5, pf_L w49_6, pf_U] [pf_L s49_0] M := by
          intro w49_3 w49_5 w49_6 s49_0 h
          unfold jX12_apart_49 at h
          refine r_lstore_n R 50 dX12_apart_49 rfl rfl (show _ = [pf_R 40 0, pf_L s49_0, pf_U, pf_L w49_3, pf_U, pf_I w49_5, pf_L w49_6, pf_U] from rfl) ?_
          refine r_lload R 52 dX12_apart_50 rfl rfl ?_
          refine r_lload_n R 53 dX12_apart_52 rfl rfl ?_
          refine r_lcmp R 54 dX12_apart_53 rfl ?_
          refine r_if_le R 57 62 dX12_apart_54 rfl (by decide) (fun hc => ?_) (fun hc => ?_)
          · have h := pf_ifp hc h
            refine r_lload_n R 63 dX12_apart_62 rfl rfl ?_
            refine r_fg R [true, true, true, false, true, true, false, true] (show _ = [pf_R 40 0, pf_L s49_0, pf_U, pf_U, pf_U, pf_I w49_5, pf_U, pf_U] from rfl) ?_
            exact hj63 _ _ _ h
          · have h := pf_ifn hc h
            refine r_lload R 59 dX12_apart_57 rfl rfl ?_
            refine r_goto R 63 dX12_apart_59 (by decide) ?_
            refine r_fg R [true, true, true, false, true, true, false, true] (show _ = [pf_R 40 0, pf_L s49_0, pf_U, pf_U, pf_U, pf_I w49_5, pf_U, pf_U] from rfl) ?_
            exact hj63 _ _ _ h
        intro v15_1 v15_3 v15_5 h
        rw [lX12_apart_15] at h
        refine r_iload R 17 dX12_apart_15 rfl rfl ?_
        refine r_aload_n R 18 dX12_apart_17 rfl rfl ?_
        refine r_getfield R 21 dX12_apart_18 rfl fl_X12_180 rfl (show _ = pf_I (M 40 0 10) from rfl) ?_
        refine r_icmp_ge R 24 70 dX12_apart_21 rfl (by decide) (fun hc => ?_) (fun hc => ?_)
        · have h := pf_ifp hc h
          refine r_fg R [false, true, true, true, true, false, true, true] (show _ = [pf_U, pf_L v15_1, pf_U, pf_L v15_3, pf_U, pf_U, pf_U, pf_U] from rfl) ?_
          exact hkx15 _ _ h
        · have h := pf_ifn hc h
          refine r_aload_n R 25 dX12_apart_24 rfl rfl ?_
          refine r_iload R 27 dX12_apart_25 rfl rfl ?_
          refine r_aload_n R 28 dX12_apart_27 rfl rfl ?_
          refine r_getfield R 31 dX12_apart_28 rfl fl_X12_193 rfl (show _ = pf_I (M 40 0 22) from rfl) ?_
          obtain ⟨r3, hr3, h⟩ := pf_bd h
          refine r_cvL2 R 34 dX12_apart_31 rfl lk_X12_231 rfl (c_X12_systemAt G v15_5 (M 40 0 22) M _ hr3) rfl rfl rfl ?_
          refine r_lstore R 36 dX12_apart_34 rfl rfl (show _ = [pf_R 40 0, pf_L v15_1, pf_U, pf_L v15_3, pf_U, pf_I v15_5, pf_L r3, pf_U] from rfl) ?_
          refine r_lload R 38 dX12_apart_36 rfl rfl ?_
          refine r_lload_n R 39 dX12_apart_38 rfl rfl ?_
          refine r_lcmp R 40 dX12_apart_39 rfl ?_
          refine r_if_ge R 43 48 dX12_apart_40 rfl (by decide) (fun hc => ?_) (fun hc => ?_)
          · have h := pf_ifp hc h
            refine r_lload_n R 49 dX12_apart_48 rfl rfl ?_
            refine r_fg R [true, false, true, true, true, true, true, true] (show _ = [pf_R 40 0, pf_U, pf_U, pf_L v15_3, pf_U, pf_I v15_5, pf_L r3, pf_U] from rfl) ?_
            exact hj49 _ _ _ _ h
          · have h := pf_ifn hc h
            refine r_lload R 45 dX12_apart_43 rfl rfl ?_
            refine r_goto R 49 dX12_apart_45 (by decide) ?_
            refine r_fg R [true, false, true, true, true, true, true, true] (show _ = [pf_R 40 0, pf_U, pf_U, pf_L v15_3, pf_U, pf_I v15_5, pf_L r3, pf_U] from rfl) ?_
            exact hj49 _ _ _ _ h
  unfold fX12_apart at h
  refine r_aload_n R 1 dX12_apart_0 rfl rfl ?_
  refine r_iconst R 2 dX12_apart_1 rfl ic_iconst_0 ?_
  refine r_aload_n R 3 dX12_apart_2 rfl rfl ?_
  refine r_getfield R 6 dX12_apart_3 rfl fl_X12_193 rfl (show _ = pf_I (M 40 0 22) from rfl) ?_
  obtain ⟨r4, hr4, h⟩ := pf_bd h
  refine r_cvL2 R 9 dX12_apart_6 rfl lk_X12_231 rfl (c_X12_systemAt G (0 : Int32) (M 40 0 22) M _ hr4) rfl rfl rfl ?_
  refine r_lstore_n R 10 dX12_apart_9 rfl rfl (show _ = [pf_R 40 0, pf_L r4, pf_U, pf_U, pf_U, pf_U, pf_U, pf_U] from rfl) ?_
  refine r_lload_n R 11 dX12_apart_10 rfl rfl ?_
  refine r_lstore_n R 12 dX12_apart_11 rfl rfl (show _ = [pf_R 40 0, pf_L r4, pf_U, pf_L r4, pf_U, pf_U, pf_U, pf_U] from rfl) ?_
  refine r_iconst R 13 dX12_apart_12 rfl ic_iconst_1 ?_
  refine r_istore R 15 dX12_apart_13 rfl rfl (show _ = [pf_R 40 0, pf_L r4, pf_U, pf_L r4, pf_U, pf_I (1 : Int32), pf_U, pf_U] from rfl) ?_
  refine hl15 _ (fun u5_e15_1 u5_e15_3 h => ?_) pf_fu _ _ _ h
  refine r_lload_n R 71 dX12_apart_70 rfl rfl ?_
  refine r_lload_n R 72 dX12_apart_71 rfl rfl ?_
  refine r_lsub R 73 dX12_apart_72 rfl ?_
  refine r_l2i R 74 dX12_apart_73 rfl ?_
  obtain rfl := Option.some.inj h
  exact r_ireturn R dX12_apart_74 rfl rfl rfl rfl
def lX12_becomeInit_25 (x1 : Int32) : Nat → Int32 → pf_M → Option (pf_M)
  | 0, _, _ => none
  | n + 1, v25_2, M25 =>
  (if (2 : Int32) ≤ v25_2 then some M25
  else (if pf_in (((2 : Int32) * x1) + v25_2) 16 = true then (if pf_in (((2 : Int32) * x1) + v25_2) 16 = true then (if pf_in (((2 : Int32) * x1) + v25_2) 16 = true then (lX12_becomeInit_25 x1 n) (v25_2 + (1 : Int32)) (pf_up (pf_up (pf_up M25 59 0 (((2 : Int32) * x1) + v25_2).toNatClampNeg (0 : Int32)) 60 0 (((2 : Int32) * x1) + v25_2).toNatClampNeg (0 : Int32)) 61 0 (((2 : Int32) * x1) + v25_2).toNatClampNeg (1 : Int32))
  else none)
  else none)
  else none))
def fX12_becomeInit (x1 : Int32) (M : pf_M) : Option (pf_M) :=
  (if pf_in x1 8 = true then (if pf_in x1 8 = true then (if pf_in x1 8 = true then lX12_becomeInit_25 x1 pf_fu (0 : Int32) (pf_up (pf_up (pf_up M 51 0 x1.toNatClampNeg (0 : Int32)) 62 0 x1.toNatClampNeg (-4 : Int32)) 63 0 x1.toNatClampNeg (-4 : Int32))
  else none)
  else none)
  else none)
set_option maxRecDepth 4000 in
theorem c_X12_becomeInit (G : pf_G) (x1 : Int32) (M : pf_M) (q : pf_M) (h : fX12_becomeInit x1 M = some q) : pf_Met G yX12_becomeInit cX12_becomeInit 3 (none) 0 0 [pf_R 40 0, pf_I x1] M none q := by
  refine pf_Met.of (by decide +kernel) (Nat.le_of_ble_eq_true rfl) (fun K R => ?_)
  show K 0 [pf_R 40 0, pf_I x1, pf_U] [] M
  have hl25 : ∀ (n : Nat) (v25_2 : Int32) (M25 : pf_M), lX12_becomeInit_25 x1 n v25_2 M25 = some q → K 25 [pf_R 40 0, pf_I x1, pf_I v25_2] [] M25 := by
    intro n
    induction n with
    | zero =>
      intro v25_2 M25 h
      rw [lX12_becomeInit_25] at h
      cases h
    | succ n ih25 =>
        intro v25_2 M25 h
        rw [lX12_becomeInit_25] at h
        refine r_iload_n R 26 dX12_becomeInit_25 rfl rfl ?_
        refine r_iconst R 27 dX12_becomeInit_26 rfl ic_iconst_2 ?_
        refine r_icmp_ge R 30 69 dX12_becomeInit_27 rfl (by decide) (fun hc => ?_) (fun hc => ?_)
        · have h := pf_ifp hc h
          obtain rfl := Option.some.inj h
          exact r_return_ R dX12_becomeInit_69 rfl rfl rfl
        · have h := pf_ifn hc h
          refine r_aload_n R 31 dX12_becomeInit_30 rfl rfl ?_
          refine r_getfield R 34 dX12_becomeInit_31 rfl fl_X12_64 rfl (show _ = pf_R 59 0 from rfl) ?_
          refine r_iconst R 35 dX12_becomeInit_34 rfl ic_iconst_2 ?_
          refine r_iload_n R 36 dX12_becomeInit_35 rfl rfl ?_
          refine r_imul R 37 dX12_becomeInit_36 rfl ?_
          refine r_iload_n R 38 dX12_becomeInit_37 rfl rfl ?_
          refine r_iadd R 39 dX12_becomeInit_38 rfl ?_
          refine r_iconst R 40 dX12_becomeInit_39 rfl ic_iconst_0 ?_
          obtain ⟨hi7, h⟩ := pf_gd h
          refine r_iastore R 41 dX12_becomeInit_40 rfl ⟨rfl, rfl⟩ (pf_in_iff.mp hi7) ?_
          refine r_aload_n R 42 dX12_becomeInit_41 rfl rfl ?_
          refine r_getfield R 45 dX12_becomeInit_42 rfl fl_X12_67 rfl (show _ = pf_R 60 0 from rfl) ?_
          refine r_iconst R 46 dX12_becomeInit_45 rfl ic_iconst_2 ?_
          refine r_iload_n R 47 dX12_becomeInit_46 rfl rfl ?_
          refine r_imul R 48 dX12_becomeInit_47 rfl ?_
          refine r_iload_n R 49 dX12_becomeInit_48 rfl rfl ?_
          refine r_iadd R 50 dX12_becomeInit_49 rfl ?_
          refine r_iconst R 51 dX12_becomeInit_50 rfl ic_iconst_0 ?_
          obtain ⟨hi8, h⟩ := pf_gd h
          refine r_iastore R 52 dX12_becomeInit_51 rfl ⟨rfl, rfl⟩ (pf_in_iff.mp hi8) ?_
          refine r_aload_n R 53 dX12_becomeInit_52 rfl rfl ?_
          refine r_getfield R 56 dX12_becomeInit_53 rfl fl_X12_70 rfl (show _ = pf_R 61 0 from rfl) ?_
          refine r_iconst R 57 dX12_becomeInit_56 rfl ic_iconst_2 ?_
          refine r_iload_n R 58 dX12_becomeInit_57 rfl rfl ?_
          refine r_imul R 59 dX12_becomeInit_58 rfl ?_
          refine r_iload_n R 60 dX12_becomeInit_59 rfl rfl ?_
          refine r_iadd R 61 dX12_becomeInit_60 rfl ?_
          refine r_iconst R 62 dX12_becomeInit_61 rfl ic_iconst_1 ?_
          obtain ⟨hi9, h⟩ := pf_gd h
          refine r_iastore R 63 dX12_becomeInit_62 rfl ⟨rfl, rfl⟩ (pf_in_iff.mp hi9) ?_
          refine r_iinc R 66 dX12_becomeInit_63 rfl rfl ic_iconst_1 (show _ = [pf_R 40 0, pf_I x1, pf_I (v25_2 + (1 : Int32))] from rfl) ?_
          refine r_goto R 25 dX12_becomeInit_66 (by decide) ?_
          exact ih25 _ _ h
  unfold fX12_becomeInit at h
  refine r_aload_n R 1 dX12_becomeInit_0 rfl rfl ?_
  refine r_getfield R 4 dX12_becomeInit_1 rfl fl_X12_40 rfl (show _ = pf_R 51 0 from rfl) ?_
  refine r_iload_n R 5 dX12_becomeInit_4 rfl rfl ?_
  refine r_iconst R 6 dX12_becomeInit_5 rfl ic_iconst_0 ?_
  obtain ⟨hi10, h⟩ := pf_gd h
  refine r_iastore R 7 dX12_becomeInit_6 rfl ⟨rfl, rfl⟩ (pf_in_iff.mp hi10) ?_
  refine r_aload_n R 8 dX12_becomeInit_7 rfl rfl ?_
  refine r_getfield R 11 dX12_becomeInit_8 rfl fl_X12_73 rfl (show _ = pf_R 62 0 from rfl) ?_
  refine r_iload_n R 12 dX12_becomeInit_11 rfl rfl ?_
  refine r_bipush R 14 dX12_becomeInit_12 rfl ic_bipush_m4 ?_
  obtain ⟨hi11, h⟩ := pf_gd h
  refine r_iastore R 15 dX12_becomeInit_14 rfl ⟨rfl, rfl⟩ (pf_in_iff.mp hi11) ?_
  refine r_aload_n R 16 dX12_becomeInit_15 rfl rfl ?_
  refine r_getfield R 19 dX12_becomeInit_16 rfl fl_X12_76 rfl (show _ = pf_R 63 0 from rfl) ?_
  refine r_iload_n R 20 dX12_becomeInit_19 rfl rfl ?_
  refine r_bipush R 22 dX12_becomeInit_20 rfl ic_bipush_m4 ?_
  obtain ⟨hi12, h⟩ := pf_gd h
  refine r_iastore R 23 dX12_becomeInit_22 rfl ⟨rfl, rfl⟩ (pf_in_iff.mp hi12) ?_
  refine r_iconst R 24 dX12_becomeInit_23 rfl ic_iconst_0 ?_
  refine r_istore_n R 25 dX12_becomeInit_24 rfl rfl (show _ = [pf_R 40 0, pf_I x1, pf_I (0 : Int32)] from rfl) ?_
  exact hl25 pf_fu _ _ h
def lX12_begin_208 (kx208 : pf_M → Option (pf_M)) : Nat → Int32 → pf_M → Option (pf_M)
  | 0, _, _ => none
  | n + 1, v208_1, M208 =>
  (if (4 : Int32) ≤ v208_1 then kx208 M208
  else (if pf_in v208_1 4 = true then (lX12_begin_208 kx208 n) (v208_1 + (1 : Int32)) (pf_up M208 64 0 v208_1.toNatClampNeg (0 : Int32))
  else none))
def lX12_begin_187 (kx187 : pf_M → Option (pf_M)) : Nat → Int32 → pf_M → Option (pf_M)
  | 0, _, _ => none
  | n + 1, v187_1, M187 =>
  (if (32 : Int32) ≤ v187_1 then kx187 M187
  else (if pf_in v187_1 32 = true then (lX12_begin_187 kx187 n) (v187_1 + (1 : Int32)) (pf_up M187 68 0 v187_1.toNatClampNeg (0 : Int32))
  else none))
def lX12_begin_166 (kx166 : pf_M → Option (pf_M)) : Nat → Int32 → pf_M → Option (pf_M)
  | 0, _, _ => none
  | n + 1, v166_1, M166 =>
  (if (16 : Int32) ≤ v166_1 then kx166 M166
  else (if pf_in v166_1 16 = true then (lX12_begin_166 kx166 n) (v166_1 + (1 : Int32)) (pf_up M166 56 0 v166_1.toNatClampNeg (0 : Int32))
  else none))
def lX12_begin_144 (kx144 : pf_M → Option (pf_M)) : Nat → Int32 → pf_M → Option (pf_M)
  | 0, _, _ => none
  | n + 1, v144_1, M144 =>
  (if (128 : Int32) ≤ v144_1 then kx144 M144
  else (if pf_in v144_1 128 = true then (lX12_begin_144 kx144 n) (v144_1 + (1 : Int32)) (pf_up M144 52 0 v144_1.toNatClampNeg (0 : Int32))
  else none))
def lX12_begin_123 (kx123 : pf_M → Option (pf_M)) : Nat → Int32 → pf_M → Option (pf_M)
  | 0, _, _ => none
  | n + 1, v123_1, M123 =>
  (if (9 : Int32) ≤ v123_1 then kx123 M123
  else (if pf_in v123_1 9 = true then (lX12_begin_123 kx123 n) (v123_1 + (1 : Int32)) (pf_up M123 50 0 v123_1.toNatClampNeg (0 : Int32))
  else none))
def lX12_begin_26 (kx26 : pf_M → Option (pf_M)) : Nat → Int32 → pf_M → Option (pf_M)
  | 0, _, _ => none
  | n + 1, v26_1, M26 =>
  (if (8 : Int32) ≤ v26_1 then kx26 M26
  else (if pf_in v26_1 8 = true then (if pf_in v26_1 8 = true then (if pf_in v26_1 9 = true then (if pf_in v26_1 9 = true then (if pf_in v26_1 8 = true then (if pf_in v26_1 8 = true then (if pf_in v26_1 8 = true then (if pf_in v26_1 8 = true then (if pf_in v26_1 8 = true then (if pf_in v26_1 8 = true then ((fX12_becomeInit v26_1 (pf_up (pf_up (pf_up (pf_up (pf_up (pf_up M26 46 0 v26_1.toNatClampNeg (M26 42 0 v26_1.toNatClampNeg)) 47 0 v26_1.toNatClampNeg ((pf_up M26 46 0 v26_1.toNatClampNeg (M26 42 0 v26_1.toNatClampNeg)) 43 0 v26_1.toNatClampNeg)) 48 0 v26_1.toNatClampNeg ((pf_up (pf_up M26 46 0 v26_1.toNatClampNeg (M26 42 0 v26_1.toNatClampNeg)) 47 0 v26_1.toNatClampNeg ((pf_up M26 46 0 v26_1.toNatClampNeg (M26 42 0 v26_1.toNatClampNeg)) 43 0 v26_1.toNatClampNeg)) 44 0 v26_1.toNatClampNeg)) 49 0 v26_1.toNatClampNeg ((pf_up (pf_up (pf_up M26 46 0 v26_1.toNatClampNeg (M26 42 0 v26_1.toNatClampNeg)) 47 0 v26_1.toNatClampNeg ((pf_up M26 46 0 v26_1.toNatClampNeg (M26 42 0 v26_1.toNatClampNeg)) 43 0 v26_1.toNatClampNeg)) 48 0 v26_1.toNatClampNeg ((pf_up (pf_up M26 46 0 v26_1.toNatClampNeg (M26 42 0 v26_1.toNatClampNeg)) 47 0 v26_1.toNatClampNeg ((pf_up M26 46 0 v26_1.toNatClampNeg (M26 42 0 v26_1.toNatClampNeg)) 43 0 v26_1.toNatClampNeg)) 44 0 v26_1.toNatClampNeg)) 45 0 v26_1.toNatClampNeg)) 53 0 v26_1.toNatClampNeg (0 : Int32)) 54 0 v26_1.toNatClampNeg (0 : Int32))).bind fun q18 => (lX12_begin_26 kx26 n) (v26_1 + (1 : Int32)) q18)
  else none)
  else none)
  else none)
  else none)
  else none)
  else none)
  else none)
  else none)
  else none)
  else none))
def fX12_begin (M : pf_M) : Option (pf_M) :=
  lX12_begin_26 (fun u19_Me26 => (if pf_in (u19_Me26 40 0 10) 9 = true then lX12_begin_123 (fun u21_Me123 => lX12_begin_144 (fun u22_Me144 => lX12_begin_166 (fun u23_Me166 => lX12_begin_187 (fun u24_Me187 => lX12_begin_208 (fun u25_Me208 => some (pf_up (pf_up (pf_up (pf_up (pf_up u25_Me208 40 0 22 (0 : Int32)) 40 0 23 (0 : Int32)) 40 0 40 (0 : Int32)) 40 0 44 (0 : Int32)) 40 0 46 (0 : Int32))) pf_fu (0 : Int32) u24_Me187) pf_fu (0 : Int32) u23_Me166) pf_fu (0 : Int32) u22_Me144) pf_fu (0 : Int32) u21_Me123) pf_fu (0 : Int32) (pf_up u19_Me26 47 0 (u19_Me26 40 0 10).toNatClampNeg (u19_Me26 43 0 (8 : Int32).toNatClampNeg))
  else none)) pf_fu (0 : Int32) (pf_up (pf_up (pf_up M 40 0 10 (M 40 0 3)) 40 0 15 ((pf_up M 40 0 10 (M 40 0 3)) 40 0 8)) 40 0 16 ((pf_up (pf_up M 40 0 10 (M 40 0 3)) 40 0 15 ((pf_up M 40 0 10 (M 40 0 3)) 40 0 8)) 40 0 9))
set_option maxRecDepth 4000 in
theorem c_X12_begin (G : pf_G) (M : pf_M) (q : pf_M) (h : fX12_begin M = some q) : pf_Met G yX12_begin cX12_begin 2 (none) 1 22 [pf_R 40 0] M none q := by
  refine pf_Met.of (by decide +kernel) (Nat.le_of_ble_eq_true rfl) (fun K R => ?_)
  show K 0 [pf_R 40 0, pf_U] [] M
  have hl208 : ∀ (kx208 : pf_M → Option (pf_M)), (∀ (Me208 : pf_M), kx208 Me208 = some q → K 226 [pf_R 40 0, pf_U] [] Me208) → ∀ (n : Nat) (v208_1 : Int32) (M208 : pf_M), lX12_begin_208 kx208 n v208_1 M208 = some q → K 208 [pf_R 40 0, pf_I v208_1] [] M208 := by
    intro kx208 hkx208 n
    induction n with
    | zero =>
      intro v208_1 M208 h
      rw [lX12_begin_208] at h
      cases h
    | succ n ih208 =>
        intro v208_1 M208 h
        rw [lX12_begin_208] at h
        refine r_iload_n R 209 dX12_begin_208 rfl rfl ?_
        refine r_iconst R 210 dX12_begin_209 rfl ic_iconst_4 ?_
        refine r_icmp_ge R 213 226 dX12_begin_210 rfl (by decide) (fun hc => ?_) (fun hc => ?_)
        · have h := pf_ifp hc h
          refine r_fg R [true, false] (show _ = [pf_R 40 0, pf_U] from rfl) ?_
          exact hkx208 _ h
        · have h := pf_ifn hc h
          refine r_aload_n R 214 dX12_begin_213 rfl rfl ?_
          refine r_getfield R 217 dX12_begin_214 rfl fl_X12_79 rfl (show _ = pf_R 64 0 from rfl) ?_
          refine r_iload_n R 218 dX12_begin_217 rfl rfl ?_
          refine r_iconst R 219 dX12_begin_218 rfl ic_iconst_0 ?_
          obtain ⟨hi3, h⟩ := pf_gd h
          refine r_iastore R 220 dX12_begin_219 rfl ⟨rfl, rfl⟩ (pf_in_iff.mp hi3) ?_
          refine r_iinc R 223 dX12_begin_220 rfl rfl ic_iconst_1 (show _ = [pf_R 40 0, pf_I (v208_1 + (1 : Int32))] from rfl) ?_
          refine r_goto R 208 dX12_begin_223 (by decide) ?_
          exact ih208 _ _ h
  have hl187 : ∀ (kx187 : pf_M → Option (pf_M)), (∀ (Me187 : pf_M), kx187 Me187 = some q → K 206 [pf_R 40 0, pf_U] [] Me187) → ∀ (n : Nat) (v187_1 : Int32) (M187 : pf_M), lX12_begin_187 kx187 n v187_1 M187 = some q → K 187 [pf_R 40 0, pf_I v187_1] [] M187 := by
    intro kx187 hkx187 n
    induction n with
    | zero =>
      intro v187_1 M187 h
      rw [lX12_begin_187] at h
      cases h
    | succ n ih187 =>
        intro v187_1 M187 h
        rw [lX12_begin_187] at h
        refine r_iload_n R 188 dX12_begin_187 rfl rfl ?_
        refine r_bipush R 190 dX12_begin_188 rfl ic_bipush_32 ?_
        refine r_icmp_ge R 193 206 dX12_begin_190 rfl (by decide) (fun hc => ?_) (fun hc => ?_)
        · have h := pf_ifp hc h
          refine r_fg R [true, false] (show _ = [pf_R 40 0, pf_U] from rfl) ?_
          exact hkx187 _ h
        · have h := pf_ifn hc h
          refine r_aload_n R 194 dX12_begin_193 rfl rfl ?_
          refine r_getfield R 197 dX12_begin_194 rfl fl_X12_91 rfl (show _ = pf_R 68 0 from rfl) ?_
          refine r_iload_n R 198 dX12_begin_197 rfl rfl ?_
          refine r_iconst R 199 dX12_begin_198 rfl ic_iconst_0 ?_
          obtain ⟨hi4, h⟩ := pf_gd h
          refine r_iastore R 200 dX12_begin_199 rfl ⟨rfl, rfl⟩ (pf_in_iff.mp hi4) ?_
          refine r_iinc R 203 dX12_begin_200 rfl rfl ic_iconst_1 (show _ = [pf_R 40 0, pf_I (v187_1 + (1 : Int32))] from rfl) ?_
          refine r_goto R 187 dX12_begin_203 (by decide) ?_
          exact ih187 _ _ h
  have hl166 : ∀ (kx166 : pf_M → Option (pf_M)), (∀ (Me166 : pf_M), kx166 Me166 = some q → K 185 [pf_R 40 0, pf_U] [] Me166) → ∀ (n : Nat) (v166_1 : Int32) (M166 : pf_M), lX12_begin_166 kx166 n v166_1 M166 = some q → K 166 [pf_R 40 0, pf_I v166_1] [] M166 := by
    intro kx166 hkx166 n
    induction n with
    | zero =>
      intro v166_1 M166 h
      rw [lX12_begin_166] at h
      cases h
    | succ n ih166 =>
        intro v166_1 M166 h
        rw [lX12_begin_166] at h
        refine r_iload_n R 167 dX12_begin_166 rfl rfl ?_
        refine r_bipush R 169 dX12_begin_167 rfl ic_bipush_16 ?_
        refine r_icmp_ge R 172 185 dX12_begin_169 rfl (by decide) (fun hc => ?_) (fun hc => ?_)
        · have h := pf_ifp hc h
          refine r_fg R [true, false] (show _ = [pf_R 40 0, pf_U] from rfl) ?_
          exact hkx166 _ h
        · have h := pf_ifn hc h
          refine r_aload_n R 173 dX12_begin_172 rfl rfl ?_
          refine r_getfield R 176 dX12_begin_173 rfl fl_X12_55 rfl (show _ = pf_R 56 0 from rfl) ?_
          refine r_iload_n R 177 dX12_begin_176 rfl rfl ?_
          refine r_iconst R 178 dX12_begin_177 rfl ic_iconst_0 ?_
          obtain ⟨hi5, h⟩ := pf_gd h
          refine r_iastore R 179 dX12_begin_178 rfl ⟨rfl, rfl⟩ (pf_in_iff.mp hi5) ?_
          refine r_iinc R 182 dX12_begin_179 rfl rfl ic_iconst_1 (show _ = [pf_R 40 0, pf_I (v166_1 + (1 : Int32))] from rfl) ?_
          refine r_goto R 166 dX12_begin_182 (by decide) ?_
          exact ih166 _ _ h
  have hl144 : ∀ (kx144 : pf_M → Option (pf_M)), (∀ (Me144 : pf_M), kx144 Me144 = some q → K 164 [pf_R 40 0, pf_U] [] Me144) → ∀ (n : Nat) (v144_1 : Int32) (M144 : pf_M), lX12_begin_144 kx144 n v144_1 M144 = some q → K 144 [pf_R 40 0, pf_I v144_1] [] M144 := by
    intro kx144 hkx144 n
    induction n with
    | zero =>
      intro v144_1 M144 h
      rw [lX12_begin_144] at h
      cases h
    | succ n ih144 =>
        intro v144_1 M144 h
        rw [lX12_begin_144] at h
        refine r_iload_n R 145 dX12_begin_144 rfl rfl ?_
        refine r_sipush R 148 dX12_begin_145 rfl ic_sipush_128 ?_
        refine r_icmp_ge R 151 164 dX12_begin_148 rfl (by decide) (fun hc => ?_) (fun hc => ?_)
        · have h := pf_ifp hc h
          refine r_fg R [true, false] (show _ = [pf_R 40 0, pf_U] from rfl) ?_
          exact hkx144 _ h
        · have h := pf_ifn hc h
          refine r_aload_n R 152 dX12_begin_151 rfl rfl ?_
          refine r_getfield R 155 dX12_begin_152 rfl fl_X12_43 rfl (show _ = pf_R 52 0 from rfl) ?_
          refine r_iload_n R 156 dX12_begin_155 rfl rfl ?_
          refine r_iconst R 157 dX12_begin_156 rfl ic_iconst_0 ?_
          obtain ⟨hi6, h⟩ := pf_gd h
          refine r_iastore R 158 dX12_begin_157 rfl ⟨rfl, rfl⟩ (pf_in_iff.mp hi6) ?_
          refine r_iinc R 161 dX12_begin_158 rfl rfl ic_iconst_1 (show _ = [pf_R 40 0, pf_I (v144_1 + (1 : Int32))] from rfl) ?_
          refine r_goto R 144 dX12_begin_161 (by decide) ?_
          exact ih144 _ _ h
  have hl123 : ∀ (kx123 : pf_M → Option (pf_M)), (∀ (Me123 : pf_M), kx123 Me123 = some q → K 142 [pf_R 40 0, pf_U] [] Me123) → ∀ (n : Nat) (v123_1 : Int32) (M123 : pf_M), lX12_begin_123 kx123 n v123_1 M123 = some q → K 123 [pf_R 40 0, pf_I v123_1] [] M123 := by
    intro kx123 hkx123 n
    induction n with
    | zero =>
      intro v123_1 M123 h
      rw [lX12_begin_123] at h
      cases h
    | succ n ih123 =>
        intro v123_1 M123 h
        rw [lX12_begin_123] at h
        refine r_iload_n R 124 dX12_begin_123 rfl rfl ?_
        refine r_bipush R 126 dX12_begin_124 rfl ic_bipush_9 ?_
        refine r_icmp_ge R 129 142 dX12_begin_126 rfl (by decide) (fun hc => ?_) (fun hc => ?_)
        · have h := pf_ifp hc h
          refine r_fg R [true, false] (show _ = [pf_R 40 0, pf_U] from rfl) ?_
          exact hkx123 _ h
        · have h := pf_ifn hc h
          refine r_aload_n R 130 dX12_begin_129 rfl rfl ?_
          refine r_getfield R 133 dX12_begin_130 rfl fl_X12_37 rfl (show _ = pf_R 50 0 from rfl) ?_
          refine r_iload_n R 134 dX12_begin_133 rfl rfl ?_
          refine r_iconst R 135 dX12_begin_134 rfl ic_iconst_0 ?_
          obtain ⟨hi7, h⟩ := pf_gd h
          refine r_iastore R 136 dX12_begin_135 rfl ⟨rfl, rfl⟩ (pf_in_iff.mp hi7) ?_
          refine r_iinc R 139 dX12_begin_136 rfl rfl ic_iconst_1 (show _ = [pf_R 40 0, pf_I (v123_1 + (1 : Int32))] from rfl) ?_
          refine r_goto R 123 dX12_begin_139 (by decide) ?_
          exact ih123 _ _ h
  have hl26 : ∀ (kx26 : pf_M → Option (pf_M)), (∀ (Me26 : pf_M), kx26 Me26 = some q → K 105 [pf_R 40 0, pf_U] [] Me26) → ∀ (n : Nat) (v26_1 : Int32) (M26 : pf_M), lX12_begin_26 kx26 n v26_1 M26 = some q → K 26 [pf_R 40 0, pf_I v26_1] [] M26 := by
    intro kx26 hkx26 n
    induction n with
    | zero =>
      intro v26_1 M26 h
      rw [lX12_begin_26] at h
      cases h
    | succ n ih26 =>
        intro v26_1 M26 h
        rw [lX12_begin_26] at h
        refine r_iload_n R 27 dX12_begin_26 rfl rfl ?_
        refine r_bipush R 29 dX12_begin_27 rfl ic_bipush_8 ?_
        refine r_icmp_ge R 32 105 dX12_begin_29 rfl (by decide) (fun hc => ?_) (fun hc => ?_)
        · have h := pf_ifp hc h
          refine r_fg R [true, false] (show _ = [pf_R 40 0, pf_U] from rfl) ?_
          exact hkx26 _ h
        · have h := pf_ifn hc h
          refine r_aload_n R 33 dX12_begin_32 rfl rfl ?_
          refine r_getfield R 36 dX12_begin_33 rfl fl_X12_25 rfl (show _ = pf_R 46 0 from rfl) ?_
          refine r_iload_n R 37 dX12_begin_36 rfl rfl ?_
          refine r_aload_n R 38 dX12_begin_37 rfl rfl ?_
          refine r_getfield R 41 dX12_begin_38 rfl fl_X12_13 rfl (show _ = pf_R 42 0 from rfl) ?_
          refine r_iload_n R 42 dX12_begin_41 rfl rfl ?_
          obtain ⟨hi8, h⟩ := pf_gd h
          refine r_iaload R 43 dX12_begin_42 rfl ⟨rfl, rfl⟩ (pf_in_iff.mp hi8) ?_
          obtain ⟨hi9, h⟩ := pf_gd h
          refine r_iastore R 44 dX12_begin_43 rfl ⟨rfl, rfl⟩ (pf_in_iff.mp hi9) ?_
          refine r_aload_n R 45 dX12_begin_44 rfl rfl ?_
          refine r_getfield R 48 dX12_begin_45 rfl fl_X12_28 rfl (show _ = pf_R 47 0 from rfl) ?_
          refine r_iload_n R 49 dX12_begin_48 rfl rfl ?_
          refine r_aload_n R 50 dX12_begin_49 rfl rfl ?_
          refine r_getfield R 53 dX12_begin_50 rfl fl_X12_16 rfl (show _ = pf_R 43 0 from rfl) ?_
          refine r_iload_n R 54 dX12_begin_53 rfl rfl ?_
          obtain ⟨hi10, h⟩ := pf_gd h
          refine r_iaload R 55 dX12_begin_54 rfl ⟨rfl, rfl⟩ (pf_in_iff.mp hi10) ?_
          obtain ⟨hi11, h⟩ := pf_gd h
          refine r_iastore R 56 dX12_begin_55 rfl ⟨rfl, rfl⟩ (pf_in_iff.mp hi11) ?_
          refine r_aload_n R 57 dX12_begin_56 rfl rfl ?_
          refine r_getfield R 60 dX12_begin_57 rfl fl_X12_31 rfl (show _ = pf_R 48 0 from rfl) ?_
          refine r_iload_n R 61 dX12_begin_60 rfl rfl ?_
          refine r_aload_n R 62 dX12_begin_61 rfl rfl ?_
          refine r_getfield R 65 dX12_begin_62 rfl fl_X12_19 rfl (show _ = pf_R 44 0 from rfl) ?_
          refine r_iload_n R 66 dX12_begin_65 rfl rfl ?_
          obtain ⟨hi12, h⟩ := pf_gd h
          refine r_iaload R 67 dX12_begin_66 rfl ⟨rfl, rfl⟩ (pf_in_iff.mp hi12) ?_
          obtain ⟨hi13, h⟩ := pf_gd h
          refine r_iastore R 68 dX12_begin_67 rfl ⟨rfl, rfl⟩ (pf_in_iff.mp hi13) ?_
          refine r_aload_n R 69 dX12_begin_68 rfl rfl ?_
          refine r_getfield R 72 dX12_begin_69 rfl fl_X12_34 rfl (show _ = pf_R 49 0 from rfl) ?_
          refine r_iload_n R 73 dX12_begin_72 rfl rfl ?_
          refine r_aload_n R 74 dX12_begin_73 rfl rfl ?_
          refine r_getfield R 77 dX12_begin_74 rfl fl_X12_22 rfl (show _ = pf_R 45 0 from rfl) ?_
          refine r_iload_n R 78 dX12_begin_77 rfl rfl ?_
          obtain ⟨hi14, h⟩ := pf_gd h
          refine r_iaload R 79 dX12_begin_78 rfl ⟨rfl, rfl⟩ (pf_in_iff.mp hi14) ?_
          obtain ⟨hi15, h⟩ := pf_gd h
          refine r_iastore R 80 dX12_begin_79 rfl ⟨rfl, rfl⟩ (pf_in_iff.mp hi15) ?_
          refine r_aload_n R 81 dX12_begin_80 rfl rfl ?_
          refine r_getfield R 84 dX12_begin_81 rfl fl_X12_46 rfl (show _ = pf_R 53 0 from rfl) ?_
          refine r_iload_n R 85 dX12_begin_84 rfl rfl ?_
          refine r_iconst R 86 dX12_begin_85 rfl ic_iconst_0 ?_
          obtain ⟨hi16, h⟩ := pf_gd h
          refine r_iastore R 87 dX12_begin_86 rfl ⟨rfl, rfl⟩ (pf_in_iff.mp hi16) ?_
          refine r_aload_n R 88 dX12_begin_87 rfl rfl ?_
          refine r_getfield R 91 dX12_begin_88 rfl fl_X12_49 rfl (show _ = pf_R 54 0 from rfl) ?_
          refine r_iload_n R 92 dX12_begin_91 rfl rfl ?_
          refine r_iconst R 93 dX12_begin_92 rfl ic_iconst_0 ?_
          obtain ⟨hi17, h⟩ := pf_gd h
          refine r_iastore R 94 dX12_begin_93 rfl ⟨rfl, rfl⟩ (pf_in_iff.mp hi17) ?_
          refine r_aload_n R 95 dX12_begin_94 rfl rfl ?_
          refine r_iload_n R 96 dX12_begin_95 rfl rfl ?_
          obtain ⟨q18, hq18, h⟩ := pf_bd h
          refine r_cvV1 R 99 dX12_begin_96 rfl lk_X12_189 rfl (c_X12_becomeInit G v26_1 (pf_up (pf_up (pf_up (pf_up (pf_up (pf_up M26 46 0 v26_1.toNatClampNeg (M26 42 0 v26_1.toNatClampNeg)) 47 0 v26_1.toNatClampNeg ((pf_up M26 46 0 v26_1.toNatClampNeg (M26 42 0 v26_1.toNatClampNeg)) 43 0 v26_1.toNatClampNeg)) 48 0 v26_1.toNatClampNeg ((pf_up (pf_up M26 46 0 v26_1.toNatClampNeg (M26 42 0 v26_1.toNatClampNeg)) 47 0 v26_1.toNatClampNeg ((pf_up M26 46 0 v26_1.toNatClampNeg (M26 42 0 v26_1.toNatClampNeg)) 43 0 v26_1.toNatClampNeg)) 44 0 v26_1.toNatClampNeg)) 49 0 v26_1.toNatClampNeg ((pf_up (pf_up (pf_up M26 46 0 v26_1.toNatClampNeg (M26 42 0 v26_1.toNatClampNeg)) 47 0 v26_1.toNatClampNeg ((pf_up M26 46 0 v26_1.toNatClampNeg (M26 42 0 v26_1.toNatClampNeg)) 43 0 v26_1.toNatClampNeg)) 48 0 v26_1.toNatClampNeg ((pf_up (pf_up M26 46 0 v26_1.toNatClampNeg (M26 42 0 v26_1.toNatClampNeg)) 47 0 v26_1.toNatClampNeg ((pf_up M26 46 0 v26_1.toNatClampNeg (M26 42 0 v26_1.toNatClampNeg)) 43 0 v26_1.toNatClampNeg)) 44 0 v26_1.toNatClampNeg)) 45 0 v26_1.toNatClampNeg)) 53 0 v26_1.toNatClampNeg (0 : Int32)) 54 0 v26_1.toNatClampNeg (0 : Int32)) _ hq18) rfl rfl rfl ?_
          refine r_iinc R 102 dX12_begin_99 rfl rfl ic_iconst_1 (show _ = [pf_R 40 0, pf_I (v26_1 + (1 : Int32))] from rfl) ?_
          refine r_goto R 26 dX12_begin_102 (by decide) ?_
          exact ih26 _ _ h
  unfold fX12_begin at h
  refine r_aload_n R 1 dX12_begin_0 rfl rfl ?_
  refine r_aload_n R 2 dX12_begin_1 rfl rfl ?_
  refine r_getfield R 5 dX12_begin_2 rfl fl_X12_138 rfl (show _ = pf_I (M 40 0 3) from rfl) ?_
  refine r_putfield R 8 dX12_begin_5 rfl fl_X12_180 rfl rfl rfl rfl ?_
  refine r_aload_n R 9 dX12_begin_8 rfl rfl ?_
  refine r_aload_n R 10 dX12_begin_9 rfl rfl ?_
  refine r_getfield R 13 dX12_begin_10 rfl fl_X12_128 rfl (show _ = pf_I ((pf_up M 40 0 10 (M 40 0 3)) 40 0 8) from rfl) ?_
  refine r_putfield R 16 dX12_begin_13 rfl fl_X12_183 rfl rfl rfl rfl ?_
  refine r_aload_n R 17 dX12_begin_16 rfl rfl ?_
  refine r_aload_n R 18 dX12_begin_17 rfl rfl ?_
  refine r_getfield R 21 dX12_begin_18 rfl fl_X12_132 rfl (show _ = pf_I ((pf_up (pf_up M 40 0 10 (M 40 0 3)) 40 0 15 ((pf_up M 40 0 10 (M 40 0 3)) 40 0 8)) 40 0 9) from rfl) ?_
  refine r_putfield R 24 dX12_begin_21 rfl fl_X12_186 rfl rfl rfl rfl ?_
  refine r_iconst R 25 dX12_begin_24 rfl ic_iconst_0 ?_
  refine r_istore_n R 26 dX12_begin_25 rfl rfl (show _ = [pf_R 40 0, pf_I (0 : Int32)] from rfl) ?_
  refine hl26 _ (fun u19_Me26 h => ?_) pf_fu _ _ h
  refine r_aload_n R 106 dX12_begin_105 rfl rfl ?_
  refine r_getfield R 109 dX12_begin_106 rfl fl_X12_28 rfl (show _ = pf_R 47 0 from rfl) ?_
  refine r_aload_n R 110 dX12_begin_109 rfl rfl ?_
  refine r_getfield R 113 dX12_begin_110 rfl fl_X12_180 rfl (show _ = pf_I (u19_Me26 40 0 10) from rfl) ?_
  refine r_aload_n R 114 dX12_begin_113 rfl rfl ?_
  refine r_getfield R 117 dX12_begin_114 rfl fl_X12_16 rfl (show _ = pf_R 43 0 from rfl) ?_
  refine r_bipush R 119 dX12_begin_117 rfl ic_bipush_8 ?_
  refine r_iaload R 120 dX12_begin_119 rfl ⟨rfl, rfl⟩ (pf_in_iff.mp (by decide)) ?_
  obtain ⟨hi20, h⟩ := pf_gd h
  refine r_iastore R 121 dX12_begin_120 rfl ⟨rfl, rfl⟩ (pf_in_iff.mp hi20) ?_
  refine r_iconst R 122 dX12_begin_121 rfl ic_iconst_0 ?_
  refine r_istore_n R 123 dX12_begin_122 rfl rfl (show _ = [pf_R 40 0, pf_I (0 : Int32)] from rfl) ?_
  refine hl123 _ (fun u21_Me123 h => ?_) pf_fu _ _ h
  refine r_iconst R 143 dX12_begin_142 rfl ic_iconst_0 ?_
  refine r_istore_n R 144 dX12_begin_143 rfl rfl (show _ = [pf_R 40 0, pf_I (0 : Int32)] from rfl) ?_
  refine hl144 _ (fun u22_Me144 h => ?_) pf_fu _ _ h
  refine r_iconst R 165 dX12_begin_164 rfl ic_iconst_0 ?_
  refine r_istore_n R 166 dX12_begin_165 rfl rfl (show _ = [pf_R 40 0, pf_I (0 : Int32)] from rfl) ?_
  refine hl166 _ (fun u23_Me166 h => ?_) pf_fu _ _ h
  refine r_iconst R 186 dX12_begin_185 rfl ic_iconst_0 ?_
  refine r_istore_n R 187 dX12_begin_186 rfl rfl (show _ = [pf_R 40 0, pf_I (0 : Int32)] from rfl) ?_
  refine hl187 _ (fun u24_Me187 h => ?_) pf_fu _ _ h
  refine r_iconst R 207 dX12_begin_206 rfl ic_iconst_0 ?_
  refine r_istore_n R 208 dX12_begin_207 rfl rfl (show _ = [pf_R 40 0, pf_I (0 : Int32)] from rfl) ?_
  refine hl208 _ (fun u25_Me208 h => ?_) pf_fu _ _ h
  refine r_aload_n R 227 dX12_begin_226 rfl rfl ?_
  refine r_iconst R 228 dX12_begin_227 rfl ic_iconst_0 ?_
  refine r_putfield R 231 dX12_begin_228 rfl fl_X12_193 rfl rfl rfl rfl ?_
  refine r_aload_n R 232 dX12_begin_231 rfl rfl ?_
  refine r_iconst R 233 dX12_begin_232 rfl ic_iconst_0 ?_
  refine r_putfield R 236 dX12_begin_233 rfl fl_X12_196 rfl rfl rfl rfl ?_
  refine r_aload_n R 237 dX12_begin_236 rfl rfl ?_
  refine r_iconst R 238 dX12_begin_237 rfl ic_iconst_0 ?_
  refine r_putfield R 241 dX12_begin_238 rfl fl_X12_199 rfl rfl rfl rfl ?_
  refine r_aload_n R 242 dX12_begin_241 rfl rfl ?_
  refine r_iconst R 243 dX12_begin_242 rfl ic_iconst_0 ?_
  refine r_putfield R 246 dX12_begin_243 rfl fl_X12_203 rfl rfl rfl rfl ?_
  refine r_aload_n R 247 dX12_begin_246 rfl rfl ?_
  refine r_iconst R 248 dX12_begin_247 rfl ic_iconst_0 ?_
  refine r_putfield R 251 dX12_begin_248 rfl fl_X12_206 rfl rfl rfl rfl ?_
  obtain rfl := Option.some.inj h
  exact r_return_ R dX12_begin_251 rfl rfl rfl
