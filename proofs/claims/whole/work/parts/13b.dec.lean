def fX5_accept (o0 : Nat) (x1 : Int32) (M : pf_M) : Option (Int32 × pf_M) :=
  (if (M 14 o0 5) = (M 14 o0 3) then some ((1 : Int32), M)
  else ((fX8_append (2 * o0 + 1) x1 M).bind fun q2 => (if q2.1 = (0 : Int32) then some ((0 : Int32), q2.2)
  else some ((1 : Int32), (pf_up q2.2 14 o0 3 (q2.2 14 o0 5))))))
set_option maxRecDepth 4000 in
theorem c_X5_accept (G : pf_G) (o0 : Nat) (x1 : Int32) (M : pf_M) (q : Int32 × pf_M) (h : fX5_accept o0 x1 M = some q) : pf_Met G yX5_accept cX5_accept 2 (some .boolean) 1 21 [pf_R 14 o0, pf_I x1] M (some (pf_I q.1)) q.2 := by
  refine pf_Met.of (by decide +kernel) (Nat.le_of_ble_eq_true rfl) (fun K R => ?_)
  show K 0 [pf_R 14 o0, pf_I x1] [] M
  unfold fX5_accept at h
  refine r_aload_n R 1 dX5_accept_0 rfl rfl ?_
  refine r_getfield R 4 dX5_accept_1 rfl fl_X5_34 rfl (show _ = pf_I (M 14 o0 5) from rfl) ?_
  refine r_aload_n R 5 dX5_accept_4 rfl rfl ?_
  refine r_getfield R 8 dX5_accept_5 rfl fl_X5_28 rfl (show _ = pf_I (M 14 o0 3) from rfl) ?_
  refine r_icmp_ne R 11 13 dX5_accept_8 rfl (by decide) (fun hc => ?_) (fun hc => ?_)
  · have h := pf_ifp hc h
    refine r_iconst R 12 dX5_accept_11 rfl ic_iconst_1 ?_
    obtain rfl := Option.some.inj h
    exact r_ireturn R dX5_accept_12 rfl rfl rfl rfl
  · have h := pf_ifn hc h
    refine r_aload_n R 14 dX5_accept_13 rfl rfl ?_
    refine r_getfield R 17 dX5_accept_14 rfl fl_X5_18 rfl (show _ = pf_R 15 (2 * o0 + 1) from rfl) ?_
    refine r_iload_n R 18 dX5_accept_17 rfl rfl ?_
    obtain ⟨q2, hq2, h⟩ := pf_bd h
    refine r_cvI1 R 21 dX5_accept_18 rfl lk_X5_50 rfl (c_X8_append G (2 * o0 + 1) x1 M _ hq2) rfl rfl rfl ?_
    refine r_if_ne R 24 26 dX5_accept_21 rfl (by decide) (fun hc => ?_) (fun hc => ?_)
    · have h := pf_ifp hc h
      refine r_iconst R 25 dX5_accept_24 rfl ic_iconst_0 ?_
      obtain rfl := Option.some.inj h
      exact r_ireturn R dX5_accept_25 rfl rfl rfl rfl
    · have h := pf_ifn hc h
      refine r_aload_n R 27 dX5_accept_26 rfl rfl ?_
      refine r_aload_n R 28 dX5_accept_27 rfl rfl ?_
      refine r_getfield R 31 dX5_accept_28 rfl fl_X5_34 rfl (show _ = pf_I (q2.2 14 o0 5) from rfl) ?_
      refine r_putfield R 34 dX5_accept_31 rfl fl_X5_28 rfl rfl rfl rfl ?_
      refine r_iconst R 35 dX5_accept_34 rfl ic_iconst_1 ?_
      obtain rfl := Option.some.inj h
      exact r_ireturn R dX5_accept_35 rfl rfl rfl rfl
def lX9_cutWires_4 (M : pf_M) : Nat → Int32 → Int32 → Option (Int32)
  | 0, _, _ => none
  | n + 1, v4_1, v4_2 =>
  (if (M 7 0 3) < v4_2 then some v4_1
  else (if pf_in v4_2 9 = true then (lX9_cutWires_4 M n) (v4_1 + (M 10 0 v4_2.toNatClampNeg)) (v4_2 + (1 : Int32))
  else none))
def fX9_cutWires (M : pf_M) : Option (Int32) :=
  lX9_cutWires_4 M pf_fu (0 : Int32) (0 : Int32)
set_option maxRecDepth 4000 in
theorem c_X9_cutWires (G : pf_G) (M : pf_M) (q : Int32) (h : fX9_cutWires M = some q) : pf_Met G yX9_cutWires cX9_cutWires 3 (some .int) 0 0 [pf_R 7 0] M (some (pf_I q)) M := by
  refine pf_Met.of (by decide +kernel) (Nat.le_of_ble_eq_true rfl) (fun K R => ?_)
  show K 0 [pf_R 7 0, pf_U, pf_U] [] M
  have hl4 : ∀ (n : Nat) (v4_1 : Int32) (v4_2 : Int32), lX9_cutWires_4 M n v4_1 v4_2 = some q → K 4 [pf_R 7 0, pf_I v4_1, pf_I v4_2] [] M := by
    intro n
    induction n with
    | zero =>
      intro v4_1 v4_2 h
      rw [lX9_cutWires_4] at h
      cases h
    | succ n ih4 =>
        intro v4_1 v4_2 h
        rw [lX9_cutWires_4] at h
        refine r_iload_n R 5 dX9_cutWires_4 rfl rfl ?_
        refine r_aload_n R 6 dX9_cutWires_5 rfl rfl ?_
        refine r_getfield R 9 dX9_cutWires_6 rfl fl_X9_30 rfl (show _ = pf_I (M 7 0 3) from rfl) ?_
        refine r_icmp_gt R 12 27 dX9_cutWires_9 rfl (by decide) (fun hc => ?_) (fun hc => ?_)
        · have h := pf_ifp hc h
          refine r_iload_n R 28 dX9_cutWires_27 rfl rfl ?_
          obtain rfl := Option.some.inj h
          exact r_ireturn R dX9_cutWires_28 rfl rfl rfl rfl
        · have h := pf_ifn hc h
          refine r_iload_n R 13 dX9_cutWires_12 rfl rfl ?_
          refine r_aload_n R 14 dX9_cutWires_13 rfl rfl ?_
          refine r_getfield R 17 dX9_cutWires_14 rfl fl_X9_21 rfl (show _ = pf_R 10 0 from rfl) ?_
          refine r_iload_n R 18 dX9_cutWires_17 rfl rfl ?_
          obtain ⟨hi1, h⟩ := pf_gd h
          refine r_iaload R 19 dX9_cutWires_18 rfl ⟨rfl, rfl⟩ (pf_in_iff.mp hi1) ?_
          refine r_iadd R 20 dX9_cutWires_19 rfl ?_
          refine r_istore_n R 21 dX9_cutWires_20 rfl rfl (show _ = [pf_R 7 0, pf_I (v4_1 + (M 10 0 v4_2.toNatClampNeg)), pf_I v4_2] from rfl) ?_
          refine r_iinc R 24 dX9_cutWires_21 rfl rfl ic_iconst_1 (show _ = [pf_R 7 0, pf_I (v4_1 + (M 10 0 v4_2.toNatClampNeg)), pf_I (v4_2 + (1 : Int32))] from rfl) ?_
          refine r_goto R 4 dX9_cutWires_24 (by decide) ?_
          exact ih4 _ _ h
  unfold fX9_cutWires at h
  refine r_iconst R 1 dX9_cutWires_0 rfl ic_iconst_0 ?_
  refine r_istore_n R 2 dX9_cutWires_1 rfl rfl (show _ = [pf_R 7 0, pf_I (0 : Int32), pf_U] from rfl) ?_
  refine r_iconst R 3 dX9_cutWires_2 rfl ic_iconst_0 ?_
  refine r_istore_n R 4 dX9_cutWires_3 rfl rfl (show _ = [pf_R 7 0, pf_I (0 : Int32), pf_I (0 : Int32)] from rfl) ?_
  exact hl4 pf_fu _ _ h
def fX9_wireTime (x1 : Int32) (M : pf_M) : Option (Int32) :=
  (if x1 < (0 : Int32) then some (0 : Int32)
  else (if (M 7 0 3) < x1 then some (0 : Int32)
  else (if pf_in x1 9 = true then some (M 9 0 x1.toNatClampNeg)
  else none)))
set_option maxRecDepth 4000 in
theorem c_X9_wireTime (G : pf_G) (x1 : Int32) (M : pf_M) (q : Int32) (h : fX9_wireTime x1 M = some q) : pf_Met G yX9_wireTime cX9_wireTime 2 (some .int) 0 0 [pf_R 7 0, pf_I x1] M (some (pf_I q)) M := by
  refine pf_Met.of (by decide +kernel) (Nat.le_of_ble_eq_true rfl) (fun K R => ?_)
  show K 0 [pf_R 7 0, pf_I x1] [] M
  unfold fX9_wireTime at h
  refine r_iload_n R 1 dX9_wireTime_0 rfl rfl ?_
  refine r_if_lt R 4 21 dX9_wireTime_1 rfl (by decide) (fun hc => ?_) (fun hc => ?_)
  · have h := pf_ifp hc h
    refine r_iconst R 22 dX9_wireTime_21 rfl ic_iconst_0 ?_
    obtain rfl := Option.some.inj h
    exact r_ireturn R dX9_wireTime_22 rfl rfl rfl rfl
  · have h := pf_ifn hc h
    refine r_iload_n R 5 dX9_wireTime_4 rfl rfl ?_
    refine r_aload_n R 6 dX9_wireTime_5 rfl rfl ?_
    refine r_getfield R 9 dX9_wireTime_6 rfl fl_X9_30 rfl (show _ = pf_I (M 7 0 3) from rfl) ?_
    refine r_icmp_gt R 12 21 dX9_wireTime_9 rfl (by decide) (fun hc => ?_) (fun hc => ?_)
    · have h := pf_ifp hc h
      refine r_iconst R 22 dX9_wireTime_21 rfl ic_iconst_0 ?_
      obtain rfl := Option.some.inj h
      exact r_ireturn R dX9_wireTime_22 rfl rfl rfl rfl
    · have h := pf_ifn hc h
      refine r_aload_n R 13 dX9_wireTime_12 rfl rfl ?_
      refine r_getfield R 16 dX9_wireTime_13 rfl fl_X9_17 rfl (show _ = pf_R 9 0 from rfl) ?_
      refine r_iload_n R 17 dX9_wireTime_16 rfl rfl ?_
      obtain ⟨hi2, h⟩ := pf_gd h
      refine r_iaload R 18 dX9_wireTime_17 rfl ⟨rfl, rfl⟩ (pf_in_iff.mp hi2) ?_
      refine r_goto R 22 dX9_wireTime_18 (by decide) ?_
      obtain rfl := Option.some.inj h
      exact r_ireturn R dX9_wireTime_22 rfl rfl rfl rfl
def lX9_wireTimes_5 (x2 : Int32) (M : pf_M) : Nat → Int32 → Int32 → Option (Int32)
  | 0, _, _ => none
  | n + 1, v5_3, v5_4 =>
  (if x2 < v5_4 then some v5_3
  else ((fX9_wireTime v5_4 M).bind fun r2 => (lX9_wireTimes_5 x2 M n) (v5_3 + r2) (v5_4 + (1 : Int32))))
def fX9_wireTimes (x1 : Int32) (x2 : Int32) (M : pf_M) : Option (Int32) :=
  lX9_wireTimes_5 x2 M pf_fu (0 : Int32) x1
set_option maxRecDepth 4000 in
theorem c_X9_wireTimes (G : pf_G) (x1 : Int32) (x2 : Int32) (M : pf_M) (q : Int32) (h : fX9_wireTimes x1 x2 M = some q) : pf_Met G yX9_wireTimes cX9_wireTimes 5 (some .int) 1 21 [pf_R 7 0, pf_I x1, pf_I x2] M (some (pf_I q)) M := by
  refine pf_Met.of (by decide +kernel) (Nat.le_of_ble_eq_true rfl) (fun K R => ?_)
  show K 0 [pf_R 7 0, pf_I x1, pf_I x2, pf_U, pf_U] [] M
  have hl5 : ∀ (n : Nat) (v5_3 : Int32) (v5_4 : Int32), lX9_wireTimes_5 x2 M n v5_3 v5_4 = some q → K 5 [pf_R 7 0, pf_U, pf_I x2, pf_I v5_3, pf_I v5_4] [] M := by
    intro n
    induction n with
    | zero =>
      intro v5_3 v5_4 h
      rw [lX9_wireTimes_5] at h
      cases h
    | succ n ih5 =>
        intro v5_3 v5_4 h
        rw [lX9_wireTimes_5] at h
        refine r_iload R 7 dX9_wireTimes_5 rfl rfl ?_
        refine r_iload_n R 8 dX9_wireTimes_7 rfl rfl ?_
        refine r_icmp_gt R 11 26 dX9_wireTimes_8 rfl (by decide) (fun hc => ?_) (fun hc => ?_)
        · have h := pf_ifp hc h
          refine r_iload_n R 27 dX9_wireTimes_26 rfl rfl ?_
          obtain rfl := Option.some.inj h
          exact r_ireturn R dX9_wireTimes_27 rfl rfl rfl rfl
        · have h := pf_ifn hc h
          refine r_iload_n R 12 dX9_wireTimes_11 rfl rfl ?_
          refine r_aload_n R 13 dX9_wireTimes_12 rfl rfl ?_
          refine r_iload R 15 dX9_wireTimes_13 rfl rfl ?_
          obtain ⟨r2, hr2, h⟩ := pf_bd h
          refine r_cvI1 R 18 dX9_wireTimes_15 rfl lk_X9_67 rfl (c_X9_wireTime G v5_4 M _ hr2) rfl rfl rfl ?_
          refine r_iadd R 19 dX9_wireTimes_18 rfl ?_
          refine r_istore_n R 20 dX9_wireTimes_19 rfl rfl (show _ = [pf_R 7 0, pf_U, pf_I x2, pf_I (v5_3 + r2), pf_I v5_4] from rfl) ?_
          refine r_iinc R 23 dX9_wireTimes_20 rfl rfl ic_iconst_1 (show _ = [pf_R 7 0, pf_U, pf_I x2, pf_I (v5_3 + r2), pf_I (v5_4 + (1 : Int32))] from rfl) ?_
          refine r_goto R 5 dX9_wireTimes_23 (by decide) ?_
          exact ih5 _ _ h
  unfold fX9_wireTimes at h
  refine r_iconst R 1 dX9_wireTimes_0 rfl ic_iconst_0 ?_
  refine r_istore_n R 2 dX9_wireTimes_1 rfl rfl (show _ = [pf_R 7 0, pf_I x1, pf_I x2, pf_I (0 : Int32), pf_U] from rfl) ?_
  refine r_iload_n R 3 dX9_wireTimes_2 rfl rfl ?_
  refine r_istore R 5 dX9_wireTimes_3 rfl rfl (show _ = [pf_R 7 0, pf_I x1, pf_I x2, pf_I (0 : Int32), pf_I x1] from rfl) ?_
  refine r_fg R [true, false, true, true, true] (show _ = [pf_R 7 0, pf_U, pf_I x2, pf_I (0 : Int32), pf_I x1] from rfl) ?_
  exact hl5 pf_fu _ _ h
def fX9_sideTrip (x1 : Int32) (x2 : Int32) (M : pf_M) : Int32 :=
  (if x1 = (0 : Int32) then (0 : Int32)
  else (((2 : Int32) * x2) + (x1 * (M 7 0 4))) + ((x1 - (1 : Int32)) * (M 7 0 5)))
set_option maxRecDepth 4000 in
theorem c_X9_sideTrip (G : pf_G) (x1 : Int32) (x2 : Int32) (M : pf_M) (q : Int32) (h : fX9_sideTrip x1 x2 M = q) : pf_Met G yX9_sideTrip cX9_sideTrip 3 (some .int) 0 0 [pf_R 7 0, pf_I x1, pf_I x2] M (some (pf_I q)) M := by
  refine pf_Met.of (by decide +kernel) (Nat.le_of_ble_eq_true rfl) (fun K R => ?_)
  show K 0 [pf_R 7 0, pf_I x1, pf_I x2] [] M
  unfold fX9_sideTrip at h
  refine r_iload_n R 1 dX9_sideTrip_0 rfl rfl ?_
  refine r_if_ne R 4 8 dX9_sideTrip_1 rfl (by decide) (fun hc => ?_) (fun hc => ?_)
  · have h := pf_ifp hc h
    refine r_iconst R 5 dX9_sideTrip_4 rfl ic_iconst_0 ?_
    refine r_goto R 27 dX9_sideTrip_5 (by decide) ?_
    subst h
    exact r_ireturn R dX9_sideTrip_27 rfl rfl rfl rfl
  · have h := pf_ifn hc h
    refine r_iconst R 9 dX9_sideTrip_8 rfl ic_iconst_2 ?_
    refine r_iload_n R 10 dX9_sideTrip_9 rfl rfl ?_
    refine r_imul R 11 dX9_sideTrip_10 rfl ?_
    refine r_iload_n R 12 dX9_sideTrip_11 rfl rfl ?_
    refine r_aload_n R 13 dX9_sideTrip_12 rfl rfl ?_
    refine r_getfield R 16 dX9_sideTrip_13 rfl fl_X9_36 rfl (show _ = pf_I (M 7 0 4) from rfl) ?_
    refine r_imul R 17 dX9_sideTrip_16 rfl ?_
    refine r_iadd R 18 dX9_sideTrip_17 rfl ?_
    refine r_iload_n R 19 dX9_sideTrip_18 rfl rfl ?_
    refine r_iconst R 20 dX9_sideTrip_19 rfl ic_iconst_1 ?_
    refine r_isub R 21 dX9_sideTrip_20 rfl ?_
    refine r_aload_n R 22 dX9_sideTrip_21 rfl rfl ?_
    refine r_getfield R 25 dX9_sideTrip_22 rfl fl_X9_40 rfl (show _ = pf_I (M 7 0 5) from rfl) ?_
    refine r_imul R 26 dX9_sideTrip_25 rfl ?_
    refine r_iadd R 27 dX9_sideTrip_26 rfl ?_
    subst h
    exact r_ireturn R dX9_sideTrip_27 rfl rfl rfl rfl
def fX9_sizeOfB (M : pf_M) : Option (Int32) :=
  ((fX9_firstOfB M).bind fun r2 => some ((M 7 0 3) - r2))
set_option maxRecDepth 4000 in
theorem c_X9_sizeOfB (G : pf_G) (M : pf_M) (q : Int32) (h : fX9_sizeOfB M = some q) : pf_Met G yX9_sizeOfB cX9_sizeOfB 1 (some .int) 1 21 [pf_R 7 0] M (some (pf_I q)) M := by
  refine pf_Met.of (by decide +kernel) (Nat.le_of_ble_eq_true rfl) (fun K R => ?_)
  show K 0 [pf_R 7 0] [] M
  unfold fX9_sizeOfB at h
  refine r_aload_n R 1 dX9_sizeOfB_0 rfl rfl ?_
  refine r_getfield R 4 dX9_sizeOfB_1 rfl fl_X9_30 rfl (show _ = pf_I (M 7 0 3) from rfl) ?_
  refine r_aload_n R 5 dX9_sizeOfB_4 rfl rfl ?_
  obtain ⟨r2, hr2, h⟩ := pf_bd h
  refine r_cvI0 R 8 dX9_sizeOfB_5 rfl lk_X9_71 rfl (c_X9_firstOfB G M _ hr2) rfl rfl rfl ?_
  refine r_isub R 9 dX9_sizeOfB_8 rfl ?_
  obtain rfl := Option.some.inj h
  exact r_ireturn R dX9_sizeOfB_9 rfl rfl rfl rfl
def fX9_trip (M : pf_M) : Option (Int32) :=
  ((fX9_cutWires M).bind fun r9 => (if r9 = (0 : Int32) then ((fX9_wireTimes (0 : Int32) (M 7 0 3) M).bind fun r16 => some (r16 + ((M 7 0 4) * (M 7 0 3))))
  else ((fX9_sizeOfA M).bind fun r10 => ((fX9_sizeOfA M).bind fun r11 => ((fX9_wireTimes (0 : Int32) (r11 - (1 : Int32)) M).bind fun r12 => ((fX9_sizeOfB M).bind fun r13 => ((fX9_firstOfB M).bind fun r14 => ((fX9_wireTimes (r14 + (1 : Int32)) (M 7 0 3) M).bind fun r15 => some (fJ9_max_7cf53 (fX9_sideTrip r10 r12 M) (fX9_sideTrip r13 r15 M))))))))))
set_option maxRecDepth 4000 in
theorem c_X9_trip (G : pf_G) (M : pf_M) (q : Int32) (h : fX9_trip M = some q) : pf_Met G yX9_trip cX9_trip 3 (some .int) 2 45 [pf_R 7 0] M (some (pf_I q)) M := by
  refine pf_Met.of (by decide +kernel) (Nat.le_of_ble_eq_true rfl) (fun K R => ?_)
  show K 0 [pf_R 7 0, pf_U, pf_U] [] M
  unfold fX9_trip at h
  refine r_aload_n R 1 dX9_trip_0 rfl rfl ?_
  obtain ⟨r9, hr9, h⟩ := pf_bd h
  refine r_cvI0 R 4 dX9_trip_1 rfl lk_X9_92 rfl (c_X9_cutWires G M _ hr9) rfl rfl rfl ?_
  refine r_if_ne R 7 27 dX9_trip_4 rfl (by decide) (fun hc => ?_) (fun hc => ?_)
  · have h := pf_ifp hc h
    refine r_aload_n R 8 dX9_trip_7 rfl rfl ?_
    refine r_iconst R 9 dX9_trip_8 rfl ic_iconst_0 ?_
    refine r_aload_n R 10 dX9_trip_9 rfl rfl ?_
    refine r_getfield R 13 dX9_trip_10 rfl fl_X9_30 rfl (show _ = pf_I (M 7 0 3) from rfl) ?_
    obtain ⟨r16, hr16, h⟩ := pf_bd h
    refine r_cvI2 R 16 dX9_trip_13 rfl lk_X9_88 rfl (c_X9_wireTimes G (0 : Int32) (M 7 0 3) M _ hr16) rfl rfl rfl ?_
    refine r_aload_n R 17 dX9_trip_16 rfl rfl ?_
    refine r_getfield R 20 dX9_trip_17 rfl fl_X9_36 rfl (show _ = pf_I (M 7 0 4) from rfl) ?_
    refine r_aload_n R 21 dX9_trip_20 rfl rfl ?_
    refine r_getfield R 24 dX9_trip_21 rfl fl_X9_30 rfl (show _ = pf_I (M 7 0 3) from rfl) ?_
    refine r_imul R 25 dX9_trip_24 rfl ?_
    refine r_iadd R 26 dX9_trip_25 rfl ?_
    obtain rfl := Option.some.inj h
    exact r_ireturn R dX9_trip_26 rfl rfl rfl rfl
  · have h := pf_ifn hc h
    refine r_aload_n R 28 dX9_trip_27 rfl rfl ?_
    refine r_aload_n R 29 dX9_trip_28 rfl rfl ?_
    obtain ⟨r10, hr10, h⟩ := pf_bd h
    refine r_cvI0 R 32 dX9_trip_29 rfl lk_X9_75 rfl (c_X9_sizeOfA G M _ hr10) rfl rfl rfl ?_
    refine r_aload_n R 33 dX9_trip_32 rfl rfl ?_
    refine r_iconst R 34 dX9_trip_33 rfl ic_iconst_0 ?_
    refine r_aload_n R 35 dX9_trip_34 rfl rfl ?_
    obtain ⟨r11, hr11, h⟩ := pf_bd h
    refine r_cvI0 R 38 dX9_trip_35 rfl lk_X9_75 rfl (c_X9_sizeOfA G M _ hr11) rfl rfl rfl ?_
    refine r_iconst R 39 dX9_trip_38 rfl ic_iconst_1 ?_
    refine r_isub R 40 dX9_trip_39 rfl ?_
    obtain ⟨r12, hr12, h⟩ := pf_bd h
    refine r_cvI2 R 43 dX9_trip_40 rfl lk_X9_88 rfl (c_X9_wireTimes G (0 : Int32) (r11 - (1 : Int32)) M _ hr12) rfl rfl rfl ?_
    refine r_cvI2 R 46 dX9_trip_43 rfl lk_X9_95 rfl (c_X9_sideTrip G r10 r12 M _ rfl) rfl rfl rfl ?_
    refine r_istore_n R 47 dX9_trip_46 rfl rfl (show _ = [pf_R 7 0, pf_I (fX9_sideTrip r10 r12 M), pf_U] from rfl) ?_
    refine r_aload_n R 48 dX9_trip_47 rfl rfl ?_
    refine r_aload_n R 49 dX9_trip_48 rfl rfl ?_
    obtain ⟨r13, hr13, h⟩ := pf_bd h
    refine r_cvI0 R 52 dX9_trip_49 rfl lk_X9_98 rfl (c_X9_sizeOfB G M _ hr13) rfl rfl rfl ?_
    refine r_aload_n R 53 dX9_trip_52 rfl rfl ?_
    refine r_aload_n R 54 dX9_trip_53 rfl rfl ?_
    obtain ⟨r14, hr14, h⟩ := pf_bd h
    refine r_cvI0 R 57 dX9_trip_54 rfl lk_X9_71 rfl (c_X9_firstOfB G M _ hr14) rfl rfl rfl ?_
    refine r_iconst R 58 dX9_trip_57 rfl ic_iconst_1 ?_
    refine r_iadd R 59 dX9_trip_58 rfl ?_
    refine r_aload_n R 60 dX9_trip_59 rfl rfl ?_
    refine r_getfield R 63 dX9_trip_60 rfl fl_X9_30 rfl (show _ = pf_I (M 7 0 3) from rfl) ?_
    obtain ⟨r15, hr15, h⟩ := pf_bd h
    refine r_cvI2 R 66 dX9_trip_63 rfl lk_X9_88 rfl (c_X9_wireTimes G (r14 + (1 : Int32)) (M 7 0 3) M _ hr15) rfl rfl rfl ?_
    refine r_cvI2 R 69 dX9_trip_66 rfl lk_X9_95 rfl (c_X9_sideTrip G r13 r15 M _ rfl) rfl rfl rfl ?_
    refine r_istore_n R 70 dX9_trip_69 rfl rfl (show _ = [pf_R 7 0, pf_I (fX9_sideTrip r10 r12 M), pf_I (fX9_sideTrip r13 r15 M)] from rfl) ?_
    refine r_iload_n R 71 dX9_trip_70 rfl rfl ?_
    refine r_iload_n R 72 dX9_trip_71 rfl rfl ?_
    refine r_csI2 R 75 dX9_trip_72 rfl lk_X9_101 (c_J9_max_7cf53 G (fX9_sideTrip r10 r12 M) (fX9_sideTrip r13 r15 M) _ rfl) rfl rfl rfl ?_
    obtain rfl := Option.some.inj h
    exact r_ireturn R dX9_trip_75 rfl rfl rfl rfl
def fX9_passTime (x1 : Int32) (M : pf_M) : pf_M :=
  (pf_up M 7 0 6 ((M 7 0 6) + x1))
set_option maxRecDepth 4000 in
theorem c_X9_passTime (G : pf_G) (x1 : Int32) (M : pf_M) (q : pf_M) (h : fX9_passTime x1 M = q) : pf_Met G yX9_passTime cX9_passTime 2 (none) 0 0 [pf_R 7 0, pf_I x1] M none q := by
  refine pf_Met.of (by decide +kernel) (Nat.le_of_ble_eq_true rfl) (fun K R => ?_)
  show K 0 [pf_R 7 0, pf_I x1] [] M
  unfold fX9_passTime at h
  refine r_aload_n R 1 dX9_passTime_0 rfl rfl ?_
  refine r_dup R 2 dX9_passTime_1 rfl rfl ?_
  refine r_getfield R 5 dX9_passTime_2 rfl fl_X9_41 rfl (show _ = pf_I (M 7 0 6) from rfl) ?_
  refine r_iload_n R 6 dX9_passTime_5 rfl rfl ?_
  refine r_iadd R 7 dX9_passTime_6 rfl ?_
  refine r_putfield R 10 dX9_passTime_7 rfl fl_X9_41 rfl rfl rfl rfl ?_
  subst h
  exact r_return_ R dX9_passTime_10 rfl rfl rfl
def fX6_frameComesHome (M : pf_M) : Option (Int32 × pf_M) :=
  ((fX9_trip M).bind fun r2 => (if ((fX9_passTime r2 M) 20 0 4) ≤ (0 : Int32) then some ((1 : Int32), (fX9_passTime r2 M))
  else some ((0 : Int32), (pf_up (fX9_passTime r2 M) 20 0 4 (((fX9_passTime r2 M) 20 0 4) - (1 : Int32))))))
set_option maxRecDepth 4000 in
theorem c_X6_frameComesHome (G : pf_G) (M : pf_M) (q : Int32 × pf_M) (h : fX6_frameComesHome M = some q) : pf_Met G yX6_frameComesHome cX6_frameComesHome 1 (some .boolean) 3 67 [pf_R 20 0] M (some (pf_I q.1)) q.2 := by
  refine pf_Met.of (by decide +kernel) (Nat.le_of_ble_eq_true rfl) (fun K R => ?_)
  show K 0 [pf_R 20 0] [] M
  unfold fX6_frameComesHome at h
  refine r_aload_n R 1 dX6_frameComesHome_0 rfl rfl ?_
  refine r_getfield R 4 dX6_frameComesHome_1 rfl fl_X6_24 rfl (show _ = pf_R 7 0 from rfl) ?_
  refine r_aload_n R 5 dX6_frameComesHome_4 rfl rfl ?_
  refine r_getfield R 8 dX6_frameComesHome_5 rfl fl_X6_24 rfl (show _ = pf_R 7 0 from rfl) ?_
  obtain ⟨r2, hr2, h⟩ := pf_bd h
  refine r_cvI0 R 11 dX6_frameComesHome_8 rfl lk_X6_56 rfl (c_X9_trip G M _ hr2) rfl rfl rfl ?_
  refine r_cvV1 R 14 dX6_frameComesHome_11 rfl lk_X6_61 rfl (c_X9_passTime G r2 M _ rfl) rfl rfl rfl ?_
  refine r_aload_n R 15 dX6_frameComesHome_14 rfl rfl ?_
  refine r_getfield R 18 dX6_frameComesHome_15 rfl fl_X6_39 rfl (show _ = pf_I ((fX9_passTime r2 M) 20 0 4) from rfl) ?_
  refine r_if_le R 21 33 dX6_frameComesHome_18 rfl (by decide) (fun hc => ?_) (fun hc => ?_)
  · have h := pf_ifp hc h
    refine r_iconst R 34 dX6_frameComesHome_33 rfl ic_iconst_1 ?_
    obtain rfl := Option.some.inj h
    exact r_ireturn R dX6_frameComesHome_34 rfl rfl rfl rfl
  · have h := pf_ifn hc h
    refine r_aload_n R 22 dX6_frameComesHome_21 rfl rfl ?_
    refine r_dup R 23 dX6_frameComesHome_22 rfl rfl ?_
    refine r_getfield R 26 dX6_frameComesHome_23 rfl fl_X6_39 rfl (show _ = pf_I ((fX9_passTime r2 M) 20 0 4) from rfl) ?_
    refine r_iconst R 27 dX6_frameComesHome_26 rfl ic_iconst_1 ?_
    refine r_isub R 28 dX6_frameComesHome_27 rfl ?_
    refine r_putfield R 31 dX6_frameComesHome_28 rfl fl_X6_39 rfl rfl rfl rfl ?_
    refine r_iconst R 32 dX6_frameComesHome_31 rfl ic_iconst_0 ?_
    obtain rfl := Option.some.inj h
    exact r_ireturn R dX6_frameComesHome_32 rfl rfl rfl rfl
def fX5_confirmAccepted (o0 : Nat) (M : pf_M) : pf_M :=
  (pf_up (pf_up M 14 o0 5 ((1 : Int32) - (M 14 o0 5))) 14 o0 7 (0 : Int32))
set_option maxRecDepth 4000 in
theorem c_X5_confirmAccepted (G : pf_G) (o0 : Nat) (M : pf_M) (q : pf_M) (h : fX5_confirmAccepted o0 M = q) : pf_Met G yX5_confirmAccepted cX5_confirmAccepted 1 (none) 0 0 [pf_R 14 o0] M none q := by
  refine pf_Met.of (by decide +kernel) (Nat.le_of_ble_eq_true rfl) (fun K R => ?_)
  show K 0 [pf_R 14 o0] [] M
  unfold fX5_confirmAccepted at h
  refine r_aload_n R 1 dX5_confirmAccepted_0 rfl rfl ?_
  refine r_iconst R 2 dX5_confirmAccepted_1 rfl ic_iconst_1 ?_
  refine r_aload_n R 3 dX5_confirmAccepted_2 rfl rfl ?_
  refine r_getfield R 6 dX5_confirmAccepted_3 rfl fl_X5_34 rfl (show _ = pf_I (M 14 o0 5) from rfl) ?_
  refine r_isub R 7 dX5_confirmAccepted_6 rfl ?_
  refine r_putfield R 10 dX5_confirmAccepted_7 rfl fl_X5_34 rfl rfl rfl rfl ?_
  refine r_aload_n R 11 dX5_confirmAccepted_10 rfl rfl ?_
  refine r_iconst R 12 dX5_confirmAccepted_11 rfl ic_iconst_0 ?_
  refine r_putfield R 15 dX5_confirmAccepted_12 rfl fl_X5_40 rfl rfl rfl rfl ?_
  subst h
  exact r_return_ R dX5_confirmAccepted_15 rfl rfl rfl
def fX8_size (o0 : Nat) (M : pf_M) : Int32 :=
  M 15 o0 1
set_option maxRecDepth 4000 in
theorem c_X8_size (G : pf_G) (o0 : Nat) (M : pf_M) (q : Int32) (h : fX8_size o0 M = q) : pf_Met G yX8_size cX8_size 1 (some .int) 0 0 [pf_R 15 o0] M (some (pf_I q)) M := by
  refine pf_Met.of (by decide +kernel) (Nat.le_of_ble_eq_true rfl) (fun K R => ?_)
  show K 0 [pf_R 15 o0] [] M
  unfold fX8_size at h
  refine r_aload_n R 1 dX8_size_0 rfl rfl ?_
  refine r_getfield R 4 dX8_size_1 rfl fl_X8_15 rfl (show _ = pf_I (M 15 o0 1) from rfl) ?_
  subst h
  exact r_ireturn R dX8_size_4 rfl rfl rfl rfl
def fX11_deliver (o1 : Nat) (x2 : Int32) (M : pf_M) : Option (Int32 × pf_M) :=
  ((fX5_accept o1 x2 M).bind fun q3 => ((fX6_frameComesHome q3.2).bind fun q4 => (if q4.1 = (0 : Int32) then some ((-5 : Int32), (pf_up q4.2 14 o1 7 x2))
  else (if q3.1 = (0 : Int32) then some ((-3 : Int32), q4.2)
  else some (fX8_size (2 * o1 + 1) (fX5_confirmAccepted o1 q4.2), (fX5_confirmAccepted o1 q4.2))))))
set_option maxRecDepth 4000 in
theorem c_X11_deliver (G : pf_G) (o1 : Nat) (x2 : Int32) (M : pf_M) (q : Int32 × pf_M) (h : fX11_deliver o1 x2 M = some q) : pf_Met G yX11_deliver cX11_deliver 4 (some .int) 4 87 [pf_R 0 0, pf_R 14 o1, pf_I x2] M (some (pf_I q.1)) q.2 := by
  refine pf_Met.of (by decide +kernel) (Nat.le_of_ble_eq_true rfl) (fun K R => ?_)
  show K 0 [pf_R 0 0, pf_R 14 o1, pf_I x2, pf_U] [] M
  unfold fX11_deliver at h
  refine r_aload_n R 1 dX11_deliver_0 rfl rfl ?_
  refine r_iload_n R 2 dX11_deliver_1 rfl rfl ?_
  obtain ⟨q3, hq3, h⟩ := pf_bd h
  refine r_cvI1 R 5 dX11_deliver_2 rfl lk_X11_244 rfl (c_X5_accept G o1 x2 M _ hq3) rfl rfl rfl ?_
  refine r_istore_n R 6 dX11_deliver_5 rfl rfl (show _ = [pf_R 0 0, pf_R 14 o1, pf_I x2, pf_I q3.1] from rfl) ?_
  refine r_aload_n R 7 dX11_deliver_6 rfl rfl ?_
  refine r_getfield R 10 dX11_deliver_7 rfl fl_X11_35 rfl (show _ = pf_R 20 0 from rfl) ?_
  obtain ⟨q4, hq4, h⟩ := pf_bd h
  refine r_cvI0 R 13 dX11_deliver_10 rfl lk_X11_231 rfl (c_X6_frameComesHome G q3.2 _ hq4) rfl rfl rfl ?_
  refine r_if_ne R 16 24 dX11_deliver_13 rfl (by decide) (fun hc => ?_) (fun hc => ?_)
  · have h := pf_ifp hc h
    refine r_aload_n R 17 dX11_deliver_16 rfl rfl ?_
    refine r_iload_n R 18 dX11_deliver_17 rfl rfl ?_
    refine r_putfield R 21 dX11_deliver_18 rfl fl_X11_237 rfl rfl rfl rfl ?_
    refine r_bipush R 23 dX11_deliver_21 rfl ic_bipush_m5 ?_
    obtain rfl := Option.some.inj h
    exact r_ireturn R dX11_deliver_23 rfl rfl rfl rfl
  · have h := pf_ifn hc h
    refine r_iload_n R 25 dX11_deliver_24 rfl rfl ?_
    refine r_if_ne R 28 31 dX11_deliver_25 rfl (by decide) (fun hc => ?_) (fun hc => ?_)
    · have h := pf_ifp hc h
      refine r_bipush R 30 dX11_deliver_28 rfl ic_bipush_m3 ?_
      obtain rfl := Option.some.inj h
      exact r_ireturn R dX11_deliver_30 rfl rfl rfl rfl
    · have h := pf_ifn hc h
      refine r_aload_n R 32 dX11_deliver_31 rfl rfl ?_
      refine r_cvV0 R 35 dX11_deliver_32 rfl lk_X11_247 rfl (c_X5_confirmAccepted G o1 q4.2 _ rfl) rfl rfl rfl ?_
      refine r_aload_n R 36 dX11_deliver_35 rfl rfl ?_
      refine r_getfield R 39 dX11_deliver_36 rfl fl_X11_219 rfl (show _ = pf_R 15 (2 * o1 + 1) from rfl) ?_
      refine r_cvI0 R 42 dX11_deliver_39 rfl lk_X11_218 rfl (c_X8_size G (2 * o1 + 1) (fX5_confirmAccepted o1 q4.2) _ rfl) rfl rfl rfl ?_
      obtain rfl := Option.some.inj h
      exact r_ireturn R dX11_deliver_42 rfl rfl rfl rfl
def fX11_again (x1 : Int32) (M : pf_M) : Option (Int32 × pf_M) :=
  ((fX9_find x1 M).bind fun r4 => (match r4 with
  | none => some ((-1 : Int32), M)
  | some i5 => ((fX9_isReached x1 M).bind fun r6 => (if r6 = (0 : Int32) then some ((-2 : Int32), M)
  else (if (M 14 i5 7) = (0 : Int32) then some ((-2 : Int32), M)
  else ((fX11_deliver i5 (M 14 i5 7) M).bind fun q7 => some (q7.1, q7.2)))))))
set_option maxRecDepth 4000 in
theorem c_X11_again (G : pf_G) (x1 : Int32) (M : pf_M) (q : Int32 × pf_M) (h : fX11_again x1 M = some q) : pf_Met G yX11_again cX11_again 3 (some .int) 5 110 [pf_R 0 0, pf_I x1] M (some (pf_I q.1)) q.2 := by
  refine pf_Met.of (by decide +kernel) (Nat.le_of_ble_eq_true rfl) (fun K R => ?_)
  show K 0 [pf_R 0 0, pf_I x1, pf_U] [] M
  unfold fX11_again at h
  refine r_aload_n R 1 dX11_again_0 rfl rfl ?_
  refine r_getfield R 4 dX11_again_1 rfl fl_X11_19 rfl (show _ = pf_R 7 0 from rfl) ?_
  refine r_iload_n R 5 dX11_again_4 rfl rfl ?_
  obtain ⟨r4, hr4, h⟩ := pf_bd h
  refine r_cvQ1 R 8 dX11_again_5 rfl lk_X11_79 rfl (c_X9_find G x1 M _ hr4) rfl rfl rfl ?_
  refine r_astore_n R 9 dX11_again_8 rfl rfl (show _ = [pf_R 0 0, pf_I x1, pf_Q 11 r4] from rfl) ?_
  refine r_aload_n R 10 dX11_again_9 rfl rfl ?_
  cases r4 with
  | none =>
    refine r_ifnonnull_f R 13 15 dX11_again_10 rfl (by decide) ?_
    refine r_iconst R 14 dX11_again_13 rfl ic_iconst_m1 ?_
    obtain rfl := Option.some.inj h
    exact r_ireturn R dX11_again_14 rfl rfl rfl rfl
  | some i5 =>
    refine r_ifnonnull_t R 15 dX11_again_10 (by decide) ?_
    refine r_aload_n R 16 dX11_again_15 rfl rfl ?_
    refine r_getfield R 19 dX11_again_16 rfl fl_X11_19 rfl (show _ = pf_R 7 0 from rfl) ?_
    refine r_iload_n R 20 dX11_again_19 rfl rfl ?_
    obtain ⟨r6, hr6, h⟩ := pf_bd h
    refine r_cvI1 R 23 dX11_again_20 rfl lk_X11_225 rfl (c_X9_isReached G x1 M _ hr6) rfl rfl rfl ?_
    refine r_if_eq R 26 36 dX11_again_23 rfl (by decide) (fun hc => ?_) (fun hc => ?_)
    · have h := pf_ifp hc h
      refine r_bipush R 38 dX11_again_36 rfl ic_bipush_m2 ?_
      obtain rfl := Option.some.inj h
      exact r_ireturn R dX11_again_38 rfl rfl rfl rfl
    · have h := pf_ifn hc h
      refine r_aload_n R 27 dX11_again_26 rfl rfl ?_
      refine r_getfield R 30 dX11_again_27 rfl fl_X11_204 rfl (show _ = pf_R 14 i5 from rfl) ?_
      refine r_getfield R 33 dX11_again_30 rfl fl_X11_237 rfl (show _ = pf_I (M 14 i5 7) from rfl) ?_
      refine r_if_ne R 36 39 dX11_again_33 rfl (by decide) (fun hc => ?_) (fun hc => ?_)
      · have h := pf_ifp hc h
        refine r_bipush R 38 dX11_again_36 rfl ic_bipush_m2 ?_
        obtain rfl := Option.some.inj h
        exact r_ireturn R dX11_again_38 rfl rfl rfl rfl
      · have h := pf_ifn hc h
        refine r_aload_n R 40 dX11_again_39 rfl rfl ?_
        refine r_aload_n R 41 dX11_again_40 rfl rfl ?_
        refine r_getfield R 44 dX11_again_41 rfl fl_X11_204 rfl (show _ = pf_R 14 i5 from rfl) ?_
        refine r_aload_n R 45 dX11_again_44 rfl rfl ?_
        refine r_getfield R 48 dX11_again_45 rfl fl_X11_204 rfl (show _ = pf_R 14 i5 from rfl) ?_
        refine r_getfield R 51 dX11_again_48 rfl fl_X11_237 rfl (show _ = pf_I (M 14 i5 7) from rfl) ?_
        obtain ⟨q7, hq7, h⟩ := pf_bd h
        refine r_cvI2 R 54 dX11_again_51 rfl lk_X11_240 rfl (c_X11_deliver G i5 (M 14 i5 7) M _ hq7) rfl rfl rfl ?_
        obtain rfl := Option.some.inj h
        exact r_ireturn R dX11_again_54 rfl rfl rfl rfl
def fX9_time (M : pf_M) : Int32 :=
  M 7 0 6
set_option maxRecDepth 4000 in
theorem c_X9_time (G : pf_G) (M : pf_M) (q : Int32) (h : fX9_time M = q) : pf_Met G yX9_time cX9_time 1 (some .int) 0 0 [pf_R 7 0] M (some (pf_I q)) M := by
  refine pf_Met.of (by decide +kernel) (Nat.le_of_ble_eq_true rfl) (fun K R => ?_)
  show K 0 [pf_R 7 0] [] M
  unfold fX9_time at h
  refine r_aload_n R 1 dX9_time_0 rfl rfl ?_
  refine r_getfield R 4 dX9_time_1 rfl fl_X9_41 rfl (show _ = pf_I (M 7 0 6) from rfl) ?_
  subst h
  exact r_ireturn R dX9_time_4 rfl rfl rfl rfl
def fX3_ownClock (o0 : Nat) (x1 : Int32) (M : pf_M) : Option (Int32) :=
  ((fJ9_floorDiv_7cf53 (x1 * ((M 11 o0 6) - (4 : Int32))) (100 : Int32)).bind fun r2 => some (((M 11 o0 5) + x1) + r2))
set_option maxRecDepth 4000 in
theorem c_X3_ownClock (G : pf_G) (o0 : Nat) (x1 : Int32) (M : pf_M) (q : Int32) (h : fX3_ownClock o0 x1 M = some q) : pf_Met G yX3_ownClock cX3_ownClock 2 (some .int) 1 22 [pf_R 11 o0, pf_I x1] M (some (pf_I q)) M := by
  refine pf_Met.of (by decide +kernel) (Nat.le_of_ble_eq_true rfl) (fun K R => ?_)
  show K 0 [pf_R 11 o0, pf_I x1] [] M
  unfold fX3_ownClock at h
  refine r_aload_n R 1 dX3_ownClock_0 rfl rfl ?_
  refine r_getfield R 4 dX3_ownClock_1 rfl fl_X3_36 rfl (show _ = pf_I (M 11 o0 5) from rfl) ?_
  refine r_iload_n R 5 dX3_ownClock_4 rfl rfl ?_
  refine r_iadd R 6 dX3_ownClock_5 rfl ?_
  refine r_iload_n R 7 dX3_ownClock_6 rfl rfl ?_
  refine r_aload_n R 8 dX3_ownClock_7 rfl rfl ?_
  refine r_getfield R 11 dX3_ownClock_8 rfl fl_X3_39 rfl (show _ = pf_I (M 11 o0 6) from rfl) ?_
  refine r_iconst R 12 dX3_ownClock_11 rfl ic_iconst_4 ?_
  refine r_isub R 13 dX3_ownClock_12 rfl ?_
  refine r_imul R 14 dX3_ownClock_13 rfl ?_
  refine r_bipush R 16 dX3_ownClock_14 rfl ic_bipush_100 ?_
  obtain ⟨r2, hr2, h⟩ := pf_bd h
  refine r_csI2 R 19 dX3_ownClock_16 rfl lk_X3_67 (c_J9_floorDiv_7cf53 G (x1 * ((M 11 o0 6) - (4 : Int32))) (100 : Int32) _ hr2) rfl rfl rfl ?_
  refine r_iadd R 20 dX3_ownClock_19 rfl ?_
  obtain rfl := Option.some.inj h
  exact r_ireturn R dX3_ownClock_20 rfl rfl rfl rfl
def fX3_systemClock (o0 : Nat) (x1 : Int32) (M : pf_M) : Option (Int32) :=
  ((fX3_ownClock o0 x1 M).bind fun r2 => some (r2 + (M 11 o0 8)))
set_option maxRecDepth 4000 in
theorem c_X3_systemClock (G : pf_G) (o0 : Nat) (x1 : Int32) (M : pf_M) (q : Int32) (h : fX3_systemClock o0 x1 M = some q) : pf_Met G yX3_systemClock cX3_systemClock 2 (some .int) 2 43 [pf_R 11 o0, pf_I x1] M (some (pf_I q)) M := by
  refine pf_Met.of (by decide +kernel) (Nat.le_of_ble_eq_true rfl) (fun K R => ?_)
  show K 0 [pf_R 11 o0, pf_I x1] [] M
  unfold fX3_systemClock at h
  refine r_aload_n R 1 dX3_systemClock_0 rfl rfl ?_
  refine r_iload_n R 2 dX3_systemClock_1 rfl rfl ?_
  obtain ⟨r2, hr2, h⟩ := pf_bd h
  refine r_cvI1 R 5 dX3_systemClock_2 rfl lk_X3_73 rfl (c_X3_ownClock G o0 x1 M _ hr2) rfl rfl rfl ?_
  refine r_aload_n R 6 dX3_systemClock_5 rfl rfl ?_
  refine r_getfield R 9 dX3_systemClock_6 rfl fl_X3_42 rfl (show _ = pf_I (M 11 o0 8) from rfl) ?_
  refine r_iadd R 10 dX3_systemClock_9 rfl ?_
  obtain rfl := Option.some.inj h
  exact r_ireturn R dX3_systemClock_10 rfl rfl rfl rfl
def fX9_size (M : pf_M) : Int32 :=
  M 7 0 3
set_option maxRecDepth 4000 in
theorem c_X9_size (G : pf_G) (M : pf_M) (q : Int32) (h : fX9_size M = q) : pf_Met G yX9_size cX9_size 1 (some .int) 0 0 [pf_R 7 0] M (some (pf_I q)) M := by
  refine pf_Met.of (by decide +kernel) (Nat.le_of_ble_eq_true rfl) (fun K R => ?_)
  show K 0 [pf_R 7 0] [] M
  unfold fX9_size at h
  refine r_aload_n R 1 dX9_size_0 rfl rfl ?_
  refine r_getfield R 4 dX9_size_1 rfl fl_X9_30 rfl (show _ = pf_I (M 7 0 3) from rfl) ?_
  subst h
  exact r_ireturn R dX9_size_4 rfl rfl rfl rfl
def lX1_spread_24 (M : pf_M) (kx24 : Int32 → Int32 → Option (Int32)) : Nat → Int32 → Int32 → Int32 → Option (Int32)
  | 0, _, _, _ => none
  | n + 1, v24_1, v24_2, v24_3 =>
  (if (fX9_size M) ≤ v24_3 then kx24 v24_1 v24_2
  else (if pf_in v24_3 8 = true then ((fX3_systemClock v24_3.toNatClampNeg (fX9_time M) M).bind fun r4 => (lX1_spread_24 M kx24 n) (fJ9_min_7cf53 v24_1 r4) (fJ9_max_7cf53 v24_2 r4) (v24_3 + (1 : Int32)))
  else none))
def fX1_spread (M : pf_M) : Option (Int32) :=
  ((fX3_systemClock ((0 : Int32).toNatClampNeg) (fX9_time M) M).bind fun r5 => lX1_spread_24 M (fun u6_e24_1 u6_e24_2 => some (u6_e24_2 - u6_e24_1)) pf_fu r5 r5 (1 : Int32))
set_option maxRecDepth 4000 in
theorem c_X1_spread (G : pf_G) (M : pf_M) (q : Int32) (h : fX1_spread M = some q) : pf_Met G yX1_spread cX1_spread 5 (some .int) 3 64 [pf_R 17 0] M (some (pf_I q)) M := by
  refine pf_Met.of (by decide +kernel) (Nat.le_of_ble_eq_true rfl) (fun K R => ?_)
  show K 0 [pf_R 17 0, pf_U, pf_U, pf_U, pf_U] [] M
  have hl24 : ∀ (kx24 : Int32 → Int32 → Option (Int32)), (∀ (e24_1 : Int32) (e24_2 : Int32), kx24 e24_1 e24_2 = some q → K 76 [pf_U, pf_I e24_1, pf_I e24_2, pf_U, pf_U] [] M) → ∀ (n : Nat) (v24_1 : Int32) (v24_2 : Int32) (v24_3 : Int32), lX1_spread_24 M kx24 n v24_1 v24_2 v24_3 = some q → K 24 [pf_R 17 0, pf_I v24_1, pf_I v24_2, pf_I v24_3, pf_U] [] M := by
    intro kx24 hkx24 n
    induction n with
    | zero =>
      intro v24_1 v24_2 v24_3 h
      rw [lX1_spread_24] at h
      cases h
    | succ n ih24 =>
        intro v24_1 v24_2 v24_3 h
        rw [lX1_spread_24] at h
        refine r_iload_n R 25 dX1_spread_24 rfl rfl ?_
        refine r_aload_n R 26 dX1_spread_25 rfl rfl ?_
        refine r_getfield R 29 dX1_spread_26 rfl fl_X1_18 rfl (show _ = pf_R 7 0 from rfl) ?_
        refine r_cvI0 R 32 dX1_spread_29 rfl lk_X1_97 rfl (c_X9_size G M _ rfl) rfl rfl rfl ?_
        refine r_icmp_ge R 35 76 dX1_spread_32 rfl (by decide) (fun hc => ?_) (fun hc => ?_)
        · have h := pf_ifp hc h
          refine r_fg R [false, true, true, false, true] (show _ = [pf_U, pf_I v24_1, pf_I v24_2, pf_U, pf_U] from rfl) ?_
          exact hkx24 _ _ h
        · have h := pf_ifn hc h
          refine r_aload_n R 36 dX1_spread_35 rfl rfl ?_
          refine r_getfield R 39 dX1_spread_36 rfl fl_X1_18 rfl (show _ = pf_R 7 0 from rfl) ?_
          refine r_getfield R 42 dX1_spread_39 rfl fl_X1_52 rfl (show _ = pf_R 8 0 from rfl) ?_
          refine r_iload_n R 43 dX1_spread_42 rfl rfl ?_
          obtain ⟨hi3, h⟩ := pf_gd h
          refine r_aaload R 44 dX1_spread_43 rfl rfl rfl rfl (pf_in_iff.mp hi3) ?_
          refine r_aload_n R 45 dX1_spread_44 rfl rfl ?_
          refine r_getfield R 48 dX1_spread_45 rfl fl_X1_18 rfl (show _ = pf_R 7 0 from rfl) ?_
          refine r_cvI0 R 51 dX1_spread_48 rfl lk_X1_46 rfl (c_X9_time G M _ rfl) rfl rfl rfl ?_
          obtain ⟨r4, hr4, h⟩ := pf_bd h
          refine r_cvI1 R 54 dX1_spread_51 rfl lk_X1_85 rfl (c_X3_systemClock G v24_3.toNatClampNeg (fX9_time M) M _ hr4) rfl rfl rfl ?_
          refine r_istore R 56 dX1_spread_54 rfl rfl (show _ = [pf_R 17 0, pf_I v24_1, pf_I v24_2, pf_I v24_3, pf_I r4] from rfl) ?_
          refine r_iload_n R 57 dX1_spread_56 rfl rfl ?_
          refine r_iload R 59 dX1_spread_57 rfl rfl ?_
          refine r_csI2 R 62 dX1_spread_59 rfl lk_X1_88 (c_J9_min_7cf53 G v24_1 r4 _ rfl) rfl rfl rfl ?_
          refine r_istore_n R 63 dX1_spread_62 rfl rfl (show _ = [pf_R 17 0, pf_I (fJ9_min_7cf53 v24_1 r4), pf_I v24_2, pf_I v24_3, pf_I r4] from rfl) ?_
          refine r_iload_n R 64 dX1_spread_63 rfl rfl ?_
          refine r_iload R 66 dX1_spread_64 rfl rfl ?_
          refine r_csI2 R 69 dX1_spread_66 rfl lk_X1_74 (c_J9_max_7cf53 G v24_2 r4 _ rfl) rfl rfl rfl ?_
          refine r_istore_n R 70 dX1_spread_69 rfl rfl (show _ = [pf_R 17 0, pf_I (fJ9_min_7cf53 v24_1 r4), pf_I (fJ9_max_7cf53 v24_2 r4), pf_I v24_3, pf_I r4] from rfl) ?_
          refine r_iinc R 73 dX1_spread_70 rfl rfl ic_iconst_1 (show _ = [pf_R 17 0, pf_I (fJ9_min_7cf53 v24_1 r4), pf_I (fJ9_max_7cf53 v24_2 r4), pf_I (v24_3 + (1 : Int32)), pf_I r4] from rfl) ?_
          refine r_goto R 24 dX1_spread_73 (by decide) ?_
          refine r_fg R [true, true, true, true, false] (show _ = [pf_R 17 0, pf_I (fJ9_min_7cf53 v24_1 r4), pf_I (fJ9_max_7cf53 v24_2 r4), pf_I (v24_3 + (1 : Int32)), pf_U] from rfl) ?_
          exact ih24 _ _ _ h
  unfold fX1_spread at h
  refine r_aload_n R 1 dX1_spread_0 rfl rfl ?_
  refine r_getfield R 4 dX1_spread_1 rfl fl_X1_18 rfl (show _ = pf_R 7 0 from rfl) ?_
  refine r_getfield R 7 dX1_spread_4 rfl fl_X1_52 rfl (show _ = pf_R 8 0 from rfl) ?_
  refine r_iconst R 8 dX1_spread_7 rfl ic_iconst_0 ?_
  refine r_aaload R 9 dX1_spread_8 rfl rfl rfl rfl (pf_in_iff.mp (by decide)) ?_
  refine r_aload_n R 10 dX1_spread_9 rfl rfl ?_
  refine r_getfield R 13 dX1_spread_10 rfl fl_X1_18 rfl (show _ = pf_R 7 0 from rfl) ?_
  refine r_cvI0 R 16 dX1_spread_13 rfl lk_X1_46 rfl (c_X9_time G M _ rfl) rfl rfl rfl ?_
  obtain ⟨r5, hr5, h⟩ := pf_bd h
  refine r_cvI1 R 19 dX1_spread_16 rfl lk_X1_85 rfl (c_X3_systemClock G ((0 : Int32).toNatClampNeg) (fX9_time M) M _ hr5) rfl rfl rfl ?_
  refine r_istore_n R 20 dX1_spread_19 rfl rfl (show _ = [pf_R 17 0, pf_I r5, pf_U, pf_U, pf_U] from rfl) ?_
  refine r_iload_n R 21 dX1_spread_20 rfl rfl ?_
  refine r_istore_n R 22 dX1_spread_21 rfl rfl (show _ = [pf_R 17 0, pf_I r5, pf_I r5, pf_U, pf_U] from rfl) ?_
  refine r_iconst R 23 dX1_spread_22 rfl ic_iconst_1 ?_
  refine r_istore_n R 24 dX1_spread_23 rfl rfl (show _ = [pf_R 17 0, pf_I r5, pf_I r5, pf_I (1 : Int32), pf_U] from rfl) ?_
  refine hl24 _ (fun u6_e24_1 u6_e24_2 h => ?_) pf_fu _ _ _ h
  refine r_iload_n R 77 dX1_spread_76 rfl rfl ?_
  refine r_iload_n R 78 dX1_spread_77 rfl rfl ?_
  refine r_isub R 79 dX1_spread_78 rfl ?_
  obtain rfl := Option.some.inj h
  exact r_ireturn R dX1_spread_79 rfl rfl rfl rfl
def fX11_apart (M : pf_M) : Option (Int32) :=
  ((fX1_spread M).bind fun r2 => some r2)
set_option maxRecDepth 4000 in
theorem c_X11_apart (G : pf_G) (M : pf_M) (q : Int32) (h : fX11_apart M = some q) : pf_Met G yX11_apart cX11_apart 1 (some .int) 4 88 [pf_R 0 0] M (some (pf_I q)) M := by
  refine pf_Met.of (by decide +kernel) (Nat.le_of_ble_eq_true rfl) (fun K R => ?_)
  show K 0 [pf_R 0 0] [] M
  unfold fX11_apart at h
  refine r_aload_n R 1 dX11_apart_0 rfl rfl ?_
  refine r_getfield R 4 dX11_apart_1 rfl fl_X11_28 rfl (show _ = pf_R 17 0 from rfl) ?_
  obtain ⟨r2, hr2, h⟩ := pf_bd h
  refine r_cvI0 R 7 dX11_apart_4 rfl lk_X11_275 rfl (c_X1_spread G M _ hr2) rfl rfl rfl ?_
  obtain rfl := Option.some.inj h
  exact r_ireturn R dX11_apart_7 rfl rfl rfl rfl
def fX5_property (o0 : Nat) (x1 : Int32) (M : pf_M) : Int32 :=
  (if x1 = (0 : Int32) then fX8_size (2 * o0) M
  else (if x1 = (1 : Int32) then fX8_size (2 * o0 + 1) M
  else (if x1 = (2 : Int32) then M 14 o0 2
  else (if x1 = (3 : Int32) then M 14 o0 3
  else (if x1 = (4 : Int32) then M 14 o0 4
  else (if x1 = (5 : Int32) then M 14 o0 5
  else (if x1 = (6 : Int32) then (if (M 14 o0 6) = (0 : Int32) then (-4 : Int32)
  else M 14 o0 6)
  else (if (M 14 o0 7) = (0 : Int32) then (-4 : Int32)
  else M 14 o0 7))))))))
set_option maxRecDepth 4000 in
theorem c_X5_property (G : pf_G) (o0 : Nat) (x1 : Int32) (M : pf_M) (q : Int32) (h : fX5_property o0 x1 M = q) : pf_Met G yX5_property cX5_property 2 (some .int) 1 20 [pf_R 14 o0, pf_I x1] M (some (pf_I q)) M := by
  refine pf_Met.of (by decide +kernel) (Nat.le_of_ble_eq_true rfl) (fun K R => ?_)
  show K 0 [pf_R 14 o0, pf_I x1] [] M
  unfold fX5_property at h
  refine r_iload_n R 1 dX5_property_0 rfl rfl ?_
  by_cases hs1_0 : x1 = (0 : Int32)
  · have h := pf_ifp hs1_0 h
    refine r_swIn R 44 (43) dX5_property_1 (by rw [hs1_0]; decide) (by rw [hs1_0]; decide) (by rw [hs1_0]; rfl) (by decide) ?_
    refine r_aload_n R 45 dX5_property_44 rfl rfl ?_
    refine r_getfield R 48 dX5_property_45 rfl fl_X5_12 rfl (show _ = pf_R 15 (2 * o0) from rfl) ?_
    refine r_cvI0 R 51 dX5_property_48 rfl lk_X5_43 rfl (c_X8_size G (2 * o0) M _ rfl) rfl rfl rfl ?_
    subst h
    exact r_ireturn R dX5_property_51 rfl rfl rfl rfl
  have h := pf_ifn hs1_0 h
  by_cases hs1_1 : x1 = (1 : Int32)
  · have h := pf_ifp hs1_1 h
    refine r_swIn R 52 (51) dX5_property_1 (by rw [hs1_1]; decide) (by rw [hs1_1]; decide) (by rw [hs1_1]; rfl) (by decide) ?_
    refine r_aload_n R 53 dX5_property_52 rfl rfl ?_
    refine r_getfield R 56 dX5_property_53 rfl fl_X5_18 rfl (show _ = pf_R 15 (2 * o0 + 1) from rfl) ?_
    refine r_cvI0 R 59 dX5_property_56 rfl lk_X5_43 rfl (c_X8_size G (2 * o0 + 1) M _ rfl) rfl rfl rfl ?_
    subst h
    exact r_ireturn R dX5_property_59 rfl rfl rfl rfl
  have h := pf_ifn hs1_1 h
  by_cases hs1_2 : x1 = (2 : Int32)
  · have h := pf_ifp hs1_2 h
    refine r_swIn R 60 (59) dX5_property_1 (by rw [hs1_2]; decide) (by rw [hs1_2]; decide) (by rw [hs1_2]; rfl) (by decide) ?_
    refine r_aload_n R 61 dX5_property_60 rfl rfl ?_
    refine r_getfield R 64 dX5_property_61 rfl fl_X5_24 rfl (show _ = pf_I (M 14 o0 2) from rfl) ?_
    subst h
    exact r_ireturn R dX5_property_64 rfl rfl rfl rfl
  have h := pf_ifn hs1_2 h
  by_cases hs1_3 : x1 = (3 : Int32)
  · have h := pf_ifp hs1_3 h
    refine r_swIn R 65 (64) dX5_property_1 (by rw [hs1_3]; decide) (by rw [hs1_3]; decide) (by rw [hs1_3]; rfl) (by decide) ?_
    refine r_aload_n R 66 dX5_property_65 rfl rfl ?_
    refine r_getfield R 69 dX5_property_66 rfl fl_X5_28 rfl (show _ = pf_I (M 14 o0 3) from rfl) ?_
    subst h
    exact r_ireturn R dX5_property_69 rfl rfl rfl rfl
  have h := pf_ifn hs1_3 h
  by_cases hs1_4 : x1 = (4 : Int32)
  · have h := pf_ifp hs1_4 h
    refine r_swIn R 70 (69) dX5_property_1 (by rw [hs1_4]; decide) (by rw [hs1_4]; decide) (by rw [hs1_4]; rfl) (by decide) ?_
    refine r_aload_n R 71 dX5_property_70 rfl rfl ?_
    refine r_getfield R 74 dX5_property_71 rfl fl_X5_31 rfl (show _ = pf_I (M 14 o0 4) from rfl) ?_
    subst h
    exact r_ireturn R dX5_property_74 rfl rfl rfl rfl
  have h := pf_ifn hs1_4 h
  by_cases hs1_5 : x1 = (5 : Int32)
  · have h := pf_ifp hs1_5 h
    refine r_swIn R 75 (74) dX5_property_1 (by rw [hs1_5]; decide) (by rw [hs1_5]; decide) (by rw [hs1_5]; rfl) (by decide) ?_
    refine r_aload_n R 76 dX5_property_75 rfl rfl ?_
    refine r_getfield R 79 dX5_property_76 rfl fl_X5_34 rfl (show _ = pf_I (M 14 o0 5) from rfl) ?_
    subst h
    exact r_ireturn R dX5_property_79 rfl rfl rfl rfl
  have h := pf_ifn hs1_5 h
  by_cases hs1_6 : x1 = (6 : Int32)
  · have h := pf_ifp hs1_6 h
    refine r_swIn R 80 (79) dX5_property_1 (by rw [hs1_6]; decide) (by rw [hs1_6]; decide) (by rw [hs1_6]; rfl) (by decide) ?_
    refine r_aload_n R 81 dX5_property_80 rfl rfl ?_
    refine r_getfield R 84 dX5_property_81 rfl fl_X5_37 rfl (show _ = pf_I (M 14 o0 6) from rfl) ?_
    refine r_if_ne R 87 92 dX5_property_84 rfl (by decide) (fun hc => ?_) (fun hc => ?_)
    · have h := pf_ifp hc h
      refine r_bipush R 89 dX5_property_87 rfl ic_bipush_m4 ?_
      refine r_goto R 96 dX5_property_89 (by decide) ?_
      subst h
      exact r_ireturn R dX5_property_96 rfl rfl rfl rfl
    · have h := pf_ifn hc h
      refine r_aload_n R 93 dX5_property_92 rfl rfl ?_
      refine r_getfield R 96 dX5_property_93 rfl fl_X5_37 rfl (show _ = pf_I (M 14 o0 6) from rfl) ?_
      subst h
      exact r_ireturn R dX5_property_96 rfl rfl rfl rfl
  have h := pf_ifn hs1_6 h
  refine r_swOut R 97 dX5_property_1 (pf_swo 7 (by decide) (fun k hk => by
      rcases (show k = 0 ∨ k = 1 ∨ k = 2 ∨ k = 3 ∨ k = 4 ∨ k = 5 ∨ k = 6 by omega) with rfl | rfl | rfl | rfl | rfl | rfl | rfl
      · exact hs1_0
      · exact hs1_1
      · exact hs1_2
      · exact hs1_3
      · exact hs1_4
      · exact hs1_5
      · exact hs1_6)) (by decide) ?_
  refine r_aload_n R 98 dX5_property_97 rfl rfl ?_
  refine r_getfield R 101 dX5_property_98 rfl fl_X5_40 rfl (show _ = pf_I (M 14 o0 7) from rfl) ?_
  refine r_if_ne R 104 109 dX5_property_101 rfl (by decide) (fun hc => ?_) (fun hc => ?_)
  · have h := pf_ifp hc h
    refine r_bipush R 106 dX5_property_104 rfl ic_bipush_m4 ?_
    refine r_goto R 113 dX5_property_106 (by decide) ?_
    subst h
    exact r_ireturn R dX5_property_113 rfl rfl rfl rfl
  · have h := pf_ifn hc h
    refine r_aload_n R 110 dX5_property_109 rfl rfl ?_
    refine r_getfield R 113 dX5_property_110 rfl fl_X5_40 rfl (show _ = pf_I (M 14 o0 7) from rfl) ?_
    subst h
    exact r_ireturn R dX5_property_113 rfl rfl rfl rfl
def fX11_box (x1 : Int32) (x2 : Int32) (M : pf_M) : Option (Int32) :=
  ((fX9_find x1 M).bind fun r2 => (match r2 with
  | none => some (-1 : Int32)
  | some i3 => (if (fX11_isWithin x2 (0 : Int32) (7 : Int32)) = (0 : Int32) then some (-1 : Int32)
  else some (fX5_property i3 x2 M))))
set_option maxRecDepth 4000 in
theorem c_X11_box (G : pf_G) (x1 : Int32) (x2 : Int32) (M : pf_M) (q : Int32) (h : fX11_box x1 x2 M = some q) : pf_Met G yX11_box cX11_box 4 (some .int) 2 41 [pf_R 0 0, pf_I x1, pf_I x2] M (some (pf_I q)) M := by
  refine pf_Met.of (by decide +kernel) (Nat.le_of_ble_eq_true rfl) (fun K R => ?_)
  show K 0 [pf_R 0 0, pf_I x1, pf_I x2, pf_U] [] M
  unfold fX11_box at h
  refine r_aload_n R 1 dX11_box_0 rfl rfl ?_
  refine r_getfield R 4 dX11_box_1 rfl fl_X11_19 rfl (show _ = pf_R 7 0 from rfl) ?_
  refine r_iload_n R 5 dX11_box_4 rfl rfl ?_
  obtain ⟨r2, hr2, h⟩ := pf_bd h
  refine r_cvQ1 R 8 dX11_box_5 rfl lk_X11_79 rfl (c_X9_find G x1 M _ hr2) rfl rfl rfl ?_
  refine r_astore_n R 9 dX11_box_8 rfl rfl (show _ = [pf_R 0 0, pf_I x1, pf_I x2, pf_Q 11 r2] from rfl) ?_
  refine r_aload_n R 10 dX11_box_9 rfl rfl ?_
  cases r2 with
  | none =>
    refine r_ifnull_t R 23 dX11_box_10 (by decide) ?_
    refine r_iconst R 24 dX11_box_23 rfl ic_iconst_m1 ?_
    obtain rfl := Option.some.inj h
    exact r_ireturn R dX11_box_24 rfl rfl rfl rfl
  | some i3 =>
    refine r_ifnull_f R 13 23 dX11_box_10 rfl (by decide) ?_
    refine r_iload_n R 14 dX11_box_13 rfl rfl ?_
    refine r_iconst R 15 dX11_box_14 rfl ic_iconst_0 ?_
    refine r_bipush R 17 dX11_box_15 rfl ic_bipush_7 ?_
    refine r_csI3 R 20 dX11_box_17 rfl lk_X11_65 (c_X11_isWithin G x2 (0 : Int32) (7 : Int32) _ rfl) rfl rfl rfl ?_
    refine r_if_ne R 23 25 dX11_box_20 rfl (by decide) (fun hc => ?_) (fun hc => ?_)
    · have h := pf_ifp hc h
      refine r_iconst R 24 dX11_box_23 rfl ic_iconst_m1 ?_
      obtain rfl := Option.some.inj h
      exact r_ireturn R dX11_box_24 rfl rfl rfl rfl
    · have h := pf_ifn hc h
      refine r_aload_n R 26 dX11_box_25 rfl rfl ?_
      refine r_getfield R 29 dX11_box_26 rfl fl_X11_204 rfl (show _ = pf_R 14 i3 from rfl) ?_
      refine r_iload_n R 30 dX11_box_29 rfl rfl ?_
      refine r_cvI1 R 33 dX11_box_30 rfl lk_X11_250 rfl (c_X5_property G i3 x2 M _ rfl) rfl rfl rfl ?_
      obtain rfl := Option.some.inj h
      exact r_ireturn R dX11_box_33 rfl rfl rfl rfl
def jX6_find_18  : Option (Option Nat) :=
  some none
def fX6_find (x1 : Int32) (M : pf_M) : Option (Option Nat) :=
  (if x1 < (0 : Int32) then jX6_find_18
  else (if (4 : Int32) ≤ x1 then jX6_find_18
  else (if pf_in x1 4 = true then some (some x1.toNatClampNeg)
  else none)))
set_option maxRecDepth 4000 in
theorem c_X6_find (G : pf_G) (x1 : Int32) (M : pf_M) (q : Option Nat) (h : fX6_find x1 M = some q) : pf_Met G yX6_find cX6_find 2 (some (.object "PassingFrames$Datagram")) 0 0 [pf_R 20 0, pf_I x1] M (some (pf_Q 25 q)) M := by
  refine pf_Met.of (by decide +kernel) (Nat.le_of_ble_eq_true rfl) (fun K R => ?_)
  show K 0 [pf_R 20 0, pf_I x1] [] M
  have hj18 : jX6_find_18 = some q → K 18 [pf_U, pf_U] [] M := by
    intro  h
    unfold jX6_find_18 at h
    refine r_aconst_null R 19 dX6_find_18 rfl ?_
    obtain rfl := Option.some.inj h
    exact r_areturn R dX6_find_19 rfl rfl rfl
  unfold fX6_find at h
  refine r_iload_n R 1 dX6_find_0 rfl rfl ?_
  refine r_if_lt R 4 18 dX6_find_1 rfl (by decide) (fun hc => ?_) (fun hc => ?_)
  · have h := pf_ifp hc h
    refine r_fg R [false, false] (show _ = [pf_U, pf_U] from rfl) ?_
    exact hj18 h
  · have h := pf_ifn hc h
    refine r_iload_n R 5 dX6_find_4 rfl rfl ?_
    refine r_iconst R 6 dX6_find_5 rfl ic_iconst_4 ?_
    refine r_icmp_ge R 9 18 dX6_find_6 rfl (by decide) (fun hc => ?_) (fun hc => ?_)
    · have h := pf_ifp hc h
      refine r_fg R [false, false] (show _ = [pf_U, pf_U] from rfl) ?_
      exact hj18 h
    · have h := pf_ifn hc h
      refine r_aload_n R 10 dX6_find_9 rfl rfl ?_
      refine r_getfield R 13 dX6_find_10 rfl fl_X6_11 rfl (show _ = pf_R 21 0 from rfl) ?_
      refine r_iload_n R 14 dX6_find_13 rfl rfl ?_
      obtain ⟨hi2, h⟩ := pf_gd h
      refine r_aaload R 15 dX6_find_14 rfl rfl rfl rfl (pf_in_iff.mp hi2) ?_
      refine r_goto R 19 dX6_find_15 (by decide) ?_
      obtain rfl := Option.some.inj h
      exact r_areturn R dX6_find_19 rfl rfl rfl
def fX11_clear (x1 : Int32) (M : pf_M) : Option (Int32 × pf_M) :=
  ((fX6_find x1 M).bind fun r2 => (match r2 with
  | none => some ((-1 : Int32), M)
  | some i3 => (if (M 25 i3 0) = (0 : Int32) then some ((-2 : Int32), M)
  else some (M 25 i3 0, (pf_up M 25 i3 0 (0 : Int32))))))
set_option maxRecDepth 4000 in
theorem c_X11_clear (G : pf_G) (x1 : Int32) (M : pf_M) (q : Int32 × pf_M) (h : fX11_clear x1 M = some q) : pf_Met G yX11_clear cX11_clear 4 (some .int) 1 21 [pf_R 0 0, pf_I x1] M (some (pf_I q.1)) q.2 := by
  refine pf_Met.of (by decide +kernel) (Nat.le_of_ble_eq_true rfl) (fun K R => ?_)
  show K 0 [pf_R 0 0, pf_I x1, pf_U, pf_U] [] M
  unfold fX11_clear at h
  refine r_aload_n R 1 dX11_clear_0 rfl rfl ?_
  refine r_getfield R 4 dX11_clear_1 rfl fl_X11_35 rfl (show _ = pf_R 20 0 from rfl) ?_
  refine r_iload_n R 5 dX11_clear_4 rfl rfl ?_
  obtain ⟨r2, hr2, h⟩ := pf_bd h
  refine r_cvQ1 R 8 dX11_clear_5 rfl lk_X11_166 rfl (c_X6_find G x1 M _ hr2) rfl rfl rfl ?_
  refine r_astore_n R 9 dX11_clear_8 rfl rfl (show _ = [pf_R 0 0, pf_I x1, pf_Q 25 r2, pf_U] from rfl) ?_
  refine r_aload_n R 10 dX11_clear_9 rfl rfl ?_
  cases r2 with
  | none =>
    refine r_ifnonnull_f R 13 15 dX11_clear_10 rfl (by decide) ?_
    refine r_iconst R 14 dX11_clear_13 rfl ic_iconst_m1 ?_
    obtain rfl := Option.some.inj h
    exact r_ireturn R dX11_clear_14 rfl rfl rfl rfl
  | some i3 =>
    refine r_ifnonnull_t R 15 dX11_clear_10 (by decide) ?_
    refine r_aload_n R 16 dX11_clear_15 rfl rfl ?_
    refine r_getfield R 19 dX11_clear_16 rfl fl_X11_172 rfl (show _ = pf_I (M 25 i3 0) from rfl) ?_
    refine r_if_ne R 22 25 dX11_clear_19 rfl (by decide) (fun hc => ?_) (fun hc => ?_)
    · have h := pf_ifp hc h
      refine r_bipush R 24 dX11_clear_22 rfl ic_bipush_m2 ?_
      obtain rfl := Option.some.inj h
      exact r_ireturn R dX11_clear_24 rfl rfl rfl rfl
    · have h := pf_ifn hc h
      refine r_aload_n R 26 dX11_clear_25 rfl rfl ?_
      refine r_getfield R 29 dX11_clear_26 rfl fl_X11_172 rfl (show _ = pf_I (M 25 i3 0) from rfl) ?_
      refine r_istore_n R 30 dX11_clear_29 rfl rfl (show _ = [pf_R 0 0, pf_I x1, pf_R 25 i3, pf_I (M 25 i3 0)] from rfl) ?_
      refine r_aload_n R 31 dX11_clear_30 rfl rfl ?_
      refine r_iconst R 32 dX11_clear_31 rfl ic_iconst_0 ?_
      refine r_putfield R 35 dX11_clear_32 rfl fl_X11_172 rfl rfl rfl rfl ?_
      refine r_iload_n R 36 dX11_clear_35 rfl rfl ?_
      obtain rfl := Option.some.inj h
      exact r_ireturn R dX11_clear_36 rfl rfl rfl rfl
def fX11_clock (x1 : Int32) (x2 : Int32) (M : pf_M) : Option (Int32) :=
  ((fX9_find x1 M).bind fun r4 => (match r4 with
  | none => some (-1 : Int32)
  | some i5 => (if x2 = (0 : Int32) then ((fX3_ownClock i5 (fX9_time M) M).bind fun r6 => some (r6 + (100000000 : Int32)))
  else (if x2 = (1 : Int32) then ((fX3_systemClock i5 (fX9_time M) M).bind fun r7 => some (r7 + (100000000 : Int32)))
  else (if x2 = (2 : Int32) then some ((M 11 i5 8) + (100000000 : Int32))
  else (if x2 = (3 : Int32) then some (M 11 i5 9)
  else some (-1 : Int32)))))))
set_option maxRecDepth 4000 in
theorem c_X11_clock (G : pf_G) (x1 : Int32) (x2 : Int32) (M : pf_M) (q : Int32) (h : fX11_clock x1 x2 M = some q) : pf_Met G yX11_clock cX11_clock 4 (some .int) 3 64 [pf_R 0 0, pf_I x1, pf_I x2] M (some (pf_I q)) M := by
  refine pf_Met.of (by decide +kernel) (Nat.le_of_ble_eq_true rfl) (fun K R => ?_)
  show K 0 [pf_R 0 0, pf_I x1, pf_I x2, pf_U] [] M
  unfold fX11_clock at h
  refine r_aload_n R 1 dX11_clock_0 rfl rfl ?_
  refine r_getfield R 4 dX11_clock_1 rfl fl_X11_19 rfl (show _ = pf_R 7 0 from rfl) ?_
  refine r_iload_n R 5 dX11_clock_4 rfl rfl ?_
  obtain ⟨r4, hr4, h⟩ := pf_bd h
  refine r_cvQ1 R 8 dX11_clock_5 rfl lk_X11_79 rfl (c_X9_find G x1 M _ hr4) rfl rfl rfl ?_
  refine r_astore_n R 9 dX11_clock_8 rfl rfl (show _ = [pf_R 0 0, pf_I x1, pf_I x2, pf_Q 11 r4] from rfl) ?_
  refine r_aload_n R 10 dX11_clock_9 rfl rfl ?_
  cases r4 with
  | none =>
    refine r_ifnonnull_f R 13 15 dX11_clock_10 rfl (by decide) ?_
    refine r_iconst R 14 dX11_clock_13 rfl ic_iconst_m1 ?_
    obtain rfl := Option.some.inj h
    exact r_ireturn R dX11_clock_14 rfl rfl rfl rfl
  | some i5 =>
    refine r_ifnonnull_t R 15 dX11_clock_10 (by decide) ?_
    refine r_iload_n R 16 dX11_clock_15 rfl rfl ?_
    by_cases hs16_0 : x2 = (0 : Int32)
    · have h := pf_ifp hs16_0 h
      refine r_swIn R 48 (32) dX11_clock_16 (by rw [hs16_0]; decide) (by rw [hs16_0]; decide) (by rw [hs16_0]; rfl) (by decide) ?_
      refine r_aload_n R 49 dX11_clock_48 rfl rfl ?_
      refine r_aload_n R 50 dX11_clock_49 rfl rfl ?_
      refine r_getfield R 53 dX11_clock_50 rfl fl_X11_19 rfl (show _ = pf_R 7 0 from rfl) ?_
      refine r_cvI0 R 56 dX11_clock_53 rfl lk_X11_105 rfl (c_X9_time G M _ rfl) rfl rfl rfl ?_
      obtain ⟨r6, hr6, h⟩ := pf_bd h
      refine r_cvI1 R 59 dX11_clock_56 rfl lk_X11_262 rfl (c_X3_ownClock G i5 (fX9_time M) M _ hr6) rfl rfl rfl ?_
      refine r_ldc_w R 62 dX11_clock_59 rfl kc_X11_265 ?_
      refine r_iadd R 63 dX11_clock_62 rfl ?_
      obtain rfl := Option.some.inj h
      exact r_ireturn R dX11_clock_63 rfl rfl rfl rfl
    have h := pf_ifn hs16_0 h
    by_cases hs16_1 : x2 = (1 : Int32)
    · have h := pf_ifp hs16_1 h
      refine r_swIn R 64 (48) dX11_clock_16 (by rw [hs16_1]; decide) (by rw [hs16_1]; decide) (by rw [hs16_1]; rfl) (by decide) ?_
      refine r_aload_n R 65 dX11_clock_64 rfl rfl ?_
      refine r_aload_n R 66 dX11_clock_65 rfl rfl ?_
      refine r_getfield R 69 dX11_clock_66 rfl fl_X11_19 rfl (show _ = pf_R 7 0 from rfl) ?_
      refine r_cvI0 R 72 dX11_clock_69 rfl lk_X11_105 rfl (c_X9_time G M _ rfl) rfl rfl rfl ?_
      obtain ⟨r7, hr7, h⟩ := pf_bd h
      refine r_cvI1 R 75 dX11_clock_72 rfl lk_X11_266 rfl (c_X3_systemClock G i5 (fX9_time M) M _ hr7) rfl rfl rfl ?_
      refine r_ldc_w R 78 dX11_clock_75 rfl kc_X11_265 ?_
      refine r_iadd R 79 dX11_clock_78 rfl ?_
      obtain rfl := Option.some.inj h
      exact r_ireturn R dX11_clock_79 rfl rfl rfl rfl
    have h := pf_ifn hs16_1 h
    by_cases hs16_2 : x2 = (2 : Int32)
    · have h := pf_ifp hs16_2 h
      refine r_swIn R 80 (64) dX11_clock_16 (by rw [hs16_2]; decide) (by rw [hs16_2]; decide) (by rw [hs16_2]; rfl) (by decide) ?_
      refine r_aload_n R 81 dX11_clock_80 rfl rfl ?_
      refine r_getfield R 84 dX11_clock_81 rfl fl_X11_269 rfl (show _ = pf_I (M 11 i5 8) from rfl) ?_
      refine r_ldc_w R 87 dX11_clock_84 rfl kc_X11_265 ?_
      refine r_iadd R 88 dX11_clock_87 rfl ?_
      obtain rfl := Option.some.inj h
      exact r_ireturn R dX11_clock_88 rfl rfl rfl rfl
    have h := pf_ifn hs16_2 h
    by_cases hs16_3 : x2 = (3 : Int32)
    · have h := pf_ifp hs16_3 h
      refine r_swIn R 89 (73) dX11_clock_16 (by rw [hs16_3]; decide) (by rw [hs16_3]; decide) (by rw [hs16_3]; rfl) (by decide) ?_
      refine r_aload_n R 90 dX11_clock_89 rfl rfl ?_
      refine r_getfield R 93 dX11_clock_90 rfl fl_X11_272 rfl (show _ = pf_I (M 11 i5 9) from rfl) ?_
      obtain rfl := Option.some.inj h
      exact r_ireturn R dX11_clock_93 rfl rfl rfl rfl
    have h := pf_ifn hs16_3 h
    refine r_swOut R 94 dX11_clock_16 (pf_swo 4 (by decide) (fun k hk => by
        rcases (show k = 0 ∨ k = 1 ∨ k = 2 ∨ k = 3 by omega) with rfl | rfl | rfl | rfl
        · exact hs16_0
        · exact hs16_1
        · exact hs16_2
        · exact hs16_3)) (by decide) ?_
    refine r_iconst R 95 dX11_clock_94 rfl ic_iconst_m1 ?_
    obtain rfl := Option.some.inj h
    exact r_ireturn R dX11_clock_95 rfl rfl rfl rfl
def fX6_shortOnes (M : pf_M) : Int32 :=
  M 20 0 3
set_option maxRecDepth 4000 in
theorem c_X6_shortOnes (G : pf_G) (M : pf_M) (q : Int32) (h : fX6_shortOnes M = q) : pf_Met G yX6_shortOnes cX6_shortOnes 1 (some .int) 0 0 [pf_R 20 0] M (some (pf_I q)) M := by
  refine pf_Met.of (by decide +kernel) (Nat.le_of_ble_eq_true rfl) (fun K R => ?_)
  show K 0 [pf_R 20 0] [] M
  unfold fX6_shortOnes at h
  refine r_aload_n R 1 dX6_shortOnes_0 rfl rfl ?_
  refine r_getfield R 4 dX6_shortOnes_1 rfl fl_X6_35 rfl (show _ = pf_I (M 20 0 3) from rfl) ?_
  subst h
  exact r_ireturn R dX6_shortOnes_4 rfl rfl rfl rfl
def fX4_size (M : pf_M) : Int32 :=
  M 22 0 2
set_option maxRecDepth 4000 in
theorem c_X4_size (G : pf_G) (M : pf_M) (q : Int32) (h : fX4_size M = q) : pf_Met G yX4_size cX4_size 1 (some .int) 0 0 [pf_R 22 0] M (some (pf_I q)) M := by
  refine pf_Met.of (by decide +kernel) (Nat.le_of_ble_eq_true rfl) (fun K R => ?_)
  show K 0 [pf_R 22 0] [] M
  unfold fX4_size at h
  refine r_aload_n R 1 dX4_size_0 rfl rfl ?_
  refine r_getfield R 4 dX4_size_1 rfl fl_X4_18 rfl (show _ = pf_I (M 22 0 2) from rfl) ?_
  subst h
  exact r_ireturn R dX4_size_4 rfl rfl rfl rfl
def fX6_rememberedOnes (M : pf_M) : Int32 :=
  fX4_size M
set_option maxRecDepth 4000 in
theorem c_X6_rememberedOnes (G : pf_G) (M : pf_M) (q : Int32) (h : fX6_rememberedOnes M = q) : pf_Met G yX6_rememberedOnes cX6_rememberedOnes 1 (some .int) 1 20 [pf_R 20 0] M (some (pf_I q)) M := by
  refine pf_Met.of (by decide +kernel) (Nat.le_of_ble_eq_true rfl) (fun K R => ?_)
  show K 0 [pf_R 20 0] [] M
  unfold fX6_rememberedOnes at h
  refine r_aload_n R 1 dX6_rememberedOnes_0 rfl rfl ?_
  refine r_getfield R 4 dX6_rememberedOnes_1 rfl fl_X6_20 rfl (show _ = pf_R 22 0 from rfl) ?_
  refine r_cvI0 R 7 dX6_rememberedOnes_4 rfl lk_X6_45 rfl (c_X4_size G M _ rfl) rfl rfl rfl ?_
  subst h
  exact r_ireturn R dX6_rememberedOnes_7 rfl rfl rfl rfl
def fX6_framesToLose (M : pf_M) : Int32 :=
  M 20 0 4
set_option maxRecDepth 4000 in
theorem c_X6_framesToLose (G : pf_G) (M : pf_M) (q : Int32) (h : fX6_framesToLose M = q) : pf_Met G yX6_framesToLose cX6_framesToLose 1 (some .int) 0 0 [pf_R 20 0] M (some (pf_I q)) M := by
  refine pf_Met.of (by decide +kernel) (Nat.le_of_ble_eq_true rfl) (fun K R => ?_)
  show K 0 [pf_R 20 0] [] M
  unfold fX6_framesToLose at h
  refine r_aload_n R 1 dX6_framesToLose_0 rfl rfl ?_
  refine r_getfield R 4 dX6_framesToLose_1 rfl fl_X6_39 rfl (show _ = pf_I (M 20 0 4) from rfl) ?_
  subst h
  exact r_ireturn R dX6_framesToLose_4 rfl rfl rfl rfl
def fX9_pass (M : pf_M) : Int32 :=
  M 7 0 4
set_option maxRecDepth 4000 in
theorem c_X9_pass (G : pf_G) (M : pf_M) (q : Int32) (h : fX9_pass M = q) : pf_Met G yX9_pass cX9_pass 1 (some .int) 0 0 [pf_R 7 0] M (some (pf_I q)) M := by
  refine pf_Met.of (by decide +kernel) (Nat.le_of_ble_eq_true rfl) (fun K R => ?_)
  show K 0 [pf_R 7 0] [] M
  unfold fX9_pass at h
  refine r_aload_n R 1 dX9_pass_0 rfl rfl ?_
  refine r_getfield R 4 dX9_pass_1 rfl fl_X9_36 rfl (show _ = pf_I (M 7 0 4) from rfl) ?_
  subst h
  exact r_ireturn R dX9_pass_4 rfl rfl rfl rfl
def fX9_turn (M : pf_M) : Int32 :=
  M 7 0 5
set_option maxRecDepth 4000 in
theorem c_X9_turn (G : pf_G) (M : pf_M) (q : Int32) (h : fX9_turn M = q) : pf_Met G yX9_turn cX9_turn 1 (some .int) 0 0 [pf_R 7 0] M (some (pf_I q)) M := by
  refine pf_Met.of (by decide +kernel) (Nat.le_of_ble_eq_true rfl) (fun K R => ?_)
  show K 0 [pf_R 7 0] [] M
  unfold fX9_turn at h
  refine r_aload_n R 1 dX9_turn_0 rfl rfl ?_
  refine r_getfield R 4 dX9_turn_1 rfl fl_X9_40 rfl (show _ = pf_I (M 7 0 5) from rfl) ?_
  subst h
  exact r_ireturn R dX9_turn_4 rfl rfl rfl rfl
def fX11_count (x1 : Int32) (M : pf_M) : Option (Int32) :=
  (if x1 = (0 : Int32) then some (fX9_size M)
  else (if x1 = (1 : Int32) then some (fX9_time M)
  else (if x1 = (2 : Int32) then ((fX9_cutWires M).bind fun r6 => some r6)
  else (if x1 = (3 : Int32) then ((fX9_sizeOfA M).bind fun r7 => some r7)
  else (if x1 = (4 : Int32) then ((fX9_sizeOfB M).bind fun r8 => some r8)
  else (if x1 = (5 : Int32) then some (fX6_shortOnes M)
  else (if x1 = (6 : Int32) then some (fX6_rememberedOnes M)
  else (if x1 = (7 : Int32) then some (fX6_framesToLose M)
  else (if x1 = (8 : Int32) then some (fX10_length M)
  else (if x1 = (9 : Int32) then ((fX9_wireTime (fX9_size M) M).bind fun r9 => some r9)
  else (if x1 = (10 : Int32) then some (fX9_pass M)
  else (if x1 = (11 : Int32) then some (fX9_turn M)
  else (if x1 = (12 : Int32) then ((fX9_trip M).bind fun r10 => some r10)
  else some (-1 : Int32))))))))))))))
set_option maxRecDepth 4000 in
theorem c_X11_count (G : pf_G) (x1 : Int32) (M : pf_M) (q : Int32) (h : fX11_count x1 M = some q) : pf_Met G yX11_count cX11_count 2 (some .int) 3 67 [pf_R 0 0, pf_I x1] M (some (pf_I q)) M := by
  refine pf_Met.of (by decide +kernel) (Nat.le_of_ble_eq_true rfl) (fun K R => ?_)
  show K 0 [pf_R 0 0, pf_I x1] [] M
  unfold fX11_count at h
  refine r_iload_n R 1 dX11_count_0 rfl rfl ?_
  by_cases hs1_0 : x1 = (0 : Int32)
  · have h := pf_ifp hs1_0 h
    refine r_swIn R 68 (67) dX11_count_1 (by rw [hs1_0]; decide) (by rw [hs1_0]; decide) (by rw [hs1_0]; rfl) (by decide) ?_
    refine r_aload_n R 69 dX11_count_68 rfl rfl ?_
    refine r_getfield R 72 dX11_count_69 rfl fl_X11_19 rfl (show _ = pf_R 7 0 from rfl) ?_
    refine r_cvI0 R 75 dX11_count_72 rfl lk_X11_76 rfl (c_X9_size G M _ rfl) rfl rfl rfl ?_
    obtain rfl := Option.some.inj h
    exact r_ireturn R dX11_count_75 rfl rfl rfl rfl
  have h := pf_ifn hs1_0 h
  by_cases hs1_1 : x1 = (1 : Int32)
  · have h := pf_ifp hs1_1 h
    refine r_swIn R 76 (75) dX11_count_1 (by rw [hs1_1]; decide) (by rw [hs1_1]; decide) (by rw [hs1_1]; rfl) (by decide) ?_
    refine r_aload_n R 77 dX11_count_76 rfl rfl ?_
    refine r_getfield R 80 dX11_count_77 rfl fl_X11_19 rfl (show _ = pf_R 7 0 from rfl) ?_
    refine r_cvI0 R 83 dX11_count_80 rfl lk_X11_105 rfl (c_X9_time G M _ rfl) rfl rfl rfl ?_
    obtain rfl := Option.some.inj h
    exact r_ireturn R dX11_count_83 rfl rfl rfl rfl
  have h := pf_ifn hs1_1 h
  by_cases hs1_2 : x1 = (2 : Int32)
  · have h := pf_ifp hs1_2 h
    refine r_swIn R 84 (83) dX11_count_1 (by rw [hs1_2]; decide) (by rw [hs1_2]; decide) (by rw [hs1_2]; rfl) (by decide) ?_
    refine r_aload_n R 85 dX11_count_84 rfl rfl ?_
    refine r_getfield R 88 dX11_count_85 rfl fl_X11_19 rfl (show _ = pf_R 7 0 from rfl) ?_
    obtain ⟨r6, hr6, h⟩ := pf_bd h
    refine r_cvI0 R 91 dX11_count_88 rfl lk_X11_124 rfl (c_X9_cutWires G M _ hr6) rfl rfl rfl ?_
    obtain rfl := Option.some.inj h
    exact r_ireturn R dX11_count_91 rfl rfl rfl rfl
  have h := pf_ifn hs1_2 h
  by_cases hs1_3 : x1 = (3 : Int32)
  · have h := pf_ifp hs1_3 h
    refine r_swIn R 92 (91) dX11_count_1 (by rw [hs1_3]; decide) (by rw [hs1_3]; decide) (by rw [hs1_3]; rfl) (by decide) ?_
    refine r_aload_n R 93 dX11_count_92 rfl rfl ?_
    refine r_getfield R 96 dX11_count_93 rfl fl_X11_19 rfl (show _ = pf_R 7 0 from rfl) ?_
    obtain ⟨r7, hr7, h⟩ := pf_bd h
    refine r_cvI0 R 99 dX11_count_96 rfl lk_X11_278 rfl (c_X9_sizeOfA G M _ hr7) rfl rfl rfl ?_
    obtain rfl := Option.some.inj h
    exact r_ireturn R dX11_count_99 rfl rfl rfl rfl
  have h := pf_ifn hs1_3 h
  by_cases hs1_4 : x1 = (4 : Int32)
  · have h := pf_ifp hs1_4 h
    refine r_swIn R 100 (99) dX11_count_1 (by rw [hs1_4]; decide) (by rw [hs1_4]; decide) (by rw [hs1_4]; rfl) (by decide) ?_
    refine r_aload_n R 101 dX11_count_100 rfl rfl ?_
    refine r_getfield R 104 dX11_count_101 rfl fl_X11_19 rfl (show _ = pf_R 7 0 from rfl) ?_
    obtain ⟨r8, hr8, h⟩ := pf_bd h
    refine r_cvI0 R 107 dX11_count_104 rfl lk_X11_281 rfl (c_X9_sizeOfB G M _ hr8) rfl rfl rfl ?_
    obtain rfl := Option.some.inj h
    exact r_ireturn R dX11_count_107 rfl rfl rfl rfl
  have h := pf_ifn hs1_4 h
  by_cases hs1_5 : x1 = (5 : Int32)
  · have h := pf_ifp hs1_5 h
    refine r_swIn R 108 (107) dX11_count_1 (by rw [hs1_5]; decide) (by rw [hs1_5]; decide) (by rw [hs1_5]; rfl) (by decide) ?_
    refine r_aload_n R 109 dX11_count_108 rfl rfl ?_
    refine r_getfield R 112 dX11_count_109 rfl fl_X11_35 rfl (show _ = pf_R 20 0 from rfl) ?_
    refine r_cvI0 R 115 dX11_count_112 rfl lk_X11_284 rfl (c_X6_shortOnes G M _ rfl) rfl rfl rfl ?_
    obtain rfl := Option.some.inj h
    exact r_ireturn R dX11_count_115 rfl rfl rfl rfl
  have h := pf_ifn hs1_5 h
  by_cases hs1_6 : x1 = (6 : Int32)
  · have h := pf_ifp hs1_6 h
    refine r_swIn R 116 (115) dX11_count_1 (by rw [hs1_6]; decide) (by rw [hs1_6]; decide) (by rw [hs1_6]; rfl) (by decide) ?_
    refine r_aload_n R 117 dX11_count_116 rfl rfl ?_
    refine r_getfield R 120 dX11_count_117 rfl fl_X11_35 rfl (show _ = pf_R 20 0 from rfl) ?_
    refine r_cvI0 R 123 dX11_count_120 rfl lk_X11_287 rfl (c_X6_rememberedOnes G M _ rfl) rfl rfl rfl ?_
    obtain rfl := Option.some.inj h
    exact r_ireturn R dX11_count_123 rfl rfl rfl rfl
  have h := pf_ifn hs1_6 h
  by_cases hs1_7 : x1 = (7 : Int32)
  · have h := pf_ifp hs1_7 h
    refine r_swIn R 124 (123) dX11_count_1 (by rw [hs1_7]; decide) (by rw [hs1_7]; decide) (by rw [hs1_7]; rfl) (by decide) ?_
    refine r_aload_n R 125 dX11_count_124 rfl rfl ?_
    refine r_getfield R 128 dX11_count_125 rfl fl_X11_35 rfl (show _ = pf_R 20 0 from rfl) ?_
    refine r_cvI0 R 131 dX11_count_128 rfl lk_X11_290 rfl (c_X6_framesToLose G M _ rfl) rfl rfl rfl ?_
    obtain rfl := Option.some.inj h
    exact r_ireturn R dX11_count_131 rfl rfl rfl rfl
  have h := pf_ifn hs1_7 h
  by_cases hs1_8 : x1 = (8 : Int32)
  · have h := pf_ifp hs1_8 h
    refine r_swIn R 132 (131) dX11_count_1 (by rw [hs1_8]; decide) (by rw [hs1_8]; decide) (by rw [hs1_8]; rfl) (by decide) ?_
    refine r_aload_n R 133 dX11_count_132 rfl rfl ?_
    refine r_getfield R 136 dX11_count_133 rfl fl_X11_10 rfl (show _ = pf_R 1 0 from rfl) ?_
    refine r_cvI0 R 139 dX11_count_136 rfl lk_X11_69 rfl (c_X10_length G M _ rfl) rfl rfl rfl ?_
    obtain rfl := Option.some.inj h
    exact r_ireturn R dX11_count_139 rfl rfl rfl rfl
  have h := pf_ifn hs1_8 h
  by_cases hs1_9 : x1 = (9 : Int32)
  · have h := pf_ifp hs1_9 h
    refine r_swIn R 140 (139) dX11_count_1 (by rw [hs1_9]; decide) (by rw [hs1_9]; decide) (by rw [hs1_9]; rfl) (by decide) ?_
    refine r_aload_n R 141 dX11_count_140 rfl rfl ?_
    refine r_getfield R 144 dX11_count_141 rfl fl_X11_19 rfl (show _ = pf_R 7 0 from rfl) ?_
    refine r_aload_n R 145 dX11_count_144 rfl rfl ?_
    refine r_getfield R 148 dX11_count_145 rfl fl_X11_19 rfl (show _ = pf_R 7 0 from rfl) ?_
    refine r_cvI0 R 151 dX11_count_148 rfl lk_X11_76 rfl (c_X9_size G M _ rfl) rfl rfl rfl ?_
    obtain ⟨r9, hr9, h⟩ := pf_bd h
    refine r_cvI1 R 154 dX11_count_151 rfl lk_X11_89 rfl (c_X9_wireTime G (fX9_size M) M _ hr9) rfl rfl rfl ?_
    obtain rfl := Option.some.inj h
    exact r_ireturn R dX11_count_154 rfl rfl rfl rfl
  have h := pf_ifn hs1_9 h
  by_cases hs1_10 : x1 = (10 : Int32)
  · have h := pf_ifp hs1_10 h
    refine r_swIn R 155 (154) dX11_count_1 (by rw [hs1_10]; decide) (by rw [hs1_10]; decide) (by rw [hs1_10]; rfl) (by decide) ?_
    refine r_aload_n R 156 dX11_count_155 rfl rfl ?_
    refine r_getfield R 159 dX11_count_156 rfl fl_X11_19 rfl (show _ = pf_R 7 0 from rfl) ?_
    refine r_cvI0 R 162 dX11_count_159 rfl lk_X11_293 rfl (c_X9_pass G M _ rfl) rfl rfl rfl ?_
    obtain rfl := Option.some.inj h
    exact r_ireturn R dX11_count_162 rfl rfl rfl rfl
  have h := pf_ifn hs1_10 h
  by_cases hs1_11 : x1 = (11 : Int32)
  · have h := pf_ifp hs1_11 h
    refine r_swIn R 163 (162) dX11_count_1 (by rw [hs1_11]; decide) (by rw [hs1_11]; decide) (by rw [hs1_11]; rfl) (by decide) ?_
    refine r_aload_n R 164 dX11_count_163 rfl rfl ?_
    refine r_getfield R 167 dX11_count_164 rfl fl_X11_19 rfl (show _ = pf_R 7 0 from rfl) ?_
    refine r_cvI0 R 170 dX11_count_167 rfl lk_X11_296 rfl (c_X9_turn G M _ rfl) rfl rfl rfl ?_
    obtain rfl := Option.some.inj h
    exact r_ireturn R dX11_count_170 rfl rfl rfl rfl
  have h := pf_ifn hs1_11 h
  by_cases hs1_12 : x1 = (12 : Int32)
  · have h := pf_ifp hs1_12 h
    refine r_swIn R 171 (170) dX11_count_1 (by rw [hs1_12]; decide) (by rw [hs1_12]; decide) (by rw [hs1_12]; rfl) (by decide) ?_
    refine r_aload_n R 172 dX11_count_171 rfl rfl ?_
    refine r_getfield R 175 dX11_count_172 rfl fl_X11_19 rfl (show _ = pf_R 7 0 from rfl) ?_
    obtain ⟨r10, hr10, h⟩ := pf_bd h
    refine r_cvI0 R 178 dX11_count_175 rfl lk_X11_299 rfl (c_X9_trip G M _ hr10) rfl rfl rfl ?_
    obtain rfl := Option.some.inj h
    exact r_ireturn R dX11_count_178 rfl rfl rfl rfl
  have h := pf_ifn hs1_12 h
  refine r_swOut R 179 dX11_count_1 (pf_swo 13 (by decide) (fun k hk => by
      rcases (show k = 0 ∨ k = 1 ∨ k = 2 ∨ k = 3 ∨ k = 4 ∨ k = 5 ∨ k = 6 ∨ k = 7 ∨ k = 8 ∨ k = 9 ∨ k = 10 ∨ k = 11 ∨ k = 12 by omega) with rfl | rfl | rfl | rfl | rfl | rfl | rfl | rfl | rfl | rfl | rfl | rfl | rfl
      · exact hs1_0
      · exact hs1_1
      · exact hs1_2
      · exact hs1_3
      · exact hs1_4
      · exact hs1_5
      · exact hs1_6
      · exact hs1_7
      · exact hs1_8
      · exact hs1_9
      · exact hs1_10
      · exact hs1_11
      · exact hs1_12)) (by decide) ?_
  refine r_iconst R 180 dX11_count_179 rfl ic_iconst_m1 ?_
  obtain rfl := Option.some.inj h
  exact r_ireturn R dX11_count_180 rfl rfl rfl rfl
def fX9_changeWire (x1 : Int32) (x2 : Int32) (M : pf_M) : Option (Int32 × pf_M) :=
  (if x1 < (0 : Int32) then some ((0 : Int32), M)
  else (if (M 7 0 3) < x1 then some ((0 : Int32), M)
  else (if pf_in x1 9 = true then (if (M 10 0 x1.toNatClampNeg) = x2 then some ((0 : Int32), M)
  else (if pf_in x1 9 = true then some ((1 : Int32), (pf_up M 10 0 x1.toNatClampNeg x2))
  else none))
  else none)))
set_option maxRecDepth 4000 in
theorem c_X9_changeWire (G : pf_G) (x1 : Int32) (x2 : Int32) (M : pf_M) (q : Int32 × pf_M) (h : fX9_changeWire x1 x2 M = some q) : pf_Met G yX9_changeWire cX9_changeWire 3 (some .boolean) 0 0 [pf_R 7 0, pf_I x1, pf_I x2] M (some (pf_I q.1)) q.2 := by
  refine pf_Met.of (by decide +kernel) (Nat.le_of_ble_eq_true rfl) (fun K R => ?_)
  show K 0 [pf_R 7 0, pf_I x1, pf_I x2] [] M
  unfold fX9_changeWire at h
  refine r_iload_n R 1 dX9_changeWire_0 rfl rfl ?_
  refine r_if_lt R 4 22 dX9_changeWire_1 rfl (by decide) (fun hc => ?_) (fun hc => ?_)
  · have h := pf_ifp hc h
    refine r_iconst R 23 dX9_changeWire_22 rfl ic_iconst_0 ?_
    obtain rfl := Option.some.inj h
    exact r_ireturn R dX9_changeWire_23 rfl rfl rfl rfl
  · have h := pf_ifn hc h
    refine r_iload_n R 5 dX9_changeWire_4 rfl rfl ?_
    refine r_aload_n R 6 dX9_changeWire_5 rfl rfl ?_
    refine r_getfield R 9 dX9_changeWire_6 rfl fl_X9_30 rfl (show _ = pf_I (M 7 0 3) from rfl) ?_
    refine r_icmp_gt R 12 22 dX9_changeWire_9 rfl (by decide) (fun hc => ?_) (fun hc => ?_)
    · have h := pf_ifp hc h
      refine r_iconst R 23 dX9_changeWire_22 rfl ic_iconst_0 ?_
      obtain rfl := Option.some.inj h
      exact r_ireturn R dX9_changeWire_23 rfl rfl rfl rfl
    · have h := pf_ifn hc h
      refine r_aload_n R 13 dX9_changeWire_12 rfl rfl ?_
      refine r_getfield R 16 dX9_changeWire_13 rfl fl_X9_21 rfl (show _ = pf_R 10 0 from rfl) ?_
      refine r_iload_n R 17 dX9_changeWire_16 rfl rfl ?_
      obtain ⟨hi3, h⟩ := pf_gd h
      refine r_iaload R 18 dX9_changeWire_17 rfl ⟨rfl, rfl⟩ (pf_in_iff.mp hi3) ?_
      refine r_iload_n R 19 dX9_changeWire_18 rfl rfl ?_
      refine r_icmp_ne R 22 24 dX9_changeWire_19 rfl (by decide) (fun hc => ?_) (fun hc => ?_)
      · have h := pf_ifp hc h
        refine r_iconst R 23 dX9_changeWire_22 rfl ic_iconst_0 ?_
        obtain rfl := Option.some.inj h
        exact r_ireturn R dX9_changeWire_23 rfl rfl rfl rfl
      · have h := pf_ifn hc h
        refine r_aload_n R 25 dX9_changeWire_24 rfl rfl ?_
        refine r_getfield R 28 dX9_changeWire_25 rfl fl_X9_21 rfl (show _ = pf_R 10 0 from rfl) ?_
        refine r_iload_n R 29 dX9_changeWire_28 rfl rfl ?_
        refine r_iload_n R 30 dX9_changeWire_29 rfl rfl ?_
        obtain ⟨hi4, h⟩ := pf_gd h
        refine r_iastore R 31 dX9_changeWire_30 rfl ⟨rfl, rfl⟩ (pf_in_iff.mp hi4) ?_
        refine r_iconst R 32 dX9_changeWire_31 rfl ic_iconst_1 ?_
        obtain rfl := Option.some.inj h
        exact r_ireturn R dX9_changeWire_32 rfl rfl rfl rfl
