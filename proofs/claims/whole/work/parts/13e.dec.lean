def fX11_own (x1 : Int32) (x2 : Int32) (x3 : Int32) (M : pf_M) : Option (Int32 × pf_M) :=
  ((fX9_find x1 M).bind fun r4 => (match r4 with
  | none => some ((-1 : Int32), M)
  | some i5 => (if (fX11_isWithin x2 (4 : Int32) (15 : Int32)) = (0 : Int32) then some ((-1 : Int32), M)
  else (if (fX11_isByte x3) = (0 : Int32) then some ((-1 : Int32), M)
  else (if pf_in x2 16 = true then (if pf_in x2 16 = true then some (M 12 i5 x2.toNatClampNeg, (pf_up M 12 i5 x2.toNatClampNeg x3))
  else none)
  else none)))))
set_option maxRecDepth 4000 in
theorem c_X11_own (G : pf_G) (x1 : Int32) (x2 : Int32) (x3 : Int32) (M : pf_M) (q : Int32 × pf_M) (h : fX11_own x1 x2 x3 M = some q) : pf_Met G yX11_own cX11_own 6 (some .int) 2 42 [pf_R 0 0, pf_I x1, pf_I x2, pf_I x3] M (some (pf_I q.1)) q.2 := by
  refine pf_Met.of (by decide +kernel) (Nat.le_of_ble_eq_true rfl) (fun K R => ?_)
  show K 0 [pf_R 0 0, pf_I x1, pf_I x2, pf_I x3, pf_U, pf_U] [] M
  unfold fX11_own at h
  refine r_aload_n R 1 dX11_own_0 rfl rfl ?_
  refine r_getfield R 4 dX11_own_1 rfl fl_X11_19 rfl (show _ = pf_R 7 0 from rfl) ?_
  refine r_iload_n R 5 dX11_own_4 rfl rfl ?_
  obtain ⟨r4, hr4, h⟩ := pf_bd h
  refine r_cvQ1 R 8 dX11_own_5 rfl lk_X11_79 rfl (c_X9_find G x1 M _ hr4) rfl rfl rfl ?_
  refine r_astore R 10 dX11_own_8 rfl rfl (show _ = [pf_R 0 0, pf_I x1, pf_I x2, pf_I x3, pf_Q 11 r4, pf_U] from rfl) ?_
  refine r_aload R 12 dX11_own_10 rfl rfl ?_
  cases r4 with
  | none =>
    refine r_ifnull_t R 32 dX11_own_12 (by decide) ?_
    refine r_iconst R 33 dX11_own_32 rfl ic_iconst_m1 ?_
    obtain rfl := Option.some.inj h
    exact r_ireturn R dX11_own_33 rfl rfl rfl rfl
  | some i5 =>
    refine r_ifnull_f R 15 32 dX11_own_12 rfl (by decide) ?_
    refine r_iload_n R 16 dX11_own_15 rfl rfl ?_
    refine r_iconst R 17 dX11_own_16 rfl ic_iconst_4 ?_
    refine r_bipush R 19 dX11_own_17 rfl ic_bipush_15 ?_
    refine r_csI3 R 22 dX11_own_19 rfl lk_X11_65 (c_X11_isWithin G x2 (4 : Int32) (15 : Int32) _ rfl) rfl rfl rfl ?_
    refine r_if_eq R 25 32 dX11_own_22 rfl (by decide) (fun hc => ?_) (fun hc => ?_)
    · have h := pf_ifp hc h
      refine r_iconst R 33 dX11_own_32 rfl ic_iconst_m1 ?_
      obtain rfl := Option.some.inj h
      exact r_ireturn R dX11_own_33 rfl rfl rfl rfl
    · have h := pf_ifn hc h
      refine r_iload_n R 26 dX11_own_25 rfl rfl ?_
      refine r_csI1 R 29 dX11_own_26 rfl lk_X11_116 (c_X11_isByte G x3 _ rfl) rfl rfl rfl ?_
      refine r_if_ne R 32 34 dX11_own_29 rfl (by decide) (fun hc => ?_) (fun hc => ?_)
      · have h := pf_ifp hc h
        refine r_iconst R 33 dX11_own_32 rfl ic_iconst_m1 ?_
        obtain rfl := Option.some.inj h
        exact r_ireturn R dX11_own_33 rfl rfl rfl rfl
      · have h := pf_ifn hc h
        refine r_aload R 36 dX11_own_34 rfl rfl ?_
        refine r_getfield R 39 dX11_own_36 rfl fl_X11_112 rfl (show _ = pf_R 12 i5 from rfl) ?_
        refine r_iload_n R 40 dX11_own_39 rfl rfl ?_
        obtain ⟨hi6, h⟩ := pf_gd h
        refine r_iaload R 41 dX11_own_40 rfl ⟨rfl, rfl⟩ (pf_in_iff.mp hi6) ?_
        refine r_istore R 43 dX11_own_41 rfl rfl (show _ = [pf_R 0 0, pf_I x1, pf_I x2, pf_I x3, pf_R 11 i5, pf_I (M 12 i5 x2.toNatClampNeg)] from rfl) ?_
        refine r_aload R 45 dX11_own_43 rfl rfl ?_
        refine r_getfield R 48 dX11_own_45 rfl fl_X11_112 rfl (show _ = pf_R 12 i5 from rfl) ?_
        refine r_iload_n R 49 dX11_own_48 rfl rfl ?_
        refine r_iload_n R 50 dX11_own_49 rfl rfl ?_
        obtain ⟨hi7, h⟩ := pf_gd h
        refine r_iastore R 51 dX11_own_50 rfl ⟨rfl, rfl⟩ (pf_in_iff.mp hi7) ?_
        refine r_iload R 53 dX11_own_51 rfl rfl ?_
        obtain rfl := Option.some.inj h
        exact r_ireturn R dX11_own_53 rfl rfl rfl rfl
def fX11_push (x1 : Int32) (x2 : Int32) (M : pf_M) : Option (Int32 × pf_M) :=
  ((fX9_find x1 M).bind fun r4 => (match r4 with
  | none => some ((-1 : Int32), M)
  | some i5 => (if (fX11_isMessage x2) = (0 : Int32) then some ((-1 : Int32), M)
  else ((fX9_isReached x1 M).bind fun r6 => (if r6 = (0 : Int32) then some ((-2 : Int32), M)
  else (if (M 14 i5 7) = (0 : Int32) then ((fX11_deliver i5 x2 M).bind fun q7 => some (q7.1, q7.2))
  else some ((-2 : Int32), M)))))))
set_option maxRecDepth 4000 in
theorem c_X11_push (G : pf_G) (x1 : Int32) (x2 : Int32) (M : pf_M) (q : Int32 × pf_M) (h : fX11_push x1 x2 M = some q) : pf_Met G yX11_push cX11_push 4 (some .int) 5 110 [pf_R 0 0, pf_I x1, pf_I x2] M (some (pf_I q.1)) q.2 := by
  refine pf_Met.of (by decide +kernel) (Nat.le_of_ble_eq_true rfl) (fun K R => ?_)
  show K 0 [pf_R 0 0, pf_I x1, pf_I x2, pf_U] [] M
  unfold fX11_push at h
  refine r_aload_n R 1 dX11_push_0 rfl rfl ?_
  refine r_getfield R 4 dX11_push_1 rfl fl_X11_19 rfl (show _ = pf_R 7 0 from rfl) ?_
  refine r_iload_n R 5 dX11_push_4 rfl rfl ?_
  obtain ⟨r4, hr4, h⟩ := pf_bd h
  refine r_cvQ1 R 8 dX11_push_5 rfl lk_X11_79 rfl (c_X9_find G x1 M _ hr4) rfl rfl rfl ?_
  refine r_astore_n R 9 dX11_push_8 rfl rfl (show _ = [pf_R 0 0, pf_I x1, pf_I x2, pf_Q 11 r4] from rfl) ?_
  refine r_aload_n R 10 dX11_push_9 rfl rfl ?_
  cases r4 with
  | none =>
    refine r_ifnull_t R 20 dX11_push_10 (by decide) ?_
    refine r_iconst R 21 dX11_push_20 rfl ic_iconst_m1 ?_
    obtain rfl := Option.some.inj h
    exact r_ireturn R dX11_push_21 rfl rfl rfl rfl
  | some i5 =>
    refine r_ifnull_f R 13 20 dX11_push_10 rfl (by decide) ?_
    refine r_iload_n R 14 dX11_push_13 rfl rfl ?_
    refine r_csI1 R 17 dX11_push_14 rfl lk_X11_201 (c_X11_isMessage G x2 _ rfl) rfl rfl rfl ?_
    refine r_if_ne R 20 22 dX11_push_17 rfl (by decide) (fun hc => ?_) (fun hc => ?_)
    · have h := pf_ifp hc h
      refine r_iconst R 21 dX11_push_20 rfl ic_iconst_m1 ?_
      obtain rfl := Option.some.inj h
      exact r_ireturn R dX11_push_21 rfl rfl rfl rfl
    · have h := pf_ifn hc h
      refine r_aload_n R 23 dX11_push_22 rfl rfl ?_
      refine r_getfield R 26 dX11_push_23 rfl fl_X11_19 rfl (show _ = pf_R 7 0 from rfl) ?_
      refine r_iload_n R 27 dX11_push_26 rfl rfl ?_
      obtain ⟨r6, hr6, h⟩ := pf_bd h
      refine r_cvI1 R 30 dX11_push_27 rfl lk_X11_225 rfl (c_X9_isReached G x1 M _ hr6) rfl rfl rfl ?_
      refine r_if_eq R 33 43 dX11_push_30 rfl (by decide) (fun hc => ?_) (fun hc => ?_)
      · have h := pf_ifp hc h
        refine r_bipush R 45 dX11_push_43 rfl ic_bipush_m2 ?_
        obtain rfl := Option.some.inj h
        exact r_ireturn R dX11_push_45 rfl rfl rfl rfl
      · have h := pf_ifn hc h
        refine r_aload_n R 34 dX11_push_33 rfl rfl ?_
        refine r_getfield R 37 dX11_push_34 rfl fl_X11_204 rfl (show _ = pf_R 14 i5 from rfl) ?_
        refine r_getfield R 40 dX11_push_37 rfl fl_X11_237 rfl (show _ = pf_I (M 14 i5 7) from rfl) ?_
        refine r_if_eq R 43 46 dX11_push_40 rfl (by decide) (fun hc => ?_) (fun hc => ?_)
        · have h := pf_ifp hc h
          refine r_aload_n R 47 dX11_push_46 rfl rfl ?_
          refine r_aload_n R 48 dX11_push_47 rfl rfl ?_
          refine r_getfield R 51 dX11_push_48 rfl fl_X11_204 rfl (show _ = pf_R 14 i5 from rfl) ?_
          refine r_iload_n R 52 dX11_push_51 rfl rfl ?_
          obtain ⟨q7, hq7, h⟩ := pf_bd h
          refine r_cvI2 R 55 dX11_push_52 rfl lk_X11_240 rfl (c_X11_deliver G i5 x2 M _ hq7) rfl rfl rfl ?_
          obtain rfl := Option.some.inj h
          exact r_ireturn R dX11_push_55 rfl rfl rfl rfl
        · have h := pf_ifn hc h
          refine r_bipush R 45 dX11_push_43 rfl ic_bipush_m2 ?_
          obtain rfl := Option.some.inj h
          exact r_ireturn R dX11_push_45 rfl rfl rfl rfl
def fX11_put (x1 : Int32) (x2 : Int32) (x3 : Int32) (M : pf_M) : Option (Int32 × pf_M) :=
  ((fX6_find x1 M).bind fun r4 => (match r4 with
  | none => some ((-1 : Int32), M)
  | some i5 => (if (fX11_isWithin x2 (0 : Int32) (7 : Int32)) = (0 : Int32) then some ((-1 : Int32), M)
  else (if (fX11_isByte x3) = (0 : Int32) then some ((-1 : Int32), M)
  else (if pf_in x2 8 = true then (if pf_in x2 8 = true then some (M 26 i5 x2.toNatClampNeg, (pf_up M 26 i5 x2.toNatClampNeg x3))
  else none)
  else none)))))
set_option maxRecDepth 4000 in
theorem c_X11_put (G : pf_G) (x1 : Int32) (x2 : Int32) (x3 : Int32) (M : pf_M) (q : Int32 × pf_M) (h : fX11_put x1 x2 x3 M = some q) : pf_Met G yX11_put cX11_put 6 (some .int) 2 42 [pf_R 0 0, pf_I x1, pf_I x2, pf_I x3] M (some (pf_I q.1)) q.2 := by
  refine pf_Met.of (by decide +kernel) (Nat.le_of_ble_eq_true rfl) (fun K R => ?_)
  show K 0 [pf_R 0 0, pf_I x1, pf_I x2, pf_I x3, pf_U, pf_U] [] M
  unfold fX11_put at h
  refine r_aload_n R 1 dX11_put_0 rfl rfl ?_
  refine r_getfield R 4 dX11_put_1 rfl fl_X11_35 rfl (show _ = pf_R 20 0 from rfl) ?_
  refine r_iload_n R 5 dX11_put_4 rfl rfl ?_
  obtain ⟨r4, hr4, h⟩ := pf_bd h
  refine r_cvQ1 R 8 dX11_put_5 rfl lk_X11_166 rfl (c_X6_find G x1 M _ hr4) rfl rfl rfl ?_
  refine r_astore R 10 dX11_put_8 rfl rfl (show _ = [pf_R 0 0, pf_I x1, pf_I x2, pf_I x3, pf_Q 25 r4, pf_U] from rfl) ?_
  refine r_aload R 12 dX11_put_10 rfl rfl ?_
  cases r4 with
  | none =>
    refine r_ifnull_t R 32 dX11_put_12 (by decide) ?_
    refine r_iconst R 33 dX11_put_32 rfl ic_iconst_m1 ?_
    obtain rfl := Option.some.inj h
    exact r_ireturn R dX11_put_33 rfl rfl rfl rfl
  | some i5 =>
    refine r_ifnull_f R 15 32 dX11_put_12 rfl (by decide) ?_
    refine r_iload_n R 16 dX11_put_15 rfl rfl ?_
    refine r_iconst R 17 dX11_put_16 rfl ic_iconst_0 ?_
    refine r_bipush R 19 dX11_put_17 rfl ic_bipush_7 ?_
    refine r_csI3 R 22 dX11_put_19 rfl lk_X11_65 (c_X11_isWithin G x2 (0 : Int32) (7 : Int32) _ rfl) rfl rfl rfl ?_
    refine r_if_eq R 25 32 dX11_put_22 rfl (by decide) (fun hc => ?_) (fun hc => ?_)
    · have h := pf_ifp hc h
      refine r_iconst R 33 dX11_put_32 rfl ic_iconst_m1 ?_
      obtain rfl := Option.some.inj h
      exact r_ireturn R dX11_put_33 rfl rfl rfl rfl
    · have h := pf_ifn hc h
      refine r_iload_n R 26 dX11_put_25 rfl rfl ?_
      refine r_csI1 R 29 dX11_put_26 rfl lk_X11_116 (c_X11_isByte G x3 _ rfl) rfl rfl rfl ?_
      refine r_if_ne R 32 34 dX11_put_29 rfl (by decide) (fun hc => ?_) (fun hc => ?_)
      · have h := pf_ifp hc h
        refine r_iconst R 33 dX11_put_32 rfl ic_iconst_m1 ?_
        obtain rfl := Option.some.inj h
        exact r_ireturn R dX11_put_33 rfl rfl rfl rfl
      · have h := pf_ifn hc h
        refine r_aload R 36 dX11_put_34 rfl rfl ?_
        refine r_getfield R 39 dX11_put_36 rfl fl_X11_181 rfl (show _ = pf_R 26 i5 from rfl) ?_
        refine r_iload_n R 40 dX11_put_39 rfl rfl ?_
        obtain ⟨hi6, h⟩ := pf_gd h
        refine r_iaload R 41 dX11_put_40 rfl ⟨rfl, rfl⟩ (pf_in_iff.mp hi6) ?_
        refine r_istore R 43 dX11_put_41 rfl rfl (show _ = [pf_R 0 0, pf_I x1, pf_I x2, pf_I x3, pf_R 25 i5, pf_I (M 26 i5 x2.toNatClampNeg)] from rfl) ?_
        refine r_aload R 45 dX11_put_43 rfl rfl ?_
        refine r_getfield R 48 dX11_put_45 rfl fl_X11_181 rfl (show _ = pf_R 26 i5 from rfl) ?_
        refine r_iload_n R 49 dX11_put_48 rfl rfl ?_
        refine r_iload_n R 50 dX11_put_49 rfl rfl ?_
        obtain ⟨hi7, h⟩ := pf_gd h
        refine r_iastore R 51 dX11_put_50 rfl ⟨rfl, rfl⟩ (pf_in_iff.mp hi7) ?_
        refine r_iload R 53 dX11_put_51 rfl rfl ?_
        obtain rfl := Option.some.inj h
        exact r_ireturn R dX11_put_53 rfl rfl rfl rfl
def lX6_hasCommands_2 (M : pf_M) : Nat → Int32 → Option (Int32)
  | 0, _ => none
  | n + 1, v2_1 =>
  (if (4 : Int32) ≤ v2_1 then some (0 : Int32)
  else (if pf_in v2_1 4 = true then (if (M 25 v2_1.toNatClampNeg 0) = (0 : Int32) then (lX6_hasCommands_2 M n) (v2_1 + (1 : Int32))
  else some (1 : Int32))
  else none))
def fX6_hasCommands (M : pf_M) : Option (Int32) :=
  lX6_hasCommands_2 M pf_fu (0 : Int32)
set_option maxRecDepth 4000 in
theorem c_X6_hasCommands (G : pf_G) (M : pf_M) (q : Int32) (h : fX6_hasCommands M = some q) : pf_Met G yX6_hasCommands cX6_hasCommands 2 (some .boolean) 0 0 [pf_R 20 0] M (some (pf_I q)) M := by
  refine pf_Met.of (by decide +kernel) (Nat.le_of_ble_eq_true rfl) (fun K R => ?_)
  show K 0 [pf_R 20 0, pf_U] [] M
  have hl2 : ∀ (n : Nat) (v2_1 : Int32), lX6_hasCommands_2 M n v2_1 = some q → K 2 [pf_R 20 0, pf_I v2_1] [] M := by
    intro n
    induction n with
    | zero =>
      intro v2_1 h
      rw [lX6_hasCommands_2] at h
      cases h
    | succ n ih2 =>
        intro v2_1 h
        rw [lX6_hasCommands_2] at h
        refine r_iload_n R 3 dX6_hasCommands_2 rfl rfl ?_
        refine r_iconst R 4 dX6_hasCommands_3 rfl ic_iconst_4 ?_
        refine r_icmp_ge R 7 27 dX6_hasCommands_4 rfl (by decide) (fun hc => ?_) (fun hc => ?_)
        · have h := pf_ifp hc h
          refine r_iconst R 28 dX6_hasCommands_27 rfl ic_iconst_0 ?_
          obtain rfl := Option.some.inj h
          exact r_ireturn R dX6_hasCommands_28 rfl rfl rfl rfl
        · have h := pf_ifn hc h
          refine r_aload_n R 8 dX6_hasCommands_7 rfl rfl ?_
          refine r_getfield R 11 dX6_hasCommands_8 rfl fl_X6_11 rfl (show _ = pf_R 21 0 from rfl) ?_
          refine r_iload_n R 12 dX6_hasCommands_11 rfl rfl ?_
          obtain ⟨hi1, h⟩ := pf_gd h
          refine r_aaload R 13 dX6_hasCommands_12 rfl rfl rfl rfl (pf_in_iff.mp hi1) ?_
          refine r_getfield R 16 dX6_hasCommands_13 rfl fl_X6_42 rfl (show _ = pf_I (M 25 v2_1.toNatClampNeg 0) from rfl) ?_
          refine r_if_eq R 19 21 dX6_hasCommands_16 rfl (by decide) (fun hc => ?_) (fun hc => ?_)
          · have h := pf_ifp hc h
            refine r_iinc R 24 dX6_hasCommands_21 rfl rfl ic_iconst_1 (show _ = [pf_R 20 0, pf_I (v2_1 + (1 : Int32))] from rfl) ?_
            refine r_goto R 2 dX6_hasCommands_24 (by decide) ?_
            exact ih2 _ h
          · have h := pf_ifn hc h
            refine r_iconst R 20 dX6_hasCommands_19 rfl ic_iconst_1 ?_
            obtain rfl := Option.some.inj h
            exact r_ireturn R dX6_hasCommands_20 rfl rfl rfl rfl
  unfold fX6_hasCommands at h
  refine r_iconst R 1 dX6_hasCommands_0 rfl ic_iconst_0 ?_
  refine r_istore_n R 2 dX6_hasCommands_1 rfl rfl (show _ = [pf_R 20 0, pf_I (0 : Int32)] from rfl) ?_
  exact hl2 pf_fu _ h
def fX2_leave (o0 : Nat) (M : pf_M) : pf_M :=
  (fX0_load (2 * o0 + 1) o0 (fX0_load (2 * o0) o0 M))
set_option maxRecDepth 4000 in
theorem c_X2_leave (G : pf_G) (o0 : Nat) (M : pf_M) (q : pf_M) (h : fX2_leave o0 M = q) : pf_Met G yX2_leave cX2_leave 1 (none) 2 61 [pf_R 25 o0] M none q := by
  refine pf_Met.of (by decide +kernel) (Nat.le_of_ble_eq_true rfl) (fun K R => ?_)
  show K 0 [pf_R 25 o0] [] M
  unfold fX2_leave at h
  refine r_aload_n R 1 dX2_leave_0 rfl rfl ?_
  refine r_getfield R 4 dX2_leave_1 rfl fl_X2_18 rfl (show _ = pf_R 27 (2 * o0) from rfl) ?_
  refine r_aload_n R 5 dX2_leave_4 rfl rfl ?_
  refine r_getfield R 8 dX2_leave_5 rfl fl_X2_9 rfl (show _ = pf_R 26 o0 from rfl) ?_
  refine r_cvV1 R 11 dX2_leave_8 rfl lk_X2_50 rfl (c_X0_load G (2 * o0) o0 M _ rfl) rfl rfl rfl ?_
  refine r_aload_n R 12 dX2_leave_11 rfl rfl ?_
  refine r_getfield R 15 dX2_leave_12 rfl fl_X2_22 rfl (show _ = pf_R 27 (2 * o0 + 1) from rfl) ?_
  refine r_aload_n R 16 dX2_leave_15 rfl rfl ?_
  refine r_getfield R 19 dX2_leave_16 rfl fl_X2_9 rfl (show _ = pf_R 26 o0 from rfl) ?_
  refine r_cvV1 R 22 dX2_leave_19 rfl lk_X2_50 rfl (c_X0_load G (2 * o0 + 1) o0 (fX0_load (2 * o0) o0 M) _ rfl) rfl rfl rfl ?_
  subst h
  exact r_return_ R dX2_leave_22 rfl rfl rfl
def fX2_addressing (o0 : Nat) (M : pf_M) : Int32 :=
  ((M 25 o0 0) - (1 : Int32)) / (3 : Int32)
set_option maxRecDepth 4000 in
theorem c_X2_addressing (G : pf_G) (o0 : Nat) (M : pf_M) (q : Int32) (h : fX2_addressing o0 M = q) : pf_Met G yX2_addressing cX2_addressing 1 (some .int) 0 0 [pf_R 25 o0] M (some (pf_I q)) M := by
  refine pf_Met.of (by decide +kernel) (Nat.le_of_ble_eq_true rfl) (fun K R => ?_)
  show K 0 [pf_R 25 o0] [] M
  unfold fX2_addressing at h
  refine r_aload_n R 1 dX2_addressing_0 rfl rfl ?_
  refine r_getfield R 4 dX2_addressing_1 rfl fl_X2_28 rfl (show _ = pf_I (M 25 o0 0) from rfl) ?_
  refine r_iconst R 5 dX2_addressing_4 rfl ic_iconst_1 ?_
  refine r_isub R 6 dX2_addressing_5 rfl ?_
  refine r_iconst R 7 dX2_addressing_6 rfl ic_iconst_3 ?_
  refine r_idiv R 8 dX2_addressing_7 rfl (by decide) ?_
  subst h
  exact r_ireturn R dX2_addressing_8 rfl rfl rfl rfl
def fX2_means (o0 : Nat) (o1 : Nat) (x2 : Int32) (M : pf_M) : Int32 :=
  (if (fX2_addressing o0 M) = (0 : Int32) then (if x2 = (M 25 o0 1) then (1 : Int32)
  else (0 : Int32))
  else (if (fX2_addressing o0 M) = (1 : Int32) then (if (M 11 o1 4) = (M 25 o0 1) then (1 : Int32)
  else (0 : Int32))
  else (1 : Int32)))
set_option maxRecDepth 4000 in
theorem c_X2_means (G : pf_G) (o0 : Nat) (o1 : Nat) (x2 : Int32) (M : pf_M) (q : Int32) (h : fX2_means o0 o1 x2 M = q) : pf_Met G yX2_means cX2_means 4 (some .boolean) 1 20 [pf_R 25 o0, pf_R 11 o1, pf_I x2] M (some (pf_I q)) M := by
  refine pf_Met.of (by decide +kernel) (Nat.le_of_ble_eq_true rfl) (fun K R => ?_)
  show K 0 [pf_R 25 o0, pf_R 11 o1, pf_I x2, pf_U] [] M
  unfold fX2_means at h
  refine r_aload_n R 1 dX2_means_0 rfl rfl ?_
  refine r_cvI0 R 4 dX2_means_1 rfl lk_X2_71 rfl (c_X2_addressing G o0 M _ rfl) rfl rfl rfl ?_
  refine r_istore_n R 5 dX2_means_4 rfl rfl (show _ = [pf_R 25 o0, pf_R 11 o1, pf_I x2, pf_I (fX2_addressing o0 M)] from rfl) ?_
  refine r_iload_n R 6 dX2_means_5 rfl rfl ?_
  refine r_if_ne R 9 23 dX2_means_6 rfl (by decide) (fun hc => ?_) (fun hc => ?_)
  · have h := pf_ifp hc h
    refine r_iload_n R 10 dX2_means_9 rfl rfl ?_
    refine r_aload_n R 11 dX2_means_10 rfl rfl ?_
    refine r_getfield R 14 dX2_means_11 rfl fl_X2_41 rfl (show _ = pf_I (M 25 o0 1) from rfl) ?_
    refine r_icmp_ne R 17 21 dX2_means_14 rfl (by decide) (fun hc => ?_) (fun hc => ?_)
    · have h := pf_ifp hc h
      refine r_iconst R 18 dX2_means_17 rfl ic_iconst_1 ?_
      refine r_goto R 22 dX2_means_18 (by decide) ?_
      subst h
      exact r_ireturn R dX2_means_22 rfl rfl rfl rfl
    · have h := pf_ifn hc h
      refine r_iconst R 22 dX2_means_21 rfl ic_iconst_0 ?_
      subst h
      exact r_ireturn R dX2_means_22 rfl rfl rfl rfl
  · have h := pf_ifn hc h
    refine r_iload_n R 24 dX2_means_23 rfl rfl ?_
    refine r_iconst R 25 dX2_means_24 rfl ic_iconst_1 ?_
    refine r_icmp_ne R 28 39 dX2_means_25 rfl (by decide) (fun hc => ?_) (fun hc => ?_)
    · have h := pf_ifp hc h
      refine r_aload_n R 29 dX2_means_28 rfl rfl ?_
      refine r_getfield R 32 dX2_means_29 rfl fl_X2_75 rfl (show _ = pf_I (M 11 o1 4) from rfl) ?_
      refine r_aload_n R 33 dX2_means_32 rfl rfl ?_
      refine r_getfield R 36 dX2_means_33 rfl fl_X2_41 rfl (show _ = pf_I (M 25 o0 1) from rfl) ?_
      refine r_icmp_ne R 39 43 dX2_means_36 rfl (by decide) (fun hc => ?_) (fun hc => ?_)
      · have h := pf_ifp hc h
        refine r_iconst R 40 dX2_means_39 rfl ic_iconst_1 ?_
        refine r_goto R 44 dX2_means_40 (by decide) ?_
        subst h
        exact r_ireturn R dX2_means_44 rfl rfl rfl rfl
      · have h := pf_ifn hc h
        refine r_iconst R 44 dX2_means_43 rfl ic_iconst_0 ?_
        subst h
        exact r_ireturn R dX2_means_44 rfl rfl rfl rfl
    · have h := pf_ifn hc h
      refine r_iconst R 40 dX2_means_39 rfl ic_iconst_1 ?_
      refine r_goto R 44 dX2_means_40 (by decide) ?_
      subst h
      exact r_ireturn R dX2_means_44 rfl rfl rfl rfl
theorem fb_X2_means (o0 : Nat) (o1 : Nat) (x2 : Int32) (M : pf_M) : fX2_means o0 o1 x2 M = 0 ∨ fX2_means o0 o1 x2 M = 1 := by
  unfold fX2_means
  repeat' split
  all_goals first | exact Or.inl rfl | exact Or.inr rfl
def fX2_mayRead (o0 : Nat) (o1 : Nat) (M : pf_M) : Int32 :=
  (if (fX2_addressing o0 M) = (3 : Int32) then (if (M 11 o1 7) < (2 : Int32) then (0 : Int32)
  else (1 : Int32))
  else (if (16 : Int32) < ((M 25 o0 2) + (M 25 o0 3)) then (0 : Int32)
  else (1 : Int32)))
set_option maxRecDepth 4000 in
theorem c_X2_mayRead (G : pf_G) (o0 : Nat) (o1 : Nat) (M : pf_M) (q : Int32) (h : fX2_mayRead o0 o1 M = q) : pf_Met G yX2_mayRead cX2_mayRead 2 (some .boolean) 1 20 [pf_R 25 o0, pf_R 11 o1] M (some (pf_I q)) M := by
  refine pf_Met.of (by decide +kernel) (Nat.le_of_ble_eq_true rfl) (fun K R => ?_)
  show K 0 [pf_R 25 o0, pf_R 11 o1] [] M
  unfold fX2_mayRead at h
  refine r_aload_n R 1 dX2_mayRead_0 rfl rfl ?_
  refine r_cvI0 R 4 dX2_mayRead_1 rfl lk_X2_71 rfl (c_X2_addressing G o0 M _ rfl) rfl rfl rfl ?_
  refine r_iconst R 5 dX2_mayRead_4 rfl ic_iconst_3 ?_
  refine r_icmp_ne R 8 24 dX2_mayRead_5 rfl (by decide) (fun hc => ?_) (fun hc => ?_)
  · have h := pf_ifp hc h
    refine r_aload_n R 9 dX2_mayRead_8 rfl rfl ?_
    refine r_getfield R 12 dX2_mayRead_9 rfl fl_X2_80 rfl (show _ = pf_I (M 11 o1 7) from rfl) ?_
    refine r_iconst R 13 dX2_mayRead_12 rfl ic_iconst_2 ?_
    refine r_icmp_lt R 16 20 dX2_mayRead_13 rfl (by decide) (fun hc => ?_) (fun hc => ?_)
    · have h := pf_ifp hc h
      refine r_iconst R 21 dX2_mayRead_20 rfl ic_iconst_0 ?_
      refine r_goto R 43 dX2_mayRead_21 (by decide) ?_
      subst h
      exact r_ireturn R dX2_mayRead_43 rfl rfl rfl rfl
    · have h := pf_ifn hc h
      refine r_iconst R 17 dX2_mayRead_16 rfl ic_iconst_1 ?_
      refine r_goto R 43 dX2_mayRead_17 (by decide) ?_
      subst h
      exact r_ireturn R dX2_mayRead_43 rfl rfl rfl rfl
  · have h := pf_ifn hc h
    refine r_aload_n R 25 dX2_mayRead_24 rfl rfl ?_
    refine r_getfield R 28 dX2_mayRead_25 rfl fl_X2_44 rfl (show _ = pf_I (M 25 o0 2) from rfl) ?_
    refine r_aload_n R 29 dX2_mayRead_28 rfl rfl ?_
    refine r_getfield R 32 dX2_mayRead_29 rfl fl_X2_47 rfl (show _ = pf_I (M 25 o0 3) from rfl) ?_
    refine r_iadd R 33 dX2_mayRead_32 rfl ?_
    refine r_bipush R 35 dX2_mayRead_33 rfl ic_bipush_16 ?_
    refine r_icmp_gt R 38 42 dX2_mayRead_35 rfl (by decide) (fun hc => ?_) (fun hc => ?_)
    · have h := pf_ifp hc h
      refine r_iconst R 43 dX2_mayRead_42 rfl ic_iconst_0 ?_
      subst h
      exact r_ireturn R dX2_mayRead_43 rfl rfl rfl rfl
    · have h := pf_ifn hc h
      refine r_iconst R 39 dX2_mayRead_38 rfl ic_iconst_1 ?_
      refine r_goto R 43 dX2_mayRead_39 (by decide) ?_
      subst h
      exact r_ireturn R dX2_mayRead_43 rfl rfl rfl rfl
theorem fb_X2_mayRead (o0 : Nat) (o1 : Nat) (M : pf_M) : fX2_mayRead o0 o1 M = 0 ∨ fX2_mayRead o0 o1 M = 1 := by
  unfold fX2_mayRead
  repeat' split
  all_goals first | exact Or.inl rfl | exact Or.inr rfl
def fX7_byteOver (o0 : Nat) (x1 : Int32) (M : pf_M) : Int32 :=
  (if x1 < (M 13 o0 0) then (-4 : Int32)
  else (if ((M 13 o0 0) + (M 13 o0 1)) ≤ x1 then (-4 : Int32)
  else (M 13 o0 2) + (x1 - (M 13 o0 0))))
set_option maxRecDepth 4000 in
theorem c_X7_byteOver (G : pf_G) (o0 : Nat) (x1 : Int32) (M : pf_M) (q : Int32) (h : fX7_byteOver o0 x1 M = q) : pf_Met G yX7_byteOver cX7_byteOver 2 (some .int) 0 0 [pf_R 13 o0, pf_I x1] M (some (pf_I q)) M := by
  refine pf_Met.of (by decide +kernel) (Nat.le_of_ble_eq_true rfl) (fun K R => ?_)
  show K 0 [pf_R 13 o0, pf_I x1] [] M
  unfold fX7_byteOver at h
  refine r_iload_n R 1 dX7_byteOver_0 rfl rfl ?_
  refine r_aload_n R 2 dX7_byteOver_1 rfl rfl ?_
  refine r_getfield R 5 dX7_byteOver_2 rfl fl_X7_9 rfl (show _ = pf_I (M 13 o0 0) from rfl) ?_
  refine r_icmp_lt R 8 35 dX7_byteOver_5 rfl (by decide) (fun hc => ?_) (fun hc => ?_)
  · have h := pf_ifp hc h
    refine r_bipush R 37 dX7_byteOver_35 rfl ic_bipush_m4 ?_
    subst h
    exact r_ireturn R dX7_byteOver_37 rfl rfl rfl rfl
  · have h := pf_ifn hc h
    refine r_iload_n R 9 dX7_byteOver_8 rfl rfl ?_
    refine r_aload_n R 10 dX7_byteOver_9 rfl rfl ?_
    refine r_getfield R 13 dX7_byteOver_10 rfl fl_X7_9 rfl (show _ = pf_I (M 13 o0 0) from rfl) ?_
    refine r_aload_n R 14 dX7_byteOver_13 rfl rfl ?_
    refine r_getfield R 17 dX7_byteOver_14 rfl fl_X7_15 rfl (show _ = pf_I (M 13 o0 1) from rfl) ?_
    refine r_iadd R 18 dX7_byteOver_17 rfl ?_
    refine r_icmp_ge R 21 35 dX7_byteOver_18 rfl (by decide) (fun hc => ?_) (fun hc => ?_)
    · have h := pf_ifp hc h
      refine r_bipush R 37 dX7_byteOver_35 rfl ic_bipush_m4 ?_
      subst h
      exact r_ireturn R dX7_byteOver_37 rfl rfl rfl rfl
    · have h := pf_ifn hc h
      refine r_aload_n R 22 dX7_byteOver_21 rfl rfl ?_
      refine r_getfield R 25 dX7_byteOver_22 rfl fl_X7_18 rfl (show _ = pf_I (M 13 o0 2) from rfl) ?_
      refine r_iload_n R 26 dX7_byteOver_25 rfl rfl ?_
      refine r_aload_n R 27 dX7_byteOver_26 rfl rfl ?_
      refine r_getfield R 30 dX7_byteOver_27 rfl fl_X7_9 rfl (show _ = pf_I (M 13 o0 0) from rfl) ?_
      refine r_isub R 31 dX7_byteOver_30 rfl ?_
      refine r_iadd R 32 dX7_byteOver_31 rfl ?_
      refine r_goto R 37 dX7_byteOver_32 (by decide) ?_
      subst h
      exact r_ireturn R dX7_byteOver_37 rfl rfl rfl rfl
def fX2_byteOver (o0 : Nat) (x1 : Int32) (o2 : Nat) (M : pf_M) : Int32 :=
  (if (fX2_addressing o0 M) = (3 : Int32) then fX7_byteOver o2 ((M 25 o0 1) + x1) M
  else (M 25 o0 2) + x1)
set_option maxRecDepth 4000 in
theorem c_X2_byteOver (G : pf_G) (o0 : Nat) (x1 : Int32) (o2 : Nat) (M : pf_M) (q : Int32) (h : fX2_byteOver o0 x1 o2 M = q) : pf_Met G yX2_byteOver cX2_byteOver 3 (some .int) 1 21 [pf_R 25 o0, pf_I x1, pf_R 13 o2] M (some (pf_I q)) M := by
  refine pf_Met.of (by decide +kernel) (Nat.le_of_ble_eq_true rfl) (fun K R => ?_)
  show K 0 [pf_R 25 o0, pf_I x1, pf_R 13 o2] [] M
  unfold fX2_byteOver at h
  refine r_aload_n R 1 dX2_byteOver_0 rfl rfl ?_
  refine r_cvI0 R 4 dX2_byteOver_1 rfl lk_X2_71 rfl (c_X2_addressing G o0 M _ rfl) rfl rfl rfl ?_
  refine r_iconst R 5 dX2_byteOver_4 rfl ic_iconst_3 ?_
  refine r_icmp_ne R 8 21 dX2_byteOver_5 rfl (by decide) (fun hc => ?_) (fun hc => ?_)
  · have h := pf_ifp hc h
    refine r_aload_n R 9 dX2_byteOver_8 rfl rfl ?_
    refine r_aload_n R 10 dX2_byteOver_9 rfl rfl ?_
    refine r_getfield R 13 dX2_byteOver_10 rfl fl_X2_41 rfl (show _ = pf_I (M 25 o0 1) from rfl) ?_
    refine r_iload_n R 14 dX2_byteOver_13 rfl rfl ?_
    refine r_iadd R 15 dX2_byteOver_14 rfl ?_
    refine r_cvI1 R 18 dX2_byteOver_15 rfl lk_X2_114 rfl (c_X7_byteOver G o2 ((M 25 o0 1) + x1) M _ rfl) rfl rfl rfl ?_
    refine r_goto R 27 dX2_byteOver_18 (by decide) ?_
    subst h
    exact r_ireturn R dX2_byteOver_27 rfl rfl rfl rfl
  · have h := pf_ifn hc h
    refine r_aload_n R 22 dX2_byteOver_21 rfl rfl ?_
    refine r_getfield R 25 dX2_byteOver_22 rfl fl_X2_44 rfl (show _ = pf_I (M 25 o0 2) from rfl) ?_
    refine r_iload_n R 26 dX2_byteOver_25 rfl rfl ?_
    refine r_iadd R 27 dX2_byteOver_26 rfl ?_
    subst h
    exact r_ireturn R dX2_byteOver_27 rfl rfl rfl rfl
def fX2_combines (o0 : Nat) (M : pf_M) : Int32 :=
  (if (M 25 o0 0) = (7 : Int32) then (1 : Int32)
  else (if (M 25 o0 0) = (9 : Int32) then (1 : Int32)
  else (0 : Int32)))
set_option maxRecDepth 4000 in
theorem c_X2_combines (G : pf_G) (o0 : Nat) (M : pf_M) (q : Int32) (h : fX2_combines o0 M = q) : pf_Met G yX2_combines cX2_combines 1 (some .boolean) 0 0 [pf_R 25 o0] M (some (pf_I q)) M := by
  refine pf_Met.of (by decide +kernel) (Nat.le_of_ble_eq_true rfl) (fun K R => ?_)
  show K 0 [pf_R 25 o0] [] M
  unfold fX2_combines at h
  refine r_aload_n R 1 dX2_combines_0 rfl rfl ?_
  refine r_getfield R 4 dX2_combines_1 rfl fl_X2_28 rfl (show _ = pf_I (M 25 o0 0) from rfl) ?_
  refine r_bipush R 6 dX2_combines_4 rfl ic_bipush_7 ?_
  refine r_icmp_eq R 9 18 dX2_combines_6 rfl (by decide) (fun hc => ?_) (fun hc => ?_)
  · have h := pf_ifp hc h
    refine r_iconst R 19 dX2_combines_18 rfl ic_iconst_1 ?_
    refine r_goto R 23 dX2_combines_19 (by decide) ?_
    subst h
    exact r_ireturn R dX2_combines_23 rfl rfl rfl rfl
  · have h := pf_ifn hc h
    refine r_aload_n R 10 dX2_combines_9 rfl rfl ?_
    refine r_getfield R 13 dX2_combines_10 rfl fl_X2_28 rfl (show _ = pf_I (M 25 o0 0) from rfl) ?_
    refine r_bipush R 15 dX2_combines_13 rfl ic_bipush_9 ?_
    refine r_icmp_ne R 18 22 dX2_combines_15 rfl (by decide) (fun hc => ?_) (fun hc => ?_)
    · have h := pf_ifp hc h
      refine r_iconst R 19 dX2_combines_18 rfl ic_iconst_1 ?_
      refine r_goto R 23 dX2_combines_19 (by decide) ?_
      subst h
      exact r_ireturn R dX2_combines_23 rfl rfl rfl rfl
    · have h := pf_ifn hc h
      refine r_iconst R 23 dX2_combines_22 rfl ic_iconst_0 ?_
      subst h
      exact r_ireturn R dX2_combines_23 rfl rfl rfl rfl
theorem fb_X2_combines (o0 : Nat) (M : pf_M) : fX2_combines o0 M = 0 ∨ fX2_combines o0 M = 1 := by
  unfold fX2_combines
  repeat' split
  all_goals first | exact Or.inl rfl | exact Or.inr rfl
def jX2_readInto_88 (rec15 : Int32 → Int32 → pf_M → Option (Int32 × pf_M)) (w88_3 : Int32) (w88_4 : Int32) (M88 : pf_M) : Option (Int32 × pf_M) :=
  rec15 w88_3 (w88_4 + (1 : Int32)) M88
def jX2_readInto_85 (rec15 : Int32 → Int32 → pf_M → Option (Int32 × pf_M)) (w85_4 : Int32) (s85_0 : Nat) (s85_1 : Int32) (s85_2 : Int32) (M85 : pf_M) : Option (Int32 × pf_M) :=
  (if pf_in s85_1 8 = true then jX2_readInto_88 rec15 (1 : Int32) w85_4 (pf_up M85 28 s85_0 s85_1.toNatClampNeg s85_2)
  else none)
def lX2_readInto_15 (o0 : Nat) (o1 : Nat) (o2 : Nat) : Nat → Int32 → Int32 → pf_M → Option (Int32 × pf_M)
  | 0, _, _, _ => none
  | n + 1, v15_3, v15_4, M15 =>
  (if (M15 25 o0 3) ≤ v15_4 then if pf_b v15_3 = true then some (v15_3, M15) else none
  else (if (fX11_isWithin (fX2_byteOver o0 v15_4 (2 * o2) M15) (0 : Int32) (15 : Int32)) = (0 : Int32) then jX2_readInto_88 (lX2_readInto_15 o0 o1 o2 n) v15_3 v15_4 M15
  else (if (fX2_combines o0 M15) = (0 : Int32) then (if pf_in (fX2_byteOver o0 v15_4 (2 * o2) M15) 16 = true then jX2_readInto_85 (lX2_readInto_15 o0 o1 o2 n) v15_4 o1 v15_4 (M15 12 o2 (fX2_byteOver o0 v15_4 (2 * o2) M15).toNatClampNeg) M15
  else none)
  else (if pf_in v15_4 8 = true then (if pf_in (fX2_byteOver o0 v15_4 (2 * o2) M15) 16 = true then jX2_readInto_85 (lX2_readInto_15 o0 o1 o2 n) v15_4 o1 v15_4 ((M15 28 o1 v15_4.toNatClampNeg) ||| (M15 12 o2 (fX2_byteOver o0 v15_4 (2 * o2) M15).toNatClampNeg)) M15
  else none)
  else none))))
def fX2_readInto (o0 : Nat) (o1 : Nat) (o2 : Nat) (M : pf_M) : Option (Int32 × pf_M) :=
  (if (fX2_mayRead o0 o2 M) = (0 : Int32) then some ((0 : Int32), M)
  else lX2_readInto_15 o0 o1 o2 pf_fu (0 : Int32) (0 : Int32) M)
set_option maxRecDepth 4000 in
theorem c_X2_readInto (G : pf_G) (o0 : Nat) (o1 : Nat) (o2 : Nat) (M : pf_M) (q : Int32 × pf_M) (h : fX2_readInto o0 o1 o2 M = some q) : pf_Met G yX2_readInto cX2_readInto 6 (some .boolean) 2 43 [pf_R 25 o0, pf_R 27 o1, pf_R 11 o2] M (some (pf_I q.1)) q.2 := by
  refine pf_Met.of (by decide +kernel) (Nat.le_of_ble_eq_true rfl) (fun K R => ?_)
  show K 0 [pf_R 25 o0, pf_R 27 o1, pf_R 11 o2, pf_U, pf_U, pf_U] [] M
  have hl15 : ∀ (n : Nat) (v15_3 : Int32) (v15_4 : Int32) (M15 : pf_M), lX2_readInto_15 o0 o1 o2 n v15_3 v15_4 M15 = some q → K 15 [pf_R 25 o0, pf_R 27 o1, pf_R 11 o2, pf_I v15_3, pf_I v15_4, pf_U] [] M15 := by
    intro n
    induction n with
    | zero =>
      intro v15_3 v15_4 M15 h
      rw [lX2_readInto_15] at h
      cases h
    | succ n ih15 =>
        have hj88 : ∀ (w88_3 : Int32) (w88_4 : Int32) (M88 : pf_M), jX2_readInto_88 (lX2_readInto_15 o0 o1 o2 n) w88_3 w88_4 M88 = some q → K 88 [pf_R 25 o0, pf_R 27 o1, pf_R 11 o2, pf_I w88_3, pf_I w88_4, pf_U] [] M88 := by
          intro w88_3 w88_4 M88 h
          unfold jX2_readInto_88 at h
          refine r_iinc R 91 dX2_readInto_88 rfl rfl ic_iconst_1 (show _ = [pf_R 25 o0, pf_R 27 o1, pf_R 11 o2, pf_I w88_3, pf_I (w88_4 + (1 : Int32)), pf_U] from rfl) ?_
          refine r_goto R 15 dX2_readInto_91 (by decide) ?_
          exact ih15 _ _ _ h
        have hj85 : ∀ (w85_4 : Int32) (s85_0 : Nat) (s85_1 : Int32) (s85_2 : Int32) (M85 : pf_M), jX2_readInto_85 (lX2_readInto_15 o0 o1 o2 n) w85_4 s85_0 s85_1 s85_2 M85 = some q → K 85 [pf_R 25 o0, pf_R 27 o1, pf_R 11 o2, pf_U, pf_I w85_4, pf_U] [pf_I s85_2, pf_I s85_1, pf_R 28 s85_0] M85 := by
          intro w85_4 s85_0 s85_1 s85_2 M85 h
          unfold jX2_readInto_85 at h
          obtain ⟨hi3, h⟩ := pf_gd h
          refine r_iastore R 86 dX2_readInto_85 rfl ⟨rfl, rfl⟩ (pf_in_iff.mp hi3) ?_
          refine r_iconst R 87 dX2_readInto_86 rfl ic_iconst_1 ?_
          refine r_istore_n R 88 dX2_readInto_87 rfl rfl (show _ = [pf_R 25 o0, pf_R 27 o1, pf_R 11 o2, pf_I (1 : Int32), pf_I w85_4, pf_U] from rfl) ?_
          exact hj88 _ _ _ h
        intro v15_3 v15_4 M15 h
        rw [lX2_readInto_15] at h
        refine r_iload R 17 dX2_readInto_15 rfl rfl ?_
        refine r_aload_n R 18 dX2_readInto_17 rfl rfl ?_
        refine r_getfield R 21 dX2_readInto_18 rfl fl_X2_47 rfl (show _ = pf_I (M15 25 o0 3) from rfl) ?_
        refine r_icmp_ge R 24 94 dX2_readInto_21 rfl (by decide) (fun hc => ?_) (fun hc => ?_)
        · have h := pf_ifp hc h
          refine r_iload_n R 95 dX2_readInto_94 rfl rfl ?_
          obtain ⟨hb4, h⟩ := pf_gd h
          obtain rfl := Option.some.inj h
          exact r_ireturn R dX2_readInto_95 rfl (pf_bool (pf_b_iff.mp hb4)) rfl rfl
        · have h := pf_ifn hc h
          refine r_aload_n R 25 dX2_readInto_24 rfl rfl ?_
          refine r_iload R 27 dX2_readInto_25 rfl rfl ?_
          refine r_aload_n R 28 dX2_readInto_27 rfl rfl ?_
          refine r_getfield R 31 dX2_readInto_28 rfl fl_X2_87 rfl (show _ = pf_R 13 (2 * o2) from rfl) ?_
          refine r_cvI2 R 34 dX2_readInto_31 rfl lk_X2_91 rfl (c_X2_byteOver G o0 v15_4 (2 * o2) M15 _ rfl) rfl rfl rfl ?_
          refine r_istore R 36 dX2_readInto_34 rfl rfl (show _ = [pf_R 25 o0, pf_R 27 o1, pf_R 11 o2, pf_I v15_3, pf_I v15_4, pf_I (fX2_byteOver o0 v15_4 (2 * o2) M15)] from rfl) ?_
          refine r_iload R 38 dX2_readInto_36 rfl rfl ?_
          refine r_iconst R 39 dX2_readInto_38 rfl ic_iconst_0 ?_
          refine r_bipush R 41 dX2_readInto_39 rfl ic_bipush_15 ?_
          refine r_csI3 R 44 dX2_readInto_41 rfl lk_X2_95 (c_X11_isWithin G (fX2_byteOver o0 v15_4 (2 * o2) M15) (0 : Int32) (15 : Int32) _ rfl) rfl rfl rfl ?_
          refine r_if_eq R 47 88 dX2_readInto_44 rfl (by decide) (fun hc => ?_) (fun hc => ?_)
          · have h := pf_ifp hc h
            refine r_fg R [true, true, true, true, true, false] (show _ = [pf_R 25 o0, pf_R 27 o1, pf_R 11 o2, pf_I v15_3, pf_I v15_4, pf_U] from rfl) ?_
            exact hj88 _ _ _ h
          · have h := pf_ifn hc h
            refine r_aload_n R 48 dX2_readInto_47 rfl rfl ?_
            refine r_getfield R 51 dX2_readInto_48 rfl fl_X2_99 rfl (show _ = pf_R 28 o1 from rfl) ?_
            refine r_iload R 53 dX2_readInto_51 rfl rfl ?_
            refine r_aload_n R 54 dX2_readInto_53 rfl rfl ?_
            refine r_cvI0 R 57 dX2_readInto_54 rfl lk_X2_100 rfl (c_X2_combines G o0 M15 _ rfl) rfl rfl rfl ?_
            refine r_if_eq R 60 78 dX2_readInto_57 rfl (by decide) (fun hc => ?_) (fun hc => ?_)
            · have h := pf_ifp hc h
              refine r_aload_n R 79 dX2_readInto_78 rfl rfl ?_
              refine r_getfield R 82 dX2_readInto_79 rfl fl_X2_104 rfl (show _ = pf_R 12 o2 from rfl) ?_
              refine r_iload R 84 dX2_readInto_82 rfl rfl ?_
              obtain ⟨hi5, h⟩ := pf_gd h
              refine r_iaload R 85 dX2_readInto_84 rfl ⟨rfl, rfl⟩ (pf_in_iff.mp hi5) ?_
              refine r_fg R [true, true, true, false, true, false] (show _ = [pf_R 25 o0, pf_R 27 o1, pf_R 11 o2, pf_U, pf_I v15_4, pf_U] from rfl) ?_
              exact hj85 _ _ _ _ _ h
            · have h := pf_ifn hc h
              refine r_aload_n R 61 dX2_readInto_60 rfl rfl ?_
              refine r_getfield R 64 dX2_readInto_61 rfl fl_X2_99 rfl (show _ = pf_R 28 o1 from rfl) ?_
              refine r_iload R 66 dX2_readInto_64 rfl rfl ?_
              obtain ⟨hi6, h⟩ := pf_gd h
              refine r_iaload R 67 dX2_readInto_66 rfl ⟨rfl, rfl⟩ (pf_in_iff.mp hi6) ?_
              refine r_aload_n R 68 dX2_readInto_67 rfl rfl ?_
              refine r_getfield R 71 dX2_readInto_68 rfl fl_X2_104 rfl (show _ = pf_R 12 o2 from rfl) ?_
              refine r_iload R 73 dX2_readInto_71 rfl rfl ?_
              obtain ⟨hi7, h⟩ := pf_gd h
              refine r_iaload R 74 dX2_readInto_73 rfl ⟨rfl, rfl⟩ (pf_in_iff.mp hi7) ?_
              refine r_ior R 75 dX2_readInto_74 rfl ?_
              refine r_goto R 85 dX2_readInto_75 (by decide) ?_
              refine r_fg R [true, true, true, false, true, false] (show _ = [pf_R 25 o0, pf_R 27 o1, pf_R 11 o2, pf_U, pf_I v15_4, pf_U] from rfl) ?_
              exact hj85 _ _ _ _ _ h
  unfold fX2_readInto at h
  refine r_aload_n R 1 dX2_readInto_0 rfl rfl ?_
  refine r_aload_n R 2 dX2_readInto_1 rfl rfl ?_
  refine r_cvI1 R 5 dX2_readInto_2 rfl lk_X2_83 rfl (c_X2_mayRead G o0 o2 M _ rfl) rfl rfl rfl ?_
  refine r_if_ne R 8 10 dX2_readInto_5 rfl (by decide) (fun hc => ?_) (fun hc => ?_)
  · have h := pf_ifp hc h
    refine r_iconst R 9 dX2_readInto_8 rfl ic_iconst_0 ?_
    obtain rfl := Option.some.inj h
    exact r_ireturn R dX2_readInto_9 rfl rfl rfl rfl
  · have h := pf_ifn hc h
    refine r_iconst R 11 dX2_readInto_10 rfl ic_iconst_0 ?_
    refine r_istore_n R 12 dX2_readInto_11 rfl rfl (show _ = [pf_R 25 o0, pf_R 27 o1, pf_R 11 o2, pf_I (0 : Int32), pf_U, pf_U] from rfl) ?_
    refine r_iconst R 13 dX2_readInto_12 rfl ic_iconst_0 ?_
    refine r_istore R 15 dX2_readInto_13 rfl rfl (show _ = [pf_R 25 o0, pf_R 27 o1, pf_R 11 o2, pf_I (0 : Int32), pf_I (0 : Int32), pf_U] from rfl) ?_
    exact hl15 pf_fu _ _ _ h
def fX2_mayWrite (o0 : Nat) (o1 : Nat) (M : pf_M) : Int32 :=
  (if (fX2_addressing o0 M) = (3 : Int32) then (if (M 11 o1 7) = (3 : Int32) then (1 : Int32)
  else (0 : Int32))
  else (if (M 25 o0 2) < (4 : Int32) then (0 : Int32)
  else (if (16 : Int32) < ((M 25 o0 2) + (M 25 o0 3)) then (0 : Int32)
  else (1 : Int32))))
set_option maxRecDepth 4000 in
theorem c_X2_mayWrite (G : pf_G) (o0 : Nat) (o1 : Nat) (M : pf_M) (q : Int32) (h : fX2_mayWrite o0 o1 M = q) : pf_Met G yX2_mayWrite cX2_mayWrite 2 (some .boolean) 1 20 [pf_R 25 o0, pf_R 11 o1] M (some (pf_I q)) M := by
  refine pf_Met.of (by decide +kernel) (Nat.le_of_ble_eq_true rfl) (fun K R => ?_)
  show K 0 [pf_R 25 o0, pf_R 11 o1] [] M
  unfold fX2_mayWrite at h
  refine r_aload_n R 1 dX2_mayWrite_0 rfl rfl ?_
  refine r_cvI0 R 4 dX2_mayWrite_1 rfl lk_X2_71 rfl (c_X2_addressing G o0 M _ rfl) rfl rfl rfl ?_
  refine r_iconst R 5 dX2_mayWrite_4 rfl ic_iconst_3 ?_
  refine r_icmp_ne R 8 22 dX2_mayWrite_5 rfl (by decide) (fun hc => ?_) (fun hc => ?_)
  · have h := pf_ifp hc h
    refine r_aload_n R 9 dX2_mayWrite_8 rfl rfl ?_
    refine r_getfield R 12 dX2_mayWrite_9 rfl fl_X2_80 rfl (show _ = pf_I (M 11 o1 7) from rfl) ?_
    refine r_iconst R 13 dX2_mayWrite_12 rfl ic_iconst_3 ?_
    refine r_icmp_ne R 16 20 dX2_mayWrite_13 rfl (by decide) (fun hc => ?_) (fun hc => ?_)
    · have h := pf_ifp hc h
      refine r_iconst R 17 dX2_mayWrite_16 rfl ic_iconst_1 ?_
      refine r_goto R 21 dX2_mayWrite_17 (by decide) ?_
      subst h
      exact r_ireturn R dX2_mayWrite_21 rfl rfl rfl rfl
    · have h := pf_ifn hc h
      refine r_iconst R 21 dX2_mayWrite_20 rfl ic_iconst_0 ?_
      subst h
      exact r_ireturn R dX2_mayWrite_21 rfl rfl rfl rfl
  · have h := pf_ifn hc h
    refine r_aload_n R 23 dX2_mayWrite_22 rfl rfl ?_
    refine r_getfield R 26 dX2_mayWrite_23 rfl fl_X2_44 rfl (show _ = pf_I (M 25 o0 2) from rfl) ?_
    refine r_iconst R 27 dX2_mayWrite_26 rfl ic_iconst_4 ?_
    refine r_icmp_lt R 30 48 dX2_mayWrite_27 rfl (by decide) (fun hc => ?_) (fun hc => ?_)
    · have h := pf_ifp hc h
      refine r_iconst R 49 dX2_mayWrite_48 rfl ic_iconst_0 ?_
      subst h
      exact r_ireturn R dX2_mayWrite_49 rfl rfl rfl rfl
    · have h := pf_ifn hc h
      refine r_aload_n R 31 dX2_mayWrite_30 rfl rfl ?_
      refine r_getfield R 34 dX2_mayWrite_31 rfl fl_X2_44 rfl (show _ = pf_I (M 25 o0 2) from rfl) ?_
      refine r_aload_n R 35 dX2_mayWrite_34 rfl rfl ?_
      refine r_getfield R 38 dX2_mayWrite_35 rfl fl_X2_47 rfl (show _ = pf_I (M 25 o0 3) from rfl) ?_
      refine r_iadd R 39 dX2_mayWrite_38 rfl ?_
      refine r_bipush R 41 dX2_mayWrite_39 rfl ic_bipush_16 ?_
      refine r_icmp_gt R 44 48 dX2_mayWrite_41 rfl (by decide) (fun hc => ?_) (fun hc => ?_)
      · have h := pf_ifp hc h
        refine r_iconst R 49 dX2_mayWrite_48 rfl ic_iconst_0 ?_
        subst h
        exact r_ireturn R dX2_mayWrite_49 rfl rfl rfl rfl
      · have h := pf_ifn hc h
        refine r_iconst R 45 dX2_mayWrite_44 rfl ic_iconst_1 ?_
        refine r_goto R 49 dX2_mayWrite_45 (by decide) ?_
        subst h
        exact r_ireturn R dX2_mayWrite_49 rfl rfl rfl rfl
theorem fb_X2_mayWrite (o0 : Nat) (o1 : Nat) (M : pf_M) : fX2_mayWrite o0 o1 M = 0 ∨ fX2_mayWrite o0 o1 M = 1 := by
  unfold fX2_mayWrite
  repeat' split
  all_goals first | exact Or.inl rfl | exact Or.inr rfl
def jX2_writeFrom_63 (rec15 : Int32 → Int32 → pf_M → Option (Int32 × pf_M)) (w63_3 : Int32) (w63_4 : Int32) (M63 : pf_M) : Option (Int32 × pf_M) :=
  rec15 w63_3 (w63_4 + (1 : Int32)) M63
def lX2_writeFrom_15 (o0 : Nat) (o1 : Nat) (o2 : Nat) : Nat → Int32 → Int32 → pf_M → Option (Int32 × pf_M)
  | 0, _, _, _ => none
  | n + 1, v15_3, v15_4, M15 =>
  (if (M15 25 o0 3) ≤ v15_4 then if pf_b v15_3 = true then some (v15_3, M15) else none
  else (if (fX11_isWithin (fX2_byteOver o0 v15_4 (2 * o2 + 1) M15) (4 : Int32) (15 : Int32)) = (0 : Int32) then jX2_writeFrom_63 (lX2_writeFrom_15 o0 o1 o2 n) v15_3 v15_4 M15
  else (if pf_in v15_4 8 = true then (if pf_in (fX2_byteOver o0 v15_4 (2 * o2 + 1) M15) 16 = true then jX2_writeFrom_63 (lX2_writeFrom_15 o0 o1 o2 n) (1 : Int32) v15_4 (pf_up M15 12 o2 (fX2_byteOver o0 v15_4 (2 * o2 + 1) M15).toNatClampNeg (M15 29 o1 v15_4.toNatClampNeg))
  else none)
  else none)))
def fX2_writeFrom (o0 : Nat) (o1 : Nat) (o2 : Nat) (M : pf_M) : Option (Int32 × pf_M) :=
  (if (fX2_mayWrite o0 o2 M) = (0 : Int32) then some ((0 : Int32), M)
  else lX2_writeFrom_15 o0 o1 o2 pf_fu (0 : Int32) (0 : Int32) M)
set_option maxRecDepth 4000 in
theorem c_X2_writeFrom (G : pf_G) (o0 : Nat) (o1 : Nat) (o2 : Nat) (M : pf_M) (q : Int32 × pf_M) (h : fX2_writeFrom o0 o1 o2 M = some q) : pf_Met G yX2_writeFrom cX2_writeFrom 6 (some .boolean) 2 43 [pf_R 25 o0, pf_R 27 o1, pf_R 11 o2] M (some (pf_I q.1)) q.2 := by
  refine pf_Met.of (by decide +kernel) (Nat.le_of_ble_eq_true rfl) (fun K R => ?_)
  show K 0 [pf_R 25 o0, pf_R 27 o1, pf_R 11 o2, pf_U, pf_U, pf_U] [] M
  have hl15 : ∀ (n : Nat) (v15_3 : Int32) (v15_4 : Int32) (M15 : pf_M), lX2_writeFrom_15 o0 o1 o2 n v15_3 v15_4 M15 = some q → K 15 [pf_R 25 o0, pf_R 27 o1, pf_R 11 o2, pf_I v15_3, pf_I v15_4, pf_U] [] M15 := by
    intro n
    induction n with
    | zero =>
      intro v15_3 v15_4 M15 h
      rw [lX2_writeFrom_15] at h
      cases h
    | succ n ih15 =>
        have hj63 : ∀ (w63_3 : Int32) (w63_4 : Int32) (M63 : pf_M), jX2_writeFrom_63 (lX2_writeFrom_15 o0 o1 o2 n) w63_3 w63_4 M63 = some q → K 63 [pf_R 25 o0, pf_R 27 o1, pf_R 11 o2, pf_I w63_3, pf_I w63_4, pf_U] [] M63 := by
          intro w63_3 w63_4 M63 h
          unfold jX2_writeFrom_63 at h
          refine r_iinc R 66 dX2_writeFrom_63 rfl rfl ic_iconst_1 (show _ = [pf_R 25 o0, pf_R 27 o1, pf_R 11 o2, pf_I w63_3, pf_I (w63_4 + (1 : Int32)), pf_U] from rfl) ?_
          refine r_goto R 15 dX2_writeFrom_66 (by decide) ?_
          exact ih15 _ _ _ h
        intro v15_3 v15_4 M15 h
        rw [lX2_writeFrom_15] at h
        refine r_iload R 17 dX2_writeFrom_15 rfl rfl ?_
        refine r_aload_n R 18 dX2_writeFrom_17 rfl rfl ?_
        refine r_getfield R 21 dX2_writeFrom_18 rfl fl_X2_47 rfl (show _ = pf_I (M15 25 o0 3) from rfl) ?_
        refine r_icmp_ge R 24 69 dX2_writeFrom_21 rfl (by decide) (fun hc => ?_) (fun hc => ?_)
        · have h := pf_ifp hc h
          refine r_iload_n R 70 dX2_writeFrom_69 rfl rfl ?_
          obtain ⟨hb2, h⟩ := pf_gd h
          obtain rfl := Option.some.inj h
          exact r_ireturn R dX2_writeFrom_70 rfl (pf_bool (pf_b_iff.mp hb2)) rfl rfl
        · have h := pf_ifn hc h
          refine r_aload_n R 25 dX2_writeFrom_24 rfl rfl ?_
          refine r_iload R 27 dX2_writeFrom_25 rfl rfl ?_
          refine r_aload_n R 28 dX2_writeFrom_27 rfl rfl ?_
          refine r_getfield R 31 dX2_writeFrom_28 rfl fl_X2_108 rfl (show _ = pf_R 13 (2 * o2 + 1) from rfl) ?_
          refine r_cvI2 R 34 dX2_writeFrom_31 rfl lk_X2_91 rfl (c_X2_byteOver G o0 v15_4 (2 * o2 + 1) M15 _ rfl) rfl rfl rfl ?_
          refine r_istore R 36 dX2_writeFrom_34 rfl rfl (show _ = [pf_R 25 o0, pf_R 27 o1, pf_R 11 o2, pf_I v15_3, pf_I v15_4, pf_I (fX2_byteOver o0 v15_4 (2 * o2 + 1) M15)] from rfl) ?_
          refine r_iload R 38 dX2_writeFrom_36 rfl rfl ?_
          refine r_iconst R 39 dX2_writeFrom_38 rfl ic_iconst_4 ?_
          refine r_bipush R 41 dX2_writeFrom_39 rfl ic_bipush_15 ?_
          refine r_csI3 R 44 dX2_writeFrom_41 rfl lk_X2_95 (c_X11_isWithin G (fX2_byteOver o0 v15_4 (2 * o2 + 1) M15) (4 : Int32) (15 : Int32) _ rfl) rfl rfl rfl ?_
          refine r_if_eq R 47 63 dX2_writeFrom_44 rfl (by decide) (fun hc => ?_) (fun hc => ?_)
          · have h := pf_ifp hc h
            refine r_fg R [true, true, true, true, true, false] (show _ = [pf_R 25 o0, pf_R 27 o1, pf_R 11 o2, pf_I v15_3, pf_I v15_4, pf_U] from rfl) ?_
            exact hj63 _ _ _ h
          · have h := pf_ifn hc h
            refine r_aload_n R 48 dX2_writeFrom_47 rfl rfl ?_
            refine r_getfield R 51 dX2_writeFrom_48 rfl fl_X2_104 rfl (show _ = pf_R 12 o2 from rfl) ?_
            refine r_iload R 53 dX2_writeFrom_51 rfl rfl ?_
            refine r_aload_n R 54 dX2_writeFrom_53 rfl rfl ?_
            refine r_getfield R 57 dX2_writeFrom_54 rfl fl_X2_111 rfl (show _ = pf_R 29 o1 from rfl) ?_
            refine r_iload R 59 dX2_writeFrom_57 rfl rfl ?_
            obtain ⟨hi3, h⟩ := pf_gd h
            refine r_iaload R 60 dX2_writeFrom_59 rfl ⟨rfl, rfl⟩ (pf_in_iff.mp hi3) ?_
            obtain ⟨hi4, h⟩ := pf_gd h
            refine r_iastore R 61 dX2_writeFrom_60 rfl ⟨rfl, rfl⟩ (pf_in_iff.mp hi4) ?_
            refine r_iconst R 62 dX2_writeFrom_61 rfl ic_iconst_1 ?_
            refine r_istore_n R 63 dX2_writeFrom_62 rfl rfl (show _ = [pf_R 25 o0, pf_R 27 o1, pf_R 11 o2, pf_I (1 : Int32), pf_I v15_4, pf_I (fX2_byteOver o0 v15_4 (2 * o2 + 1) M15)] from rfl) ?_
            refine r_fg R [true, true, true, true, true, false] (show _ = [pf_R 25 o0, pf_R 27 o1, pf_R 11 o2, pf_I (1 : Int32), pf_I v15_4, pf_U] from rfl) ?_
            exact hj63 _ _ _ h
  unfold fX2_writeFrom at h
  refine r_aload_n R 1 dX2_writeFrom_0 rfl rfl ?_
  refine r_aload_n R 2 dX2_writeFrom_1 rfl rfl ?_
  refine r_cvI1 R 5 dX2_writeFrom_2 rfl lk_X2_105 rfl (c_X2_mayWrite G o0 o2 M _ rfl) rfl rfl rfl ?_
  refine r_if_ne R 8 10 dX2_writeFrom_5 rfl (by decide) (fun hc => ?_) (fun hc => ?_)
  · have h := pf_ifp hc h
    refine r_iconst R 9 dX2_writeFrom_8 rfl ic_iconst_0 ?_
    obtain rfl := Option.some.inj h
    exact r_ireturn R dX2_writeFrom_9 rfl rfl rfl rfl
  · have h := pf_ifn hc h
    refine r_iconst R 11 dX2_writeFrom_10 rfl ic_iconst_0 ?_
    refine r_istore_n R 12 dX2_writeFrom_11 rfl rfl (show _ = [pf_R 25 o0, pf_R 27 o1, pf_R 11 o2, pf_I (0 : Int32), pf_U, pf_U] from rfl) ?_
    refine r_iconst R 13 dX2_writeFrom_12 rfl ic_iconst_0 ?_
    refine r_istore R 15 dX2_writeFrom_13 rfl rfl (show _ = [pf_R 25 o0, pf_R 27 o1, pf_R 11 o2, pf_I (0 : Int32), pf_I (0 : Int32), pf_U] from rfl) ?_
    exact hl15 pf_fu _ _ _ h
def jX2_edit_109 (s109_0 : Nat) (s109_1 : Int32) (s109_2 : Int32) (M109 : pf_M) : Option (pf_M) :=
  some (pf_up M109 27 s109_0 2 (s109_1 + s109_2))
def jX2_edit_80 (o0 : Nat) (o1 : Nat) (o2 : Nat) (w80_5 : Int32) (w80_6 : Int32) (M80 : pf_M) : Option (pf_M) :=
  (if w80_6 = (0 : Int32) then some M80
  else ((fX2_writeFrom o0 o1 o2 M80).bind fun q3 => (if q3.1 = (0 : Int32) then some q3.2
  else (if w80_5 = (0 : Int32) then jX2_edit_109 o1 (q3.2 27 o1 2) (1 : Int32) q3.2
  else jX2_edit_109 o1 (q3.2 27 o1 2) (2 : Int32) q3.2))))
def jX2_edit_50 (o0 : Nat) (o1 : Nat) (o2 : Nat) (w50_5 : Int32) (s50_0 : Int32) (M50 : pf_M) : Option (pf_M) :=
  (if w50_5 = (0 : Int32) then jX2_edit_80 o0 o1 o2 w50_5 s50_0 (fX0_arrive o1 M50)
  else ((fX2_readInto o0 o1 o2 (fX0_arrive o1 M50)).bind fun q4 => (if q4.1 = (0 : Int32) then jX2_edit_80 o0 o1 o2 w50_5 s50_0 q4.2
  else jX2_edit_80 o0 o1 o2 w50_5 s50_0 (pf_up q4.2 27 o1 2 ((q4.2 27 o1 2) + (1 : Int32))))))
def jX2_edit_38 (o0 : Nat) (o1 : Nat) (o2 : Nat) (w38_4 : Int32) (s38_0 : Int32) (M38 : pf_M) : Option (pf_M) :=
  (if w38_4 = (0 : Int32) then jX2_edit_50 o0 o1 o2 s38_0 (0 : Int32) M38
  else jX2_edit_50 o0 o1 o2 s38_0 (1 : Int32) M38)
def fX2_edit (o0 : Nat) (o1 : Nat) (o2 : Nat) (x3 : Int32) (M : pf_M) : Option (pf_M) :=
  (if (M 25 o0 0) = (0 : Int32) then some M
  else (if (fX2_means o0 o2 x3 M) = (0 : Int32) then some M
  else (if (((M 25 o0 0) - (1 : Int32)) - ((M 25 o0 0) - (1 : Int32)) / (3 : Int32) * (3 : Int32)) = (1 : Int32) then jX2_edit_38 o0 o1 o2 (((M 25 o0 0) - (1 : Int32)) - ((M 25 o0 0) - (1 : Int32)) / (3 : Int32) * (3 : Int32)) (0 : Int32) M
  else jX2_edit_38 o0 o1 o2 (((M 25 o0 0) - (1 : Int32)) - ((M 25 o0 0) - (1 : Int32)) / (3 : Int32) * (3 : Int32)) (1 : Int32) M)))
set_option maxRecDepth 4000 in
theorem c_X2_edit (G : pf_G) (o0 : Nat) (o1 : Nat) (o2 : Nat) (x3 : Int32) (M : pf_M) (q : pf_M) (h : fX2_edit o0 o1 o2 x3 M = some q) : pf_Met G yX2_edit cX2_edit 7 (none) 3 68 [pf_R 25 o0, pf_R 27 o1, pf_R 11 o2, pf_I x3] M none q := by
  refine pf_Met.of (by decide +kernel) (Nat.le_of_ble_eq_true rfl) (fun K R => ?_)
  show K 0 [pf_R 25 o0, pf_R 27 o1, pf_R 11 o2, pf_I x3, pf_U, pf_U, pf_U] [] M
  have hj109 : ∀ (s109_0 : Nat) (s109_1 : Int32) (s109_2 : Int32) (M109 : pf_M), jX2_edit_109 s109_0 s109_1 s109_2 M109 = some q → K 109 [pf_U, pf_U, pf_U, pf_U, pf_U, pf_U, pf_U] [pf_I s109_2, pf_I s109_1, pf_R 27 s109_0] M109 := by
    intro s109_0 s109_1 s109_2 M109 h
    unfold jX2_edit_109 at h
    refine r_iadd R 110 dX2_edit_109 rfl ?_
    refine r_putfield R 113 dX2_edit_110 rfl fl_X2_65 rfl rfl rfl rfl ?_
    obtain rfl := Option.some.inj h
    exact r_return_ R dX2_edit_113 rfl rfl rfl
  have hj80 : ∀ (w80_5 : Int32) (w80_6 : Int32) (M80 : pf_M), jX2_edit_80 o0 o1 o2 w80_5 w80_6 M80 = some q → K 80 [pf_R 25 o0, pf_R 27 o1, pf_R 11 o2, pf_U, pf_U, pf_I w80_5, pf_I w80_6] [] M80 := by
    intro w80_5 w80_6 M80 h
    unfold jX2_edit_80 at h
    refine r_iload R 82 dX2_edit_80 rfl rfl ?_
    refine r_if_eq R 85 113 dX2_edit_82 rfl (by decide) (fun hc => ?_) (fun hc => ?_)
    · have h := pf_ifp hc h
      obtain rfl := Option.some.inj h
      exact r_return_ R dX2_edit_113 rfl rfl rfl
    · have h := pf_ifn hc h
      refine r_aload_n R 86 dX2_edit_85 rfl rfl ?_
      refine r_aload_n R 87 dX2_edit_86 rfl rfl ?_
      refine r_aload_n R 88 dX2_edit_87 rfl rfl ?_
      obtain ⟨q3, hq3, h⟩ := pf_bd h
      refine r_cvI2 R 91 dX2_edit_88 rfl lk_X2_68 rfl (c_X2_writeFrom G o0 o1 o2 M80 _ hq3) rfl rfl rfl ?_
      refine r_if_eq R 94 113 dX2_edit_91 rfl (by decide) (fun hc => ?_) (fun hc => ?_)
      · have h := pf_ifp hc h
        obtain rfl := Option.some.inj h
        exact r_return_ R dX2_edit_113 rfl rfl rfl
      · have h := pf_ifn hc h
        refine r_aload_n R 95 dX2_edit_94 rfl rfl ?_
        refine r_dup R 96 dX2_edit_95 rfl rfl ?_
        refine r_getfield R 99 dX2_edit_96 rfl fl_X2_65 rfl (show _ = pf_I (q3.2 27 o1 2) from rfl) ?_
        refine r_iload R 101 dX2_edit_99 rfl rfl ?_
        refine r_if_eq R 104 108 dX2_edit_101 rfl (by decide) (fun hc => ?_) (fun hc => ?_)
        · have h := pf_ifp hc h
          refine r_iconst R 109 dX2_edit_108 rfl ic_iconst_1 ?_
          refine r_fg R [false, false, false, true, true, false, false] (show _ = [pf_U, pf_U, pf_U, pf_U, pf_U, pf_U, pf_U] from rfl) ?_
          exact hj109 _ _ _ _ h
        · have h := pf_ifn hc h
          refine r_iconst R 105 dX2_edit_104 rfl ic_iconst_2 ?_
          refine r_goto R 109 dX2_edit_105 (by decide) ?_
          refine r_fg R [false, false, false, true, true, false, false] (show _ = [pf_U, pf_U, pf_U, pf_U, pf_U, pf_U, pf_U] from rfl) ?_
          exact hj109 _ _ _ _ h
  have hj50 : ∀ (w50_5 : Int32) (s50_0 : Int32) (M50 : pf_M), jX2_edit_50 o0 o1 o2 w50_5 s50_0 M50 = some q → K 50 [pf_R 25 o0, pf_R 27 o1, pf_R 11 o2, pf_U, pf_U, pf_I w50_5, pf_U] [pf_I s50_0] M50 := by
    intro w50_5 s50_0 M50 h
    unfold jX2_edit_50 at h
    refine r_istore R 52 dX2_edit_50 rfl rfl (show _ = [pf_R 25 o0, pf_R 27 o1, pf_R 11 o2, pf_U, pf_U, pf_I w50_5, pf_I s50_0] from rfl) ?_
    refine r_aload_n R 53 dX2_edit_52 rfl rfl ?_
    refine r_cvV0 R 56 dX2_edit_53 rfl lk_X2_58 rfl (c_X0_arrive G o1 M50 _ rfl) rfl rfl rfl ?_
    refine r_iload R 58 dX2_edit_56 rfl rfl ?_
    refine r_if_eq R 61 80 dX2_edit_58 rfl (by decide) (fun hc => ?_) (fun hc => ?_)
    · have h := pf_ifp hc h
      exact hj80 _ _ _ h
    · have h := pf_ifn hc h
      refine r_aload_n R 62 dX2_edit_61 rfl rfl ?_
      refine r_aload_n R 63 dX2_edit_62 rfl rfl ?_
      refine r_aload_n R 64 dX2_edit_63 rfl rfl ?_
      obtain ⟨q4, hq4, h⟩ := pf_bd h
      refine r_cvI2 R 67 dX2_edit_64 rfl lk_X2_61 rfl (c_X2_readInto G o0 o1 o2 (fX0_arrive o1 M50) _ hq4) rfl rfl rfl ?_
      refine r_if_eq R 70 80 dX2_edit_67 rfl (by decide) (fun hc => ?_) (fun hc => ?_)
      · have h := pf_ifp hc h
        exact hj80 _ _ _ h
      · have h := pf_ifn hc h
        refine r_aload_n R 71 dX2_edit_70 rfl rfl ?_
        refine r_dup R 72 dX2_edit_71 rfl rfl ?_
        refine r_getfield R 75 dX2_edit_72 rfl fl_X2_65 rfl (show _ = pf_I (q4.2 27 o1 2) from rfl) ?_
        refine r_iconst R 76 dX2_edit_75 rfl ic_iconst_1 ?_
        refine r_iadd R 77 dX2_edit_76 rfl ?_
        refine r_putfield R 80 dX2_edit_77 rfl fl_X2_65 rfl rfl rfl rfl ?_
        exact hj80 _ _ _ h
  have hj38 : ∀ (w38_4 : Int32) (s38_0 : Int32) (M38 : pf_M), jX2_edit_38 o0 o1 o2 w38_4 s38_0 M38 = some q → K 38 [pf_R 25 o0, pf_R 27 o1, pf_R 11 o2, pf_U, pf_I w38_4, pf_U, pf_U] [pf_I s38_0] M38 := by
    intro w38_4 s38_0 M38 h
    unfold jX2_edit_38 at h
    refine r_istore R 40 dX2_edit_38 rfl rfl (show _ = [pf_R 25 o0, pf_R 27 o1, pf_R 11 o2, pf_U, pf_I w38_4, pf_I s38_0, pf_U] from rfl) ?_
    refine r_iload R 42 dX2_edit_40 rfl rfl ?_
    refine r_if_eq R 45 49 dX2_edit_42 rfl (by decide) (fun hc => ?_) (fun hc => ?_)
    · have h := pf_ifp hc h
      refine r_iconst R 50 dX2_edit_49 rfl ic_iconst_0 ?_
      refine r_fg R [true, true, true, true, false, true, true] (show _ = [pf_R 25 o0, pf_R 27 o1, pf_R 11 o2, pf_U, pf_U, pf_I s38_0, pf_U] from rfl) ?_
      exact hj50 _ _ _ h
    · have h := pf_ifn hc h
      refine r_iconst R 46 dX2_edit_45 rfl ic_iconst_1 ?_
      refine r_goto R 50 dX2_edit_46 (by decide) ?_
      refine r_fg R [true, true, true, true, false, true, true] (show _ = [pf_R 25 o0, pf_R 27 o1, pf_R 11 o2, pf_U, pf_U, pf_I s38_0, pf_U] from rfl) ?_
      exact hj50 _ _ _ h
  unfold fX2_edit at h
  refine r_aload_n R 1 dX2_edit_0 rfl rfl ?_
  refine r_getfield R 4 dX2_edit_1 rfl fl_X2_28 rfl (show _ = pf_I (M 25 o0 0) from rfl) ?_
  refine r_if_eq R 7 16 dX2_edit_4 rfl (by decide) (fun hc => ?_) (fun hc => ?_)
  · have h := pf_ifp hc h
    obtain rfl := Option.some.inj h
    exact r_return_ R dX2_edit_16 rfl rfl rfl
  · have h := pf_ifn hc h
    refine r_aload_n R 8 dX2_edit_7 rfl rfl ?_
    refine r_aload_n R 9 dX2_edit_8 rfl rfl ?_
    refine r_iload_n R 10 dX2_edit_9 rfl rfl ?_
    refine r_cvI2 R 13 dX2_edit_10 rfl lk_X2_54 rfl (c_X2_means G o0 o2 x3 M _ rfl) rfl rfl rfl ?_
    refine r_if_ne R 16 17 dX2_edit_13 rfl (by decide) (fun hc => ?_) (fun hc => ?_)
    · have h := pf_ifp hc h
      obtain rfl := Option.some.inj h
      exact r_return_ R dX2_edit_16 rfl rfl rfl
    · have h := pf_ifn hc h
      refine r_aload_n R 18 dX2_edit_17 rfl rfl ?_
      refine r_getfield R 21 dX2_edit_18 rfl fl_X2_28 rfl (show _ = pf_I (M 25 o0 0) from rfl) ?_
      refine r_iconst R 22 dX2_edit_21 rfl ic_iconst_1 ?_
      refine r_isub R 23 dX2_edit_22 rfl ?_
      refine r_iconst R 24 dX2_edit_23 rfl ic_iconst_3 ?_
      refine r_irem R 25 dX2_edit_24 rfl (by decide) ?_
      refine r_istore R 27 dX2_edit_25 rfl rfl (show _ = [pf_R 25 o0, pf_R 27 o1, pf_R 11 o2, pf_I x3, pf_I (((M 25 o0 0) - (1 : Int32)) - ((M 25 o0 0) - (1 : Int32)) / (3 : Int32) * (3 : Int32)), pf_U, pf_U] from rfl) ?_
      refine r_iload R 29 dX2_edit_27 rfl rfl ?_
      refine r_iconst R 30 dX2_edit_29 rfl ic_iconst_1 ?_
      refine r_icmp_eq R 33 37 dX2_edit_30 rfl (by decide) (fun hc => ?_) (fun hc => ?_)
      · have h := pf_ifp hc h
        refine r_iconst R 38 dX2_edit_37 rfl ic_iconst_0 ?_
        refine r_fg R [true, true, true, false, true, true, true] (show _ = [pf_R 25 o0, pf_R 27 o1, pf_R 11 o2, pf_U, pf_I (((M 25 o0 0) - (1 : Int32)) - ((M 25 o0 0) - (1 : Int32)) / (3 : Int32) * (3 : Int32)), pf_U, pf_U] from rfl) ?_
        exact hj38 _ _ _ h
      · have h := pf_ifn hc h
        refine r_iconst R 34 dX2_edit_33 rfl ic_iconst_1 ?_
        refine r_goto R 38 dX2_edit_34 (by decide) ?_
        refine r_fg R [true, true, true, false, true, true, true] (show _ = [pf_R 25 o0, pf_R 27 o1, pf_R 11 o2, pf_U, pf_I (((M 25 o0 0) - (1 : Int32)) - ((M 25 o0 0) - (1 : Int32)) / (3 : Int32) * (3 : Int32)), pf_U, pf_U] from rfl) ?_
        exact hj38 _ _ _ h
def lX6_passA_40 (f40_2 : Int32) (f40_3 : Nat) (kx40 : pf_M → Option (pf_M)) : Nat → Int32 → pf_M → Option (pf_M)
  | 0, _, _ => none
  | n + 1, v40_4, M40 =>
  (if (4 : Int32) ≤ v40_4 then kx40 M40
  else (if pf_in v40_4 4 = true then (if pf_in v40_4 4 = true then ((fX2_edit v40_4.toNatClampNeg (2 * v40_4.toNatClampNeg) f40_3 f40_2 M40).bind fun q7 => (lX6_passA_40 f40_2 f40_3 kx40 n) (v40_4 + (1 : Int32)) q7)
  else none)
  else none))
def lX6_passA_10 (f10_1 : Int32) : Nat → Int32 → pf_M → Option (pf_M)
  | 0, _, _ => none
  | n + 1, v10_2, M10 =>
  (if f10_1 ≤ v10_2 then some M10
  else (if pf_in v10_2 8 = true then ((fX9_timeOnA v10_2 M10).bind fun r9 => ((fX3_showAt v10_2.toNatClampNeg r9 M10).bind fun q10 => lX6_passA_40 v10_2 v10_2.toNatClampNeg (fun u11_Me40 => (lX6_passA_10 f10_1 n) (v10_2 + (1 : Int32)) u11_Me40) pf_fu (0 : Int32) q10))
  else none))
def fX6_passA (M : pf_M) : Option (pf_M) :=
  ((fX9_sizeOfA M).bind fun r12 => lX6_passA_10 r12 pf_fu (0 : Int32) M)
set_option maxRecDepth 4000 in
theorem c_X6_passA (G : pf_G) (M : pf_M) (q : pf_M) (h : fX6_passA M = some q) : pf_Met G yX6_passA cX6_passA 5 (none) 4 94 [pf_R 20 0] M none q := by
  refine pf_Met.of (by decide +kernel) (Nat.le_of_ble_eq_true rfl) (fun K R => ?_)
  show K 0 [pf_R 20 0, pf_U, pf_U, pf_U, pf_U] [] M
  have hl10 : ∀ (f10_1 : Int32), ∀ (n : Nat) (v10_2 : Int32) (M10 : pf_M), lX6_passA_10 f10_1 n v10_2 M10 = some q → K 10 [pf_R 20 0, pf_I f10_1, pf_I v10_2, pf_U, pf_U] [] M10 := by
    intro f10_1 n
    induction n with
    | zero =>
      intro v10_2 M10 h
      rw [lX6_passA_10] at h
      cases h
    | succ n ih10 =>
        have hl40 : ∀ (f40_2 : Int32) (f40_3 : Nat), ∀ (kx40 : pf_M → Option (pf_M)), (∀ (Me40 : pf_M), kx40 Me40 = some q → K 74 [pf_R 20 0, pf_I f10_1, pf_I f40_2, pf_U, pf_U] [] Me40) → ∀ (n : Nat) (v40_4 : Int32) (M40 : pf_M), lX6_passA_40 f40_2 f40_3 kx40 n v40_4 M40 = some q → K 40 [pf_R 20 0, pf_I f10_1, pf_I f40_2, pf_R 11 f40_3, pf_I v40_4] [] M40 := by
          intro f40_2 f40_3 kx40 hkx40 n
          induction n with
          | zero =>
            intro v40_4 M40 h
            rw [lX6_passA_40] at h
            cases h
          | succ n ih40 =>
              intro v40_4 M40 h
              rw [lX6_passA_40] at h
              refine r_iload R 42 dX6_passA_40 rfl rfl ?_
              refine r_iconst R 43 dX6_passA_42 rfl ic_iconst_4 ?_
              refine r_icmp_ge R 46 74 dX6_passA_43 rfl (by decide) (fun hc => ?_) (fun hc => ?_)
              · have h := pf_ifp hc h
                refine r_fg R [true, true, true, false, false] (show _ = [pf_R 20 0, pf_I f10_1, pf_I f40_2, pf_U, pf_U] from rfl) ?_
                exact hkx40 _ h
              · have h := pf_ifn hc h
                refine r_aload_n R 47 dX6_passA_46 rfl rfl ?_
                refine r_getfield R 50 dX6_passA_47 rfl fl_X6_11 rfl (show _ = pf_R 21 0 from rfl) ?_
                refine r_iload R 52 dX6_passA_50 rfl rfl ?_
                obtain ⟨hi5, h⟩ := pf_gd h
                refine r_aaload R 53 dX6_passA_52 rfl rfl rfl rfl (pf_in_iff.mp hi5) ?_
                refine r_aload_n R 54 dX6_passA_53 rfl rfl ?_
                refine r_getfield R 57 dX6_passA_54 rfl fl_X6_11 rfl (show _ = pf_R 21 0 from rfl) ?_
                refine r_iload R 59 dX6_passA_57 rfl rfl ?_
                obtain ⟨hi6, h⟩ := pf_gd h
                refine r_aaload R 60 dX6_passA_59 rfl rfl rfl rfl (pf_in_iff.mp hi6) ?_
                refine r_getfield R 63 dX6_passA_60 rfl fl_X6_96 rfl (show _ = pf_R 27 (2 * v40_4.toNatClampNeg) from rfl) ?_
                refine r_aload_n R 64 dX6_passA_63 rfl rfl ?_
                refine r_iload_n R 65 dX6_passA_64 rfl rfl ?_
                obtain ⟨q7, hq7, h⟩ := pf_bd h
                refine r_cvV3 R 68 dX6_passA_65 rfl lk_X6_100 rfl (c_X2_edit G v40_4.toNatClampNeg (2 * v40_4.toNatClampNeg) f40_3 f40_2 M40 _ hq7) rfl rfl rfl ?_
                refine r_iinc R 71 dX6_passA_68 rfl rfl ic_iconst_1 (show _ = [pf_R 20 0, pf_I f10_1, pf_I f40_2, pf_R 11 f40_3, pf_I (v40_4 + (1 : Int32))] from rfl) ?_
                refine r_goto R 40 dX6_passA_71 (by decide) ?_
                exact ih40 _ _ h
        intro v10_2 M10 h
        rw [lX6_passA_10] at h
        refine r_iload_n R 11 dX6_passA_10 rfl rfl ?_
        refine r_iload_n R 12 dX6_passA_11 rfl rfl ?_
        refine r_icmp_ge R 15 80 dX6_passA_12 rfl (by decide) (fun hc => ?_) (fun hc => ?_)
        · have h := pf_ifp hc h
          obtain rfl := Option.some.inj h
          exact r_return_ R dX6_passA_80 rfl rfl rfl
        · have h := pf_ifn hc h
          refine r_aload_n R 16 dX6_passA_15 rfl rfl ?_
          refine r_getfield R 19 dX6_passA_16 rfl fl_X6_24 rfl (show _ = pf_R 7 0 from rfl) ?_
          refine r_getfield R 22 dX6_passA_19 rfl fl_X6_84 rfl (show _ = pf_R 8 0 from rfl) ?_
          refine r_iload_n R 23 dX6_passA_22 rfl rfl ?_
          obtain ⟨hi8, h⟩ := pf_gd h
          refine r_aaload R 24 dX6_passA_23 rfl rfl rfl rfl (pf_in_iff.mp hi8) ?_
          refine r_astore_n R 25 dX6_passA_24 rfl rfl (show _ = [pf_R 20 0, pf_I f10_1, pf_I v10_2, pf_R 11 v10_2.toNatClampNeg, pf_U] from rfl) ?_
          refine r_aload_n R 26 dX6_passA_25 rfl rfl ?_
          refine r_aload_n R 27 dX6_passA_26 rfl rfl ?_
          refine r_getfield R 30 dX6_passA_27 rfl fl_X6_24 rfl (show _ = pf_R 7 0 from rfl) ?_
          refine r_iload_n R 31 dX6_passA_30 rfl rfl ?_
          obtain ⟨r9, hr9, h⟩ := pf_bd h
          refine r_cvI1 R 34 dX6_passA_31 rfl lk_X6_88 rfl (c_X9_timeOnA G v10_2 M10 _ hr9) rfl rfl rfl ?_
          obtain ⟨q10, hq10, h⟩ := pf_bd h
          refine r_cvV1 R 37 dX6_passA_34 rfl lk_X6_91 rfl (c_X3_showAt G v10_2.toNatClampNeg r9 M10 _ hq10) rfl rfl rfl ?_
          refine r_iconst R 38 dX6_passA_37 rfl ic_iconst_0 ?_
          refine r_istore R 40 dX6_passA_38 rfl rfl (show _ = [pf_R 20 0, pf_I f10_1, pf_I v10_2, pf_R 11 v10_2.toNatClampNeg, pf_I (0 : Int32)] from rfl) ?_
          refine hl40 _ _ _ (fun u11_Me40 h => ?_) pf_fu _ _ h
          refine r_iinc R 77 dX6_passA_74 rfl rfl ic_iconst_1 (show _ = [pf_R 20 0, pf_I f10_1, pf_I (v10_2 + (1 : Int32)), pf_U, pf_U] from rfl) ?_
          refine r_goto R 10 dX6_passA_77 (by decide) ?_
          exact ih10 _ _ h
  unfold fX6_passA at h
  refine r_aload_n R 1 dX6_passA_0 rfl rfl ?_
  refine r_getfield R 4 dX6_passA_1 rfl fl_X6_24 rfl (show _ = pf_R 7 0 from rfl) ?_
  obtain ⟨r12, hr12, h⟩ := pf_bd h
  refine r_cvI0 R 7 dX6_passA_4 rfl lk_X6_81 rfl (c_X9_sizeOfA G M _ hr12) rfl rfl rfl ?_
  refine r_istore_n R 8 dX6_passA_7 rfl rfl (show _ = [pf_R 20 0, pf_I r12, pf_U, pf_U, pf_U] from rfl) ?_
  refine r_iconst R 9 dX6_passA_8 rfl ic_iconst_0 ?_
  refine r_istore_n R 10 dX6_passA_9 rfl rfl (show _ = [pf_R 20 0, pf_I r12, pf_I (0 : Int32), pf_U, pf_U] from rfl) ?_
  exact hl10 _ pf_fu _ _ h
def fX9_timeOnB (x1 : Int32) (M : pf_M) : Option (Int32) :=
  ((fX9_firstOfB M).bind fun r4 => ((fX9_wireTimes (r4 + (1 : Int32)) (M 7 0 3) M).bind fun r5 => ((fX9_wireTimes (r4 + (1 : Int32)) x1 M).bind fun r6 => some (((((M 7 0 6) + r5) + ((M 7 0 5) * (((M 7 0 3) - r4) - (1 : Int32)))) + r6) + ((M 7 0 4) * (x1 - r4))))))
set_option maxRecDepth 4000 in
theorem c_X9_timeOnB (G : pf_G) (x1 : Int32) (M : pf_M) (q : Int32) (h : fX9_timeOnB x1 M = some q) : pf_Met G yX9_timeOnB cX9_timeOnB 4 (some .int) 2 45 [pf_R 7 0, pf_I x1] M (some (pf_I q)) M := by
  refine pf_Met.of (by decide +kernel) (Nat.le_of_ble_eq_true rfl) (fun K R => ?_)
  show K 0 [pf_R 7 0, pf_I x1, pf_U, pf_U] [] M
  unfold fX9_timeOnB at h
  refine r_aload_n R 1 dX9_timeOnB_0 rfl rfl ?_
  obtain ⟨r4, hr4, h⟩ := pf_bd h
  refine r_cvI0 R 4 dX9_timeOnB_1 rfl lk_X9_71 rfl (c_X9_firstOfB G M _ hr4) rfl rfl rfl ?_
  refine r_istore_n R 5 dX9_timeOnB_4 rfl rfl (show _ = [pf_R 7 0, pf_I x1, pf_I r4, pf_U] from rfl) ?_
  refine r_aload_n R 6 dX9_timeOnB_5 rfl rfl ?_
  refine r_getfield R 9 dX9_timeOnB_6 rfl fl_X9_41 rfl (show _ = pf_I (M 7 0 6) from rfl) ?_
  refine r_aload_n R 10 dX9_timeOnB_9 rfl rfl ?_
  refine r_iload_n R 11 dX9_timeOnB_10 rfl rfl ?_
  refine r_iconst R 12 dX9_timeOnB_11 rfl ic_iconst_1 ?_
  refine r_iadd R 13 dX9_timeOnB_12 rfl ?_
  refine r_aload_n R 14 dX9_timeOnB_13 rfl rfl ?_
  refine r_getfield R 17 dX9_timeOnB_14 rfl fl_X9_30 rfl (show _ = pf_I (M 7 0 3) from rfl) ?_
  obtain ⟨r5, hr5, h⟩ := pf_bd h
  refine r_cvI2 R 20 dX9_timeOnB_17 rfl lk_X9_88 rfl (c_X9_wireTimes G (r4 + (1 : Int32)) (M 7 0 3) M _ hr5) rfl rfl rfl ?_
  refine r_iadd R 21 dX9_timeOnB_20 rfl ?_
  refine r_aload_n R 22 dX9_timeOnB_21 rfl rfl ?_
  refine r_getfield R 25 dX9_timeOnB_22 rfl fl_X9_40 rfl (show _ = pf_I (M 7 0 5) from rfl) ?_
  refine r_aload_n R 26 dX9_timeOnB_25 rfl rfl ?_
  refine r_getfield R 29 dX9_timeOnB_26 rfl fl_X9_30 rfl (show _ = pf_I (M 7 0 3) from rfl) ?_
  refine r_iload_n R 30 dX9_timeOnB_29 rfl rfl ?_
  refine r_isub R 31 dX9_timeOnB_30 rfl ?_
  refine r_iconst R 32 dX9_timeOnB_31 rfl ic_iconst_1 ?_
  refine r_isub R 33 dX9_timeOnB_32 rfl ?_
  refine r_imul R 34 dX9_timeOnB_33 rfl ?_
  refine r_iadd R 35 dX9_timeOnB_34 rfl ?_
  refine r_istore_n R 36 dX9_timeOnB_35 rfl rfl (show _ = [pf_R 7 0, pf_I x1, pf_I r4, pf_I (((M 7 0 6) + r5) + ((M 7 0 5) * (((M 7 0 3) - r4) - (1 : Int32))))] from rfl) ?_
  refine r_iload_n R 37 dX9_timeOnB_36 rfl rfl ?_
  refine r_aload_n R 38 dX9_timeOnB_37 rfl rfl ?_
  refine r_iload_n R 39 dX9_timeOnB_38 rfl rfl ?_
  refine r_iconst R 40 dX9_timeOnB_39 rfl ic_iconst_1 ?_
  refine r_iadd R 41 dX9_timeOnB_40 rfl ?_
  refine r_iload_n R 42 dX9_timeOnB_41 rfl rfl ?_
  obtain ⟨r6, hr6, h⟩ := pf_bd h
  refine r_cvI2 R 45 dX9_timeOnB_42 rfl lk_X9_88 rfl (c_X9_wireTimes G (r4 + (1 : Int32)) x1 M _ hr6) rfl rfl rfl ?_
  refine r_iadd R 46 dX9_timeOnB_45 rfl ?_
  refine r_aload_n R 47 dX9_timeOnB_46 rfl rfl ?_
  refine r_getfield R 50 dX9_timeOnB_47 rfl fl_X9_36 rfl (show _ = pf_I (M 7 0 4) from rfl) ?_
  refine r_iload_n R 51 dX9_timeOnB_50 rfl rfl ?_
  refine r_iload_n R 52 dX9_timeOnB_51 rfl rfl ?_
  refine r_isub R 53 dX9_timeOnB_52 rfl ?_
  refine r_imul R 54 dX9_timeOnB_53 rfl ?_
  refine r_iadd R 55 dX9_timeOnB_54 rfl ?_
  obtain rfl := Option.some.inj h
  exact r_ireturn R dX9_timeOnB_55 rfl rfl rfl rfl
def lX6_passB_50 (f18_1 : Int32) (f50_3 : Int32) (f50_4 : Nat) (kx50 : pf_M → Option (pf_M)) : Nat → Int32 → pf_M → Option (pf_M)
  | 0, _, _ => none
  | n + 1, v50_5, M50 =>
  (if (4 : Int32) ≤ v50_5 then kx50 M50
  else (if pf_in v50_5 4 = true then (if pf_in v50_5 4 = true then ((fX2_edit v50_5.toNatClampNeg (2 * v50_5.toNatClampNeg + 1) f50_4 (f50_3 - f18_1) M50).bind fun q8 => (lX6_passB_50 f18_1 f50_3 f50_4 kx50 n) (v50_5 + (1 : Int32)) q8)
  else none)
  else none))
def lX6_passB_18 (f18_1 : Int32) (f18_2 : Int32) : Nat → Int32 → pf_M → Option (pf_M)
  | 0, _, _ => none
  | n + 1, v18_3, M18 =>
  (if f18_2 ≤ v18_3 then some M18
  else (if pf_in v18_3 8 = true then ((fX9_timeOnB v18_3 M18).bind fun r10 => ((fX3_showAt v18_3.toNatClampNeg r10 M18).bind fun q11 => lX6_passB_50 f18_1 v18_3 v18_3.toNatClampNeg (fun u12_Me50 => (lX6_passB_18 f18_1 f18_2 n) (v18_3 + (1 : Int32)) u12_Me50) pf_fu (0 : Int32) q11))
  else none))
def fX6_passB (M : pf_M) : Option (pf_M) :=
  ((fX9_firstOfB M).bind fun r13 => lX6_passB_18 r13 (fX9_size M) pf_fu r13 M)
set_option maxRecDepth 4000 in
theorem c_X6_passB (G : pf_G) (M : pf_M) (q : pf_M) (h : fX6_passB M = some q) : pf_Met G yX6_passB cX6_passB 6 (none) 4 94 [pf_R 20 0] M none q := by
  refine pf_Met.of (by decide +kernel) (Nat.le_of_ble_eq_true rfl) (fun K R => ?_)
  show K 0 [pf_R 20 0, pf_U, pf_U, pf_U, pf_U, pf_U] [] M
  have hl18 : ∀ (f18_1 : Int32) (f18_2 : Int32), ∀ (n : Nat) (v18_3 : Int32) (M18 : pf_M), lX6_passB_18 f18_1 f18_2 n v18_3 M18 = some q → K 18 [pf_R 20 0, pf_I f18_1, pf_I f18_2, pf_I v18_3, pf_U, pf_U] [] M18 := by
    intro f18_1 f18_2 n
    induction n with
    | zero =>
      intro v18_3 M18 h
      rw [lX6_passB_18] at h
      cases h
    | succ n ih18 =>
        have hl50 : ∀ (f50_3 : Int32) (f50_4 : Nat), ∀ (kx50 : pf_M → Option (pf_M)), (∀ (Me50 : pf_M), kx50 Me50 = some q → K 87 [pf_R 20 0, pf_I f18_1, pf_I f18_2, pf_I f50_3, pf_U, pf_U] [] Me50) → ∀ (n : Nat) (v50_5 : Int32) (M50 : pf_M), lX6_passB_50 f18_1 f50_3 f50_4 kx50 n v50_5 M50 = some q → K 50 [pf_R 20 0, pf_I f18_1, pf_I f18_2, pf_I f50_3, pf_R 11 f50_4, pf_I v50_5] [] M50 := by
          intro f50_3 f50_4 kx50 hkx50 n
          induction n with
          | zero =>
            intro v50_5 M50 h
            rw [lX6_passB_50] at h
            cases h
          | succ n ih50 =>
              intro v50_5 M50 h
              rw [lX6_passB_50] at h
              refine r_iload R 52 dX6_passB_50 rfl rfl ?_
              refine r_iconst R 53 dX6_passB_52 rfl ic_iconst_4 ?_
              refine r_icmp_ge R 56 87 dX6_passB_53 rfl (by decide) (fun hc => ?_) (fun hc => ?_)
              · have h := pf_ifp hc h
                refine r_fg R [true, true, true, true, false, false] (show _ = [pf_R 20 0, pf_I f18_1, pf_I f18_2, pf_I f50_3, pf_U, pf_U] from rfl) ?_
                exact hkx50 _ h
              · have h := pf_ifn hc h
                refine r_aload_n R 57 dX6_passB_56 rfl rfl ?_
                refine r_getfield R 60 dX6_passB_57 rfl fl_X6_11 rfl (show _ = pf_R 21 0 from rfl) ?_
                refine r_iload R 62 dX6_passB_60 rfl rfl ?_
                obtain ⟨hi6, h⟩ := pf_gd h
                refine r_aaload R 63 dX6_passB_62 rfl rfl rfl rfl (pf_in_iff.mp hi6) ?_
                refine r_aload_n R 64 dX6_passB_63 rfl rfl ?_
                refine r_getfield R 67 dX6_passB_64 rfl fl_X6_11 rfl (show _ = pf_R 21 0 from rfl) ?_
                refine r_iload R 69 dX6_passB_67 rfl rfl ?_
                obtain ⟨hi7, h⟩ := pf_gd h
                refine r_aaload R 70 dX6_passB_69 rfl rfl rfl rfl (pf_in_iff.mp hi7) ?_
                refine r_getfield R 73 dX6_passB_70 rfl fl_X6_111 rfl (show _ = pf_R 27 (2 * v50_5.toNatClampNeg + 1) from rfl) ?_
                refine r_aload R 75 dX6_passB_73 rfl rfl ?_
                refine r_iload_n R 76 dX6_passB_75 rfl rfl ?_
                refine r_iload_n R 77 dX6_passB_76 rfl rfl ?_
                refine r_isub R 78 dX6_passB_77 rfl ?_
                obtain ⟨q8, hq8, h⟩ := pf_bd h
                refine r_cvV3 R 81 dX6_passB_78 rfl lk_X6_100 rfl (c_X2_edit G v50_5.toNatClampNeg (2 * v50_5.toNatClampNeg + 1) f50_4 (f50_3 - f18_1) M50 _ hq8) rfl rfl rfl ?_
                refine r_iinc R 84 dX6_passB_81 rfl rfl ic_iconst_1 (show _ = [pf_R 20 0, pf_I f18_1, pf_I f18_2, pf_I f50_3, pf_R 11 f50_4, pf_I (v50_5 + (1 : Int32))] from rfl) ?_
                refine r_goto R 50 dX6_passB_84 (by decide) ?_
                exact ih50 _ _ h
        intro v18_3 M18 h
        rw [lX6_passB_18] at h
        refine r_iload_n R 19 dX6_passB_18 rfl rfl ?_
        refine r_iload_n R 20 dX6_passB_19 rfl rfl ?_
        refine r_icmp_ge R 23 93 dX6_passB_20 rfl (by decide) (fun hc => ?_) (fun hc => ?_)
        · have h := pf_ifp hc h
          obtain rfl := Option.some.inj h
          exact r_return_ R dX6_passB_93 rfl rfl rfl
        · have h := pf_ifn hc h
          refine r_aload_n R 24 dX6_passB_23 rfl rfl ?_
          refine r_getfield R 27 dX6_passB_24 rfl fl_X6_24 rfl (show _ = pf_R 7 0 from rfl) ?_
          refine r_getfield R 30 dX6_passB_27 rfl fl_X6_84 rfl (show _ = pf_R 8 0 from rfl) ?_
          refine r_iload_n R 31 dX6_passB_30 rfl rfl ?_
          obtain ⟨hi9, h⟩ := pf_gd h
          refine r_aaload R 32 dX6_passB_31 rfl rfl rfl rfl (pf_in_iff.mp hi9) ?_
          refine r_astore R 34 dX6_passB_32 rfl rfl (show _ = [pf_R 20 0, pf_I f18_1, pf_I f18_2, pf_I v18_3, pf_R 11 v18_3.toNatClampNeg, pf_U] from rfl) ?_
          refine r_aload R 36 dX6_passB_34 rfl rfl ?_
          refine r_aload_n R 37 dX6_passB_36 rfl rfl ?_
          refine r_getfield R 40 dX6_passB_37 rfl fl_X6_24 rfl (show _ = pf_R 7 0 from rfl) ?_
          refine r_iload_n R 41 dX6_passB_40 rfl rfl ?_
          obtain ⟨r10, hr10, h⟩ := pf_bd h
          refine r_cvI1 R 44 dX6_passB_41 rfl lk_X6_108 rfl (c_X9_timeOnB G v18_3 M18 _ hr10) rfl rfl rfl ?_
          obtain ⟨q11, hq11, h⟩ := pf_bd h
          refine r_cvV1 R 47 dX6_passB_44 rfl lk_X6_91 rfl (c_X3_showAt G v18_3.toNatClampNeg r10 M18 _ hq11) rfl rfl rfl ?_
          refine r_iconst R 48 dX6_passB_47 rfl ic_iconst_0 ?_
          refine r_istore R 50 dX6_passB_48 rfl rfl (show _ = [pf_R 20 0, pf_I f18_1, pf_I f18_2, pf_I v18_3, pf_R 11 v18_3.toNatClampNeg, pf_I (0 : Int32)] from rfl) ?_
          refine hl50 _ _ _ (fun u12_Me50 h => ?_) pf_fu _ _ h
          refine r_iinc R 90 dX6_passB_87 rfl rfl ic_iconst_1 (show _ = [pf_R 20 0, pf_I f18_1, pf_I f18_2, pf_I (v18_3 + (1 : Int32)), pf_U, pf_U] from rfl) ?_
          refine r_goto R 18 dX6_passB_90 (by decide) ?_
          exact ih18 _ _ h
  unfold fX6_passB at h
  refine r_aload_n R 1 dX6_passB_0 rfl rfl ?_
  refine r_getfield R 4 dX6_passB_1 rfl fl_X6_24 rfl (show _ = pf_R 7 0 from rfl) ?_
  obtain ⟨r13, hr13, h⟩ := pf_bd h
  refine r_cvI0 R 7 dX6_passB_4 rfl lk_X6_104 rfl (c_X9_firstOfB G M _ hr13) rfl rfl rfl ?_
  refine r_istore_n R 8 dX6_passB_7 rfl rfl (show _ = [pf_R 20 0, pf_I r13, pf_U, pf_U, pf_U, pf_U] from rfl) ?_
  refine r_aload_n R 9 dX6_passB_8 rfl rfl ?_
  refine r_getfield R 12 dX6_passB_9 rfl fl_X6_24 rfl (show _ = pf_R 7 0 from rfl) ?_
  refine r_cvI0 R 15 dX6_passB_12 rfl lk_X6_107 rfl (c_X9_size G M _ rfl) rfl rfl rfl ?_
  refine r_istore_n R 16 dX6_passB_15 rfl rfl (show _ = [pf_R 20 0, pf_I r13, pf_I (fX9_size M), pf_U, pf_U, pf_U] from rfl) ?_
  refine r_iload_n R 17 dX6_passB_16 rfl rfl ?_
  refine r_istore_n R 18 dX6_passB_17 rfl rfl (show _ = [pf_R 20 0, pf_I r13, pf_I (fX9_size M), pf_I r13, pf_U, pf_U] from rfl) ?_
  exact hl18 _ _ pf_fu _ _ h
