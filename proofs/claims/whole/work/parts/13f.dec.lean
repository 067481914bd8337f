def fX2_joinedByte (o0 : Nat) (x1 : Int32) (M : pf_M) : Option (Int32) :=
  (if (fX2_combines o0 M) = (0 : Int32) then (if pf_in x1 8 = true then (if pf_in x1 8 = true then (if (M 28 (2 * o0) x1.toNatClampNeg) = (M 26 o0 x1.toNatClampNeg) then (if pf_in x1 8 = true then some (M 28 (2 * o0 + 1) x1.toNatClampNeg)
  else none)
  else (if pf_in x1 8 = true then some (M 28 (2 * o0) x1.toNatClampNeg)
  else none))
  else none)
  else none)
  else (if pf_in x1 8 = true then (if pf_in x1 8 = true then some ((M 28 (2 * o0) x1.toNatClampNeg) ||| (M 28 (2 * o0 + 1) x1.toNatClampNeg))
  else none)
  else none))
set_option maxRecDepth 4000 in
theorem c_X2_joinedByte (G : pf_G) (o0 : Nat) (x1 : Int32) (M : pf_M) (q : Int32) (h : fX2_joinedByte o0 x1 M = some q) : pf_Met G yX2_joinedByte cX2_joinedByte 2 (some .int) 1 20 [pf_R 25 o0, pf_I x1] M (some (pf_I q)) M := by
  refine pf_Met.of (by decide +kernel) (Nat.le_of_ble_eq_true rfl) (fun K R => ?_)
  show K 0 [pf_R 25 o0, pf_I x1] [] M
  unfold fX2_joinedByte at h
  refine r_aload_n R 1 dX2_joinedByte_0 rfl rfl ?_
  refine r_cvI0 R 4 dX2_joinedByte_1 rfl lk_X2_100 rfl (c_X2_combines G o0 M _ rfl) rfl rfl rfl ?_
  refine r_if_eq R 7 27 dX2_joinedByte_4 rfl (by decide) (fun hc => ?_) (fun hc => ?_)
  · have h := pf_ifp hc h
    refine r_aload_n R 28 dX2_joinedByte_27 rfl rfl ?_
    refine r_getfield R 31 dX2_joinedByte_28 rfl fl_X2_18 rfl (show _ = pf_R 27 (2 * o0) from rfl) ?_
    refine r_getfield R 34 dX2_joinedByte_31 rfl fl_X2_99 rfl (show _ = pf_R 28 (2 * o0) from rfl) ?_
    refine r_iload_n R 35 dX2_joinedByte_34 rfl rfl ?_
    obtain ⟨hi7, h⟩ := pf_gd h
    refine r_iaload R 36 dX2_joinedByte_35 rfl ⟨rfl, rfl⟩ (pf_in_iff.mp hi7) ?_
    refine r_aload_n R 37 dX2_joinedByte_36 rfl rfl ?_
    refine r_getfield R 40 dX2_joinedByte_37 rfl fl_X2_9 rfl (show _ = pf_R 26 o0 from rfl) ?_
    refine r_iload_n R 41 dX2_joinedByte_40 rfl rfl ?_
    obtain ⟨hi8, h⟩ := pf_gd h
    refine r_iaload R 42 dX2_joinedByte_41 rfl ⟨rfl, rfl⟩ (pf_in_iff.mp hi8) ?_
    refine r_icmp_eq R 45 57 dX2_joinedByte_42 rfl (by decide) (fun hc => ?_) (fun hc => ?_)
    · have h := pf_ifp hc h
      refine r_aload_n R 58 dX2_joinedByte_57 rfl rfl ?_
      refine r_getfield R 61 dX2_joinedByte_58 rfl fl_X2_22 rfl (show _ = pf_R 27 (2 * o0 + 1) from rfl) ?_
      refine r_getfield R 64 dX2_joinedByte_61 rfl fl_X2_99 rfl (show _ = pf_R 28 (2 * o0 + 1) from rfl) ?_
      refine r_iload_n R 65 dX2_joinedByte_64 rfl rfl ?_
      obtain ⟨hi9, h⟩ := pf_gd h
      refine r_iaload R 66 dX2_joinedByte_65 rfl ⟨rfl, rfl⟩ (pf_in_iff.mp hi9) ?_
      obtain rfl := Option.some.inj h
      exact r_ireturn R dX2_joinedByte_66 rfl rfl rfl rfl
    · have h := pf_ifn hc h
      refine r_aload_n R 46 dX2_joinedByte_45 rfl rfl ?_
      refine r_getfield R 49 dX2_joinedByte_46 rfl fl_X2_18 rfl (show _ = pf_R 27 (2 * o0) from rfl) ?_
      refine r_getfield R 52 dX2_joinedByte_49 rfl fl_X2_99 rfl (show _ = pf_R 28 (2 * o0) from rfl) ?_
      refine r_iload_n R 53 dX2_joinedByte_52 rfl rfl ?_
      obtain ⟨hi10, h⟩ := pf_gd h
      refine r_iaload R 54 dX2_joinedByte_53 rfl ⟨rfl, rfl⟩ (pf_in_iff.mp hi10) ?_
      refine r_goto R 66 dX2_joinedByte_54 (by decide) ?_
      obtain rfl := Option.some.inj h
      exact r_ireturn R dX2_joinedByte_66 rfl rfl rfl rfl
  · have h := pf_ifn hc h
    refine r_aload_n R 8 dX2_joinedByte_7 rfl rfl ?_
    refine r_getfield R 11 dX2_joinedByte_8 rfl fl_X2_18 rfl (show _ = pf_R 27 (2 * o0) from rfl) ?_
    refine r_getfield R 14 dX2_joinedByte_11 rfl fl_X2_99 rfl (show _ = pf_R 28 (2 * o0) from rfl) ?_
    refine r_iload_n R 15 dX2_joinedByte_14 rfl rfl ?_
    obtain ⟨hi11, h⟩ := pf_gd h
    refine r_iaload R 16 dX2_joinedByte_15 rfl ⟨rfl, rfl⟩ (pf_in_iff.mp hi11) ?_
    refine r_aload_n R 17 dX2_joinedByte_16 rfl rfl ?_
    refine r_getfield R 20 dX2_joinedByte_17 rfl fl_X2_22 rfl (show _ = pf_R 27 (2 * o0 + 1) from rfl) ?_
    refine r_getfield R 23 dX2_joinedByte_20 rfl fl_X2_99 rfl (show _ = pf_R 28 (2 * o0 + 1) from rfl) ?_
    refine r_iload_n R 24 dX2_joinedByte_23 rfl rfl ?_
    obtain ⟨hi12, h⟩ := pf_gd h
    refine r_iaload R 25 dX2_joinedByte_24 rfl ⟨rfl, rfl⟩ (pf_in_iff.mp hi12) ?_
    refine r_ior R 26 dX2_joinedByte_25 rfl ?_
    obtain rfl := Option.some.inj h
    exact r_ireturn R dX2_joinedByte_26 rfl rfl rfl rfl
def jX2_comeHome_88 (rec54 : Int32 → pf_M → Option (pf_M)) (w88_2 : Int32) (s88_0 : Nat) (s88_1 : Int32) (s88_2 : Int32) (M88 : pf_M) : Option (pf_M) :=
  (if pf_in s88_1 8 = true then rec54 (w88_2 + (1 : Int32)) (pf_up M88 30 s88_0 s88_1.toNatClampNeg s88_2)
  else none)
def lX2_comeHome_54 (o0 : Nat) (x1 : Int32) : Nat → Int32 → pf_M → Option (pf_M)
  | 0, _, _ => none
  | n + 1, v54_2, M54 =>
  (if (M54 25 o0 9) ≤ v54_2 then some M54
  else (if x1 = (0 : Int32) then (if pf_in v54_2 8 = true then jX2_comeHome_88 (lX2_comeHome_54 o0 x1 n) v54_2 o0 v54_2 (M54 28 (2 * o0) v54_2.toNatClampNeg) M54
  else none)
  else ((fX2_joinedByte o0 v54_2 M54).bind fun r4 => jX2_comeHome_88 (lX2_comeHome_54 o0 x1 n) v54_2 o0 v54_2 r4 M54)))
def jX2_comeHome_49 (o0 : Nat) (x1 : Int32) (s49_0 : Nat) (s49_1 : Int32) (M49 : pf_M) : Option (pf_M) :=
  lX2_comeHome_54 o0 x1 pf_fu (0 : Int32) (pf_up M49 25 s49_0 8 s49_1)
def jX2_comeHome_16 (o0 : Nat) (x1 : Int32) (s16_0 : Nat) (s16_1 : Int32) (M16 : pf_M) : Option (pf_M) :=
  (if x1 = (0 : Int32) then jX2_comeHome_49 o0 x1 o0 ((pf_up M16 25 s16_0 9 s16_1) 27 (2 * o0) 2) (pf_up M16 25 s16_0 9 s16_1)
  else jX2_comeHome_49 o0 x1 o0 (((pf_up M16 25 s16_0 9 s16_1) 27 (2 * o0) 2) + ((pf_up M16 25 s16_0 9 s16_1) 27 (2 * o0 + 1) 2)) (pf_up M16 25 s16_0 9 s16_1))
def fX2_comeHome (o0 : Nat) (x1 : Int32) (M : pf_M) : Option (pf_M) :=
  (if (M 25 o0 0) = (0 : Int32) then jX2_comeHome_16 o0 x1 o0 (0 : Int32) M
  else jX2_comeHome_16 o0 x1 o0 (M 25 o0 3) M)
set_option maxRecDepth 4000 in
theorem c_X2_comeHome (G : pf_G) (o0 : Nat) (x1 : Int32) (M : pf_M) (q : pf_M) (h : fX2_comeHome o0 x1 M = some q) : pf_Met G yX2_comeHome cX2_comeHome 3 (none) 2 41 [pf_R 25 o0, pf_I x1] M none q := by
  refine pf_Met.of (by decide +kernel) (Nat.le_of_ble_eq_true rfl) (fun K R => ?_)
  show K 0 [pf_R 25 o0, pf_I x1, pf_U] [] M
  have hl54 : ∀ (n : Nat) (v54_2 : Int32) (M54 : pf_M), lX2_comeHome_54 o0 x1 n v54_2 M54 = some q → K 54 [pf_R 25 o0, pf_I x1, pf_I v54_2] [] M54 := by
    intro n
    induction n with
    | zero =>
      intro v54_2 M54 h
      rw [lX2_comeHome_54] at h
      cases h
    | succ n ih54 =>
        have hj88 : ∀ (w88_2 : Int32) (s88_0 : Nat) (s88_1 : Int32) (s88_2 : Int32) (M88 : pf_M), jX2_comeHome_88 (lX2_comeHome_54 o0 x1 n) w88_2 s88_0 s88_1 s88_2 M88 = some q → K 88 [pf_R 25 o0, pf_I x1, pf_I w88_2] [pf_I s88_2, pf_I s88_1, pf_R 30 s88_0] M88 := by
          intro w88_2 s88_0 s88_1 s88_2 M88 h
          unfold jX2_comeHome_88 at h
          obtain ⟨hi2, h⟩ := pf_gd h
          refine r_iastore R 89 dX2_comeHome_88 rfl ⟨rfl, rfl⟩ (pf_in_iff.mp hi2) ?_
          refine r_iinc R 92 dX2_comeHome_89 rfl rfl ic_iconst_1 (show _ = [pf_R 25 o0, pf_I x1, pf_I (w88_2 + (1 : Int32))] from rfl) ?_
          refine r_goto R 54 dX2_comeHome_92 (by decide) ?_
          exact ih54 _ _ h
        intro v54_2 M54 h
        rw [lX2_comeHome_54] at h
        refine r_iload_n R 55 dX2_comeHome_54 rfl rfl ?_
        refine r_aload_n R 56 dX2_comeHome_55 rfl rfl ?_
        refine r_getfield R 59 dX2_comeHome_56 rfl fl_X2_32 rfl (show _ = pf_I (M54 25 o0 9) from rfl) ?_
        refine r_icmp_ge R 62 95 dX2_comeHome_59 rfl (by decide) (fun hc => ?_) (fun hc => ?_)
        · have h := pf_ifp hc h
          obtain rfl := Option.some.inj h
          exact r_return_ R dX2_comeHome_95 rfl rfl rfl
        · have h := pf_ifn hc h
          refine r_aload_n R 63 dX2_comeHome_62 rfl rfl ?_
          refine r_getfield R 66 dX2_comeHome_63 rfl fl_X2_25 rfl (show _ = pf_R 30 o0 from rfl) ?_
          refine r_iload_n R 67 dX2_comeHome_66 rfl rfl ?_
          refine r_iload_n R 68 dX2_comeHome_67 rfl rfl ?_
          refine r_if_eq R 71 79 dX2_comeHome_68 rfl (by decide) (fun hc => ?_) (fun hc => ?_)
          · have h := pf_ifp hc h
            refine r_aload_n R 80 dX2_comeHome_79 rfl rfl ?_
            refine r_getfield R 83 dX2_comeHome_80 rfl fl_X2_18 rfl (show _ = pf_R 27 (2 * o0) from rfl) ?_
            refine r_getfield R 86 dX2_comeHome_83 rfl fl_X2_99 rfl (show _ = pf_R 28 (2 * o0) from rfl) ?_
            refine r_iload_n R 87 dX2_comeHome_86 rfl rfl ?_
            obtain ⟨hi3, h⟩ := pf_gd h
            refine r_iaload R 88 dX2_comeHome_87 rfl ⟨rfl, rfl⟩ (pf_in_iff.mp hi3) ?_
            exact hj88 _ _ _ _ _ h
          · have h := pf_ifn hc h
            refine r_aload_n R 72 dX2_comeHome_71 rfl rfl ?_
            refine r_iload_n R 73 dX2_comeHome_72 rfl rfl ?_
            obtain ⟨r4, hr4, h⟩ := pf_bd h
            refine r_cvI1 R 76 dX2_comeHome_73 rfl lk_X2_122 rfl (c_X2_joinedByte G o0 v54_2 M54 _ hr4) rfl rfl rfl ?_
            refine r_goto R 88 dX2_comeHome_76 (by decide) ?_
            exact hj88 _ _ _ _ _ h
  have hj49 : ∀ (s49_0 : Nat) (s49_1 : Int32) (M49 : pf_M), jX2_comeHome_49 o0 x1 s49_0 s49_1 M49 = some q → K 49 [pf_R 25 o0, pf_I x1, pf_U] [pf_I s49_1, pf_R 25 s49_0] M49 := by
    intro s49_0 s49_1 M49 h
    unfold jX2_comeHome_49 at h
    refine r_putfield R 52 dX2_comeHome_49 rfl fl_X2_119 rfl rfl rfl rfl ?_
    refine r_iconst R 53 dX2_comeHome_52 rfl ic_iconst_0 ?_
    refine r_istore_n R 54 dX2_comeHome_53 rfl rfl (show _ = [pf_R 25 o0, pf_I x1, pf_I (0 : Int32)] from rfl) ?_
    exact hl54 pf_fu _ _ h
  have hj16 : ∀ (s16_0 : Nat) (s16_1 : Int32) (M16 : pf_M), jX2_comeHome_16 o0 x1 s16_0 s16_1 M16 = some q → K 16 [pf_R 25 o0, pf_I x1, pf_U] [pf_I s16_1, pf_R 25 s16_0] M16 := by
    intro s16_0 s16_1 M16 h
    unfold jX2_comeHome_16 at h
    refine r_putfield R 19 dX2_comeHome_16 rfl fl_X2_32 rfl rfl rfl rfl ?_
    refine r_aload_n R 20 dX2_comeHome_19 rfl rfl ?_
    refine r_iload_n R 21 dX2_comeHome_20 rfl rfl ?_
    refine r_if_eq R 24 42 dX2_comeHome_21 rfl (by decide) (fun hc => ?_) (fun hc => ?_)
    · have h := pf_ifp hc h
      refine r_aload_n R 43 dX2_comeHome_42 rfl rfl ?_
      refine r_getfield R 46 dX2_comeHome_43 rfl fl_X2_18 rfl (show _ = pf_R 27 (2 * o0) from rfl) ?_
      refine r_getfield R 49 dX2_comeHome_46 rfl fl_X2_65 rfl (show _ = pf_I ((pf_up M16 25 s16_0 9 s16_1) 27 (2 * o0) 2) from rfl) ?_
      exact hj49 _ _ _ h
    · have h := pf_ifn hc h
      refine r_aload_n R 25 dX2_comeHome_24 rfl rfl ?_
      refine r_getfield R 28 dX2_comeHome_25 rfl fl_X2_18 rfl (show _ = pf_R 27 (2 * o0) from rfl) ?_
      refine r_getfield R 31 dX2_comeHome_28 rfl fl_X2_65 rfl (show _ = pf_I ((pf_up M16 25 s16_0 9 s16_1) 27 (2 * o0) 2) from rfl) ?_
      refine r_aload_n R 32 dX2_comeHome_31 rfl rfl ?_
      refine r_getfield R 35 dX2_comeHome_32 rfl fl_X2_22 rfl (show _ = pf_R 27 (2 * o0 + 1) from rfl) ?_
      refine r_getfield R 38 dX2_comeHome_35 rfl fl_X2_65 rfl (show _ = pf_I ((pf_up M16 25 s16_0 9 s16_1) 27 (2 * o0 + 1) 2) from rfl) ?_
      refine r_iadd R 39 dX2_comeHome_38 rfl ?_
      refine r_goto R 49 dX2_comeHome_39 (by decide) ?_
      exact hj49 _ _ _ h
  unfold fX2_comeHome at h
  refine r_aload_n R 1 dX2_comeHome_0 rfl rfl ?_
  refine r_aload_n R 2 dX2_comeHome_1 rfl rfl ?_
  refine r_getfield R 5 dX2_comeHome_2 rfl fl_X2_28 rfl (show _ = pf_I (M 25 o0 0) from rfl) ?_
  refine r_if_ne R 8 12 dX2_comeHome_5 rfl (by decide) (fun hc => ?_) (fun hc => ?_)
  · have h := pf_ifp hc h
    refine r_iconst R 9 dX2_comeHome_8 rfl ic_iconst_0 ?_
    refine r_goto R 16 dX2_comeHome_9 (by decide) ?_
    exact hj16 _ _ _ h
  · have h := pf_ifn hc h
    refine r_aload_n R 13 dX2_comeHome_12 rfl rfl ?_
    refine r_getfield R 16 dX2_comeHome_13 rfl fl_X2_47 rfl (show _ = pf_I (M 25 o0 3) from rfl) ?_
    exact hj16 _ _ _ h
def lX4_forgetOldest_2 (kx2 : pf_M → Option (pf_M)) : Nat → Int32 → pf_M → Option (pf_M)
  | 0, _, _ => none
  | n + 1, v2_1, M2 =>
  (if (M2 22 0 2) ≤ v2_1 then kx2 M2
  else (if pf_in v2_1 6 = true then (if pf_in (v2_1 - (1 : Int32)) 6 = true then (if pf_in v2_1 6 = true then (if pf_in (v2_1 - (1 : Int32)) 6 = true then (lX4_forgetOldest_2 kx2 n) (v2_1 + (1 : Int32)) (pf_up (pf_up M2 23 0 (v2_1 - (1 : Int32)).toNatClampNeg (M2 23 0 v2_1.toNatClampNeg)) 24 0 (v2_1 - (1 : Int32)).toNatClampNeg ((pf_up M2 23 0 (v2_1 - (1 : Int32)).toNatClampNeg (M2 23 0 v2_1.toNatClampNeg)) 24 0 v2_1.toNatClampNeg))
  else none)
  else none)
  else none)
  else none))
def fX4_forgetOldest (M : pf_M) : Option (pf_M) :=
  lX4_forgetOldest_2 (fun u7_Me2 => some (pf_up u7_Me2 22 0 2 ((u7_Me2 22 0 2) - (1 : Int32)))) pf_fu (1 : Int32) M
set_option maxRecDepth 4000 in
theorem c_X4_forgetOldest (G : pf_G) (M : pf_M) (q : pf_M) (h : fX4_forgetOldest M = some q) : pf_Met G yX4_forgetOldest cX4_forgetOldest 2 (none) 0 0 [pf_R 22 0] M none q := by
  refine pf_Met.of (by decide +kernel) (Nat.le_of_ble_eq_true rfl) (fun K R => ?_)
  show K 0 [pf_R 22 0, pf_U] [] M
  have hl2 : ∀ (kx2 : pf_M → Option (pf_M)), (∀ (Me2 : pf_M), kx2 Me2 = some q → K 44 [pf_R 22 0, pf_U] [] Me2) → ∀ (n : Nat) (v2_1 : Int32) (M2 : pf_M), lX4_forgetOldest_2 kx2 n v2_1 M2 = some q → K 2 [pf_R 22 0, pf_I v2_1] [] M2 := by
    intro kx2 hkx2 n
    induction n with
    | zero =>
      intro v2_1 M2 h
      rw [lX4_forgetOldest_2] at h
      cases h
    | succ n ih2 =>
        intro v2_1 M2 h
        rw [lX4_forgetOldest_2] at h
        refine r_iload_n R 3 dX4_forgetOldest_2 rfl rfl ?_
        refine r_aload_n R 4 dX4_forgetOldest_3 rfl rfl ?_
        refine r_getfield R 7 dX4_forgetOldest_4 rfl fl_X4_18 rfl (show _ = pf_I (M2 22 0 2) from rfl) ?_
        refine r_icmp_ge R 10 44 dX4_forgetOldest_7 rfl (by decide) (fun hc => ?_) (fun hc => ?_)
        · have h := pf_ifp hc h
          refine r_fg R [true, false] (show _ = [pf_R 22 0, pf_U] from rfl) ?_
          exact hkx2 _ h
        · have h := pf_ifn hc h
          refine r_aload_n R 11 dX4_forgetOldest_10 rfl rfl ?_
          refine r_getfield R 14 dX4_forgetOldest_11 rfl fl_X4_9 rfl (show _ = pf_R 23 0 from rfl) ?_
          refine r_iload_n R 15 dX4_forgetOldest_14 rfl rfl ?_
          refine r_iconst R 16 dX4_forgetOldest_15 rfl ic_iconst_1 ?_
          refine r_isub R 17 dX4_forgetOldest_16 rfl ?_
          refine r_aload_n R 18 dX4_forgetOldest_17 rfl rfl ?_
          refine r_getfield R 21 dX4_forgetOldest_18 rfl fl_X4_9 rfl (show _ = pf_R 23 0 from rfl) ?_
          refine r_iload_n R 22 dX4_forgetOldest_21 rfl rfl ?_
          obtain ⟨hi3, h⟩ := pf_gd h
          refine r_iaload R 23 dX4_forgetOldest_22 rfl ⟨rfl, rfl⟩ (pf_in_iff.mp hi3) ?_
          obtain ⟨hi4, h⟩ := pf_gd h
          refine r_iastore R 24 dX4_forgetOldest_23 rfl ⟨rfl, rfl⟩ (pf_in_iff.mp hi4) ?_
          refine r_aload_n R 25 dX4_forgetOldest_24 rfl rfl ?_
          refine r_getfield R 28 dX4_forgetOldest_25 rfl fl_X4_15 rfl (show _ = pf_R 24 0 from rfl) ?_
          refine r_iload_n R 29 dX4_forgetOldest_28 rfl rfl ?_
          refine r_iconst R 30 dX4_forgetOldest_29 rfl ic_iconst_1 ?_
          refine r_isub R 31 dX4_forgetOldest_30 rfl ?_
          refine r_aload_n R 32 dX4_forgetOldest_31 rfl rfl ?_
          refine r_getfield R 35 dX4_forgetOldest_32 rfl fl_X4_15 rfl (show _ = pf_R 24 0 from rfl) ?_
          refine r_iload_n R 36 dX4_forgetOldest_35 rfl rfl ?_
          obtain ⟨hi5, h⟩ := pf_gd h
          refine r_iaload R 37 dX4_forgetOldest_36 rfl ⟨rfl, rfl⟩ (pf_in_iff.mp hi5) ?_
          obtain ⟨hi6, h⟩ := pf_gd h
          refine r_iastore R 38 dX4_forgetOldest_37 rfl ⟨rfl, rfl⟩ (pf_in_iff.mp hi6) ?_
          refine r_iinc R 41 dX4_forgetOldest_38 rfl rfl ic_iconst_1 (show _ = [pf_R 22 0, pf_I (v2_1 + (1 : Int32))] from rfl) ?_
          refine r_goto R 2 dX4_forgetOldest_41 (by decide) ?_
          exact ih2 _ _ h
  unfold fX4_forgetOldest at h
  refine r_iconst R 1 dX4_forgetOldest_0 rfl ic_iconst_1 ?_
  refine r_istore_n R 2 dX4_forgetOldest_1 rfl rfl (show _ = [pf_R 22 0, pf_I (1 : Int32)] from rfl) ?_
  refine hl2 _ (fun u7_Me2 h => ?_) pf_fu _ _ h
  refine r_aload_n R 45 dX4_forgetOldest_44 rfl rfl ?_
  refine r_dup R 46 dX4_forgetOldest_45 rfl rfl ?_
  refine r_getfield R 49 dX4_forgetOldest_46 rfl fl_X4_18 rfl (show _ = pf_I (u7_Me2 22 0 2) from rfl) ?_
  refine r_iconst R 50 dX4_forgetOldest_49 rfl ic_iconst_1 ?_
  refine r_isub R 51 dX4_forgetOldest_50 rfl ?_
  refine r_putfield R 54 dX4_forgetOldest_51 rfl fl_X4_18 rfl rfl rfl rfl ?_
  obtain rfl := Option.some.inj h
  exact r_return_ R dX4_forgetOldest_54 rfl rfl rfl
def jX4_remember_40 (x1 : Int32) (x2 : Int32) (M40 : pf_M) : Option (pf_M) :=
  (if pf_in (M40 22 0 2) 6 = true then (if pf_in ((pf_up M40 23 0 (M40 22 0 2).toNatClampNeg x1) 22 0 2) 6 = true then some (pf_up (pf_up (pf_up M40 23 0 (M40 22 0 2).toNatClampNeg x1) 24 0 ((pf_up M40 23 0 (M40 22 0 2).toNatClampNeg x1) 22 0 2).toNatClampNeg x2) 22 0 2 (((pf_up (pf_up M40 23 0 (M40 22 0 2).toNatClampNeg x1) 24 0 ((pf_up M40 23 0 (M40 22 0 2).toNatClampNeg x1) 22 0 2).toNatClampNeg x2) 22 0 2) + (1 : Int32)))
  else none)
  else none)
def fX4_remember (x1 : Int32) (x2 : Int32) (M : pf_M) : Option (pf_M) :=
  ((fX4_indexOf x1 M).bind fun r9 => (if r9 < (0 : Int32) then (if (M 22 0 2) < (6 : Int32) then jX4_remember_40 x1 x2 M
  else ((fX4_forgetOldest M).bind fun q10 => jX4_remember_40 x1 x2 q10))
  else (if pf_in r9 6 = true then (if pf_in r9 6 = true then some (pf_up M 24 0 r9.toNatClampNeg (fJ9_max_7cf53 (M 24 0 r9.toNatClampNeg) x2))
  else none)
  else none)))
set_option maxRecDepth 4000 in
theorem c_X4_remember (G : pf_G) (x1 : Int32) (x2 : Int32) (M : pf_M) (q : pf_M) (h : fX4_remember x1 x2 M = some q) : pf_Met G yX4_remember cX4_remember 4 (none) 1 22 [pf_R 22 0, pf_I x1, pf_I x2] M none q := by
  refine pf_Met.of (by decide +kernel) (Nat.le_of_ble_eq_true rfl) (fun K R => ?_)
  show K 0 [pf_R 22 0, pf_I x1, pf_I x2, pf_U] [] M
  have hj40 : ∀ (M40 : pf_M), jX4_remember_40 x1 x2 M40 = some q → K 40 [pf_R 22 0, pf_I x1, pf_I x2, pf_U] [] M40 := by
    intro M40 h
    unfold jX4_remember_40 at h
    refine r_aload_n R 41 dX4_remember_40 rfl rfl ?_
    refine r_getfield R 44 dX4_remember_41 rfl fl_X4_9 rfl (show _ = pf_R 23 0 from rfl) ?_
    refine r_aload_n R 45 dX4_remember_44 rfl rfl ?_
    refine r_getfield R 48 dX4_remember_45 rfl fl_X4_18 rfl (show _ = pf_I (M40 22 0 2) from rfl) ?_
    refine r_iload_n R 49 dX4_remember_48 rfl rfl ?_
    obtain ⟨hi7, h⟩ := pf_gd h
    refine r_iastore R 50 dX4_remember_49 rfl ⟨rfl, rfl⟩ (pf_in_iff.mp hi7) ?_
    refine r_aload_n R 51 dX4_remember_50 rfl rfl ?_
    refine r_getfield R 54 dX4_remember_51 rfl fl_X4_15 rfl (show _ = pf_R 24 0 from rfl) ?_
    refine r_aload_n R 55 dX4_remember_54 rfl rfl ?_
    refine r_getfield R 58 dX4_remember_55 rfl fl_X4_18 rfl (show _ = pf_I ((pf_up M40 23 0 (M40 22 0 2).toNatClampNeg x1) 22 0 2) from rfl) ?_
    refine r_iload_n R 59 dX4_remember_58 rfl rfl ?_
    obtain ⟨hi8, h⟩ := pf_gd h
    refine r_iastore R 60 dX4_remember_59 rfl ⟨rfl, rfl⟩ (pf_in_iff.mp hi8) ?_
    refine r_aload_n R 61 dX4_remember_60 rfl rfl ?_
    refine r_dup R 62 dX4_remember_61 rfl rfl ?_
    refine r_getfield R 65 dX4_remember_62 rfl fl_X4_18 rfl (show _ = pf_I ((pf_up (pf_up M40 23 0 (M40 22 0 2).toNatClampNeg x1) 24 0 ((pf_up M40 23 0 (M40 22 0 2).toNatClampNeg x1) 22 0 2).toNatClampNeg x2) 22 0 2) from rfl) ?_
    refine r_iconst R 66 dX4_remember_65 rfl ic_iconst_1 ?_
    refine r_iadd R 67 dX4_remember_66 rfl ?_
    refine r_putfield R 70 dX4_remember_67 rfl fl_X4_18 rfl rfl rfl rfl ?_
    obtain rfl := Option.some.inj h
    exact r_return_ R dX4_remember_70 rfl rfl rfl
  unfold fX4_remember at h
  refine r_aload_n R 1 dX4_remember_0 rfl rfl ?_
  refine r_iload_n R 2 dX4_remember_1 rfl rfl ?_
  obtain ⟨r9, hr9, h⟩ := pf_bd h
  refine r_cvI1 R 5 dX4_remember_2 rfl lk_X4_22 rfl (c_X4_indexOf G x1 M _ hr9) rfl rfl rfl ?_
  refine r_istore_n R 6 dX4_remember_5 rfl rfl (show _ = [pf_R 22 0, pf_I x1, pf_I x2, pf_I r9] from rfl) ?_
  refine r_iload_n R 7 dX4_remember_6 rfl rfl ?_
  refine r_if_lt R 10 27 dX4_remember_7 rfl (by decide) (fun hc => ?_) (fun hc => ?_)
  · have h := pf_ifp hc h
    refine r_aload_n R 28 dX4_remember_27 rfl rfl ?_
    refine r_getfield R 31 dX4_remember_28 rfl fl_X4_18 rfl (show _ = pf_I (M 22 0 2) from rfl) ?_
    refine r_bipush R 33 dX4_remember_31 rfl ic_bipush_6 ?_
    refine r_icmp_lt R 36 40 dX4_remember_33 rfl (by decide) (fun hc => ?_) (fun hc => ?_)
    · have h := pf_ifp hc h
      refine r_fg R [true, true, true, false] (show _ = [pf_R 22 0, pf_I x1, pf_I x2, pf_U] from rfl) ?_
      exact hj40 _ h
    · have h := pf_ifn hc h
      refine r_aload_n R 37 dX4_remember_36 rfl rfl ?_
      obtain ⟨q10, hq10, h⟩ := pf_bd h
      refine r_cvV0 R 40 dX4_remember_37 rfl lk_X4_32 rfl (c_X4_forgetOldest G M _ hq10) rfl rfl rfl ?_
      refine r_fg R [true, true, true, false] (show _ = [pf_R 22 0, pf_I x1, pf_I x2, pf_U] from rfl) ?_
      exact hj40 _ h
  · have h := pf_ifn hc h
    refine r_aload_n R 11 dX4_remember_10 rfl rfl ?_
    refine r_getfield R 14 dX4_remember_11 rfl fl_X4_15 rfl (show _ = pf_R 24 0 from rfl) ?_
    refine r_iload_n R 15 dX4_remember_14 rfl rfl ?_
    refine r_aload_n R 16 dX4_remember_15 rfl rfl ?_
    refine r_getfield R 19 dX4_remember_16 rfl fl_X4_15 rfl (show _ = pf_R 24 0 from rfl) ?_
    refine r_iload_n R 20 dX4_remember_19 rfl rfl ?_
    obtain ⟨hi11, h⟩ := pf_gd h
    refine r_iaload R 21 dX4_remember_20 rfl ⟨rfl, rfl⟩ (pf_in_iff.mp hi11) ?_
    refine r_iload_n R 22 dX4_remember_21 rfl rfl ?_
    refine r_csI2 R 25 dX4_remember_22 rfl lk_X4_26 (c_J9_max_7cf53 G (M 24 0 r9.toNatClampNeg) x2 _ rfl) rfl rfl rfl ?_
    obtain ⟨hi12, h⟩ := pf_gd h
    refine r_iastore R 26 dX4_remember_25 rfl ⟨rfl, rfl⟩ (pf_in_iff.mp hi12) ?_
    obtain rfl := Option.some.inj h
    exact r_return_ R dX4_remember_26 rfl rfl rfl
def jX6_compare_22 (o1 : Nat) (M22 : pf_M) : Option (pf_M) :=
  ((fX4_remember (fX2_likeness o1 M22) (M22 25 o1 8) M22).bind fun q3 => some q3)
def fX6_compare (o1 : Nat) (M : pf_M) : Option (pf_M) :=
  ((fX6_expectedOf o1 M).bind fun r4 => (if r4 ≤ (M 25 o1 8) then jX6_compare_22 o1 M
  else jX6_compare_22 o1 (pf_up M 20 0 3 ((M 20 0 3) + (1 : Int32)))))
set_option maxRecDepth 4000 in
theorem c_X6_compare (G : pf_G) (o1 : Nat) (M : pf_M) (q : pf_M) (h : fX6_compare o1 M = some q) : pf_Met G yX6_compare cX6_compare 2 (none) 3 65 [pf_R 20 0, pf_R 25 o1] M none q := by
  refine pf_Met.of (by decide +kernel) (Nat.le_of_ble_eq_true rfl) (fun K R => ?_)
  show K 0 [pf_R 20 0, pf_R 25 o1] [] M
  have hj22 : ∀ (M22 : pf_M), jX6_compare_22 o1 M22 = some q → K 22 [pf_R 20 0, pf_R 25 o1] [] M22 := by
    intro M22 h
    unfold jX6_compare_22 at h
    refine r_aload_n R 23 dX6_compare_22 rfl rfl ?_
    refine r_getfield R 26 dX6_compare_23 rfl fl_X6_20 rfl (show _ = pf_R 22 0 from rfl) ?_
    refine r_aload_n R 27 dX6_compare_26 rfl rfl ?_
    refine r_cvI0 R 30 dX6_compare_27 rfl lk_X6_49 rfl (c_X2_likeness G o1 M22 _ rfl) rfl rfl rfl ?_
    refine r_aload_n R 31 dX6_compare_30 rfl rfl ?_
    refine r_getfield R 34 dX6_compare_31 rfl fl_X6_121 rfl (show _ = pf_I (M22 25 o1 8) from rfl) ?_
    obtain ⟨q3, hq3, h⟩ := pf_bd h
    refine r_cvV2 R 37 dX6_compare_34 rfl lk_X6_132 rfl (c_X4_remember G (fX2_likeness o1 M22) (M22 25 o1 8) M22 _ hq3) rfl rfl rfl ?_
    obtain rfl := Option.some.inj h
    exact r_return_ R dX6_compare_37 rfl rfl rfl
  unfold fX6_compare at h
  refine r_aload_n R 1 dX6_compare_0 rfl rfl ?_
  refine r_getfield R 4 dX6_compare_1 rfl fl_X6_121 rfl (show _ = pf_I (M 25 o1 8) from rfl) ?_
  refine r_aload_n R 5 dX6_compare_4 rfl rfl ?_
  refine r_aload_n R 6 dX6_compare_5 rfl rfl ?_
  obtain ⟨r4, hr4, h⟩ := pf_bd h
  refine r_cvI1 R 9 dX6_compare_6 rfl lk_X6_128 rfl (c_X6_expectedOf G o1 M _ hr4) rfl rfl rfl ?_
  refine r_icmp_ge R 12 22 dX6_compare_9 rfl (by decide) (fun hc => ?_) (fun hc => ?_)
  · have h := pf_ifp hc h
    exact hj22 _ h
  · have h := pf_ifn hc h
    refine r_aload_n R 13 dX6_compare_12 rfl rfl ?_
    refine r_dup R 14 dX6_compare_13 rfl rfl ?_
    refine r_getfield R 17 dX6_compare_14 rfl fl_X6_35 rfl (show _ = pf_I (M 20 0 3) from rfl) ?_
    refine r_iconst R 18 dX6_compare_17 rfl ic_iconst_1 ?_
    refine r_iadd R 19 dX6_compare_18 rfl ?_
    refine r_putfield R 22 dX6_compare_19 rfl fl_X6_35 rfl rfl rfl rfl ?_
    exact hj22 _ h
def jX6_receive_61 (rec20 : Int32 → Int32 → pf_M → Option (Int32 × pf_M)) (w61_2 : Int32) (w61_3 : Int32) (M61 : pf_M) : Option (Int32 × pf_M) :=
  rec20 w61_2 (w61_3 + (1 : Int32)) M61
def lX6_receive_20 (f20_1 : Int32) : Nat → Int32 → Int32 → pf_M → Option (Int32 × pf_M)
  | 0, _, _, _ => none
  | n + 1, v20_2, v20_3, M20 =>
  (if (4 : Int32) ≤ v20_3 then some (v20_2, M20)
  else (if pf_in v20_3 4 = true then ((fX2_comeHome v20_3.toNatClampNeg f20_1 M20).bind fun q5 => (if (q5 25 v20_3.toNatClampNeg 0) = (0 : Int32) then jX6_receive_61 (lX6_receive_20 f20_1 n) v20_2 v20_3 q5
  else ((fX6_compare v20_3.toNatClampNeg q5).bind fun q6 => jX6_receive_61 (lX6_receive_20 f20_1 n) (v20_2 + (q5 25 v20_3.toNatClampNeg 8)) v20_3 q6)))
  else none))
def jX6_receive_15 (s15_0 : Int32) (M15 : pf_M) : Option (Int32 × pf_M) :=
  lX6_receive_20 s15_0 pf_fu (0 : Int32) (0 : Int32) M15
def fX6_receive (M : pf_M) : Option (Int32 × pf_M) :=
  ((fX9_cutWires M).bind fun r7 => (if r7 ≤ (0 : Int32) then jX6_receive_15 (0 : Int32) M
  else jX6_receive_15 (1 : Int32) M))
set_option maxRecDepth 4000 in
theorem c_X6_receive (G : pf_G) (M : pf_M) (q : Int32 × pf_M) (h : fX6_receive M = some q) : pf_Met G yX6_receive cX6_receive 5 (some .int) 4 86 [pf_R 20 0] M (some (pf_I q.1)) q.2 := by
  refine pf_Met.of (by decide +kernel) (Nat.le_of_ble_eq_true rfl) (fun K R => ?_)
  show K 0 [pf_R 20 0, pf_U, pf_U, pf_U, pf_U] [] M
  have hl20 : ∀ (f20_1 : Int32), ∀ (n : Nat) (v20_2 : Int32) (v20_3 : Int32) (M20 : pf_M), lX6_receive_20 f20_1 n v20_2 v20_3 M20 = some q → K 20 [pf_R 20 0, pf_I f20_1, pf_I v20_2, pf_I v20_3, pf_U] [] M20 := by
    intro f20_1 n
    induction n with
    | zero =>
      intro v20_2 v20_3 M20 h
      rw [lX6_receive_20] at h
      cases h
    | succ n ih20 =>
        have hj61 : ∀ (w61_2 : Int32) (w61_3 : Int32) (M61 : pf_M), jX6_receive_61 (lX6_receive_20 f20_1 n) w61_2 w61_3 M61 = some q → K 61 [pf_R 20 0, pf_I f20_1, pf_I w61_2, pf_I w61_3, pf_U] [] M61 := by
          intro w61_2 w61_3 M61 h
          unfold jX6_receive_61 at h
          refine r_iinc R 64 dX6_receive_61 rfl rfl ic_iconst_1 (show _ = [pf_R 20 0, pf_I f20_1, pf_I w61_2, pf_I (w61_3 + (1 : Int32)), pf_U] from rfl) ?_
          refine r_goto R 20 dX6_receive_64 (by decide) ?_
          exact ih20 _ _ _ h
        intro v20_2 v20_3 M20 h
        rw [lX6_receive_20] at h
        refine r_iload_n R 21 dX6_receive_20 rfl rfl ?_
        refine r_iconst R 22 dX6_receive_21 rfl ic_iconst_4 ?_
        refine r_icmp_ge R 25 67 dX6_receive_22 rfl (by decide) (fun hc => ?_) (fun hc => ?_)
        · have h := pf_ifp hc h
          refine r_iload_n R 68 dX6_receive_67 rfl rfl ?_
          obtain rfl := Option.some.inj h
          exact r_ireturn R dX6_receive_68 rfl rfl rfl rfl
        · have h := pf_ifn hc h
          refine r_aload_n R 26 dX6_receive_25 rfl rfl ?_
          refine r_getfield R 29 dX6_receive_26 rfl fl_X6_11 rfl (show _ = pf_R 21 0 from rfl) ?_
          refine r_iload_n R 30 dX6_receive_29 rfl rfl ?_
          obtain ⟨hi4, h⟩ := pf_gd h
          refine r_aaload R 31 dX6_receive_30 rfl rfl rfl rfl (pf_in_iff.mp hi4) ?_
          refine r_astore R 33 dX6_receive_31 rfl rfl (show _ = [pf_R 20 0, pf_I f20_1, pf_I v20_2, pf_I v20_3, pf_R 25 v20_3.toNatClampNeg] from rfl) ?_
          refine r_aload R 35 dX6_receive_33 rfl rfl ?_
          refine r_iload_n R 36 dX6_receive_35 rfl rfl ?_
          obtain ⟨q5, hq5, h⟩ := pf_bd h
          refine r_cvV1 R 39 dX6_receive_36 rfl lk_X6_117 rfl (c_X2_comeHome G v20_3.toNatClampNeg f20_1 M20 _ hq5) rfl rfl rfl ?_
          refine r_aload R 41 dX6_receive_39 rfl rfl ?_
          refine r_getfield R 44 dX6_receive_41 rfl fl_X6_42 rfl (show _ = pf_I (q5 25 v20_3.toNatClampNeg 0) from rfl) ?_
          refine r_if_eq R 47 61 dX6_receive_44 rfl (by decide) (fun hc => ?_) (fun hc => ?_)
          · have h := pf_ifp hc h
            refine r_fg R [true, true, true, true, false] (show _ = [pf_R 20 0, pf_I f20_1, pf_I v20_2, pf_I v20_3, pf_U] from rfl) ?_
            exact hj61 _ _ _ h
          · have h := pf_ifn hc h
            refine r_iload_n R 48 dX6_receive_47 rfl rfl ?_
            refine r_aload R 50 dX6_receive_48 rfl rfl ?_
            refine r_getfield R 53 dX6_receive_50 rfl fl_X6_121 rfl (show _ = pf_I (q5 25 v20_3.toNatClampNeg 8) from rfl) ?_
            refine r_iadd R 54 dX6_receive_53 rfl ?_
            refine r_istore_n R 55 dX6_receive_54 rfl rfl (show _ = [pf_R 20 0, pf_I f20_1, pf_I (v20_2 + (q5 25 v20_3.toNatClampNeg 8)), pf_I v20_3, pf_R 25 v20_3.toNatClampNeg] from rfl) ?_
            refine r_aload_n R 56 dX6_receive_55 rfl rfl ?_
            refine r_aload R 58 dX6_receive_56 rfl rfl ?_
            obtain ⟨q6, hq6, h⟩ := pf_bd h
            refine r_cvV1 R 61 dX6_receive_58 rfl lk_X6_124 rfl (c_X6_compare G v20_3.toNatClampNeg q5 _ hq6) rfl rfl rfl ?_
            refine r_fg R [true, true, true, true, false] (show _ = [pf_R 20 0, pf_I f20_1, pf_I (v20_2 + (q5 25 v20_3.toNatClampNeg 8)), pf_I v20_3, pf_U] from rfl) ?_
            exact hj61 _ _ _ h
  have hj15 : ∀ (s15_0 : Int32) (M15 : pf_M), jX6_receive_15 s15_0 M15 = some q → K 15 [pf_R 20 0, pf_U, pf_U, pf_U, pf_U] [pf_I s15_0] M15 := by
    intro s15_0 M15 h
    unfold jX6_receive_15 at h
    refine r_istore_n R 16 dX6_receive_15 rfl rfl (show _ = [pf_R 20 0, pf_I s15_0, pf_U, pf_U, pf_U] from rfl) ?_
    refine r_iconst R 17 dX6_receive_16 rfl ic_iconst_0 ?_
    refine r_istore_n R 18 dX6_receive_17 rfl rfl (show _ = [pf_R 20 0, pf_I s15_0, pf_I (0 : Int32), pf_U, pf_U] from rfl) ?_
    refine r_iconst R 19 dX6_receive_18 rfl ic_iconst_0 ?_
    refine r_istore_n R 20 dX6_receive_19 rfl rfl (show _ = [pf_R 20 0, pf_I s15_0, pf_I (0 : Int32), pf_I (0 : Int32), pf_U] from rfl) ?_
    exact hl20 _ pf_fu _ _ _ h
  unfold fX6_receive at h
  refine r_aload_n R 1 dX6_receive_0 rfl rfl ?_
  refine r_getfield R 4 dX6_receive_1 rfl fl_X6_24 rfl (show _ = pf_R 7 0 from rfl) ?_
  obtain ⟨r7, hr7, h⟩ := pf_bd h
  refine r_cvI0 R 7 dX6_receive_4 rfl lk_X6_114 rfl (c_X9_cutWires G M _ hr7) rfl rfl rfl ?_
  refine r_if_le R 10 14 dX6_receive_7 rfl (by decide) (fun hc => ?_) (fun hc => ?_)
  · have h := pf_ifp hc h
    refine r_iconst R 15 dX6_receive_14 rfl ic_iconst_0 ?_
    exact hj15 _ _ h
  · have h := pf_ifn hc h
    refine r_iconst R 11 dX6_receive_10 rfl ic_iconst_1 ?_
    refine r_goto R 15 dX6_receive_11 (by decide) ?_
    exact hj15 _ _ h
def lX6_sendFrame_2 (kx2 : pf_M → Option (Int32 × pf_M)) : Nat → Int32 → pf_M → Option (Int32 × pf_M)
  | 0, _, _ => none
  | n + 1, v2_1, M2 =>
  (if (4 : Int32) ≤ v2_1 then kx2 M2
  else (if pf_in v2_1 4 = true then (lX6_sendFrame_2 kx2 n) (v2_1 + (1 : Int32)) (fX2_leave v2_1.toNatClampNeg M2)
  else none))
def fX6_sendFrame (M : pf_M) : Option (Int32 × pf_M) :=
  lX6_sendFrame_2 (fun u6_Me2 => ((fX6_passA u6_Me2).bind fun q7 => ((fX6_passB q7).bind fun q8 => ((fX6_frameComesHome q8).bind fun q9 => (if q9.1 = (0 : Int32) then some ((-5 : Int32), q9.2)
  else ((fX6_receive q9.2).bind fun q10 => some (q10.1, q10.2))))))) pf_fu (0 : Int32) M
set_option maxRecDepth 4000 in
theorem c_X6_sendFrame (G : pf_G) (M : pf_M) (q : Int32 × pf_M) (h : fX6_sendFrame M = some q) : pf_Met G yX6_sendFrame cX6_sendFrame 2 (some .int) 5 119 [pf_R 20 0] M (some (pf_I q.1)) q.2 := by
  refine pf_Met.of (by decide +kernel) (Nat.le_of_ble_eq_true rfl) (fun K R => ?_)
  show K 0 [pf_R 20 0, pf_U] [] M
  have hl2 : ∀ (kx2 : pf_M → Option (Int32 × pf_M)), (∀ (Me2 : pf_M), kx2 Me2 = some q → K 22 [pf_R 20 0, pf_U] [] Me2) → ∀ (n : Nat) (v2_1 : Int32) (M2 : pf_M), lX6_sendFrame_2 kx2 n v2_1 M2 = some q → K 2 [pf_R 20 0, pf_I v2_1] [] M2 := by
    intro kx2 hkx2 n
    induction n with
    | zero =>
      intro v2_1 M2 h
      rw [lX6_sendFrame_2] at h
      cases h
    | succ n ih2 =>
        intro v2_1 M2 h
        rw [lX6_sendFrame_2] at h
        refine r_iload_n R 3 dX6_sendFrame_2 rfl rfl ?_
        refine r_iconst R 4 dX6_sendFrame_3 rfl ic_iconst_4 ?_
        refine r_icmp_ge R 7 22 dX6_sendFrame_4 rfl (by decide) (fun hc => ?_) (fun hc => ?_)
        · have h := pf_ifp hc h
          refine r_fg R [true, false] (show _ = [pf_R 20 0, pf_U] from rfl) ?_
          exact hkx2 _ h
        · have h := pf_ifn hc h
          refine r_aload_n R 8 dX6_sendFrame_7 rfl rfl ?_
          refine r_getfield R 11 dX6_sendFrame_8 rfl fl_X6_11 rfl (show _ = pf_R 21 0 from rfl) ?_
          refine r_iload_n R 12 dX6_sendFrame_11 rfl rfl ?_
          obtain ⟨hi5, h⟩ := pf_gd h
          refine r_aaload R 13 dX6_sendFrame_12 rfl rfl rfl rfl (pf_in_iff.mp hi5) ?_
          refine r_cvV0 R 16 dX6_sendFrame_13 rfl lk_X6_65 rfl (c_X2_leave G v2_1.toNatClampNeg M2 _ rfl) rfl rfl rfl ?_
          refine r_iinc R 19 dX6_sendFrame_16 rfl rfl ic_iconst_1 (show _ = [pf_R 20 0, pf_I (v2_1 + (1 : Int32))] from rfl) ?_
          refine r_goto R 2 dX6_sendFrame_19 (by decide) ?_
          exact ih2 _ _ h
  unfold fX6_sendFrame at h
  refine r_iconst R 1 dX6_sendFrame_0 rfl ic_iconst_0 ?_
  refine r_istore_n R 2 dX6_sendFrame_1 rfl rfl (show _ = [pf_R 20 0, pf_I (0 : Int32)] from rfl) ?_
  refine hl2 _ (fun u6_Me2 h => ?_) pf_fu _ _ h
  refine r_aload_n R 23 dX6_sendFrame_22 rfl rfl ?_
  obtain ⟨q7, hq7, h⟩ := pf_bd h
  refine r_cvV0 R 26 dX6_sendFrame_23 rfl lk_X6_68 rfl (c_X6_passA G u6_Me2 _ hq7) rfl rfl rfl ?_
  refine r_aload_n R 27 dX6_sendFrame_26 rfl rfl ?_
  obtain ⟨q8, hq8, h⟩ := pf_bd h
  refine r_cvV0 R 30 dX6_sendFrame_27 rfl lk_X6_71 rfl (c_X6_passB G q7 _ hq8) rfl rfl rfl ?_
  refine r_aload_n R 31 dX6_sendFrame_30 rfl rfl ?_
  obtain ⟨q9, hq9, h⟩ := pf_bd h
  refine r_cvI0 R 34 dX6_sendFrame_31 rfl lk_X6_74 rfl (c_X6_frameComesHome G q8 _ hq9) rfl rfl rfl ?_
  refine r_if_eq R 37 44 dX6_sendFrame_34 rfl (by decide) (fun hc => ?_) (fun hc => ?_)
  · have h := pf_ifp hc h
    refine r_bipush R 46 dX6_sendFrame_44 rfl ic_bipush_m5 ?_
    obtain rfl := Option.some.inj h
    exact r_ireturn R dX6_sendFrame_46 rfl rfl rfl rfl
  · have h := pf_ifn hc h
    refine r_aload_n R 38 dX6_sendFrame_37 rfl rfl ?_
    obtain ⟨q10, hq10, h⟩ := pf_bd h
    refine r_cvI0 R 41 dX6_sendFrame_38 rfl lk_X6_78 rfl (c_X6_receive G q9.2 _ hq10) rfl rfl rfl ?_
    refine r_goto R 46 dX6_sendFrame_41 (by decide) ?_
    obtain rfl := Option.some.inj h
    exact r_ireturn R dX6_sendFrame_46 rfl rfl rfl rfl
def fX11_send (M : pf_M) : Option (Int32 × pf_M) :=
  ((fX6_hasCommands M).bind fun r3 => (if r3 = (0 : Int32) then some ((-2 : Int32), M)
  else ((fX6_sendFrame M).bind fun q4 => some (q4.1, q4.2))))
set_option maxRecDepth 4000 in
theorem c_X11_send (G : pf_G) (M : pf_M) (q : Int32 × pf_M) (h : fX11_send M = some q) : pf_Met G yX11_send cX11_send 1 (some .int) 6 140 [pf_R 0 0] M (some (pf_I q.1)) q.2 := by
  refine pf_Met.of (by decide +kernel) (Nat.le_of_ble_eq_true rfl) (fun K R => ?_)
  show K 0 [pf_R 0 0] [] M
  unfold fX11_send at h
  refine r_aload_n R 1 dX11_send_0 rfl rfl ?_
  refine r_getfield R 4 dX11_send_1 rfl fl_X11_35 rfl (show _ = pf_R 20 0 from rfl) ?_
  obtain ⟨r3, hr3, h⟩ := pf_bd h
  refine r_cvI0 R 7 dX11_send_4 rfl lk_X11_182 rfl (c_X6_hasCommands G M _ hr3) rfl rfl rfl ?_
  refine r_if_eq R 10 20 dX11_send_7 rfl (by decide) (fun hc => ?_) (fun hc => ?_)
  · have h := pf_ifp hc h
    refine r_bipush R 22 dX11_send_20 rfl ic_bipush_m2 ?_
    obtain rfl := Option.some.inj h
    exact r_ireturn R dX11_send_22 rfl rfl rfl rfl
  · have h := pf_ifn hc h
    refine r_aload_n R 11 dX11_send_10 rfl rfl ?_
    refine r_getfield R 14 dX11_send_11 rfl fl_X11_35 rfl (show _ = pf_R 20 0 from rfl) ?_
    obtain ⟨q4, hq4, h⟩ := pf_bd h
    refine r_cvI0 R 17 dX11_send_14 rfl lk_X11_185 rfl (c_X6_sendFrame G M _ hq4) rfl rfl rfl ?_
    refine r_goto R 22 dX11_send_17 (by decide) ?_
    obtain rfl := Option.some.inj h
    exact r_ireturn R dX11_send_22 rfl rfl rfl rfl
def fX11_state (x1 : Int32) (x2 : Int32) (M : pf_M) : Option (Int32 × pf_M) :=
  ((fX9_find x1 M).bind fun r3 => (match r3 with
  | none => some ((-1 : Int32), M)
  | some i4 => (if (fX11_isWithin x2 (0 : Int32) (3 : Int32)) = (0 : Int32) then some ((-1 : Int32), M)
  else ((fX9_sideOf x1 M).bind fun r5 => (if r5 = (0 : Int32) then some ((-2 : Int32), M)
  else (if x2 = (M 11 i4 7) then some ((-2 : Int32), M)
  else (if x2 ≤ ((M 11 i4 7) + (1 : Int32)) then some (M 11 i4 7, (fX3_enter i4 x2 M))
  else some ((-2 : Int32), M))))))))
set_option maxRecDepth 4000 in
theorem c_X11_state (G : pf_G) (x1 : Int32) (x2 : Int32) (M : pf_M) (q : Int32 × pf_M) (h : fX11_state x1 x2 M = some q) : pf_Met G yX11_state cX11_state 5 (some .int) 3 61 [pf_R 0 0, pf_I x1, pf_I x2] M (some (pf_I q.1)) q.2 := by
  refine pf_Met.of (by decide +kernel) (Nat.le_of_ble_eq_true rfl) (fun K R => ?_)
  show K 0 [pf_R 0 0, pf_I x1, pf_I x2, pf_U, pf_U] [] M
  unfold fX11_state at h
  refine r_aload_n R 1 dX11_state_0 rfl rfl ?_
  refine r_getfield R 4 dX11_state_1 rfl fl_X11_19 rfl (show _ = pf_R 7 0 from rfl) ?_
  refine r_iload_n R 5 dX11_state_4 rfl rfl ?_
  obtain ⟨r3, hr3, h⟩ := pf_bd h
  refine r_cvQ1 R 8 dX11_state_5 rfl lk_X11_79 rfl (c_X9_find G x1 M _ hr3) rfl rfl rfl ?_
  refine r_astore_n R 9 dX11_state_8 rfl rfl (show _ = [pf_R 0 0, pf_I x1, pf_I x2, pf_Q 11 r3, pf_U] from rfl) ?_
  refine r_aload_n R 10 dX11_state_9 rfl rfl ?_
  cases r3 with
  | none =>
    refine r_ifnull_t R 22 dX11_state_10 (by decide) ?_
    refine r_iconst R 23 dX11_state_22 rfl ic_iconst_m1 ?_
    obtain rfl := Option.some.inj h
    exact r_ireturn R dX11_state_23 rfl rfl rfl rfl
  | some i4 =>
    refine r_ifnull_f R 13 22 dX11_state_10 rfl (by decide) ?_
    refine r_iload_n R 14 dX11_state_13 rfl rfl ?_
    refine r_iconst R 15 dX11_state_14 rfl ic_iconst_0 ?_
    refine r_iconst R 16 dX11_state_15 rfl ic_iconst_3 ?_
    refine r_csI3 R 19 dX11_state_16 rfl lk_X11_65 (c_X11_isWithin G x2 (0 : Int32) (3 : Int32) _ rfl) rfl rfl rfl ?_
    refine r_if_ne R 22 24 dX11_state_19 rfl (by decide) (fun hc => ?_) (fun hc => ?_)
    · have h := pf_ifp hc h
      refine r_iconst R 23 dX11_state_22 rfl ic_iconst_m1 ?_
      obtain rfl := Option.some.inj h
      exact r_ireturn R dX11_state_23 rfl rfl rfl rfl
    · have h := pf_ifn hc h
      refine r_aload_n R 25 dX11_state_24 rfl rfl ?_
      refine r_getfield R 28 dX11_state_25 rfl fl_X11_99 rfl (show _ = pf_I (M 11 i4 7) from rfl) ?_
      refine r_istore R 30 dX11_state_28 rfl rfl (show _ = [pf_R 0 0, pf_I x1, pf_I x2, pf_R 11 i4, pf_I (M 11 i4 7)] from rfl) ?_
      refine r_aload_n R 31 dX11_state_30 rfl rfl ?_
      refine r_getfield R 34 dX11_state_31 rfl fl_X11_19 rfl (show _ = pf_R 7 0 from rfl) ?_
      refine r_iload_n R 35 dX11_state_34 rfl rfl ?_
      obtain ⟨r5, hr5, h⟩ := pf_bd h
      refine r_cvI1 R 38 dX11_state_35 rfl lk_X11_102 rfl (c_X9_sideOf G x1 M _ hr5) rfl rfl rfl ?_
      refine r_if_eq R 41 55 dX11_state_38 rfl (by decide) (fun hc => ?_) (fun hc => ?_)
      · have h := pf_ifp hc h
        refine r_bipush R 57 dX11_state_55 rfl ic_bipush_m2 ?_
        obtain rfl := Option.some.inj h
        exact r_ireturn R dX11_state_57 rfl rfl rfl rfl
      · have h := pf_ifn hc h
        refine r_iload_n R 42 dX11_state_41 rfl rfl ?_
        refine r_iload R 44 dX11_state_42 rfl rfl ?_
        refine r_icmp_eq R 47 55 dX11_state_44 rfl (by decide) (fun hc => ?_) (fun hc => ?_)
        · have h := pf_ifp hc h
          refine r_bipush R 57 dX11_state_55 rfl ic_bipush_m2 ?_
          obtain rfl := Option.some.inj h
          exact r_ireturn R dX11_state_57 rfl rfl rfl rfl
        · have h := pf_ifn hc h
          refine r_iload_n R 48 dX11_state_47 rfl rfl ?_
          refine r_iload R 50 dX11_state_48 rfl rfl ?_
          refine r_iconst R 51 dX11_state_50 rfl ic_iconst_1 ?_
          refine r_iadd R 52 dX11_state_51 rfl ?_
          refine r_icmp_le R 55 58 dX11_state_52 rfl (by decide) (fun hc => ?_) (fun hc => ?_)
          · have h := pf_ifp hc h
            refine r_aload_n R 59 dX11_state_58 rfl rfl ?_
            refine r_iload_n R 60 dX11_state_59 rfl rfl ?_
            refine r_cvV1 R 63 dX11_state_60 rfl lk_X11_130 rfl (c_X3_enter G i4 x2 M _ rfl) rfl rfl rfl ?_
            refine r_iload R 65 dX11_state_63 rfl rfl ?_
            obtain rfl := Option.some.inj h
            exact r_ireturn R dX11_state_65 rfl rfl rfl rfl
          · have h := pf_ifn hc h
            refine r_bipush R 57 dX11_state_55 rfl ic_bipush_m2 ?_
            obtain rfl := Option.some.inj h
            exact r_ireturn R dX11_state_57 rfl rfl rfl rfl
def lX1_correct_43 (x1 : Int32) (f43_2 : Int32) (f43_3 : Int32) (kx43 : Int32 → pf_M → Option (Int32 × pf_M)) : Nat → Int32 → Int32 → pf_M → Option (Int32 × pf_M)
  | 0, _, _, _ => none
  | n + 1, v43_4, v43_5, M43 =>
  (if f43_2 ≤ v43_5 then kx43 v43_4 M43
  else (if pf_in v43_5 8 = true then ((fX9_timeOnA v43_5 M43).bind fun r8 => ((fX3_systemClock v43_5.toNatClampNeg r8 M43).bind fun r9 => (lX1_correct_43 x1 f43_2 f43_3 kx43 n) (fJ9_max_7cf53 v43_4 (fJ9_abs_0f7a4 ((f43_3 + (M43 11 v43_5.toNatClampNeg 9)) - r9))) (v43_5 + (1 : Int32)) (pf_up M43 11 v43_5.toNatClampNeg 8 ((M43 11 v43_5.toNatClampNeg 8) + (fJ9_max_7cf53 (-x1) (fJ9_min_7cf53 x1 ((f43_3 + (M43 11 v43_5.toNatClampNeg 9)) - r9)))))))
  else none))
def fX1_correct (x1 : Int32) (M : pf_M) : Option (Int32 × pf_M) :=
  ((fX9_sizeOfA M).bind fun r10 => (if (2 : Int32) ≤ r10 then ((fX9_timeOnA (0 : Int32) M).bind fun r11 => ((fX3_systemClock ((0 : Int32).toNatClampNeg) r11 M).bind fun r12 => lX1_correct_43 x1 r10 r12 (fun u13_e43_4 u13_Me43 => ((fX9_trip u13_Me43).bind fun r14 => some (u13_e43_4, (fX9_passTime r14 u13_Me43)))) pf_fu (0 : Int32) (1 : Int32) M))
  else some ((-2 : Int32), M)))
set_option maxRecDepth 4000 in
theorem c_X1_correct (G : pf_G) (x1 : Int32) (M : pf_M) (q : Int32 × pf_M) (h : fX1_correct x1 M = some q) : pf_Met G yX1_correct cX1_correct 8 (some .int) 3 67 [pf_R 17 0, pf_I x1] M (some (pf_I q.1)) q.2 := by
  refine pf_Met.of (by decide +kernel) (Nat.le_of_ble_eq_true rfl) (fun K R => ?_)
  show K 0 [pf_R 17 0, pf_I x1, pf_U, pf_U, pf_U, pf_U, pf_U, pf_U] [] M
  have hl43 : ∀ (f43_2 : Int32) (f43_3 : Int32), ∀ (kx43 : Int32 → pf_M → Option (Int32 × pf_M)), (∀ (e43_4 : Int32) (Me43 : pf_M), kx43 e43_4 Me43 = some q → K 124 [pf_R 17 0, pf_U, pf_U, pf_U, pf_I e43_4, pf_U, pf_U, pf_U] [] Me43) → ∀ (n : Nat) (v43_4 : Int32) (v43_5 : Int32) (M43 : pf_M), lX1_correct_43 x1 f43_2 f43_3 kx43 n v43_4 v43_5 M43 = some q → K 43 [pf_R 17 0, pf_I x1, pf_I f43_2, pf_I f43_3, pf_I v43_4, pf_I v43_5, pf_U, pf_U] [] M43 := by
    intro f43_2 f43_3 kx43 hkx43 n
    induction n with
    | zero =>
      intro v43_4 v43_5 M43 h
      rw [lX1_correct_43] at h
      cases h
    | succ n ih43 =>
        intro v43_4 v43_5 M43 h
        rw [lX1_correct_43] at h
        refine r_iload R 45 dX1_correct_43 rfl rfl ?_
        refine r_iload_n R 46 dX1_correct_45 rfl rfl ?_
        refine r_icmp_ge R 49 124 dX1_correct_46 rfl (by decide) (fun hc => ?_) (fun hc => ?_)
        · have h := pf_ifp hc h
          refine r_fg R [true, false, false, false, true, false, true, true] (show _ = [pf_R 17 0, pf_U, pf_U, pf_U, pf_I v43_4, pf_U, pf_U, pf_U] from rfl) ?_
          exact hkx43 _ _ h
        · have h := pf_ifn hc h
          refine r_aload_n R 50 dX1_correct_49 rfl rfl ?_
          refine r_getfield R 53 dX1_correct_50 rfl fl_X1_18 rfl (show _ = pf_R 7 0 from rfl) ?_
          refine r_getfield R 56 dX1_correct_53 rfl fl_X1_52 rfl (show _ = pf_R 8 0 from rfl) ?_
          refine r_iload R 58 dX1_correct_56 rfl rfl ?_
          obtain ⟨hi7, h⟩ := pf_gd h
          refine r_aaload R 59 dX1_correct_58 rfl rfl rfl rfl (pf_in_iff.mp hi7) ?_
          refine r_astore R 61 dX1_correct_59 rfl rfl (show _ = [pf_R 17 0, pf_I x1, pf_I f43_2, pf_I f43_3, pf_I v43_4, pf_I v43_5, pf_R 11 v43_5.toNatClampNeg, pf_U] from rfl) ?_
          refine r_iload_n R 62 dX1_correct_61 rfl rfl ?_
          refine r_aload R 64 dX1_correct_62 rfl rfl ?_
          refine r_getfield R 67 dX1_correct_64 rfl fl_X1_56 rfl (show _ = pf_I (M43 11 v43_5.toNatClampNeg 9) from rfl) ?_
          refine r_iadd R 68 dX1_correct_67 rfl ?_
          refine r_aload R 70 dX1_correct_68 rfl rfl ?_
          refine r_aload_n R 71 dX1_correct_70 rfl rfl ?_
          refine r_getfield R 74 dX1_correct_71 rfl fl_X1_18 rfl (show _ = pf_R 7 0 from rfl) ?_
          refine r_iload R 76 dX1_correct_74 rfl rfl ?_
          obtain ⟨r8, hr8, h⟩ := pf_bd h
          refine r_cvI1 R 79 dX1_correct_76 rfl lk_X1_65 rfl (c_X9_timeOnA G v43_5 M43 _ hr8) rfl rfl rfl ?_
          obtain ⟨r9, hr9, h⟩ := pf_bd h
          refine r_cvI1 R 82 dX1_correct_79 rfl lk_X1_85 rfl (c_X3_systemClock G v43_5.toNatClampNeg r8 M43 _ hr9) rfl rfl rfl ?_
          refine r_isub R 83 dX1_correct_82 rfl ?_
          refine r_istore R 85 dX1_correct_83 rfl rfl (show _ = [pf_R 17 0, pf_I x1, pf_I f43_2, pf_I f43_3, pf_I v43_4, pf_I v43_5, pf_R 11 v43_5.toNatClampNeg, pf_I ((f43_3 + (M43 11 v43_5.toNatClampNeg 9)) - r9)] from rfl) ?_
          refine r_aload R 87 dX1_correct_85 rfl rfl ?_
          refine r_dup R 88 dX1_correct_87 rfl rfl ?_
          refine r_getfield R 91 dX1_correct_88 rfl fl_X1_82 rfl (show _ = pf_I (M43 11 v43_5.toNatClampNeg 8) from rfl) ?_
          refine r_iload_n R 92 dX1_correct_91 rfl rfl ?_
          refine r_ineg R 93 dX1_correct_92 rfl ?_
          refine r_iload_n R 94 dX1_correct_93 rfl rfl ?_
          refine r_iload R 96 dX1_correct_94 rfl rfl ?_
          refine r_csI2 R 99 dX1_correct_96 rfl lk_X1_88 (c_J9_min_7cf53 G x1 ((f43_3 + (M43 11 v43_5.toNatClampNeg 9)) - r9) _ rfl) rfl rfl rfl ?_
          refine r_csI2 R 102 dX1_correct_99 rfl lk_X1_74 (c_J9_max_7cf53 G (-x1) (fJ9_min_7cf53 x1 ((f43_3 + (M43 11 v43_5.toNatClampNeg 9)) - r9)) _ rfl) rfl rfl rfl ?_
          refine r_iadd R 103 dX1_correct_102 rfl ?_
          refine r_putfield R 106 dX1_correct_103 rfl fl_X1_82 rfl rfl rfl rfl ?_
          refine r_iload R 108 dX1_correct_106 rfl rfl ?_
          refine r_iload R 110 dX1_correct_108 rfl rfl ?_
          refine r_csI1 R 113 dX1_correct_110 rfl lk_X1_91 (c_J9_abs_0f7a4 G ((f43_3 + (M43 11 v43_5.toNatClampNeg 9)) - r9) _ rfl) rfl rfl rfl ?_
          refine r_csI2 R 116 dX1_correct_113 rfl lk_X1_74 (c_J9_max_7cf53 G v43_4 (fJ9_abs_0f7a4 ((f43_3 + (M43 11 v43_5.toNatClampNeg 9)) - r9)) _ rfl) rfl rfl rfl ?_
          refine r_istore R 118 dX1_correct_116 rfl rfl (show _ = [pf_R 17 0, pf_I x1, pf_I f43_2, pf_I f43_3, pf_I (fJ9_max_7cf53 v43_4 (fJ9_abs_0f7a4 ((f43_3 + (M43 11 v43_5.toNatClampNeg 9)) - r9))), pf_I v43_5, pf_R 11 v43_5.toNatClampNeg, pf_I ((f43_3 + (M43 11 v43_5.toNatClampNeg 9)) - r9)] from rfl) ?_
          refine r_iinc R 121 dX1_correct_118 rfl rfl ic_iconst_1 (show _ = [pf_R 17 0, pf_I x1, pf_I f43_2, pf_I f43_3, pf_I (fJ9_max_7cf53 v43_4 (fJ9_abs_0f7a4 ((f43_3 + (M43 11 v43_5.toNatClampNeg 9)) - r9))), pf_I (v43_5 + (1 : Int32)), pf_R 11 v43_5.toNatClampNeg, pf_I ((f43_3 + (M43 11 v43_5.toNatClampNeg 9)) - r9)] from rfl) ?_
          refine r_goto R 43 dX1_correct_121 (by decide) ?_
          refine r_fg R [true, true, true, true, true, true, false, false] (show _ = [pf_R 17 0, pf_I x1, pf_I f43_2, pf_I f43_3, pf_I (fJ9_max_7cf53 v43_4 (fJ9_abs_0f7a4 ((f43_3 + (M43 11 v43_5.toNatClampNeg 9)) - r9))), pf_I (v43_5 + (1 : Int32)), pf_U, pf_U] from rfl) ?_
          exact ih43 _ _ _ h
  unfold fX1_correct at h
  refine r_aload_n R 1 dX1_correct_0 rfl rfl ?_
  refine r_getfield R 4 dX1_correct_1 rfl fl_X1_18 rfl (show _ = pf_R 7 0 from rfl) ?_
  obtain ⟨r10, hr10, h⟩ := pf_bd h
  refine r_cvI0 R 7 dX1_correct_4 rfl lk_X1_22 rfl (c_X9_sizeOfA G M _ hr10) rfl rfl rfl ?_
  refine r_istore_n R 8 dX1_correct_7 rfl rfl (show _ = [pf_R 17 0, pf_I x1, pf_I r10, pf_U, pf_U, pf_U, pf_U, pf_U] from rfl) ?_
  refine r_iload_n R 9 dX1_correct_8 rfl rfl ?_
  refine r_iconst R 10 dX1_correct_9 rfl ic_iconst_2 ?_
  refine r_icmp_ge R 13 16 dX1_correct_10 rfl (by decide) (fun hc => ?_) (fun hc => ?_)
  · have h := pf_ifp hc h
    refine r_aload_n R 17 dX1_correct_16 rfl rfl ?_
    refine r_getfield R 20 dX1_correct_17 rfl fl_X1_18 rfl (show _ = pf_R 7 0 from rfl) ?_
    refine r_getfield R 23 dX1_correct_20 rfl fl_X1_52 rfl (show _ = pf_R 8 0 from rfl) ?_
    refine r_iconst R 24 dX1_correct_23 rfl ic_iconst_0 ?_
    refine r_aaload R 25 dX1_correct_24 rfl rfl rfl rfl (pf_in_iff.mp (by decide)) ?_
    refine r_aload_n R 26 dX1_correct_25 rfl rfl ?_
    refine r_getfield R 29 dX1_correct_26 rfl fl_X1_18 rfl (show _ = pf_R 7 0 from rfl) ?_
    refine r_iconst R 30 dX1_correct_29 rfl ic_iconst_0 ?_
    obtain ⟨r11, hr11, h⟩ := pf_bd h
    refine r_cvI1 R 33 dX1_correct_30 rfl lk_X1_65 rfl (c_X9_timeOnA G (0 : Int32) M _ hr11) rfl rfl rfl ?_
    obtain ⟨r12, hr12, h⟩ := pf_bd h
    refine r_cvI1 R 36 dX1_correct_33 rfl lk_X1_85 rfl (c_X3_systemClock G ((0 : Int32).toNatClampNeg) r11 M _ hr12) rfl rfl rfl ?_
    refine r_istore_n R 37 dX1_correct_36 rfl rfl (show _ = [pf_R 17 0, pf_I x1, pf_I r10, pf_I r12, pf_U, pf_U, pf_U, pf_U] from rfl) ?_
    refine r_iconst R 38 dX1_correct_37 rfl ic_iconst_0 ?_
    refine r_istore R 40 dX1_correct_38 rfl rfl (show _ = [pf_R 17 0, pf_I x1, pf_I r10, pf_I r12, pf_I (0 : Int32), pf_U, pf_U, pf_U] from rfl) ?_
    refine r_iconst R 41 dX1_correct_40 rfl ic_iconst_1 ?_
    refine r_istore R 43 dX1_correct_41 rfl rfl (show _ = [pf_R 17 0, pf_I x1, pf_I r10, pf_I r12, pf_I (0 : Int32), pf_I (1 : Int32), pf_U, pf_U] from rfl) ?_
    refine hl43 _ _ _ (fun u13_e43_4 u13_Me43 h => ?_) pf_fu _ _ _ h
    refine r_aload_n R 125 dX1_correct_124 rfl rfl ?_
    refine r_getfield R 128 dX1_correct_125 rfl fl_X1_18 rfl (show _ = pf_R 7 0 from rfl) ?_
    refine r_aload_n R 129 dX1_correct_128 rfl rfl ?_
    refine r_getfield R 132 dX1_correct_129 rfl fl_X1_18 rfl (show _ = pf_R 7 0 from rfl) ?_
    obtain ⟨r14, hr14, h⟩ := pf_bd h
    refine r_cvI0 R 135 dX1_correct_132 rfl lk_X1_94 rfl (c_X9_trip G u13_Me43 _ hr14) rfl rfl rfl ?_
    refine r_cvV1 R 138 dX1_correct_135 rfl lk_X1_49 rfl (c_X9_passTime G r14 u13_Me43 _ rfl) rfl rfl rfl ?_
    refine r_iload R 140 dX1_correct_138 rfl rfl ?_
    obtain rfl := Option.some.inj h
    exact r_ireturn R dX1_correct_140 rfl rfl rfl rfl
  · have h := pf_ifn hc h
    refine r_bipush R 15 dX1_correct_13 rfl ic_bipush_m2 ?_
    obtain rfl := Option.some.inj h
    exact r_ireturn R dX1_correct_15 rfl rfl rfl rfl
def fX11_steer (x1 : Int32) (M : pf_M) : Option (Int32 × pf_M) :=
  (if (fX11_isWithin x1 (1 : Int32) (99 : Int32)) = (0 : Int32) then some ((-1 : Int32), M)
  else ((fX1_correct x1 M).bind fun q2 => some (q2.1, q2.2)))
set_option maxRecDepth 4000 in
theorem c_X11_steer (G : pf_G) (x1 : Int32) (M : pf_M) (q : Int32 × pf_M) (h : fX11_steer x1 M = some q) : pf_Met G yX11_steer cX11_steer 2 (some .int) 4 94 [pf_R 0 0, pf_I x1] M (some (pf_I q.1)) q.2 := by
  refine pf_Met.of (by decide +kernel) (Nat.le_of_ble_eq_true rfl) (fun K R => ?_)
  show K 0 [pf_R 0 0, pf_I x1] [] M
  unfold fX11_steer at h
  refine r_iload_n R 1 dX11_steer_0 rfl rfl ?_
  refine r_iconst R 2 dX11_steer_1 rfl ic_iconst_1 ?_
  refine r_bipush R 4 dX11_steer_2 rfl ic_bipush_99 ?_
  refine r_csI3 R 7 dX11_steer_4 rfl lk_X11_65 (c_X11_isWithin G x1 (1 : Int32) (99 : Int32) _ rfl) rfl rfl rfl ?_
  refine r_if_eq R 10 21 dX11_steer_7 rfl (by decide) (fun hc => ?_) (fun hc => ?_)
  · have h := pf_ifp hc h
    refine r_iconst R 22 dX11_steer_21 rfl ic_iconst_m1 ?_
    obtain rfl := Option.some.inj h
    exact r_ireturn R dX11_steer_22 rfl rfl rfl rfl
  · have h := pf_ifn hc h
    refine r_aload_n R 11 dX11_steer_10 rfl rfl ?_
    refine r_getfield R 14 dX11_steer_11 rfl fl_X11_28 rfl (show _ = pf_R 17 0 from rfl) ?_
    refine r_iload_n R 15 dX11_steer_14 rfl rfl ?_
    obtain ⟨q2, hq2, h⟩ := pf_bd h
    refine r_cvI1 R 18 dX11_steer_15 rfl lk_X11_259 rfl (c_X1_correct G x1 M _ hq2) rfl rfl rfl ?_
    refine r_goto R 22 dX11_steer_18 (by decide) ?_
    obtain rfl := Option.some.inj h
    exact r_ireturn R dX11_steer_22 rfl rfl rfl rfl
def fX11_take (x1 : Int32) (M : pf_M) : Option (Int32 × pf_M) :=
  ((fX9_find x1 M).bind fun r3 => (match r3 with
  | none => some ((-1 : Int32), M)
  | some i4 => ((fX8_removeOldest (2 * i4 + 1) M).bind fun q5 => (if q5.1 = (0 : Int32) then some ((-4 : Int32), q5.2)
  else some (q5.1, q5.2)))))
set_option maxRecDepth 4000 in
theorem c_X11_take (G : pf_G) (x1 : Int32) (M : pf_M) (q : Int32 × pf_M) (h : fX11_take x1 M = some q) : pf_Met G yX11_take cX11_take 4 (some .int) 1 22 [pf_R 0 0, pf_I x1] M (some (pf_I q.1)) q.2 := by
  refine pf_Met.of (by decide +kernel) (Nat.le_of_ble_eq_true rfl) (fun K R => ?_)
  show K 0 [pf_R 0 0, pf_I x1, pf_U, pf_U] [] M
  unfold fX11_take at h
  refine r_aload_n R 1 dX11_take_0 rfl rfl ?_
  refine r_getfield R 4 dX11_take_1 rfl fl_X11_19 rfl (show _ = pf_R 7 0 from rfl) ?_
  refine r_iload_n R 5 dX11_take_4 rfl rfl ?_
  obtain ⟨r3, hr3, h⟩ := pf_bd h
  refine r_cvQ1 R 8 dX11_take_5 rfl lk_X11_79 rfl (c_X9_find G x1 M _ hr3) rfl rfl rfl ?_
  refine r_astore_n R 9 dX11_take_8 rfl rfl (show _ = [pf_R 0 0, pf_I x1, pf_Q 11 r3, pf_U] from rfl) ?_
  refine r_aload_n R 10 dX11_take_9 rfl rfl ?_
  cases r3 with
  | none =>
    refine r_ifnonnull_f R 13 15 dX11_take_10 rfl (by decide) ?_
    refine r_iconst R 14 dX11_take_13 rfl ic_iconst_m1 ?_
    obtain rfl := Option.some.inj h
    exact r_ireturn R dX11_take_14 rfl rfl rfl rfl
  | some i4 =>
    refine r_ifnonnull_t R 15 dX11_take_10 (by decide) ?_
    refine r_aload_n R 16 dX11_take_15 rfl rfl ?_
    refine r_getfield R 19 dX11_take_16 rfl fl_X11_204 rfl (show _ = pf_R 14 i4 from rfl) ?_
    refine r_getfield R 22 dX11_take_19 rfl fl_X11_219 rfl (show _ = pf_R 15 (2 * i4 + 1) from rfl) ?_
    obtain ⟨q5, hq5, h⟩ := pf_bd h
    refine r_cvI0 R 25 dX11_take_22 rfl lk_X11_222 rfl (c_X8_removeOldest G (2 * i4 + 1) M _ hq5) rfl rfl rfl ?_
    refine r_istore_n R 26 dX11_take_25 rfl rfl (show _ = [pf_R 0 0, pf_I x1, pf_R 11 i4, pf_I q5.1] from rfl) ?_
    refine r_iload_n R 27 dX11_take_26 rfl rfl ?_
    refine r_if_ne R 30 35 dX11_take_27 rfl (by decide) (fun hc => ?_) (fun hc => ?_)
    · have h := pf_ifp hc h
      refine r_bipush R 32 dX11_take_30 rfl ic_bipush_m4 ?_
      refine r_goto R 36 dX11_take_32 (by decide) ?_
      obtain rfl := Option.some.inj h
      exact r_ireturn R dX11_take_36 rfl rfl rfl rfl
    · have h := pf_ifn hc h
      refine r_iload_n R 36 dX11_take_35 rfl rfl ?_
      obtain rfl := Option.some.inj h
      exact r_ireturn R dX11_take_36 rfl rfl rfl rfl
def fX11_tell (x1 : Int32) (x2 : Int32) (M : pf_M) : Option (Int32 × pf_M) :=
  ((fX9_find x1 M).bind fun r3 => (match r3 with
  | none => some ((-1 : Int32), M)
  | some i4 => (if (fX11_isMessage x2) = (0 : Int32) then some ((-1 : Int32), M)
  else ((fX8_append (2 * i4) x2 M).bind fun q5 => (if q5.1 = (0 : Int32) then some ((-3 : Int32), q5.2)
  else some (fX8_size (2 * i4) q5.2, q5.2))))))
set_option maxRecDepth 4000 in
theorem c_X11_tell (G : pf_G) (x1 : Int32) (x2 : Int32) (M : pf_M) (q : Int32 × pf_M) (h : fX11_tell x1 x2 M = some q) : pf_Met G yX11_tell cX11_tell 4 (some .int) 2 42 [pf_R 0 0, pf_I x1, pf_I x2] M (some (pf_I q.1)) q.2 := by
  refine pf_Met.of (by decide +kernel) (Nat.le_of_ble_eq_true rfl) (fun K R => ?_)
  show K 0 [pf_R 0 0, pf_I x1, pf_I x2, pf_U] [] M
  unfold fX11_tell at h
  refine r_aload_n R 1 dX11_tell_0 rfl rfl ?_
  refine r_getfield R 4 dX11_tell_1 rfl fl_X11_19 rfl (show _ = pf_R 7 0 from rfl) ?_
  refine r_iload_n R 5 dX11_tell_4 rfl rfl ?_
  obtain ⟨r3, hr3, h⟩ := pf_bd h
  refine r_cvQ1 R 8 dX11_tell_5 rfl lk_X11_79 rfl (c_X9_find G x1 M _ hr3) rfl rfl rfl ?_
  refine r_astore_n R 9 dX11_tell_8 rfl rfl (show _ = [pf_R 0 0, pf_I x1, pf_I x2, pf_Q 11 r3] from rfl) ?_
  refine r_aload_n R 10 dX11_tell_9 rfl rfl ?_
  cases r3 with
  | none =>
    refine r_ifnull_t R 20 dX11_tell_10 (by decide) ?_
    refine r_iconst R 21 dX11_tell_20 rfl ic_iconst_m1 ?_
    obtain rfl := Option.some.inj h
    exact r_ireturn R dX11_tell_21 rfl rfl rfl rfl
  | some i4 =>
    refine r_ifnull_f R 13 20 dX11_tell_10 rfl (by decide) ?_
    refine r_iload_n R 14 dX11_tell_13 rfl rfl ?_
    refine r_csI1 R 17 dX11_tell_14 rfl lk_X11_201 (c_X11_isMessage G x2 _ rfl) rfl rfl rfl ?_
    refine r_if_ne R 20 22 dX11_tell_17 rfl (by decide) (fun hc => ?_) (fun hc => ?_)
    · have h := pf_ifp hc h
      refine r_iconst R 21 dX11_tell_20 rfl ic_iconst_m1 ?_
      obtain rfl := Option.some.inj h
      exact r_ireturn R dX11_tell_21 rfl rfl rfl rfl
    · have h := pf_ifn hc h
      refine r_aload_n R 23 dX11_tell_22 rfl rfl ?_
      refine r_getfield R 26 dX11_tell_23 rfl fl_X11_204 rfl (show _ = pf_R 14 i4 from rfl) ?_
      refine r_getfield R 29 dX11_tell_26 rfl fl_X11_208 rfl (show _ = pf_R 15 (2 * i4) from rfl) ?_
      refine r_iload_n R 30 dX11_tell_29 rfl rfl ?_
      obtain ⟨q5, hq5, h⟩ := pf_bd h
      refine r_cvI1 R 33 dX11_tell_30 rfl lk_X11_214 rfl (c_X8_append G (2 * i4) x2 M _ hq5) rfl rfl rfl ?_
      refine r_if_eq R 36 49 dX11_tell_33 rfl (by decide) (fun hc => ?_) (fun hc => ?_)
      · have h := pf_ifp hc h
        refine r_bipush R 51 dX11_tell_49 rfl ic_bipush_m3 ?_
        obtain rfl := Option.some.inj h
        exact r_ireturn R dX11_tell_51 rfl rfl rfl rfl
      · have h := pf_ifn hc h
        refine r_aload_n R 37 dX11_tell_36 rfl rfl ?_
        refine r_getfield R 40 dX11_tell_37 rfl fl_X11_204 rfl (show _ = pf_R 14 i4 from rfl) ?_
        refine r_getfield R 43 dX11_tell_40 rfl fl_X11_208 rfl (show _ = pf_R 15 (2 * i4) from rfl) ?_
        refine r_cvI0 R 46 dX11_tell_43 rfl lk_X11_218 rfl (c_X8_size G (2 * i4) q5.2 _ rfl) rfl rfl rfl ?_
        refine r_goto R 51 dX11_tell_46 (by decide) ?_
        obtain rfl := Option.some.inj h
        exact r_ireturn R dX11_tell_51 rfl rfl rfl rfl
def fX11_unmap (x1 : Int32) (x2 : Int32) (M : pf_M) : Option (Int32 × pf_M) :=
  ((fX11_findOverlay x1 x2 M).bind fun r2 => (match r2 with
  | none => some ((-1 : Int32), M)
  | some i3 => (if (fX7_exists i3 M) = (0 : Int32) then some ((-2 : Int32), M)
  else some ((1 : Int32), (fX7_remove i3 M)))))
set_option maxRecDepth 4000 in
theorem c_X11_unmap (G : pf_G) (x1 : Int32) (x2 : Int32) (M : pf_M) (q : Int32 × pf_M) (h : fX11_unmap x1 x2 M = some q) : pf_Met G yX11_unmap cX11_unmap 4 (some .int) 2 45 [pf_R 0 0, pf_I x1, pf_I x2] M (some (pf_I q.1)) q.2 := by
  refine pf_Met.of (by decide +kernel) (Nat.le_of_ble_eq_true rfl) (fun K R => ?_)
  show K 0 [pf_R 0 0, pf_I x1, pf_I x2, pf_U] [] M
  unfold fX11_unmap at h
  refine r_aload_n R 1 dX11_unmap_0 rfl rfl ?_
  refine r_iload_n R 2 dX11_unmap_1 rfl rfl ?_
  refine r_iload_n R 3 dX11_unmap_2 rfl rfl ?_
  obtain ⟨r2, hr2, h⟩ := pf_bd h
  refine r_cvQ2 R 6 dX11_unmap_3 rfl lk_X11_133 rfl (c_X11_findOverlay G x1 x2 M _ hr2) rfl rfl rfl ?_
  refine r_astore_n R 7 dX11_unmap_6 rfl rfl (show _ = [pf_R 0 0, pf_I x1, pf_I x2, pf_Q 13 r2] from rfl) ?_
  refine r_aload_n R 8 dX11_unmap_7 rfl rfl ?_
  cases r2 with
  | none =>
    refine r_ifnonnull_f R 11 13 dX11_unmap_8 rfl (by decide) ?_
    refine r_iconst R 12 dX11_unmap_11 rfl ic_iconst_m1 ?_
    obtain rfl := Option.some.inj h
    exact r_ireturn R dX11_unmap_12 rfl rfl rfl rfl
  | some i3 =>
    refine r_ifnonnull_t R 13 dX11_unmap_8 (by decide) ?_
    refine r_aload_n R 14 dX11_unmap_13 rfl rfl ?_
    refine r_cvI0 R 17 dX11_unmap_14 rfl lk_X11_141 rfl (c_X7_exists G i3 M _ rfl) rfl rfl rfl ?_
    refine r_if_ne R 20 23 dX11_unmap_17 rfl (by decide) (fun hc => ?_) (fun hc => ?_)
    · have h := pf_ifp hc h
      refine r_bipush R 22 dX11_unmap_20 rfl ic_bipush_m2 ?_
      obtain rfl := Option.some.inj h
      exact r_ireturn R dX11_unmap_22 rfl rfl rfl rfl
    · have h := pf_ifn hc h
      refine r_aload_n R 24 dX11_unmap_23 rfl rfl ?_
      refine r_cvV0 R 27 dX11_unmap_24 rfl lk_X11_151 rfl (c_X7_remove G i3 M _ rfl) rfl rfl rfl ?_
      refine r_iconst R 28 dX11_unmap_27 rfl ic_iconst_1 ?_
      obtain rfl := Option.some.inj h
      exact r_ireturn R dX11_unmap_28 rfl rfl rfl rfl
def fX11_wipe (M : pf_M) : Int32 × pf_M :=
  (fX10_length M, (fX10_empty M))
set_option maxRecDepth 4000 in
theorem c_X11_wipe (G : pf_G) (M : pf_M) (q : Int32 × pf_M) (h : fX11_wipe M = q) : pf_Met G yX11_wipe cX11_wipe 2 (some .int) 1 20 [pf_R 0 0] M (some (pf_I q.1)) q.2 := by
  refine pf_Met.of (by decide +kernel) (Nat.le_of_ble_eq_true rfl) (fun K R => ?_)
  show K 0 [pf_R 0 0, pf_U] [] M
  unfold fX11_wipe at h
  refine r_aload_n R 1 dX11_wipe_0 rfl rfl ?_
  refine r_getfield R 4 dX11_wipe_1 rfl fl_X11_10 rfl (show _ = pf_R 1 0 from rfl) ?_
  refine r_cvI0 R 7 dX11_wipe_4 rfl lk_X11_69 rfl (c_X10_length G M _ rfl) rfl rfl rfl ?_
  refine r_istore_n R 8 dX11_wipe_7 rfl rfl (show _ = [pf_R 0 0, pf_I (fX10_length M)] from rfl) ?_
  refine r_aload_n R 9 dX11_wipe_8 rfl rfl ?_
  refine r_getfield R 12 dX11_wipe_9 rfl fl_X11_10 rfl (show _ = pf_R 1 0 from rfl) ?_
  refine r_cvV0 R 15 dX11_wipe_12 rfl lk_X11_62 rfl (c_X10_empty G M _ rfl) rfl rfl rfl ?_
  refine r_iload_n R 16 dX11_wipe_15 rfl rfl ?_
  subst h
  exact r_ireturn R dX11_wipe_16 rfl rfl rfl rfl
def fX11_write (x1 : Int32) (M : pf_M) : Option (Int32 × pf_M) :=
  (if (fX11_isWithin x1 (32 : Int32) (126 : Int32)) = (0 : Int32) then some ((-1 : Int32), M)
  else ((fX10_append ((x1.toUInt32 % 65536).toInt32) M).bind fun q2 => (if q2.1 = (0 : Int32) then some ((-3 : Int32), q2.2)
  else some (fX10_length q2.2, q2.2))))
set_option maxRecDepth 4000 in
theorem c_X11_write (G : pf_G) (x1 : Int32) (M : pf_M) (q : Int32 × pf_M) (h : fX11_write x1 M = some q) : pf_Met G yX11_write cX11_write 2 (some .int) 1 22 [pf_R 0 0, pf_I x1] M (some (pf_I q.1)) q.2 := by
  refine pf_Met.of (by decide +kernel) (Nat.le_of_ble_eq_true rfl) (fun K R => ?_)
  show K 0 [pf_R 0 0, pf_I x1] [] M
  unfold fX11_write at h
  refine r_iload_n R 1 dX11_write_0 rfl rfl ?_
  refine r_bipush R 3 dX11_write_1 rfl ic_bipush_32 ?_
  refine r_bipush R 5 dX11_write_3 rfl ic_bipush_126 ?_
  refine r_csI3 R 8 dX11_write_5 rfl lk_X11_65 (c_X11_isWithin G x1 (32 : Int32) (126 : Int32) _ rfl) rfl rfl rfl ?_
  refine r_if_ne R 11 13 dX11_write_8 rfl (by decide) (fun hc => ?_) (fun hc => ?_)
  · have h := pf_ifp hc h
    refine r_iconst R 12 dX11_write_11 rfl ic_iconst_m1 ?_
    obtain rfl := Option.some.inj h
    exact r_ireturn R dX11_write_12 rfl rfl rfl rfl
  · have h := pf_ifn hc h
    refine r_aload_n R 14 dX11_write_13 rfl rfl ?_
    refine r_getfield R 17 dX11_write_14 rfl fl_X11_10 rfl (show _ = pf_R 1 0 from rfl) ?_
    refine r_iload_n R 18 dX11_write_17 rfl rfl ?_
    refine r_i2c R 19 dX11_write_18 rfl ?_
    obtain ⟨q2, hq2, h⟩ := pf_bd h
    refine r_cvI1 R 22 dX11_write_19 rfl lk_X11_51 rfl (c_X10_append G ((x1.toUInt32 % 65536).toInt32) M _ hq2) rfl rfl rfl ?_
    refine r_if_eq R 25 35 dX11_write_22 rfl (by decide) (fun hc => ?_) (fun hc => ?_)
    · have h := pf_ifp hc h
      refine r_bipush R 37 dX11_write_35 rfl ic_bipush_m3 ?_
      obtain rfl := Option.some.inj h
      exact r_ireturn R dX11_write_37 rfl rfl rfl rfl
    · have h := pf_ifn hc h
      refine r_aload_n R 26 dX11_write_25 rfl rfl ?_
      refine r_getfield R 29 dX11_write_26 rfl fl_X11_10 rfl (show _ = pf_R 1 0 from rfl) ?_
      refine r_cvI0 R 32 dX11_write_29 rfl lk_X11_69 rfl (c_X10_length G q2.2 _ rfl) rfl rfl rfl ?_
      refine r_goto R 37 dX11_write_32 (by decide) ?_
      obtain rfl := Option.some.inj h
      exact r_ireturn R dX11_write_37 rfl rfl rfl rfl
def fX12_in (x0 : Int64) (x2 : Int64) (x4 : Int64) : Int32 :=
  (if (lg_cmp x0 x2) < (0 : Int32) then (0 : Int32)
  else (if (0 : Int32) < (lg_cmp x0 x4) then (0 : Int32)
  else (1 : Int32)))
set_option maxRecDepth 4000 in
theorem c_X12_in (G : pf_G) (x0 : Int64) (x2 : Int64) (x4 : Int64) {M : pf_M} (q : Int32) (h : fX12_in x0 x2 x4 = q) : pf_Met G yX12_in cX12_in 6 (some .boolean) 0 0 [pf_L x0, pf_L x2, pf_L x4] M (some (pf_I q)) M := by
  refine pf_Met.of (by decide +kernel) (Nat.le_of_ble_eq_true rfl) (fun K R => ?_)
  show K 0 [pf_L x0, pf_U, pf_L x2, pf_U, pf_L x4, pf_U] [] M
  unfold fX12_in at h
  refine r_lload_n R 1 dX12_in_0 rfl rfl ?_
  refine r_lload_n R 2 dX12_in_1 rfl rfl ?_
  refine r_lcmp R 3 dX12_in_2 rfl ?_
  refine r_if_lt R 6 17 dX12_in_3 rfl (by decide) (fun hc => ?_) (fun hc => ?_)
  · have h := pf_ifp hc h
    refine r_iconst R 18 dX12_in_17 rfl ic_iconst_0 ?_
    subst h
    exact r_ireturn R dX12_in_18 rfl rfl rfl rfl
  · have h := pf_ifn hc h
    refine r_lload_n R 7 dX12_in_6 rfl rfl ?_
    refine r_lload R 9 dX12_in_7 rfl rfl ?_
    refine r_lcmp R 10 dX12_in_9 rfl ?_
    refine r_if_gt R 13 17 dX12_in_10 rfl (by decide) (fun hc => ?_) (fun hc => ?_)
    · have h := pf_ifp hc h
      refine r_iconst R 18 dX12_in_17 rfl ic_iconst_0 ?_
      subst h
      exact r_ireturn R dX12_in_18 rfl rfl rfl rfl
    · have h := pf_ifn hc h
      refine r_iconst R 14 dX12_in_13 rfl ic_iconst_1 ?_
      refine r_goto R 18 dX12_in_14 (by decide) ?_
      subst h
      exact r_ireturn R dX12_in_18 rfl rfl rfl rfl
theorem fb_X12_in (x0 : Int64) (x2 : Int64) (x4 : Int64) : fX12_in x0 x2 x4 = 0 ∨ fX12_in x0 x2 x4 = 1 := by
  unfold fX12_in
  repeat' split
  all_goals first | exact Or.inl rfl | exact Or.inr rfl
def fX12_isDevice (x1 : Int32) (M : pf_M) : Int32 :=
  fX12_in x1.toInt64 (0 : Int64) (((M 40 0 10) - (1 : Int32)).toInt64)
set_option maxRecDepth 4000 in
theorem c_X12_isDevice (G : pf_G) (x1 : Int32) (M : pf_M) (q : Int32) (h : fX12_isDevice x1 M = q) : pf_Met G yX12_isDevice cX12_isDevice 2 (some .boolean) 1 25 [pf_R 40 0, pf_I x1] M (some (pf_I q)) M := by
  refine pf_Met.of (by decide +kernel) (Nat.le_of_ble_eq_true rfl) (fun K R => ?_)
  show K 0 [pf_R 40 0, pf_I x1] [] M
  unfold fX12_isDevice at h
  refine r_iload_n R 1 dX12_isDevice_0 rfl rfl ?_
  refine r_i2l R 2 dX12_isDevice_1 rfl ?_
  refine r_lconst R 3 dX12_isDevice_2 rfl lc_0 ?_
  refine r_aload_n R 4 dX12_isDevice_3 rfl rfl ?_
  refine r_getfield R 7 dX12_isDevice_4 rfl fl_X12_180 rfl (show _ = pf_I (M 40 0 10) from rfl) ?_
  refine r_iconst R 8 dX12_isDevice_7 rfl ic_iconst_1 ?_
  refine r_isub R 9 dX12_isDevice_8 rfl ?_
  refine r_i2l R 10 dX12_isDevice_9 rfl ?_
  refine r_csI3 R 13 dX12_isDevice_10 rfl lk_X12_145 (c_X12_in G x1.toInt64 (0 : Int64) (((M 40 0 10) - (1 : Int32)).toInt64) _ rfl) rfl rfl rfl ?_
  subst h
  exact r_ireturn R dX12_isDevice_13 rfl (pf_bool (fb_X12_in _ _ _)) rfl rfl
theorem fb_X12_isDevice (x1 : Int32) (M : pf_M) : fX12_isDevice x1 M = 0 ∨ fX12_isDevice x1 M = 1 := by
  unfold fX12_isDevice
  repeat' split
  all_goals first | exact Or.inl rfl | exact Or.inr rfl | exact fb_X12_in _ _ _
def lX12_sideA_2 (M : pf_M) (kx2 : Option (Int32)) : Nat → Int32 → Option (Int32)
  | 0, _ => none
  | n + 1, v2_1 =>
  (if (M 40 0 10) < v2_1 then kx2
  else (if pf_in v2_1 9 = true then (if (M 50 0 v2_1.toNatClampNeg) = (1 : Int32) then some v2_1
  else (lX12_sideA_2 M kx2 n) (v2_1 + (1 : Int32)))
  else none))
def fX12_sideA (M : pf_M) : Option (Int32) :=
  lX12_sideA_2 M (some (M 40 0 10)) pf_fu (0 : Int32)
set_option maxRecDepth 4000 in
theorem c_X12_sideA (G : pf_G) (M : pf_M) (q : Int32) (h : fX12_sideA M = some q) : pf_Met G yX12_sideA cX12_sideA 2 (some .int) 0 0 [pf_R 40 0] M (some (pf_I q)) M := by
  refine pf_Met.of (by decide +kernel) (Nat.le_of_ble_eq_true rfl) (fun K R => ?_)
  show K 0 [pf_R 40 0, pf_U] [] M
  have hl2 : ∀ (kx2 : Option (Int32)), (kx2  = some q → K 28 [pf_R 40 0, pf_U] [] M) → ∀ (n : Nat) (v2_1 : Int32), lX12_sideA_2 M kx2 n v2_1 = some q → K 2 [pf_R 40 0, pf_I v2_1] [] M := by
    intro kx2 hkx2 n
    induction n with
    | zero =>
      intro v2_1 h
      rw [lX12_sideA_2] at h
      cases h
    | succ n ih2 =>
        intro v2_1 h
        rw [lX12_sideA_2] at h
        refine r_iload_n R 3 dX12_sideA_2 rfl rfl ?_
        refine r_aload_n R 4 dX12_sideA_3 rfl rfl ?_
        refine r_getfield R 7 dX12_sideA_4 rfl fl_X12_180 rfl (show _ = pf_I (M 40 0 10) from rfl) ?_
        refine r_icmp_gt R 10 28 dX12_sideA_7 rfl (by decide) (fun hc => ?_) (fun hc => ?_)
        · have h := pf_ifp hc h
          refine r_fg R [true, false] (show _ = [pf_R 40 0, pf_U] from rfl) ?_
          exact hkx2 h
        · have h := pf_ifn hc h
          refine r_aload_n R 11 dX12_sideA_10 rfl rfl ?_
          refine r_getfield R 14 dX12_sideA_11 rfl fl_X12_37 rfl (show _ = pf_R 50 0 from rfl) ?_
          refine r_iload_n R 15 dX12_sideA_14 rfl rfl ?_
          obtain ⟨hi1, h⟩ := pf_gd h
          refine r_iaload R 16 dX12_sideA_15 rfl ⟨rfl, rfl⟩ (pf_in_iff.mp hi1) ?_
          refine r_iconst R 17 dX12_sideA_16 rfl ic_iconst_1 ?_
          refine r_icmp_ne R 20 22 dX12_sideA_17 rfl (by decide) (fun hc => ?_) (fun hc => ?_)
          · have h := pf_ifp hc h
            refine r_iload_n R 21 dX12_sideA_20 rfl rfl ?_
            obtain rfl := Option.some.inj h
            exact r_ireturn R dX12_sideA_21 rfl rfl rfl rfl
          · have h := pf_ifn hc h
            refine r_iinc R 25 dX12_sideA_22 rfl rfl ic_iconst_1 (show _ = [pf_R 40 0, pf_I (v2_1 + (1 : Int32))] from rfl) ?_
            refine r_goto R 2 dX12_sideA_25 (by decide) ?_
            exact ih2 _ h
  unfold fX12_sideA at h
  refine r_iconst R 1 dX12_sideA_0 rfl ic_iconst_0 ?_
  refine r_istore_n R 2 dX12_sideA_1 rfl rfl (show _ = [pf_R 40 0, pf_I (0 : Int32)] from rfl) ?_
  refine hl2 _ (fun  h => ?_) pf_fu _ h
  refine r_aload_n R 29 dX12_sideA_28 rfl rfl ?_
  refine r_getfield R 32 dX12_sideA_29 rfl fl_X12_180 rfl (show _ = pf_I (M 40 0 10) from rfl) ?_
  obtain rfl := Option.some.inj h
  exact r_ireturn R dX12_sideA_32 rfl rfl rfl rfl
def lX12_firstB_5 (M : pf_M) (kx5 : Option (Int32)) : Nat → Int32 → Option (Int32)
  | 0, _ => none
  | n + 1, v5_1 =>
  (if v5_1 < (0 : Int32) then kx5
  else (if pf_in v5_1 9 = true then (if (M 50 0 v5_1.toNatClampNeg) = (1 : Int32) then some v5_1
  else (lX12_firstB_5 M kx5 n) (v5_1 + (-1 : Int32)))
  else none))
def fX12_firstB (M : pf_M) : Option (Int32) :=
  lX12_firstB_5 M (some (M 40 0 10)) pf_fu (M 40 0 10)
set_option maxRecDepth 4000 in
theorem c_X12_firstB (G : pf_G) (M : pf_M) (q : Int32) (h : fX12_firstB M = some q) : pf_Met G yX12_firstB cX12_firstB 2 (some .int) 0 0 [pf_R 40 0] M (some (pf_I q)) M := by
  refine pf_Met.of (by decide +kernel) (Nat.le_of_ble_eq_true rfl) (fun K R => ?_)
  show K 0 [pf_R 40 0, pf_U] [] M
  have hl5 : ∀ (kx5 : Option (Int32)), (kx5  = some q → K 27 [pf_R 40 0, pf_U] [] M) → ∀ (n : Nat) (v5_1 : Int32), lX12_firstB_5 M kx5 n v5_1 = some q → K 5 [pf_R 40 0, pf_I v5_1] [] M := by
    intro kx5 hkx5 n
    induction n with
    | zero =>
      intro v5_1 h
      rw [lX12_firstB_5] at h
      cases h
    | succ n ih5 =>
        intro v5_1 h
        rw [lX12_firstB_5] at h
        refine r_iload_n R 6 dX12_firstB_5 rfl rfl ?_
        refine r_if_lt R 9 27 dX12_firstB_6 rfl (by decide) (fun hc => ?_) (fun hc => ?_)
        · have h := pf_ifp hc h
          refine r_fg R [true, false] (show _ = [pf_R 40 0, pf_U] from rfl) ?_
          exact hkx5 h
        · have h := pf_ifn hc h
          refine r_aload_n R 10 dX12_firstB_9 rfl rfl ?_
          refine r_getfield R 13 dX12_firstB_10 rfl fl_X12_37 rfl (show _ = pf_R 50 0 from rfl) ?_
          refine r_iload_n R 14 dX12_firstB_13 rfl rfl ?_
          obtain ⟨hi2, h⟩ := pf_gd h
          refine r_iaload R 15 dX12_firstB_14 rfl ⟨rfl, rfl⟩ (pf_in_iff.mp hi2) ?_
          refine r_iconst R 16 dX12_firstB_15 rfl ic_iconst_1 ?_
          refine r_icmp_ne R 19 21 dX12_firstB_16 rfl (by decide) (fun hc => ?_) (fun hc => ?_)
          · have h := pf_ifp hc h
            refine r_iload_n R 20 dX12_firstB_19 rfl rfl ?_
            obtain rfl := Option.some.inj h
            exact r_ireturn R dX12_firstB_20 rfl rfl rfl rfl
          · have h := pf_ifn hc h
            refine r_iinc R 24 dX12_firstB_21 rfl rfl ic_iconst_m1 (show _ = [pf_R 40 0, pf_I (v5_1 + (-1 : Int32))] from rfl) ?_
            refine r_goto R 5 dX12_firstB_24 (by decide) ?_
            exact ih5 _ h
  unfold fX12_firstB at h
  refine r_aload_n R 1 dX12_firstB_0 rfl rfl ?_
  refine r_getfield R 4 dX12_firstB_1 rfl fl_X12_180 rfl (show _ = pf_I (M 40 0 10) from rfl) ?_
  refine r_istore_n R 5 dX12_firstB_4 rfl rfl (show _ = [pf_R 40 0, pf_I (M 40 0 10)] from rfl) ?_
  refine hl5 _ (fun  h => ?_) pf_fu _ h
  refine r_aload_n R 28 dX12_firstB_27 rfl rfl ?_
  refine r_getfield R 31 dX12_firstB_28 rfl fl_X12_180 rfl (show _ = pf_I (M 40 0 10) from rfl) ?_
  obtain rfl := Option.some.inj h
  exact r_ireturn R dX12_firstB_31 rfl rfl rfl rfl
