def fX2_begin (o0 : Nat) (M : pf_M) : Option (pf_M) :=
  ((fJ7_fill_53178 26 o0 8 (0 : Int32) (pf_up (pf_up M 25 o0 0 (0 : Int32)) 25 o0 9 (0 : Int32))).bind fun q2 => some q2)
set_option maxRecDepth 4000 in
theorem c_X2_begin (G : pf_G) (o0 : Nat) (M : pf_M) (q : pf_M) (h : fX2_begin o0 M = some q) : pf_Met G yX2_begin cX2_begin 1 (none) 1 23 [pf_R 25 o0] M none q := by
  refine pf_Met.of (by decide +kernel) (Nat.le_of_ble_eq_true rfl) (fun K R => ?_)
  show K 0 [pf_R 25 o0] [] M
  unfold fX2_begin at h
  refine r_aload_n R 1 dX2_begin_0 rfl rfl ?_
  refine r_iconst R 2 dX2_begin_1 rfl ic_iconst_0 ?_
  refine r_putfield R 5 dX2_begin_2 rfl fl_X2_28 rfl rfl rfl rfl ?_
  refine r_aload_n R 6 dX2_begin_5 rfl rfl ?_
  refine r_iconst R 7 dX2_begin_6 rfl ic_iconst_0 ?_
  refine r_putfield R 10 dX2_begin_7 rfl fl_X2_32 rfl rfl rfl rfl ?_
  refine r_aload_n R 11 dX2_begin_10 rfl rfl ?_
  refine r_getfield R 14 dX2_begin_11 rfl fl_X2_9 rfl (show _ = pf_R 26 o0 from rfl) ?_
  refine r_iconst R 15 dX2_begin_14 rfl ic_iconst_0 ?_
  obtain ⟨q2, hq2, h⟩ := pf_bd h
  refine r_csV2 R 18 dX2_begin_15 rfl lk_X2_35 (c_J7_fill_53178 G 26 o0 8 (0 : Int32) (pf_up (pf_up M 25 o0 0 (0 : Int32)) 25 o0 9 (0 : Int32)) _ ⟨rfl, rfl⟩ hq2) rfl rfl rfl ?_
  obtain rfl := Option.some.inj h
  exact r_return_ R dX2_begin_18 rfl rfl rfl
def fX4_empty (M : pf_M) : pf_M :=
  (pf_up M 22 0 2 (0 : Int32))
set_option maxRecDepth 4000 in
theorem c_X4_empty (G : pf_G) (M : pf_M) (q : pf_M) (h : fX4_empty M = q) : pf_Met G yX4_empty cX4_empty 1 (none) 0 0 [pf_R 22 0] M none q := by
  refine pf_Met.of (by decide +kernel) (Nat.le_of_ble_eq_true rfl) (fun K R => ?_)
  show K 0 [pf_R 22 0] [] M
  unfold fX4_empty at h
  refine r_aload_n R 1 dX4_empty_0 rfl rfl ?_
  refine r_iconst R 2 dX4_empty_1 rfl ic_iconst_0 ?_
  refine r_putfield R 5 dX4_empty_2 rfl fl_X4_18 rfl rfl rfl rfl ?_
  subst h
  exact r_return_ R dX4_empty_5 rfl rfl rfl
def lX6_begin_2 (kx2 : pf_M → Option (pf_M)) : Nat → Int32 → pf_M → Option (pf_M)
  | 0, _, _ => none
  | n + 1, v2_1, M2 =>
  (if (4 : Int32) ≤ v2_1 then kx2 M2
  else (if pf_in v2_1 4 = true then ((fX2_begin v2_1.toNatClampNeg M2).bind fun q3 => (lX6_begin_2 kx2 n) (v2_1 + (1 : Int32)) q3)
  else none))
def fX6_begin (M : pf_M) : Option (pf_M) :=
  lX6_begin_2 (fun u4_Me2 => some (pf_up (pf_up (fX4_empty u4_Me2) 20 0 3 (0 : Int32)) 20 0 4 (0 : Int32))) pf_fu (0 : Int32) M
set_option maxRecDepth 4000 in
theorem c_X6_begin (G : pf_G) (M : pf_M) (q : pf_M) (h : fX6_begin M = some q) : pf_Met G yX6_begin cX6_begin 2 (none) 2 43 [pf_R 20 0] M none q := by
  refine pf_Met.of (by decide +kernel) (Nat.le_of_ble_eq_true rfl) (fun K R => ?_)
  show K 0 [pf_R 20 0, pf_U] [] M
  have hl2 : ∀ (kx2 : pf_M → Option (pf_M)), (∀ (Me2 : pf_M), kx2 Me2 = some q → K 22 [pf_R 20 0, pf_U] [] Me2) → ∀ (n : Nat) (v2_1 : Int32) (M2 : pf_M), lX6_begin_2 kx2 n v2_1 M2 = some q → K 2 [pf_R 20 0, pf_I v2_1] [] M2 := by
    intro kx2 hkx2 n
    induction n with
    | zero =>
      intro v2_1 M2 h
      rw [lX6_begin_2] at h
      cases h
    | succ n ih2 =>
        intro v2_1 M2 h
        rw [lX6_begin_2] at h
        refine r_iload_n R 3 dX6_begin_2 rfl rfl ?_
        refine r_iconst R 4 dX6_begin_3 rfl ic_iconst_4 ?_
        refine r_icmp_ge R 7 22 dX6_begin_4 rfl (by decide) (fun hc => ?_) (fun hc => ?_)
        · have h := pf_ifp hc h
          refine r_fg R [true, false] (show _ = [pf_R 20 0, pf_U] from rfl) ?_
          exact hkx2 _ h
        · have h := pf_ifn hc h
          refine r_aload_n R 8 dX6_begin_7 rfl rfl ?_
          refine r_getfield R 11 dX6_begin_8 rfl fl_X6_11 rfl (show _ = pf_R 21 0 from rfl) ?_
          refine r_iload_n R 12 dX6_begin_11 rfl rfl ?_
          obtain ⟨hi2, h⟩ := pf_gd h
          refine r_aaload R 13 dX6_begin_12 rfl rfl rfl rfl (pf_in_iff.mp hi2) ?_
          obtain ⟨q3, hq3, h⟩ := pf_bd h
          refine r_cvV0 R 16 dX6_begin_13 rfl lk_X6_29 rfl (c_X2_begin G v2_1.toNatClampNeg M2 _ hq3) rfl rfl rfl ?_
          refine r_iinc R 19 dX6_begin_16 rfl rfl ic_iconst_1 (show _ = [pf_R 20 0, pf_I (v2_1 + (1 : Int32))] from rfl) ?_
          refine r_goto R 2 dX6_begin_19 (by decide) ?_
          exact ih2 _ _ h
  unfold fX6_begin at h
  refine r_iconst R 1 dX6_begin_0 rfl ic_iconst_0 ?_
  refine r_istore_n R 2 dX6_begin_1 rfl rfl (show _ = [pf_R 20 0, pf_I (0 : Int32)] from rfl) ?_
  refine hl2 _ (fun u4_Me2 h => ?_) pf_fu _ _ h
  refine r_aload_n R 23 dX6_begin_22 rfl rfl ?_
  refine r_getfield R 26 dX6_begin_23 rfl fl_X6_20 rfl (show _ = pf_R 22 0 from rfl) ?_
  refine r_cvV0 R 29 dX6_begin_26 rfl lk_X6_32 rfl (c_X4_empty G u4_Me2 _ rfl) rfl rfl rfl ?_
  refine r_aload_n R 30 dX6_begin_29 rfl rfl ?_
  refine r_iconst R 31 dX6_begin_30 rfl ic_iconst_0 ?_
  refine r_putfield R 34 dX6_begin_31 rfl fl_X6_35 rfl rfl rfl rfl ?_
  refine r_aload_n R 35 dX6_begin_34 rfl rfl ?_
  refine r_iconst R 36 dX6_begin_35 rfl ic_iconst_0 ?_
  refine r_putfield R 39 dX6_begin_36 rfl fl_X6_39 rfl rfl rfl rfl ?_
  obtain rfl := Option.some.inj h
  exact r_return_ R dX6_begin_39 rfl rfl rfl
def fX11_lay (M : pf_M) : Option (Int32 × pf_M) :=
  ((fX10_readRing M).bind fun q4 => (if q4.1 = (-4 : Int32) then (if (fX10_devices q4.2) = (0 : Int32) then some ((-2 : Int32), q4.2)
  else ((fX9_build q4.2).bind fun q5 => ((fX6_begin q5).bind fun q6 => some (fX9_size q6, q6))))
  else some ((-2 : Int32), q4.2)))
set_option maxRecDepth 4000 in
theorem c_X11_lay (G : pf_G) (M : pf_M) (q : Int32 × pf_M) (h : fX11_lay M = some q) : pf_Met G yX11_lay cX11_lay 1 (some .int) 5 106 [pf_R 0 0] M (some (pf_I q.1)) q.2 := by
  refine pf_Met.of (by decide +kernel) (Nat.le_of_ble_eq_true rfl) (fun K R => ?_)
  show K 0 [pf_R 0 0] [] M
  unfold fX11_lay at h
  refine r_aload_n R 1 dX11_lay_0 rfl rfl ?_
  refine r_getfield R 4 dX11_lay_1 rfl fl_X11_10 rfl (show _ = pf_R 1 0 from rfl) ?_
  obtain ⟨q4, hq4, h⟩ := pf_bd h
  refine r_cvI0 R 7 dX11_lay_4 rfl lk_X11_55 rfl (c_X10_readRing G M _ hq4) rfl rfl rfl ?_
  refine r_bipush R 9 dX11_lay_7 rfl ic_bipush_m4 ?_
  refine r_icmp_ne R 12 22 dX11_lay_9 rfl (by decide) (fun hc => ?_) (fun hc => ?_)
  · have h := pf_ifp hc h
    refine r_aload_n R 13 dX11_lay_12 rfl rfl ?_
    refine r_getfield R 16 dX11_lay_13 rfl fl_X11_10 rfl (show _ = pf_R 1 0 from rfl) ?_
    refine r_cvI0 R 19 dX11_lay_16 rfl lk_X11_70 rfl (c_X10_devices G q4.2 _ rfl) rfl rfl rfl ?_
    refine r_if_ne R 22 25 dX11_lay_19 rfl (by decide) (fun hc => ?_) (fun hc => ?_)
    · have h := pf_ifp hc h
      refine r_bipush R 24 dX11_lay_22 rfl ic_bipush_m2 ?_
      obtain rfl := Option.some.inj h
      exact r_ireturn R dX11_lay_24 rfl rfl rfl rfl
    · have h := pf_ifn hc h
      refine r_aload_n R 26 dX11_lay_25 rfl rfl ?_
      refine r_getfield R 29 dX11_lay_26 rfl fl_X11_19 rfl (show _ = pf_R 7 0 from rfl) ?_
      refine r_aload_n R 30 dX11_lay_29 rfl rfl ?_
      refine r_getfield R 33 dX11_lay_30 rfl fl_X11_10 rfl (show _ = pf_R 1 0 from rfl) ?_
      obtain ⟨q5, hq5, h⟩ := pf_bd h
      refine r_cvV1 R 36 dX11_lay_33 rfl lk_X11_58 rfl (c_X9_build G q4.2 _ hq5) rfl rfl rfl ?_
      refine r_aload_n R 37 dX11_lay_36 rfl rfl ?_
      refine r_getfield R 40 dX11_lay_37 rfl fl_X11_35 rfl (show _ = pf_R 20 0 from rfl) ?_
      obtain ⟨q6, hq6, h⟩ := pf_bd h
      refine r_cvV0 R 43 dX11_lay_40 rfl lk_X11_73 rfl (c_X6_begin G q5 _ hq6) rfl rfl rfl ?_
      refine r_aload_n R 44 dX11_lay_43 rfl rfl ?_
      refine r_getfield R 47 dX11_lay_44 rfl fl_X11_19 rfl (show _ = pf_R 7 0 from rfl) ?_
      refine r_cvI0 R 50 dX11_lay_47 rfl lk_X11_76 rfl (c_X9_size G q6 _ rfl) rfl rfl rfl ?_
      obtain rfl := Option.some.inj h
      exact r_ireturn R dX11_lay_50 rfl rfl rfl rfl
  · have h := pf_ifn hc h
    refine r_bipush R 24 dX11_lay_22 rfl ic_bipush_m2 ?_
    obtain rfl := Option.some.inj h
    exact r_ireturn R dX11_lay_24 rfl rfl rfl rfl
def fX9_timeOnA (x1 : Int32) (M : pf_M) : Option (Int32) :=
  ((fX9_wireTimes (0 : Int32) x1 M).bind fun r2 => some (((M 7 0 6) + r2) + (x1 * (M 7 0 4))))
set_option maxRecDepth 4000 in
theorem c_X9_timeOnA (G : pf_G) (x1 : Int32) (M : pf_M) (q : Int32) (h : fX9_timeOnA x1 M = some q) : pf_Met G yX9_timeOnA cX9_timeOnA 2 (some .int) 2 45 [pf_R 7 0, pf_I x1] M (some (pf_I q)) M := by
  refine pf_Met.of (by decide +kernel) (Nat.le_of_ble_eq_true rfl) (fun K R => ?_)
  show K 0 [pf_R 7 0, pf_I x1] [] M
  unfold fX9_timeOnA at h
  refine r_aload_n R 1 dX9_timeOnA_0 rfl rfl ?_
  refine r_getfield R 4 dX9_timeOnA_1 rfl fl_X9_41 rfl (show _ = pf_I (M 7 0 6) from rfl) ?_
  refine r_aload_n R 5 dX9_timeOnA_4 rfl rfl ?_
  refine r_iconst R 6 dX9_timeOnA_5 rfl ic_iconst_0 ?_
  refine r_iload_n R 7 dX9_timeOnA_6 rfl rfl ?_
  obtain ⟨r2, hr2, h⟩ := pf_bd h
  refine r_cvI2 R 10 dX9_timeOnA_7 rfl lk_X9_88 rfl (c_X9_wireTimes G (0 : Int32) x1 M _ hr2) rfl rfl rfl ?_
  refine r_iadd R 11 dX9_timeOnA_10 rfl ?_
  refine r_iload_n R 12 dX9_timeOnA_11 rfl rfl ?_
  refine r_aload_n R 13 dX9_timeOnA_12 rfl rfl ?_
  refine r_getfield R 16 dX9_timeOnA_13 rfl fl_X9_36 rfl (show _ = pf_I (M 7 0 4) from rfl) ?_
  refine r_imul R 17 dX9_timeOnA_16 rfl ?_
  refine r_iadd R 18 dX9_timeOnA_17 rfl ?_
  obtain rfl := Option.some.inj h
  exact r_ireturn R dX9_timeOnA_18 rfl rfl rfl rfl
def fX1_turnBefore (x1 : Int32) (x2 : Int32) (M : pf_M) : Int32 :=
  (if x1 = x2 then (0 : Int32)
  else fX9_turn M)
set_option maxRecDepth 4000 in
theorem c_X1_turnBefore (G : pf_G) (x1 : Int32) (x2 : Int32) (M : pf_M) (q : Int32) (h : fX1_turnBefore x1 x2 M = q) : pf_Met G yX1_turnBefore cX1_turnBefore 3 (some .int) 1 20 [pf_R 17 0, pf_I x1, pf_I x2] M (some (pf_I q)) M := by
  refine pf_Met.of (by decide +kernel) (Nat.le_of_ble_eq_true rfl) (fun K R => ?_)
  show K 0 [pf_R 17 0, pf_I x1, pf_I x2] [] M
  unfold fX1_turnBefore at h
  refine r_iload_n R 1 dX1_turnBefore_0 rfl rfl ?_
  refine r_iload_n R 2 dX1_turnBefore_1 rfl rfl ?_
  refine r_icmp_ne R 5 9 dX1_turnBefore_2 rfl (by decide) (fun hc => ?_) (fun hc => ?_)
  · have h := pf_ifp hc h
    refine r_iconst R 6 dX1_turnBefore_5 rfl ic_iconst_0 ?_
    refine r_goto R 16 dX1_turnBefore_6 (by decide) ?_
    subst h
    exact r_ireturn R dX1_turnBefore_16 rfl rfl rfl rfl
  · have h := pf_ifn hc h
    refine r_aload_n R 10 dX1_turnBefore_9 rfl rfl ?_
    refine r_getfield R 13 dX1_turnBefore_10 rfl fl_X1_18 rfl (show _ = pf_R 7 0 from rfl) ?_
    refine r_cvI0 R 16 dX1_turnBefore_13 rfl lk_X1_62 rfl (c_X9_turn G M _ rfl) rfl rfl rfl ?_
    subst h
    exact r_ireturn R dX1_turnBefore_16 rfl rfl rfl rfl
def jX1_setTimes_88 (rec29 : Int32 → pf_M → Option (pf_M)) (w88_2 : Int32) (s88_1 : Int32) (s88_2 : Int32) (M88 : pf_M) : Option (pf_M) :=
  (if pf_in s88_1 8 = true then rec29 (w88_2 + (-1 : Int32)) (pf_up M88 19 0 s88_1.toNatClampNeg s88_2)
  else none)
def lX1_setTimes_29 (x1 : Int32) : Nat → Int32 → pf_M → Option (pf_M)
  | 0, _, _ => none
  | n + 1, v29_2, M29 =>
  (if v29_2 < (0 : Int32) then some M29
  else (if v29_2 = x1 then (if pf_in v29_2 8 = true then jX1_setTimes_88 (lX1_setTimes_29 x1 n) v29_2 v29_2 ((M29 18 0 v29_2.toNatClampNeg) + (fX9_pass M29)) M29
  else none)
  else (if pf_in (v29_2 + (1 : Int32)) 8 = true then ((fX9_wireTime (v29_2 + (1 : Int32)) M29).bind fun r8 => jX1_setTimes_88 (lX1_setTimes_29 x1 n) v29_2 v29_2 (((M29 19 0 (v29_2 + (1 : Int32)).toNatClampNeg) + r8) + (fX1_turnBefore (v29_2 + (1 : Int32)) x1 M29)) M29)
  else none)))
def lX1_setTimes_2 (x1 : Int32) (kx2 : pf_M → Option (pf_M)) : Nat → Int32 → pf_M → Option (pf_M)
  | 0, _, _ => none
  | n + 1, v2_2, M2 =>
  (if x1 < v2_2 then kx2 M2
  else ((fX9_timeOnA v2_2 M2).bind fun r10 => (if pf_in v2_2 8 = true then (lX1_setTimes_2 x1 kx2 n) (v2_2 + (1 : Int32)) (pf_up M2 18 0 v2_2.toNatClampNeg r10)
  else none)))
def fX1_setTimes (x1 : Int32) (M : pf_M) : Option (pf_M) :=
  lX1_setTimes_2 x1 (fun u12_Me2 => lX1_setTimes_29 x1 pf_fu x1 u12_Me2) pf_fu (0 : Int32) M
set_option maxRecDepth 4000 in
theorem c_X1_setTimes (G : pf_G) (x1 : Int32) (M : pf_M) (q : pf_M) (h : fX1_setTimes x1 M = some q) : pf_Met G yX1_setTimes cX1_setTimes 3 (none) 3 66 [pf_R 17 0, pf_I x1] M none q := by
  refine pf_Met.of (by decide +kernel) (Nat.le_of_ble_eq_true rfl) (fun K R => ?_)
  show K 0 [pf_R 17 0, pf_I x1, pf_U] [] M
  have hl29 : ∀ (n : Nat) (v29_2 : Int32) (M29 : pf_M), lX1_setTimes_29 x1 n v29_2 M29 = some q → K 29 [pf_R 17 0, pf_I x1, pf_I v29_2] [] M29 := by
    intro n
    induction n with
    | zero =>
      intro v29_2 M29 h
      rw [lX1_setTimes_29] at h
      cases h
    | succ n ih29 =>
        have hj88 : ∀ (w88_2 : Int32) (s88_1 : Int32) (s88_2 : Int32) (M88 : pf_M), jX1_setTimes_88 (lX1_setTimes_29 x1 n) w88_2 s88_1 s88_2 M88 = some q → K 88 [pf_R 17 0, pf_I x1, pf_I w88_2] [pf_I s88_2, pf_I s88_1, pf_R 19 0] M88 := by
          intro w88_2 s88_1 s88_2 M88 h
          unfold jX1_setTimes_88 at h
          obtain ⟨hi6, h⟩ := pf_gd h
          refine r_iastore R 89 dX1_setTimes_88 rfl ⟨rfl, rfl⟩ (pf_in_iff.mp hi6) ?_
          refine r_iinc R 92 dX1_setTimes_89 rfl rfl ic_iconst_m1 (show _ = [pf_R 17 0, pf_I x1, pf_I (w88_2 + (-1 : Int32))] from rfl) ?_
          refine r_goto R 29 dX1_setTimes_92 (by decide) ?_
          exact ih29 _ _ h
        intro v29_2 M29 h
        rw [lX1_setTimes_29] at h
        refine r_iload_n R 30 dX1_setTimes_29 rfl rfl ?_
        refine r_if_lt R 33 95 dX1_setTimes_30 rfl (by decide) (fun hc => ?_) (fun hc => ?_)
        · have h := pf_ifp hc h
          obtain rfl := Option.some.inj h
          exact r_return_ R dX1_setTimes_95 rfl rfl rfl
        · have h := pf_ifn hc h
          refine r_aload_n R 34 dX1_setTimes_33 rfl rfl ?_
          refine r_getfield R 37 dX1_setTimes_34 rfl fl_X1_15 rfl (show _ = pf_R 19 0 from rfl) ?_
          refine r_iload_n R 38 dX1_setTimes_37 rfl rfl ?_
          refine r_iload_n R 39 dX1_setTimes_38 rfl rfl ?_
          refine r_iload_n R 40 dX1_setTimes_39 rfl rfl ?_
          refine r_icmp_ne R 43 60 dX1_setTimes_40 rfl (by decide) (fun hc => ?_) (fun hc => ?_)
          · have h := pf_ifp hc h
            refine r_aload_n R 44 dX1_setTimes_43 rfl rfl ?_
            refine r_getfield R 47 dX1_setTimes_44 rfl fl_X1_9 rfl (show _ = pf_R 18 0 from rfl) ?_
            refine r_iload_n R 48 dX1_setTimes_47 rfl rfl ?_
            obtain ⟨hi9, h⟩ := pf_gd h
            refine r_iaload R 49 dX1_setTimes_48 rfl ⟨rfl, rfl⟩ (pf_in_iff.mp hi9) ?_
            refine r_aload_n R 50 dX1_setTimes_49 rfl rfl ?_
            refine r_getfield R 53 dX1_setTimes_50 rfl fl_X1_18 rfl (show _ = pf_R 7 0 from rfl) ?_
            refine r_cvI0 R 56 dX1_setTimes_53 rfl lk_X1_68 rfl (c_X9_pass G M29 _ rfl) rfl rfl rfl ?_
            refine r_iadd R 57 dX1_setTimes_56 rfl ?_
            refine r_goto R 88 dX1_setTimes_57 (by decide) ?_
            exact hj88 _ _ _ _ h
          · have h := pf_ifn hc h
            refine r_aload_n R 61 dX1_setTimes_60 rfl rfl ?_
            refine r_getfield R 64 dX1_setTimes_61 rfl fl_X1_15 rfl (show _ = pf_R 19 0 from rfl) ?_
            refine r_iload_n R 65 dX1_setTimes_64 rfl rfl ?_
            refine r_iconst R 66 dX1_setTimes_65 rfl ic_iconst_1 ?_
            refine r_iadd R 67 dX1_setTimes_66 rfl ?_
            obtain ⟨hi7, h⟩ := pf_gd h
            refine r_iaload R 68 dX1_setTimes_67 rfl ⟨rfl, rfl⟩ (pf_in_iff.mp hi7) ?_
            refine r_aload_n R 69 dX1_setTimes_68 rfl rfl ?_
            refine r_getfield R 72 dX1_setTimes_69 rfl fl_X1_18 rfl (show _ = pf_R 7 0 from rfl) ?_
            refine r_iload_n R 73 dX1_setTimes_72 rfl rfl ?_
            refine r_iconst R 74 dX1_setTimes_73 rfl ic_iconst_1 ?_
            refine r_iadd R 75 dX1_setTimes_74 rfl ?_
            obtain ⟨r8, hr8, h⟩ := pf_bd h
            refine r_cvI1 R 78 dX1_setTimes_75 rfl lk_X1_38 rfl (c_X9_wireTime G (v29_2 + (1 : Int32)) M29 _ hr8) rfl rfl rfl ?_
            refine r_iadd R 79 dX1_setTimes_78 rfl ?_
            refine r_aload_n R 80 dX1_setTimes_79 rfl rfl ?_
            refine r_iload_n R 81 dX1_setTimes_80 rfl rfl ?_
            refine r_iconst R 82 dX1_setTimes_81 rfl ic_iconst_1 ?_
            refine r_iadd R 83 dX1_setTimes_82 rfl ?_
            refine r_iload_n R 84 dX1_setTimes_83 rfl rfl ?_
            refine r_cvI2 R 87 dX1_setTimes_84 rfl lk_X1_42 rfl (c_X1_turnBefore G (v29_2 + (1 : Int32)) x1 M29 _ rfl) rfl rfl rfl ?_
            refine r_iadd R 88 dX1_setTimes_87 rfl ?_
            exact hj88 _ _ _ _ h
  have hl2 : ∀ (kx2 : pf_M → Option (pf_M)), (∀ (Me2 : pf_M), kx2 Me2 = some q → K 27 [pf_R 17 0, pf_I x1, pf_U] [] Me2) → ∀ (n : Nat) (v2_2 : Int32) (M2 : pf_M), lX1_setTimes_2 x1 kx2 n v2_2 M2 = some q → K 2 [pf_R 17 0, pf_I x1, pf_I v2_2] [] M2 := by
    intro kx2 hkx2 n
    induction n with
    | zero =>
      intro v2_2 M2 h
      rw [lX1_setTimes_2] at h
      cases h
    | succ n ih2 =>
        intro v2_2 M2 h
        rw [lX1_setTimes_2] at h
        refine r_iload_n R 3 dX1_setTimes_2 rfl rfl ?_
        refine r_iload_n R 4 dX1_setTimes_3 rfl rfl ?_
        refine r_icmp_gt R 7 27 dX1_setTimes_4 rfl (by decide) (fun hc => ?_) (fun hc => ?_)
        · have h := pf_ifp hc h
          refine r_fg R [true, true, false] (show _ = [pf_R 17 0, pf_I x1, pf_U] from rfl) ?_
          exact hkx2 _ h
        · have h := pf_ifn hc h
          refine r_aload_n R 8 dX1_setTimes_7 rfl rfl ?_
          refine r_getfield R 11 dX1_setTimes_8 rfl fl_X1_9 rfl (show _ = pf_R 18 0 from rfl) ?_
          refine r_iload_n R 12 dX1_setTimes_11 rfl rfl ?_
          refine r_aload_n R 13 dX1_setTimes_12 rfl rfl ?_
          refine r_getfield R 16 dX1_setTimes_13 rfl fl_X1_18 rfl (show _ = pf_R 7 0 from rfl) ?_
          refine r_iload_n R 17 dX1_setTimes_16 rfl rfl ?_
          obtain ⟨r10, hr10, h⟩ := pf_bd h
          refine r_cvI1 R 20 dX1_setTimes_17 rfl lk_X1_65 rfl (c_X9_timeOnA G v2_2 M2 _ hr10) rfl rfl rfl ?_
          obtain ⟨hi11, h⟩ := pf_gd h
          refine r_iastore R 21 dX1_setTimes_20 rfl ⟨rfl, rfl⟩ (pf_in_iff.mp hi11) ?_
          refine r_iinc R 24 dX1_setTimes_21 rfl rfl ic_iconst_1 (show _ = [pf_R 17 0, pf_I x1, pf_I (v2_2 + (1 : Int32))] from rfl) ?_
          refine r_goto R 2 dX1_setTimes_24 (by decide) ?_
          exact ih2 _ _ h
  unfold fX1_setTimes at h
  refine r_iconst R 1 dX1_setTimes_0 rfl ic_iconst_0 ?_
  refine r_istore_n R 2 dX1_setTimes_1 rfl rfl (show _ = [pf_R 17 0, pf_I x1, pf_I (0 : Int32)] from rfl) ?_
  refine hl2 _ (fun u12_Me2 h => ?_) pf_fu _ _ h
  refine r_iload_n R 28 dX1_setTimes_27 rfl rfl ?_
  refine r_istore_n R 29 dX1_setTimes_28 rfl rfl (show _ = [pf_R 17 0, pf_I x1, pf_I x1] from rfl) ?_
  exact hl29 pf_fu _ _ h
def fX1_gap (x1 : Int32) (M : pf_M) : Option (Int32) :=
  (if pf_in x1 8 = true then (if pf_in x1 8 = true then ((fX3_ownClock x1.toNatClampNeg (M 19 0 x1.toNatClampNeg) M).bind fun r8 => (if pf_in x1 8 = true then ((fX3_ownClock x1.toNatClampNeg (M 18 0 x1.toNatClampNeg) M).bind fun r10 => some (r8 - r10))
  else none))
  else none)
  else none)
set_option maxRecDepth 4000 in
theorem c_X1_gap (G : pf_G) (x1 : Int32) (M : pf_M) (q : Int32) (h : fX1_gap x1 M = some q) : pf_Met G yX1_gap cX1_gap 3 (some .int) 2 43 [pf_R 17 0, pf_I x1] M (some (pf_I q)) M := by
  refine pf_Met.of (by decide +kernel) (Nat.le_of_ble_eq_true rfl) (fun K R => ?_)
  show K 0 [pf_R 17 0, pf_I x1, pf_U] [] M
  unfold fX1_gap at h
  refine r_aload_n R 1 dX1_gap_0 rfl rfl ?_
  refine r_getfield R 4 dX1_gap_1 rfl fl_X1_18 rfl (show _ = pf_R 7 0 from rfl) ?_
  refine r_getfield R 7 dX1_gap_4 rfl fl_X1_52 rfl (show _ = pf_R 8 0 from rfl) ?_
  refine r_iload_n R 8 dX1_gap_7 rfl rfl ?_
  obtain ⟨hi6, h⟩ := pf_gd h
  refine r_aaload R 9 dX1_gap_8 rfl rfl rfl rfl (pf_in_iff.mp hi6) ?_
  refine r_astore_n R 10 dX1_gap_9 rfl rfl (show _ = [pf_R 17 0, pf_I x1, pf_R 11 x1.toNatClampNeg] from rfl) ?_
  refine r_aload_n R 11 dX1_gap_10 rfl rfl ?_
  refine r_aload_n R 12 dX1_gap_11 rfl rfl ?_
  refine r_getfield R 15 dX1_gap_12 rfl fl_X1_15 rfl (show _ = pf_R 19 0 from rfl) ?_
  refine r_iload_n R 16 dX1_gap_15 rfl rfl ?_
  obtain ⟨hi7, h⟩ := pf_gd h
  refine r_iaload R 17 dX1_gap_16 rfl ⟨rfl, rfl⟩ (pf_in_iff.mp hi7) ?_
  obtain ⟨r8, hr8, h⟩ := pf_bd h
  refine r_cvI1 R 20 dX1_gap_17 rfl lk_X1_79 rfl (c_X3_ownClock G x1.toNatClampNeg (M 19 0 x1.toNatClampNeg) M _ hr8) rfl rfl rfl ?_
  refine r_aload_n R 21 dX1_gap_20 rfl rfl ?_
  refine r_aload_n R 22 dX1_gap_21 rfl rfl ?_
  refine r_getfield R 25 dX1_gap_22 rfl fl_X1_9 rfl (show _ = pf_R 18 0 from rfl) ?_
  refine r_iload_n R 26 dX1_gap_25 rfl rfl ?_
  obtain ⟨hi9, h⟩ := pf_gd h
  refine r_iaload R 27 dX1_gap_26 rfl ⟨rfl, rfl⟩ (pf_in_iff.mp hi9) ?_
  obtain ⟨r10, hr10, h⟩ := pf_bd h
  refine r_cvI1 R 30 dX1_gap_27 rfl lk_X1_79 rfl (c_X3_ownClock G x1.toNatClampNeg (M 18 0 x1.toNatClampNeg) M _ hr10) rfl rfl rfl ?_
  refine r_isub R 31 dX1_gap_30 rfl ?_
  obtain rfl := Option.some.inj h
  exact r_ireturn R dX1_gap_31 rfl rfl rfl rfl
def lX1_setDelays_15 (x1 : Int32) : Nat → Int32 → pf_M → Option (pf_M)
  | 0, _, _ => none
  | n + 1, v15_2, M15 =>
  (if x1 < v15_2 then some M15
  else ((fX1_gap (v15_2 - (1 : Int32)) M15).bind fun r4 => ((fX1_gap v15_2 M15).bind fun r5 => (if pf_in v15_2 8 = true then (if pf_in (v15_2 - (1 : Int32)) 8 = true then (lX1_setDelays_15 x1 n) (v15_2 + (1 : Int32)) (pf_up M15 11 v15_2.toNatClampNeg 9 ((M15 11 ((v15_2 - (1 : Int32)).toNatClampNeg) 9) + ((fX9_pass M15) + ((fJ9_max_7cf53 (0 : Int32) (((r4 - r5) - (fX9_pass M15)) - (fX1_turnBefore v15_2 x1 M15))) / (2 : Int32)))))
  else none)
  else none))))
def fX1_setDelays (x1 : Int32) (M : pf_M) : Option (pf_M) :=
  lX1_setDelays_15 x1 pf_fu (1 : Int32) (pf_up M 11 ((0 : Int32).toNatClampNeg) 9 (0 : Int32))
set_option maxRecDepth 4000 in
theorem c_X1_setDelays (G : pf_G) (x1 : Int32) (M : pf_M) (q : pf_M) (h : fX1_setDelays x1 M = some q) : pf_Met G yX1_setDelays cX1_setDelays 5 (none) 3 65 [pf_R 17 0, pf_I x1] M none q := by
  refine pf_Met.of (by decide +kernel) (Nat.le_of_ble_eq_true rfl) (fun K R => ?_)
  show K 0 [pf_R 17 0, pf_I x1, pf_U, pf_U, pf_U] [] M
  have hl15 : ∀ (n : Nat) (v15_2 : Int32) (M15 : pf_M), lX1_setDelays_15 x1 n v15_2 M15 = some q → K 15 [pf_R 17 0, pf_I x1, pf_I v15_2, pf_U, pf_U] [] M15 := by
    intro n
    induction n with
    | zero =>
      intro v15_2 M15 h
      rw [lX1_setDelays_15] at h
      cases h
    | succ n ih15 =>
        intro v15_2 M15 h
        rw [lX1_setDelays_15] at h
        refine r_iload_n R 16 dX1_setDelays_15 rfl rfl ?_
        refine r_iload_n R 17 dX1_setDelays_16 rfl rfl ?_
        refine r_icmp_gt R 20 101 dX1_setDelays_17 rfl (by decide) (fun hc => ?_) (fun hc => ?_)
        · have h := pf_ifp hc h
          obtain rfl := Option.some.inj h
          exact r_return_ R dX1_setDelays_101 rfl rfl rfl
        · have h := pf_ifn hc h
          refine r_aload_n R 21 dX1_setDelays_20 rfl rfl ?_
          refine r_iload_n R 22 dX1_setDelays_21 rfl rfl ?_
          refine r_iconst R 23 dX1_setDelays_22 rfl ic_iconst_1 ?_
          refine r_isub R 24 dX1_setDelays_23 rfl ?_
          obtain ⟨r4, hr4, h⟩ := pf_bd h
          refine r_cvI1 R 27 dX1_setDelays_24 rfl lk_X1_71 rfl (c_X1_gap G (v15_2 - (1 : Int32)) M15 _ hr4) rfl rfl rfl ?_
          refine r_aload_n R 28 dX1_setDelays_27 rfl rfl ?_
          refine r_iload_n R 29 dX1_setDelays_28 rfl rfl ?_
          obtain ⟨r5, hr5, h⟩ := pf_bd h
          refine r_cvI1 R 32 dX1_setDelays_29 rfl lk_X1_71 rfl (c_X1_gap G v15_2 M15 _ hr5) rfl rfl rfl ?_
          refine r_isub R 33 dX1_setDelays_32 rfl ?_
          refine r_aload_n R 34 dX1_setDelays_33 rfl rfl ?_
          refine r_getfield R 37 dX1_setDelays_34 rfl fl_X1_18 rfl (show _ = pf_R 7 0 from rfl) ?_
          refine r_cvI0 R 40 dX1_setDelays_37 rfl lk_X1_68 rfl (c_X9_pass G M15 _ rfl) rfl rfl rfl ?_
          refine r_isub R 41 dX1_setDelays_40 rfl ?_
          refine r_aload_n R 42 dX1_setDelays_41 rfl rfl ?_
          refine r_iload_n R 43 dX1_setDelays_42 rfl rfl ?_
          refine r_iload_n R 44 dX1_setDelays_43 rfl rfl ?_
          refine r_cvI2 R 47 dX1_setDelays_44 rfl lk_X1_42 rfl (c_X1_turnBefore G v15_2 x1 M15 _ rfl) rfl rfl rfl ?_
          refine r_isub R 48 dX1_setDelays_47 rfl ?_
          refine r_istore_n R 49 dX1_setDelays_48 rfl rfl (show _ = [pf_R 17 0, pf_I x1, pf_I v15_2, pf_I (((r4 - r5) - (fX9_pass M15)) - (fX1_turnBefore v15_2 x1 M15)), pf_U] from rfl) ?_
          refine r_aload_n R 50 dX1_setDelays_49 rfl rfl ?_
          refine r_getfield R 53 dX1_setDelays_50 rfl fl_X1_18 rfl (show _ = pf_R 7 0 from rfl) ?_
          refine r_cvI0 R 56 dX1_setDelays_53 rfl lk_X1_68 rfl (c_X9_pass G M15 _ rfl) rfl rfl rfl ?_
          refine r_iconst R 57 dX1_setDelays_56 rfl ic_iconst_0 ?_
          refine r_iload_n R 58 dX1_setDelays_57 rfl rfl ?_
          refine r_csI2 R 61 dX1_setDelays_58 rfl lk_X1_74 (c_J9_max_7cf53 G (0 : Int32) (((r4 - r5) - (fX9_pass M15)) - (fX1_turnBefore v15_2 x1 M15)) _ rfl) rfl rfl rfl ?_
          refine r_iconst R 62 dX1_setDelays_61 rfl ic_iconst_2 ?_
          refine r_idiv R 63 dX1_setDelays_62 rfl (by decide) ?_
          refine r_iadd R 64 dX1_setDelays_63 rfl ?_
          refine r_istore R 66 dX1_setDelays_64 rfl rfl (show _ = [pf_R 17 0, pf_I x1, pf_I v15_2, pf_I (((r4 - r5) - (fX9_pass M15)) - (fX1_turnBefore v15_2 x1 M15)), pf_I ((fX9_pass M15) + ((fJ9_max_7cf53 (0 : Int32) (((r4 - r5) - (fX9_pass M15)) - (fX1_turnBefore v15_2 x1 M15))) / (2 : Int32)))] from rfl) ?_
          refine r_aload_n R 67 dX1_setDelays_66 rfl rfl ?_
          refine r_getfield R 70 dX1_setDelays_67 rfl fl_X1_18 rfl (show _ = pf_R 7 0 from rfl) ?_
          refine r_getfield R 73 dX1_setDelays_70 rfl fl_X1_52 rfl (show _ = pf_R 8 0 from rfl) ?_
          refine r_iload_n R 74 dX1_setDelays_73 rfl rfl ?_
          obtain ⟨hi6, h⟩ := pf_gd h
          refine r_aaload R 75 dX1_setDelays_74 rfl rfl rfl rfl (pf_in_iff.mp hi6) ?_
          refine r_aload_n R 76 dX1_setDelays_75 rfl rfl ?_
          refine r_getfield R 79 dX1_setDelays_76 rfl fl_X1_18 rfl (show _ = pf_R 7 0 from rfl) ?_
          refine r_getfield R 82 dX1_setDelays_79 rfl fl_X1_52 rfl (show _ = pf_R 8 0 from rfl) ?_
          refine r_iload_n R 83 dX1_setDelays_82 rfl rfl ?_
          refine r_iconst R 84 dX1_setDelays_83 rfl ic_iconst_1 ?_
          refine r_isub R 85 dX1_setDelays_84 rfl ?_
          obtain ⟨hi7, h⟩ := pf_gd h
          refine r_aaload R 86 dX1_setDelays_85 rfl rfl rfl rfl (pf_in_iff.mp hi7) ?_
          refine r_getfield R 89 dX1_setDelays_86 rfl fl_X1_56 rfl (show _ = pf_I (M15 11 ((v15_2 - (1 : Int32)).toNatClampNeg) 9) from rfl) ?_
          refine r_iload R 91 dX1_setDelays_89 rfl rfl ?_
          refine r_iadd R 92 dX1_setDelays_91 rfl ?_
          refine r_putfield R 95 dX1_setDelays_92 rfl fl_X1_56 rfl rfl rfl rfl ?_
          refine r_iinc R 98 dX1_setDelays_95 rfl rfl ic_iconst_1 (show _ = [pf_R 17 0, pf_I x1, pf_I (v15_2 + (1 : Int32)), pf_I (((r4 - r5) - (fX9_pass M15)) - (fX1_turnBefore v15_2 x1 M15)), pf_I ((fX9_pass M15) + ((fJ9_max_7cf53 (0 : Int32) (((r4 - r5) - (fX9_pass M15)) - (fX1_turnBefore v15_2 x1 M15))) / (2 : Int32)))] from rfl) ?_
          refine r_goto R 15 dX1_setDelays_98 (by decide) ?_
          refine r_fg R [true, true, true, false, false] (show _ = [pf_R 17 0, pf_I x1, pf_I (v15_2 + (1 : Int32)), pf_U, pf_U] from rfl) ?_
          exact ih15 _ _ h
  unfold fX1_setDelays at h
  refine r_aload_n R 1 dX1_setDelays_0 rfl rfl ?_
  refine r_getfield R 4 dX1_setDelays_1 rfl fl_X1_18 rfl (show _ = pf_R 7 0 from rfl) ?_
  refine r_getfield R 7 dX1_setDelays_4 rfl fl_X1_52 rfl (show _ = pf_R 8 0 from rfl) ?_
  refine r_iconst R 8 dX1_setDelays_7 rfl ic_iconst_0 ?_
  refine r_aaload R 9 dX1_setDelays_8 rfl rfl rfl rfl (pf_in_iff.mp (by decide)) ?_
  refine r_iconst R 10 dX1_setDelays_9 rfl ic_iconst_0 ?_
  refine r_putfield R 13 dX1_setDelays_10 rfl fl_X1_56 rfl rfl rfl rfl ?_
  refine r_iconst R 14 dX1_setDelays_13 rfl ic_iconst_1 ?_
  refine r_istore_n R 15 dX1_setDelays_14 rfl rfl (show _ = [pf_R 17 0, pf_I x1, pf_I (1 : Int32), pf_U, pf_U] from rfl) ?_
  exact hl15 pf_fu _ _ h
def lX1_setOffsets_21 (x1 : Int32) (f21_2 : Int32) : Nat → Int32 → pf_M → Option (pf_M)
  | 0, _, _ => none
  | n + 1, v21_3, M21 =>
  (if x1 < v21_3 then some M21
  else (if pf_in v21_3 8 = true then (if pf_in v21_3 8 = true then ((fX3_ownClock v21_3.toNatClampNeg (M21 18 0 v21_3.toNatClampNeg) M21).bind fun r5 => (lX1_setOffsets_21 x1 f21_2 n) (v21_3 + (1 : Int32)) (pf_up M21 11 v21_3.toNatClampNeg 8 ((f21_2 + (M21 11 v21_3.toNatClampNeg 9)) - r5)))
  else none)
  else none))
def fX1_setOffsets (x1 : Int32) (M : pf_M) : Option (pf_M) :=
  ((fX3_ownClock ((0 : Int32).toNatClampNeg) (M 18 0 (0 : Int32).toNatClampNeg) M).bind fun r6 => lX1_setOffsets_21 x1 r6 pf_fu (0 : Int32) M)
set_option maxRecDepth 4000 in
theorem c_X1_setOffsets (G : pf_G) (x1 : Int32) (M : pf_M) (q : pf_M) (h : fX1_setOffsets x1 M = some q) : pf_Met G yX1_setOffsets cX1_setOffsets 5 (none) 2 43 [pf_R 17 0, pf_I x1] M none q := by
  refine pf_Met.of (by decide +kernel) (Nat.le_of_ble_eq_true rfl) (fun K R => ?_)
  show K 0 [pf_R 17 0, pf_I x1, pf_U, pf_U, pf_U] [] M
  have hl21 : ∀ (f21_2 : Int32), ∀ (n : Nat) (v21_3 : Int32) (M21 : pf_M), lX1_setOffsets_21 x1 f21_2 n v21_3 M21 = some q → K 21 [pf_R 17 0, pf_I x1, pf_I f21_2, pf_I v21_3, pf_U] [] M21 := by
    intro f21_2 n
    induction n with
    | zero =>
      intro v21_3 M21 h
      rw [lX1_setOffsets_21] at h
      cases h
    | succ n ih21 =>
        intro v21_3 M21 h
        rw [lX1_setOffsets_21] at h
        refine r_iload_n R 22 dX1_setOffsets_21 rfl rfl ?_
        refine r_iload_n R 23 dX1_setOffsets_22 rfl rfl ?_
        refine r_icmp_gt R 26 67 dX1_setOffsets_23 rfl (by decide) (fun hc => ?_) (fun hc => ?_)
        · have h := pf_ifp hc h
          obtain rfl := Option.some.inj h
          exact r_return_ R dX1_setOffsets_67 rfl rfl rfl
        · have h := pf_ifn hc h
          refine r_aload_n R 27 dX1_setOffsets_26 rfl rfl ?_
          refine r_getfield R 30 dX1_setOffsets_27 rfl fl_X1_18 rfl (show _ = pf_R 7 0 from rfl) ?_
          refine r_getfield R 33 dX1_setOffsets_30 rfl fl_X1_52 rfl (show _ = pf_R 8 0 from rfl) ?_
          refine r_iload_n R 34 dX1_setOffsets_33 rfl rfl ?_
          obtain ⟨hi3, h⟩ := pf_gd h
          refine r_aaload R 35 dX1_setOffsets_34 rfl rfl rfl rfl (pf_in_iff.mp hi3) ?_
          refine r_astore R 37 dX1_setOffsets_35 rfl rfl (show _ = [pf_R 17 0, pf_I x1, pf_I f21_2, pf_I v21_3, pf_R 11 v21_3.toNatClampNeg] from rfl) ?_
          refine r_aload R 39 dX1_setOffsets_37 rfl rfl ?_
          refine r_iload_n R 40 dX1_setOffsets_39 rfl rfl ?_
          refine r_aload R 42 dX1_setOffsets_40 rfl rfl ?_
          refine r_getfield R 45 dX1_setOffsets_42 rfl fl_X1_56 rfl (show _ = pf_I (M21 11 v21_3.toNatClampNeg 9) from rfl) ?_
          refine r_iadd R 46 dX1_setOffsets_45 rfl ?_
          refine r_aload R 48 dX1_setOffsets_46 rfl rfl ?_
          refine r_aload_n R 49 dX1_setOffsets_48 rfl rfl ?_
          refine r_getfield R 52 dX1_setOffsets_49 rfl fl_X1_9 rfl (show _ = pf_R 18 0 from rfl) ?_
          refine r_iload_n R 53 dX1_setOffsets_52 rfl rfl ?_
          obtain ⟨hi4, h⟩ := pf_gd h
          refine r_iaload R 54 dX1_setOffsets_53 rfl ⟨rfl, rfl⟩ (pf_in_iff.mp hi4) ?_
          obtain ⟨r5, hr5, h⟩ := pf_bd h
          refine r_cvI1 R 57 dX1_setOffsets_54 rfl lk_X1_79 rfl (c_X3_ownClock G v21_3.toNatClampNeg (M21 18 0 v21_3.toNatClampNeg) M21 _ hr5) rfl rfl rfl ?_
          refine r_isub R 58 dX1_setOffsets_57 rfl ?_
          refine r_putfield R 61 dX1_setOffsets_58 rfl fl_X1_82 rfl rfl rfl rfl ?_
          refine r_iinc R 64 dX1_setOffsets_61 rfl rfl ic_iconst_1 (show _ = [pf_R 17 0, pf_I x1, pf_I f21_2, pf_I (v21_3 + (1 : Int32)), pf_R 11 v21_3.toNatClampNeg] from rfl) ?_
          refine r_goto R 21 dX1_setOffsets_64 (by decide) ?_
          refine r_fg R [true, true, true, true, false] (show _ = [pf_R 17 0, pf_I x1, pf_I f21_2, pf_I (v21_3 + (1 : Int32)), pf_U] from rfl) ?_
          exact ih21 _ _ h
  unfold fX1_setOffsets at h
  refine r_aload_n R 1 dX1_setOffsets_0 rfl rfl ?_
  refine r_getfield R 4 dX1_setOffsets_1 rfl fl_X1_18 rfl (show _ = pf_R 7 0 from rfl) ?_
  refine r_getfield R 7 dX1_setOffsets_4 rfl fl_X1_52 rfl (show _ = pf_R 8 0 from rfl) ?_
  refine r_iconst R 8 dX1_setOffsets_7 rfl ic_iconst_0 ?_
  refine r_aaload R 9 dX1_setOffsets_8 rfl rfl rfl rfl (pf_in_iff.mp (by decide)) ?_
  refine r_aload_n R 10 dX1_setOffsets_9 rfl rfl ?_
  refine r_getfield R 13 dX1_setOffsets_10 rfl fl_X1_9 rfl (show _ = pf_R 18 0 from rfl) ?_
  refine r_iconst R 14 dX1_setOffsets_13 rfl ic_iconst_0 ?_
  refine r_iaload R 15 dX1_setOffsets_14 rfl ⟨rfl, rfl⟩ (pf_in_iff.mp (by decide)) ?_
  obtain ⟨r6, hr6, h⟩ := pf_bd h
  refine r_cvI1 R 18 dX1_setOffsets_15 rfl lk_X1_79 rfl (c_X3_ownClock G ((0 : Int32).toNatClampNeg) (M 18 0 (0 : Int32).toNatClampNeg) M _ hr6) rfl rfl rfl ?_
  refine r_istore_n R 19 dX1_setOffsets_18 rfl rfl (show _ = [pf_R 17 0, pf_I x1, pf_I r6, pf_U, pf_U] from rfl) ?_
  refine r_iconst R 20 dX1_setOffsets_19 rfl ic_iconst_0 ?_
  refine r_istore_n R 21 dX1_setOffsets_20 rfl rfl (show _ = [pf_R 17 0, pf_I x1, pf_I r6, pf_I (0 : Int32), pf_U] from rfl) ?_
  exact hl21 _ pf_fu _ _ h
def fX1_synchronize (M : pf_M) : Option (Int32 × pf_M) :=
  ((fX9_sizeOfA M).bind fun r7 => (if (0 : Int32) ≤ (r7 - (1 : Int32)) then ((fX1_setTimes (r7 - (1 : Int32)) M).bind fun q8 => ((fX1_setDelays (r7 - (1 : Int32)) q8).bind fun q9 => ((fX1_setOffsets (r7 - (1 : Int32)) q9).bind fun q10 => ((fX9_wireTime (0 : Int32) q10).bind fun r11 => (if pf_in (r7 - (1 : Int32)) 8 = true then some ((fX9_passTime ((((q10 19 0 (0 : Int32).toNatClampNeg) + r11) + (fX1_turnBefore (0 : Int32) (r7 - (1 : Int32)) q10)) - (fX9_time q10)) q10) 11 ((r7 - (1 : Int32)).toNatClampNeg) 9, (fX9_passTime ((((q10 19 0 (0 : Int32).toNatClampNeg) + r11) + (fX1_turnBefore (0 : Int32) (r7 - (1 : Int32)) q10)) - (fX9_time q10)) q10))
  else none)))))
  else some ((-2 : Int32), M)))
set_option maxRecDepth 4000 in
theorem c_X1_synchronize (G : pf_G) (M : pf_M) (q : Int32 × pf_M) (h : fX1_synchronize M = some q) : pf_Met G yX1_synchronize cX1_synchronize 3 (some .int) 4 89 [pf_R 17 0] M (some (pf_I q.1)) q.2 := by
  refine pf_Met.of (by decide +kernel) (Nat.le_of_ble_eq_true rfl) (fun K R => ?_)
  show K 0 [pf_R 17 0, pf_U, pf_U] [] M
  unfold fX1_synchronize at h
  refine r_aload_n R 1 dX1_synchronize_0 rfl rfl ?_
  refine r_getfield R 4 dX1_synchronize_1 rfl fl_X1_18 rfl (show _ = pf_R 7 0 from rfl) ?_
  obtain ⟨r7, hr7, h⟩ := pf_bd h
  refine r_cvI0 R 7 dX1_synchronize_4 rfl lk_X1_22 rfl (c_X9_sizeOfA G M _ hr7) rfl rfl rfl ?_
  refine r_iconst R 8 dX1_synchronize_7 rfl ic_iconst_1 ?_
  refine r_isub R 9 dX1_synchronize_8 rfl ?_
  refine r_istore_n R 10 dX1_synchronize_9 rfl rfl (show _ = [pf_R 17 0, pf_I (r7 - (1 : Int32)), pf_U] from rfl) ?_
  refine r_iload_n R 11 dX1_synchronize_10 rfl rfl ?_
  refine r_if_ge R 14 17 dX1_synchronize_11 rfl (by decide) (fun hc => ?_) (fun hc => ?_)
  · have h := pf_ifp hc h
    refine r_aload_n R 18 dX1_synchronize_17 rfl rfl ?_
    refine r_iload_n R 19 dX1_synchronize_18 rfl rfl ?_
    obtain ⟨q8, hq8, h⟩ := pf_bd h
    refine r_cvV1 R 22 dX1_synchronize_19 rfl lk_X1_28 rfl (c_X1_setTimes G (r7 - (1 : Int32)) M _ hq8) rfl rfl rfl ?_
    refine r_aload_n R 23 dX1_synchronize_22 rfl rfl ?_
    refine r_iload_n R 24 dX1_synchronize_23 rfl rfl ?_
    obtain ⟨q9, hq9, h⟩ := pf_bd h
    refine r_cvV1 R 27 dX1_synchronize_24 rfl lk_X1_32 rfl (c_X1_setDelays G (r7 - (1 : Int32)) q8 _ hq9) rfl rfl rfl ?_
    refine r_aload_n R 28 dX1_synchronize_27 rfl rfl ?_
    refine r_iload_n R 29 dX1_synchronize_28 rfl rfl ?_
    obtain ⟨q10, hq10, h⟩ := pf_bd h
    refine r_cvV1 R 32 dX1_synchronize_29 rfl lk_X1_35 rfl (c_X1_setOffsets G (r7 - (1 : Int32)) q9 _ hq10) rfl rfl rfl ?_
    refine r_aload_n R 33 dX1_synchronize_32 rfl rfl ?_
    refine r_getfield R 36 dX1_synchronize_33 rfl fl_X1_15 rfl (show _ = pf_R 19 0 from rfl) ?_
    refine r_iconst R 37 dX1_synchronize_36 rfl ic_iconst_0 ?_
    refine r_iaload R 38 dX1_synchronize_37 rfl ⟨rfl, rfl⟩ (pf_in_iff.mp (by decide)) ?_
    refine r_aload_n R 39 dX1_synchronize_38 rfl rfl ?_
    refine r_getfield R 42 dX1_synchronize_39 rfl fl_X1_18 rfl (show _ = pf_R 7 0 from rfl) ?_
    refine r_iconst R 43 dX1_synchronize_42 rfl ic_iconst_0 ?_
    obtain ⟨r11, hr11, h⟩ := pf_bd h
    refine r_cvI1 R 46 dX1_synchronize_43 rfl lk_X1_38 rfl (c_X9_wireTime G (0 : Int32) q10 _ hr11) rfl rfl rfl ?_
    refine r_iadd R 47 dX1_synchronize_46 rfl ?_
    refine r_aload_n R 48 dX1_synchronize_47 rfl rfl ?_
    refine r_iconst R 49 dX1_synchronize_48 rfl ic_iconst_0 ?_
    refine r_iload_n R 50 dX1_synchronize_49 rfl rfl ?_
    refine r_cvI2 R 53 dX1_synchronize_50 rfl lk_X1_42 rfl (c_X1_turnBefore G (0 : Int32) (r7 - (1 : Int32)) q10 _ rfl) rfl rfl rfl ?_
    refine r_iadd R 54 dX1_synchronize_53 rfl ?_
    refine r_istore_n R 55 dX1_synchronize_54 rfl rfl (show _ = [pf_R 17 0, pf_I (r7 - (1 : Int32)), pf_I (((q10 19 0 (0 : Int32).toNatClampNeg) + r11) + (fX1_turnBefore (0 : Int32) (r7 - (1 : Int32)) q10))] from rfl) ?_
    refine r_aload_n R 56 dX1_synchronize_55 rfl rfl ?_
    refine r_getfield R 59 dX1_synchronize_56 rfl fl_X1_18 rfl (show _ = pf_R 7 0 from rfl) ?_
    refine r_iload_n R 60 dX1_synchronize_59 rfl rfl ?_
    refine r_aload_n R 61 dX1_synchronize_60 rfl rfl ?_
    refine r_getfield R 64 dX1_synchronize_61 rfl fl_X1_18 rfl (show _ = pf_R 7 0 from rfl) ?_
    refine r_cvI0 R 67 dX1_synchronize_64 rfl lk_X1_46 rfl (c_X9_time G q10 _ rfl) rfl rfl rfl ?_
    refine r_isub R 68 dX1_synchronize_67 rfl ?_
    refine r_cvV1 R 71 dX1_synchronize_68 rfl lk_X1_49 rfl (c_X9_passTime G ((((q10 19 0 (0 : Int32).toNatClampNeg) + r11) + (fX1_turnBefore (0 : Int32) (r7 - (1 : Int32)) q10)) - (fX9_time q10)) q10 _ rfl) rfl rfl rfl ?_
    refine r_aload_n R 72 dX1_synchronize_71 rfl rfl ?_
    refine r_getfield R 75 dX1_synchronize_72 rfl fl_X1_18 rfl (show _ = pf_R 7 0 from rfl) ?_
    refine r_getfield R 78 dX1_synchronize_75 rfl fl_X1_52 rfl (show _ = pf_R 8 0 from rfl) ?_
    refine r_iload_n R 79 dX1_synchronize_78 rfl rfl ?_
    obtain ⟨hi12, h⟩ := pf_gd h
    refine r_aaload R 80 dX1_synchronize_79 rfl rfl rfl rfl (pf_in_iff.mp hi12) ?_
    refine r_getfield R 83 dX1_synchronize_80 rfl fl_X1_56 rfl (show _ = pf_I ((fX9_passTime ((((q10 19 0 (0 : Int32).toNatClampNeg) + r11) + (fX1_turnBefore (0 : Int32) (r7 - (1 : Int32)) q10)) - (fX9_time q10)) q10) 11 ((r7 - (1 : Int32)).toNatClampNeg) 9) from rfl) ?_
    obtain rfl := Option.some.inj h
    exact r_ireturn R dX1_synchronize_83 rfl rfl rfl rfl
  · have h := pf_ifn hc h
    refine r_bipush R 16 dX1_synchronize_14 rfl ic_bipush_m2 ?_
    obtain rfl := Option.some.inj h
    exact r_ireturn R dX1_synchronize_16 rfl rfl rfl rfl
def fX11_level (M : pf_M) : Option (Int32 × pf_M) :=
  ((fX1_synchronize M).bind fun q2 => some (q2.1, q2.2))
set_option maxRecDepth 4000 in
theorem c_X11_level (G : pf_G) (M : pf_M) (q : Int32 × pf_M) (h : fX11_level M = some q) : pf_Met G yX11_level cX11_level 1 (some .int) 5 111 [pf_R 0 0] M (some (pf_I q.1)) q.2 := by
  refine pf_Met.of (by decide +kernel) (Nat.le_of_ble_eq_true rfl) (fun K R => ?_)
  show K 0 [pf_R 0 0] [] M
  unfold fX11_level at h
  refine r_aload_n R 1 dX11_level_0 rfl rfl ?_
  refine r_getfield R 4 dX11_level_1 rfl fl_X11_28 rfl (show _ = pf_R 17 0 from rfl) ?_
  obtain ⟨q2, hq2, h⟩ := pf_bd h
  refine r_cvI0 R 7 dX11_level_4 rfl lk_X11_256 rfl (c_X1_synchronize G M _ hq2) rfl rfl rfl ?_
  obtain rfl := Option.some.inj h
  exact r_ireturn R dX11_level_7 rfl rfl rfl rfl
def fX6_replaceLosses (x1 : Int32) (M : pf_M) : Int32 × pf_M :=
  (M 20 0 4, (pf_up M 20 0 4 x1))
set_option maxRecDepth 4000 in
theorem c_X6_replaceLosses (G : pf_G) (x1 : Int32) (M : pf_M) (q : Int32 × pf_M) (h : fX6_replaceLosses x1 M = q) : pf_Met G yX6_replaceLosses cX6_replaceLosses 3 (some .int) 0 0 [pf_R 20 0, pf_I x1] M (some (pf_I q.1)) q.2 := by
  refine pf_Met.of (by decide +kernel) (Nat.le_of_ble_eq_true rfl) (fun K R => ?_)
  show K 0 [pf_R 20 0, pf_I x1, pf_U] [] M
  unfold fX6_replaceLosses at h
  refine r_aload_n R 1 dX6_replaceLosses_0 rfl rfl ?_
  refine r_getfield R 4 dX6_replaceLosses_1 rfl fl_X6_39 rfl (show _ = pf_I (M 20 0 4) from rfl) ?_
  refine r_istore_n R 5 dX6_replaceLosses_4 rfl rfl (show _ = [pf_R 20 0, pf_I x1, pf_I (M 20 0 4)] from rfl) ?_
  refine r_aload_n R 6 dX6_replaceLosses_5 rfl rfl ?_
  refine r_iload_n R 7 dX6_replaceLosses_6 rfl rfl ?_
  refine r_putfield R 10 dX6_replaceLosses_7 rfl fl_X6_39 rfl rfl rfl rfl ?_
  refine r_iload_n R 11 dX6_replaceLosses_10 rfl rfl ?_
  subst h
  exact r_ireturn R dX6_replaceLosses_11 rfl rfl rfl rfl
def fX11_lose (x1 : Int32) (M : pf_M) : Int32 × pf_M :=
  (if (fX11_isWithin x1 (0 : Int32) (9 : Int32)) = (0 : Int32) then ((-1 : Int32), M)
  else ((fX6_replaceLosses x1 M).1, (fX6_replaceLosses x1 M).2))
set_option maxRecDepth 4000 in
theorem c_X11_lose (G : pf_G) (x1 : Int32) (M : pf_M) (q : Int32 × pf_M) (h : fX11_lose x1 M = q) : pf_Met G yX11_lose cX11_lose 2 (some .int) 1 22 [pf_R 0 0, pf_I x1] M (some (pf_I q.1)) q.2 := by
  refine pf_Met.of (by decide +kernel) (Nat.le_of_ble_eq_true rfl) (fun K R => ?_)
  show K 0 [pf_R 0 0, pf_I x1] [] M
  unfold fX11_lose at h
  refine r_iload_n R 1 dX11_lose_0 rfl rfl ?_
  refine r_iconst R 2 dX11_lose_1 rfl ic_iconst_0 ?_
  refine r_bipush R 4 dX11_lose_2 rfl ic_bipush_9 ?_
  refine r_csI3 R 7 dX11_lose_4 rfl lk_X11_65 (c_X11_isWithin G x1 (0 : Int32) (9 : Int32) _ rfl) rfl rfl rfl ?_
  refine r_if_eq R 10 21 dX11_lose_7 rfl (by decide) (fun hc => ?_) (fun hc => ?_)
  · have h := pf_ifp hc h
    refine r_iconst R 22 dX11_lose_21 rfl ic_iconst_m1 ?_
    subst h
    exact r_ireturn R dX11_lose_22 rfl rfl rfl rfl
  · have h := pf_ifn hc h
    refine r_aload_n R 11 dX11_lose_10 rfl rfl ?_
    refine r_getfield R 14 dX11_lose_11 rfl fl_X11_35 rfl (show _ = pf_R 20 0 from rfl) ?_
    refine r_iload_n R 15 dX11_lose_14 rfl rfl ?_
    refine r_cvI1 R 18 dX11_lose_15 rfl lk_X11_127 rfl (c_X6_replaceLosses G x1 M _ rfl) rfl rfl rfl ?_
    refine r_goto R 22 dX11_lose_18 (by decide) ?_
    subst h
    exact r_ireturn R dX11_lose_22 rfl rfl rfl rfl
def fX7_exists (o0 : Nat) (M : pf_M) : Int32 :=
  (if (M 13 o0 1) ≤ (0 : Int32) then (0 : Int32)
  else (1 : Int32))
set_option maxRecDepth 4000 in
theorem c_X7_exists (G : pf_G) (o0 : Nat) (M : pf_M) (q : Int32) (h : fX7_exists o0 M = q) : pf_Met G yX7_exists cX7_exists 1 (some .boolean) 0 0 [pf_R 13 o0] M (some (pf_I q)) M := by
  refine pf_Met.of (by decide +kernel) (Nat.le_of_ble_eq_true rfl) (fun K R => ?_)
  show K 0 [pf_R 13 o0] [] M
  unfold fX7_exists at h
  refine r_aload_n R 1 dX7_exists_0 rfl rfl ?_
  refine r_getfield R 4 dX7_exists_1 rfl fl_X7_15 rfl (show _ = pf_I (M 13 o0 1) from rfl) ?_
  refine r_if_le R 7 11 dX7_exists_4 rfl (by decide) (fun hc => ?_) (fun hc => ?_)
  · have h := pf_ifp hc h
    refine r_iconst R 12 dX7_exists_11 rfl ic_iconst_0 ?_
    subst h
    exact r_ireturn R dX7_exists_12 rfl rfl rfl rfl
  · have h := pf_ifn hc h
    refine r_iconst R 8 dX7_exists_7 rfl ic_iconst_1 ?_
    refine r_goto R 12 dX7_exists_8 (by decide) ?_
    subst h
    exact r_ireturn R dX7_exists_12 rfl rfl rfl rfl
theorem fb_X7_exists (o0 : Nat) (M : pf_M) : fX7_exists o0 M = 0 ∨ fX7_exists o0 M = 1 := by
  unfold fX7_exists
  repeat' split
  all_goals first | exact Or.inl rfl | exact Or.inr rfl
def fX7_meets (o0 : Nat) (x1 : Int32) (x2 : Int32) (M : pf_M) : Int32 :=
  (if (fX7_exists o0 M) = (0 : Int32) then (0 : Int32)
  else (if (x1 + x2) ≤ (M 13 o0 0) then (0 : Int32)
  else (if ((M 13 o0 0) + (M 13 o0 1)) ≤ x1 then (0 : Int32)
  else (1 : Int32))))
set_option maxRecDepth 4000 in
theorem c_X7_meets (G : pf_G) (o0 : Nat) (x1 : Int32) (x2 : Int32) (M : pf_M) (q : Int32) (h : fX7_meets o0 x1 x2 M = q) : pf_Met G yX7_meets cX7_meets 3 (some .boolean) 1 20 [pf_R 13 o0, pf_I x1, pf_I x2] M (some (pf_I q)) M := by
  refine pf_Met.of (by decide +kernel) (Nat.le_of_ble_eq_true rfl) (fun K R => ?_)
  show K 0 [pf_R 13 o0, pf_I x1, pf_I x2] [] M
  unfold fX7_meets at h
  refine r_aload_n R 1 dX7_meets_0 rfl rfl ?_
  refine r_cvI0 R 4 dX7_meets_1 rfl lk_X7_21 rfl (c_X7_exists G o0 M _ rfl) rfl rfl rfl ?_
  refine r_if_eq R 7 34 dX7_meets_4 rfl (by decide) (fun hc => ?_) (fun hc => ?_)
  · have h := pf_ifp hc h
    refine r_iconst R 35 dX7_meets_34 rfl ic_iconst_0 ?_
    subst h
    exact r_ireturn R dX7_meets_35 rfl rfl rfl rfl
  · have h := pf_ifn hc h
    refine r_aload_n R 8 dX7_meets_7 rfl rfl ?_
    refine r_getfield R 11 dX7_meets_8 rfl fl_X7_9 rfl (show _ = pf_I (M 13 o0 0) from rfl) ?_
    refine r_iload_n R 12 dX7_meets_11 rfl rfl ?_
    refine r_iload_n R 13 dX7_meets_12 rfl rfl ?_
    refine r_iadd R 14 dX7_meets_13 rfl ?_
    refine r_icmp_ge R 17 34 dX7_meets_14 rfl (by decide) (fun hc => ?_) (fun hc => ?_)
    · have h := pf_ifp hc h
      refine r_iconst R 35 dX7_meets_34 rfl ic_iconst_0 ?_
      subst h
      exact r_ireturn R dX7_meets_35 rfl rfl rfl rfl
    · have h := pf_ifn hc h
      refine r_iload_n R 18 dX7_meets_17 rfl rfl ?_
      refine r_aload_n R 19 dX7_meets_18 rfl rfl ?_
      refine r_getfield R 22 dX7_meets_19 rfl fl_X7_9 rfl (show _ = pf_I (M 13 o0 0) from rfl) ?_
      refine r_aload_n R 23 dX7_meets_22 rfl rfl ?_
      refine r_getfield R 26 dX7_meets_23 rfl fl_X7_15 rfl (show _ = pf_I (M 13 o0 1) from rfl) ?_
      refine r_iadd R 27 dX7_meets_26 rfl ?_
      refine r_icmp_ge R 30 34 dX7_meets_27 rfl (by decide) (fun hc => ?_) (fun hc => ?_)
      · have h := pf_ifp hc h
        refine r_iconst R 35 dX7_meets_34 rfl ic_iconst_0 ?_
        subst h
        exact r_ireturn R dX7_meets_35 rfl rfl rfl rfl
      · have h := pf_ifn hc h
        refine r_iconst R 31 dX7_meets_30 rfl ic_iconst_1 ?_
        refine r_goto R 35 dX7_meets_31 (by decide) ?_
        subst h
        exact r_ireturn R dX7_meets_35 rfl rfl rfl rfl
theorem fb_X7_meets (o0 : Nat) (x1 : Int32) (x2 : Int32) (M : pf_M) : fX7_meets o0 x1 x2 M = 0 ∨ fX7_meets o0 x1 x2 M = 1 := by
  unfold fX7_meets
  repeat' split
  all_goals first | exact Or.inl rfl | exact Or.inr rfl | exact fb_X7_exists _ _
def jX9_isTaken_40 (rec3 : Int32 → Option (Int32)) (w40_5 : Int32) : Option (Int32) :=
  rec3 (w40_5 + (1 : Int32))
def lX9_isTaken_3 (x1 : Int32) (x2 : Int32) (x3 : Int32) (x4 : Int32) (M : pf_M) : Nat → Int32 → Option (Int32)
  | 0, _ => none
  | n + 1, v3_5 =>
  (if (M 7 0 3) ≤ v3_5 then some (0 : Int32)
  else (if v3_5 = x1 then jX9_isTaken_40 (lX9_isTaken_3 x1 x2 x3 x4 M n) v3_5
  else (if pf_in v3_5 8 = true then (if (fX7_meets (fX3_overlay v3_5.toNatClampNeg x2 M) x3 x4 M) = (0 : Int32) then jX9_isTaken_40 (lX9_isTaken_3 x1 x2 x3 x4 M n) v3_5
  else some (1 : Int32))
  else none)))
def fX9_isTaken (x1 : Int32) (x2 : Int32) (x3 : Int32) (x4 : Int32) (M : pf_M) : Option (Int32) :=
  lX9_isTaken_3 x1 x2 x3 x4 M pf_fu (0 : Int32)
set_option maxRecDepth 4000 in
theorem c_X9_isTaken (G : pf_G) (x1 : Int32) (x2 : Int32) (x3 : Int32) (x4 : Int32) (M : pf_M) (q : Int32) (h : fX9_isTaken x1 x2 x3 x4 M = some q) : pf_Met G yX9_isTaken cX9_isTaken 6 (some .boolean) 2 42 [pf_R 7 0, pf_I x1, pf_I x2, pf_I x3, pf_I x4] M (some (pf_I q)) M := by
  refine pf_Met.of (by decide +kernel) (Nat.le_of_ble_eq_true rfl) (fun K R => ?_)
  show K 0 [pf_R 7 0, pf_I x1, pf_I x2, pf_I x3, pf_I x4, pf_U] [] M
  have hl3 : ∀ (n : Nat) (v3_5 : Int32), lX9_isTaken_3 x1 x2 x3 x4 M n v3_5 = some q → K 3 [pf_R 7 0, pf_I x1, pf_I x2, pf_I x3, pf_I x4, pf_I v3_5] [] M := by
    intro n
    induction n with
    | zero =>
      intro v3_5 h
      rw [lX9_isTaken_3] at h
      cases h
    | succ n ih3 =>
        have hj40 : ∀ (w40_5 : Int32), jX9_isTaken_40 (lX9_isTaken_3 x1 x2 x3 x4 M n) w40_5 = some q → K 40 [pf_R 7 0, pf_I x1, pf_I x2, pf_I x3, pf_I x4, pf_I w40_5] [] M := by
          intro w40_5 h
          unfold jX9_isTaken_40 at h
          refine r_iinc R 43 dX9_isTaken_40 rfl rfl ic_iconst_1 (show _ = [pf_R 7 0, pf_I x1, pf_I x2, pf_I x3, pf_I x4, pf_I (w40_5 + (1 : Int32))] from rfl) ?_
          refine r_goto R 3 dX9_isTaken_43 (by decide) ?_
          exact ih3 _ h
        intro v3_5 h
        rw [lX9_isTaken_3] at h
        refine r_iload R 5 dX9_isTaken_3 rfl rfl ?_
        refine r_aload_n R 6 dX9_isTaken_5 rfl rfl ?_
        refine r_getfield R 9 dX9_isTaken_6 rfl fl_X9_30 rfl (show _ = pf_I (M 7 0 3) from rfl) ?_
        refine r_icmp_ge R 12 46 dX9_isTaken_9 rfl (by decide) (fun hc => ?_) (fun hc => ?_)
        · have h := pf_ifp hc h
          refine r_iconst R 47 dX9_isTaken_46 rfl ic_iconst_0 ?_
          obtain rfl := Option.some.inj h
          exact r_ireturn R dX9_isTaken_47 rfl rfl rfl rfl
        · have h := pf_ifn hc h
          refine r_iload R 14 dX9_isTaken_12 rfl rfl ?_
          refine r_iload_n R 15 dX9_isTaken_14 rfl rfl ?_
          refine r_icmp_eq R 18 40 dX9_isTaken_15 rfl (by decide) (fun hc => ?_) (fun hc => ?_)
          · have h := pf_ifp hc h
            exact hj40 _ h
          · have h := pf_ifn hc h
            refine r_aload_n R 19 dX9_isTaken_18 rfl rfl ?_
            refine r_getfield R 22 dX9_isTaken_19 rfl fl_X9_11 rfl (show _ = pf_R 8 0 from rfl) ?_
            refine r_iload R 24 dX9_isTaken_22 rfl rfl ?_
            obtain ⟨hi1, h⟩ := pf_gd h
            refine r_aaload R 25 dX9_isTaken_24 rfl rfl rfl rfl (pf_in_iff.mp hi1) ?_
            refine r_iload_n R 26 dX9_isTaken_25 rfl rfl ?_
            refine r_cvQ1 R 29 dX9_isTaken_26 rfl lk_X9_106 rfl (c_X3_overlay G v3_5.toNatClampNeg x2 M _ rfl) rfl rfl rfl ?_
            refine r_iload_n R 30 dX9_isTaken_29 rfl rfl ?_
            refine r_iload R 32 dX9_isTaken_30 rfl rfl ?_
            refine r_cvI2 R 35 dX9_isTaken_32 rfl lk_X9_110 rfl (c_X7_meets G (fX3_overlay v3_5.toNatClampNeg x2 M) x3 x4 M _ rfl) rfl rfl rfl ?_
            refine r_if_eq R 38 40 dX9_isTaken_35 rfl (by decide) (fun hc => ?_) (fun hc => ?_)
            · have h := pf_ifp hc h
              exact hj40 _ h
            · have h := pf_ifn hc h
              refine r_iconst R 39 dX9_isTaken_38 rfl ic_iconst_1 ?_
              obtain rfl := Option.some.inj h
              exact r_ireturn R dX9_isTaken_39 rfl rfl rfl rfl
  unfold fX9_isTaken at h
  refine r_iconst R 1 dX9_isTaken_0 rfl ic_iconst_0 ?_
  refine r_istore R 3 dX9_isTaken_1 rfl rfl (show _ = [pf_R 7 0, pf_I x1, pf_I x2, pf_I x3, pf_I x4, pf_I (0 : Int32)] from rfl) ?_
  exact hl3 pf_fu _ h
def fX7_lie (o0 : Nat) (x1 : Int32) (x2 : Int32) (x3 : Int32) (M : pf_M) : pf_M :=
  (pf_up (pf_up (pf_up M 13 o0 0 x1) 13 o0 1 x2) 13 o0 2 x3)
set_option maxRecDepth 4000 in
theorem c_X7_lie (G : pf_G) (o0 : Nat) (x1 : Int32) (x2 : Int32) (x3 : Int32) (M : pf_M) (q : pf_M) (h : fX7_lie o0 x1 x2 x3 M = q) : pf_Met G yX7_lie cX7_lie 4 (none) 0 0 [pf_R 13 o0, pf_I x1, pf_I x2, pf_I x3] M none q := by
  refine pf_Met.of (by decide +kernel) (Nat.le_of_ble_eq_true rfl) (fun K R => ?_)
  show K 0 [pf_R 13 o0, pf_I x1, pf_I x2, pf_I x3] [] M
  unfold fX7_lie at h
  refine r_aload_n R 1 dX7_lie_0 rfl rfl ?_
  refine r_iload_n R 2 dX7_lie_1 rfl rfl ?_
  refine r_putfield R 5 dX7_lie_2 rfl fl_X7_9 rfl rfl rfl rfl ?_
  refine r_aload_n R 6 dX7_lie_5 rfl rfl ?_
  refine r_iload_n R 7 dX7_lie_6 rfl rfl ?_
  refine r_putfield R 10 dX7_lie_7 rfl fl_X7_15 rfl rfl rfl rfl ?_
  refine r_aload_n R 11 dX7_lie_10 rfl rfl ?_
  refine r_iload_n R 12 dX7_lie_11 rfl rfl ?_
  refine r_putfield R 15 dX7_lie_12 rfl fl_X7_18 rfl rfl rfl rfl ?_
  subst h
  exact r_return_ R dX7_lie_15 rfl rfl rfl
def jX11_map_97 (x3 : Int32) (x4 : Int32) (x5 : Int32) (w97_6 : Nat) (s97_0 : Int32) (M97 : pf_M) : Option (Int32 × pf_M) :=
  some (s97_0, (fX7_lie w97_6 x3 x4 x5 M97))
def jX11_map_18 (x1 : Int32) (x2 : Int32) (x3 : Int32) (x4 : Int32) (x5 : Int32) (w18_6 : Option Nat) (s18_0 : Int32) (M18 : pf_M) : Option (Int32 × pf_M) :=
  (match w18_6 with
  | none => some ((-1 : Int32), M18)
  | some i3 => (if (fX11_isWithin x4 (1 : Int32) (8 : Int32)) = (0 : Int32) then some ((-1 : Int32), M18)
  else (if (fX11_isWithin x3 (0 : Int32) ((32 : Int32) - x4)) = (0 : Int32) then some ((-1 : Int32), M18)
  else (if (fX11_isWithin x5 s18_0 ((16 : Int32) - x4)) = (0 : Int32) then some ((-1 : Int32), M18)
  else ((fX9_isTaken x1 x2 x3 x4 M18).bind fun r4 => (if r4 = (0 : Int32) then (if (fX7_exists i3 M18) = (0 : Int32) then jX11_map_97 x3 x4 x5 i3 (0 : Int32) M18
  else jX11_map_97 x3 x4 x5 i3 (1 : Int32) M18)
  else some ((-2 : Int32), M18)))))))
def fX11_map (x1 : Int32) (x2 : Int32) (x3 : Int32) (x4 : Int32) (x5 : Int32) (M : pf_M) : Option (Int32 × pf_M) :=
  ((fX11_findOverlay x1 x2 M).bind fun r5 => (if x2 = (1 : Int32) then jX11_map_18 x1 x2 x3 x4 x5 r5 (4 : Int32) M
  else jX11_map_18 x1 x2 x3 x4 x5 r5 (0 : Int32) M))
set_option maxRecDepth 4000 in
theorem c_X11_map (G : pf_G) (x1 : Int32) (x2 : Int32) (x3 : Int32) (x4 : Int32) (x5 : Int32) (M : pf_M) (q : Int32 × pf_M) (h : fX11_map x1 x2 x3 x4 x5 M = some q) : pf_Met G yX11_map cX11_map 9 (some .int) 3 67 [pf_R 0 0, pf_I x1, pf_I x2, pf_I x3, pf_I x4, pf_I x5] M (some (pf_I q.1)) q.2 := by
  refine pf_Met.of (by decide +kernel) (Nat.le_of_ble_eq_true rfl) (fun K R => ?_)
  show K 0 [pf_R 0 0, pf_I x1, pf_I x2, pf_I x3, pf_I x4, pf_I x5, pf_U, pf_U, pf_U] [] M
  have hj97 : ∀ (w97_6 : Nat) (s97_0 : Int32) (M97 : pf_M), jX11_map_97 x3 x4 x5 w97_6 s97_0 M97 = some q → K 97 [pf_U, pf_U, pf_U, pf_I x3, pf_I x4, pf_I x5, pf_R 13 w97_6, pf_U, pf_U] [pf_I s97_0] M97 := by
    intro w97_6 s97_0 M97 h
    unfold jX11_map_97 at h
    refine r_istore R 99 dX11_map_97 rfl rfl (show _ = [pf_U, pf_U, pf_U, pf_I x3, pf_I x4, pf_I x5, pf_R 13 w97_6, pf_U, pf_I s97_0] from rfl) ?_
    refine r_aload R 101 dX11_map_99 rfl rfl ?_
    refine r_iload_n R 102 dX11_map_101 rfl rfl ?_
    refine r_iload R 104 dX11_map_102 rfl rfl ?_
    refine r_iload R 106 dX11_map_104 rfl rfl ?_
    refine r_cvV3 R 109 dX11_map_106 rfl lk_X11_147 rfl (c_X7_lie G w97_6 x3 x4 x5 M97 _ rfl) rfl rfl rfl ?_
    refine r_iload R 111 dX11_map_109 rfl rfl ?_
    obtain rfl := Option.some.inj h
    exact r_ireturn R dX11_map_111 rfl rfl rfl rfl
  have hj18 : ∀ (w18_6 : Option Nat) (s18_0 : Int32) (M18 : pf_M), jX11_map_18 x1 x2 x3 x4 x5 w18_6 s18_0 M18 = some q → K 18 [pf_R 0 0, pf_I x1, pf_I x2, pf_I x3, pf_I x4, pf_I x5, pf_Q 13 w18_6, pf_U, pf_U] [pf_I s18_0] M18 := by
    intro w18_6 s18_0 M18 h
    unfold jX11_map_18 at h
    refine r_istore R 20 dX11_map_18 rfl rfl (show _ = [pf_R 0 0, pf_I x1, pf_I x2, pf_I x3, pf_I x4, pf_I x5, pf_Q 13 w18_6, pf_I s18_0, pf_U] from rfl) ?_
    refine r_aload R 22 dX11_map_20 rfl rfl ?_
    cases w18_6 with
    | none =>
      refine r_ifnull_t R 64 dX11_map_22 (by decide) ?_
      refine r_iconst R 65 dX11_map_64 rfl ic_iconst_m1 ?_
      obtain rfl := Option.some.inj h
      exact r_ireturn R dX11_map_65 rfl rfl rfl rfl
    | some i3 =>
      refine r_ifnull_f R 25 64 dX11_map_22 rfl (by decide) ?_
      refine r_iload R 27 dX11_map_25 rfl rfl ?_
      refine r_iconst R 28 dX11_map_27 rfl ic_iconst_1 ?_
      refine r_bipush R 30 dX11_map_28 rfl ic_bipush_8 ?_
      refine r_csI3 R 33 dX11_map_30 rfl lk_X11_65 (c_X11_isWithin G x4 (1 : Int32) (8 : Int32) _ rfl) rfl rfl rfl ?_
      refine r_if_eq R 36 64 dX11_map_33 rfl (by decide) (fun hc => ?_) (fun hc => ?_)
      · have h := pf_ifp hc h
        refine r_iconst R 65 dX11_map_64 rfl ic_iconst_m1 ?_
        obtain rfl := Option.some.inj h
        exact r_ireturn R dX11_map_65 rfl rfl rfl rfl
      · have h := pf_ifn hc h
        refine r_iload_n R 37 dX11_map_36 rfl rfl ?_
        refine r_iconst R 38 dX11_map_37 rfl ic_iconst_0 ?_
        refine r_bipush R 40 dX11_map_38 rfl ic_bipush_32 ?_
        refine r_iload R 42 dX11_map_40 rfl rfl ?_
        refine r_isub R 43 dX11_map_42 rfl ?_
        refine r_csI3 R 46 dX11_map_43 rfl lk_X11_65 (c_X11_isWithin G x3 (0 : Int32) ((32 : Int32) - x4) _ rfl) rfl rfl rfl ?_
        refine r_if_eq R 49 64 dX11_map_46 rfl (by decide) (fun hc => ?_) (fun hc => ?_)
        · have h := pf_ifp hc h
          refine r_iconst R 65 dX11_map_64 rfl ic_iconst_m1 ?_
          obtain rfl := Option.some.inj h
          exact r_ireturn R dX11_map_65 rfl rfl rfl rfl
        · have h := pf_ifn hc h
          refine r_iload R 51 dX11_map_49 rfl rfl ?_
          refine r_iload R 53 dX11_map_51 rfl rfl ?_
          refine r_bipush R 55 dX11_map_53 rfl ic_bipush_16 ?_
          refine r_iload R 57 dX11_map_55 rfl rfl ?_
          refine r_isub R 58 dX11_map_57 rfl ?_
          refine r_csI3 R 61 dX11_map_58 rfl lk_X11_65 (c_X11_isWithin G x5 s18_0 ((16 : Int32) - x4) _ rfl) rfl rfl rfl ?_
          refine r_if_ne R 64 66 dX11_map_61 rfl (by decide) (fun hc => ?_) (fun hc => ?_)
          · have h := pf_ifp hc h
            refine r_iconst R 65 dX11_map_64 rfl ic_iconst_m1 ?_
            obtain rfl := Option.some.inj h
            exact r_ireturn R dX11_map_65 rfl rfl rfl rfl
          · have h := pf_ifn hc h
            refine r_aload_n R 67 dX11_map_66 rfl rfl ?_
            refine r_getfield R 70 dX11_map_67 rfl fl_X11_19 rfl (show _ = pf_R 7 0 from rfl) ?_
            refine r_iload_n R 71 dX11_map_70 rfl rfl ?_
            refine r_iload_n R 72 dX11_map_71 rfl rfl ?_
            refine r_iload_n R 73 dX11_map_72 rfl rfl ?_
            refine r_iload R 75 dX11_map_73 rfl rfl ?_
            obtain ⟨r4, hr4, h⟩ := pf_bd h
            refine r_cvI4 R 78 dX11_map_75 rfl lk_X11_137 rfl (c_X9_isTaken G x1 x2 x3 x4 M18 _ hr4) rfl rfl rfl ?_
            refine r_if_eq R 81 84 dX11_map_78 rfl (by decide) (fun hc => ?_) (fun hc => ?_)
            · have h := pf_ifp hc h
              refine r_aload R 86 dX11_map_84 rfl rfl ?_
              refine r_cvI0 R 89 dX11_map_86 rfl lk_X11_141 rfl (c_X7_exists G i3 M18 _ rfl) rfl rfl rfl ?_
              refine r_if_eq R 92 96 dX11_map_89 rfl (by decide) (fun hc => ?_) (fun hc => ?_)
              · have h := pf_ifp hc h
                refine r_iconst R 97 dX11_map_96 rfl ic_iconst_0 ?_
                refine r_fg R [false, false, false, true, true, true, true, false, true] (show _ = [pf_U, pf_U, pf_U, pf_I x3, pf_I x4, pf_I x5, pf_R 13 i3, pf_U, pf_U] from rfl) ?_
                exact hj97 _ _ _ h
              · have h := pf_ifn hc h
                refine r_iconst R 93 dX11_map_92 rfl ic_iconst_1 ?_
                refine r_goto R 97 dX11_map_93 (by decide) ?_
                refine r_fg R [false, false, false, true, true, true, true, false, true] (show _ = [pf_U, pf_U, pf_U, pf_I x3, pf_I x4, pf_I x5, pf_R 13 i3, pf_U, pf_U] from rfl) ?_
                exact hj97 _ _ _ h
            · have h := pf_ifn hc h
              refine r_bipush R 83 dX11_map_81 rfl ic_bipush_m2 ?_
              obtain rfl := Option.some.inj h
              exact r_ireturn R dX11_map_83 rfl rfl rfl rfl
  unfold fX11_map at h
  refine r_aload_n R 1 dX11_map_0 rfl rfl ?_
  refine r_iload_n R 2 dX11_map_1 rfl rfl ?_
  refine r_iload_n R 3 dX11_map_2 rfl rfl ?_
  obtain ⟨r5, hr5, h⟩ := pf_bd h
  refine r_cvQ2 R 6 dX11_map_3 rfl lk_X11_133 rfl (c_X11_findOverlay G x1 x2 M _ hr5) rfl rfl rfl ?_
  refine r_astore R 8 dX11_map_6 rfl rfl (show _ = [pf_R 0 0, pf_I x1, pf_I x2, pf_I x3, pf_I x4, pf_I x5, pf_Q 13 r5, pf_U, pf_U] from rfl) ?_
  refine r_iload_n R 9 dX11_map_8 rfl rfl ?_
  refine r_iconst R 10 dX11_map_9 rfl ic_iconst_1 ?_
  refine r_icmp_ne R 13 17 dX11_map_10 rfl (by decide) (fun hc => ?_) (fun hc => ?_)
  · have h := pf_ifp hc h
    refine r_iconst R 14 dX11_map_13 rfl ic_iconst_4 ?_
    refine r_goto R 18 dX11_map_14 (by decide) ?_
    exact hj18 _ _ _ h
  · have h := pf_ifn hc h
    refine r_iconst R 18 dX11_map_17 rfl ic_iconst_0 ?_
    exact hj18 _ _ _ h
def fX11_mapped (x1 : Int32) (x2 : Int32) (x3 : Int32) (M : pf_M) : Option (Int32) :=
  ((fX11_findOverlay x1 x2 M).bind fun r2 => (match r2 with
  | none => some (-1 : Int32)
  | some i3 => (if (fX11_isWithin x3 (0 : Int32) (2 : Int32)) = (0 : Int32) then some (-1 : Int32)
  else (if (fX7_exists i3 M) = (0 : Int32) then some (-4 : Int32)
  else (if x3 = (0 : Int32) then some (M 13 i3 0)
  else (if x3 = (1 : Int32) then some (M 13 i3 1)
  else some (M 13 i3 2)))))))
set_option maxRecDepth 4000 in
theorem c_X11_mapped (G : pf_G) (x1 : Int32) (x2 : Int32) (x3 : Int32) (M : pf_M) (q : Int32) (h : fX11_mapped x1 x2 x3 M = some q) : pf_Met G yX11_mapped cX11_mapped 5 (some .int) 2 45 [pf_R 0 0, pf_I x1, pf_I x2, pf_I x3] M (some (pf_I q)) M := by
  refine pf_Met.of (by decide +kernel) (Nat.le_of_ble_eq_true rfl) (fun K R => ?_)
  show K 0 [pf_R 0 0, pf_I x1, pf_I x2, pf_I x3, pf_U] [] M
  unfold fX11_mapped at h
  refine r_aload_n R 1 dX11_mapped_0 rfl rfl ?_
  refine r_iload_n R 2 dX11_mapped_1 rfl rfl ?_
  refine r_iload_n R 3 dX11_mapped_2 rfl rfl ?_
  obtain ⟨r2, hr2, h⟩ := pf_bd h
  refine r_cvQ2 R 6 dX11_mapped_3 rfl lk_X11_133 rfl (c_X11_findOverlay G x1 x2 M _ hr2) rfl rfl rfl ?_
  refine r_astore R 8 dX11_mapped_6 rfl rfl (show _ = [pf_R 0 0, pf_I x1, pf_I x2, pf_I x3, pf_Q 13 r2] from rfl) ?_
  refine r_aload R 10 dX11_mapped_8 rfl rfl ?_
  cases r2 with
  | none =>
    refine r_ifnull_t R 22 dX11_mapped_10 (by decide) ?_
    refine r_iconst R 23 dX11_mapped_22 rfl ic_iconst_m1 ?_
    obtain rfl := Option.some.inj h
    exact r_ireturn R dX11_mapped_23 rfl rfl rfl rfl
  | some i3 =>
    refine r_ifnull_f R 13 22 dX11_mapped_10 rfl (by decide) ?_
    refine r_iload_n R 14 dX11_mapped_13 rfl rfl ?_
    refine r_iconst R 15 dX11_mapped_14 rfl ic_iconst_0 ?_
    refine r_iconst R 16 dX11_mapped_15 rfl ic_iconst_2 ?_
    refine r_csI3 R 19 dX11_mapped_16 rfl lk_X11_65 (c_X11_isWithin G x3 (0 : Int32) (2 : Int32) _ rfl) rfl rfl rfl ?_
    refine r_if_ne R 22 24 dX11_mapped_19 rfl (by decide) (fun hc => ?_) (fun hc => ?_)
    · have h := pf_ifp hc h
      refine r_iconst R 23 dX11_mapped_22 rfl ic_iconst_m1 ?_
      obtain rfl := Option.some.inj h
      exact r_ireturn R dX11_mapped_23 rfl rfl rfl rfl
    · have h := pf_ifn hc h
      refine r_aload R 26 dX11_mapped_24 rfl rfl ?_
      refine r_cvI0 R 29 dX11_mapped_26 rfl lk_X11_141 rfl (c_X7_exists G i3 M _ rfl) rfl rfl rfl ?_
      refine r_if_ne R 32 35 dX11_mapped_29 rfl (by decide) (fun hc => ?_) (fun hc => ?_)
      · have h := pf_ifp hc h
        refine r_bipush R 34 dX11_mapped_32 rfl ic_bipush_m4 ?_
        obtain rfl := Option.some.inj h
        exact r_ireturn R dX11_mapped_34 rfl rfl rfl rfl
      · have h := pf_ifn hc h
        refine r_iload_n R 36 dX11_mapped_35 rfl rfl ?_
        refine r_if_ne R 39 47 dX11_mapped_36 rfl (by decide) (fun hc => ?_) (fun hc => ?_)
        · have h := pf_ifp hc h
          refine r_aload R 41 dX11_mapped_39 rfl rfl ?_
          refine r_getfield R 44 dX11_mapped_41 rfl fl_X11_154 rfl (show _ = pf_I (M 13 i3 0) from rfl) ?_
          refine r_goto R 65 dX11_mapped_44 (by decide) ?_
          obtain rfl := Option.some.inj h
          exact r_ireturn R dX11_mapped_65 rfl rfl rfl rfl
        · have h := pf_ifn hc h
          refine r_iload_n R 48 dX11_mapped_47 rfl rfl ?_
          refine r_iconst R 49 dX11_mapped_48 rfl ic_iconst_1 ?_
          refine r_icmp_ne R 52 60 dX11_mapped_49 rfl (by decide) (fun hc => ?_) (fun hc => ?_)
          · have h := pf_ifp hc h
            refine r_aload R 54 dX11_mapped_52 rfl rfl ?_
            refine r_getfield R 57 dX11_mapped_54 rfl fl_X11_157 rfl (show _ = pf_I (M 13 i3 1) from rfl) ?_
            refine r_goto R 65 dX11_mapped_57 (by decide) ?_
            obtain rfl := Option.some.inj h
            exact r_ireturn R dX11_mapped_65 rfl rfl rfl rfl
          · have h := pf_ifn hc h
            refine r_aload R 62 dX11_mapped_60 rfl rfl ?_
            refine r_getfield R 65 dX11_mapped_62 rfl fl_X11_159 rfl (show _ = pf_I (M 13 i3 2) from rfl) ?_
            obtain rfl := Option.some.inj h
            exact r_ireturn R dX11_mapped_65 rfl rfl rfl rfl
def fX3_showAt (o0 : Nat) (x1 : Int32) (M : pf_M) : Option (pf_M) :=
  ((fX3_systemClock o0 x1 M).bind fun r3 => ((fJ9_floorMod_7cf53 r3 (65536 : Int32)).bind fun r4 => some (pf_up (pf_up (pf_up (pf_up M 12 o0 (0 : Int32).toNatClampNeg (M 11 o0 4)) 12 o0 (1 : Int32).toNatClampNeg ((pf_up M 12 o0 (0 : Int32).toNatClampNeg (M 11 o0 4)) 11 o0 7)) 12 o0 (2 : Int32).toNatClampNeg (r4 - r4 / (256 : Int32) * (256 : Int32))) 12 o0 (3 : Int32).toNatClampNeg (r4 / (256 : Int32)))))
set_option maxRecDepth 4000 in
theorem c_X3_showAt (G : pf_G) (o0 : Nat) (x1 : Int32) (M : pf_M) (q : pf_M) (h : fX3_showAt o0 x1 M = some q) : pf_Met G yX3_showAt cX3_showAt 3 (none) 3 64 [pf_R 11 o0, pf_I x1] M none q := by
  refine pf_Met.of (by decide +kernel) (Nat.le_of_ble_eq_true rfl) (fun K R => ?_)
  show K 0 [pf_R 11 o0, pf_I x1, pf_U] [] M
  unfold fX3_showAt at h
  refine r_aload_n R 1 dX3_showAt_0 rfl rfl ?_
  refine r_iload_n R 2 dX3_showAt_1 rfl rfl ?_
  obtain ⟨r3, hr3, h⟩ := pf_bd h
  refine r_cvI1 R 5 dX3_showAt_2 rfl lk_X3_77 rfl (c_X3_systemClock G o0 x1 M _ hr3) rfl rfl rfl ?_
  refine r_ldc R 7 dX3_showAt_5 rfl kc_X3_80 ?_
  obtain ⟨r4, hr4, h⟩ := pf_bd h
  refine r_csI2 R 10 dX3_showAt_7 rfl lk_X3_81 (c_J9_floorMod_7cf53 G r3 (65536 : Int32) _ hr4) rfl rfl rfl ?_
  refine r_istore_n R 11 dX3_showAt_10 rfl rfl (show _ = [pf_R 11 o0, pf_I x1, pf_I r4] from rfl) ?_
  refine r_aload_n R 12 dX3_showAt_11 rfl rfl ?_
  refine r_getfield R 15 dX3_showAt_12 rfl fl_X3_9 rfl (show _ = pf_R 12 o0 from rfl) ?_
  refine r_iconst R 16 dX3_showAt_15 rfl ic_iconst_0 ?_
  refine r_aload_n R 17 dX3_showAt_16 rfl rfl ?_
  refine r_getfield R 20 dX3_showAt_17 rfl fl_X3_32 rfl (show _ = pf_I (M 11 o0 4) from rfl) ?_
  refine r_iastore R 21 dX3_showAt_20 rfl ⟨rfl, rfl⟩ (pf_in_iff.mp (by decide)) ?_
  refine r_aload_n R 22 dX3_showAt_21 rfl rfl ?_
  refine r_getfield R 25 dX3_showAt_22 rfl fl_X3_9 rfl (show _ = pf_R 12 o0 from rfl) ?_
  refine r_iconst R 26 dX3_showAt_25 rfl ic_iconst_1 ?_
  refine r_aload_n R 27 dX3_showAt_26 rfl rfl ?_
  refine r_getfield R 30 dX3_showAt_27 rfl fl_X3_61 rfl (show _ = pf_I ((pf_up M 12 o0 (0 : Int32).toNatClampNeg (M 11 o0 4)) 11 o0 7) from rfl) ?_
  refine r_iastore R 31 dX3_showAt_30 rfl ⟨rfl, rfl⟩ (pf_in_iff.mp (by decide)) ?_
  refine r_aload_n R 32 dX3_showAt_31 rfl rfl ?_
  refine r_getfield R 35 dX3_showAt_32 rfl fl_X3_9 rfl (show _ = pf_R 12 o0 from rfl) ?_
  refine r_iconst R 36 dX3_showAt_35 rfl ic_iconst_2 ?_
  refine r_iload_n R 37 dX3_showAt_36 rfl rfl ?_
  refine r_sipush R 40 dX3_showAt_37 rfl ic_sipush_256 ?_
  refine r_irem R 41 dX3_showAt_40 rfl (by decide) ?_
  refine r_iastore R 42 dX3_showAt_41 rfl ⟨rfl, rfl⟩ (pf_in_iff.mp (by decide)) ?_
  refine r_aload_n R 43 dX3_showAt_42 rfl rfl ?_
  refine r_getfield R 46 dX3_showAt_43 rfl fl_X3_9 rfl (show _ = pf_R 12 o0 from rfl) ?_
  refine r_iconst R 47 dX3_showAt_46 rfl ic_iconst_3 ?_
  refine r_iload_n R 48 dX3_showAt_47 rfl rfl ?_
  refine r_sipush R 51 dX3_showAt_48 rfl ic_sipush_256 ?_
  refine r_idiv R 52 dX3_showAt_51 rfl (by decide) ?_
  refine r_iastore R 53 dX3_showAt_52 rfl ⟨rfl, rfl⟩ (pf_in_iff.mp (by decide)) ?_
  obtain rfl := Option.some.inj h
  exact r_return_ R dX3_showAt_53 rfl rfl rfl
def fX11_memory (x1 : Int32) (x2 : Int32) (M : pf_M) : Option (Int32 × pf_M) :=
  ((fX9_find x1 M).bind fun r4 => (match r4 with
  | none => some ((-1 : Int32), M)
  | some i5 => (if (fX11_isWithin x2 (0 : Int32) (15 : Int32)) = (0 : Int32) then some ((-1 : Int32), M)
  else ((fX3_showAt i5 (fX9_time M) M).bind fun q6 => (if pf_in x2 16 = true then some (q6 12 i5 x2.toNatClampNeg, q6)
  else none)))))
set_option maxRecDepth 4000 in
theorem c_X11_memory (G : pf_G) (x1 : Int32) (x2 : Int32) (M : pf_M) (q : Int32 × pf_M) (h : fX11_memory x1 x2 M = some q) : pf_Met G yX11_memory cX11_memory 4 (some .int) 4 86 [pf_R 0 0, pf_I x1, pf_I x2] M (some (pf_I q.1)) q.2 := by
  refine pf_Met.of (by decide +kernel) (Nat.le_of_ble_eq_true rfl) (fun K R => ?_)
  show K 0 [pf_R 0 0, pf_I x1, pf_I x2, pf_U] [] M
  unfold fX11_memory at h
  refine r_aload_n R 1 dX11_memory_0 rfl rfl ?_
  refine r_getfield R 4 dX11_memory_1 rfl fl_X11_19 rfl (show _ = pf_R 7 0 from rfl) ?_
  refine r_iload_n R 5 dX11_memory_4 rfl rfl ?_
  obtain ⟨r4, hr4, h⟩ := pf_bd h
  refine r_cvQ1 R 8 dX11_memory_5 rfl lk_X11_79 rfl (c_X9_find G x1 M _ hr4) rfl rfl rfl ?_
  refine r_astore_n R 9 dX11_memory_8 rfl rfl (show _ = [pf_R 0 0, pf_I x1, pf_I x2, pf_Q 11 r4] from rfl) ?_
  refine r_aload_n R 10 dX11_memory_9 rfl rfl ?_
  cases r4 with
  | none =>
    refine r_ifnull_t R 23 dX11_memory_10 (by decide) ?_
    refine r_iconst R 24 dX11_memory_23 rfl ic_iconst_m1 ?_
    obtain rfl := Option.some.inj h
    exact r_ireturn R dX11_memory_24 rfl rfl rfl rfl
  | some i5 =>
    refine r_ifnull_f R 13 23 dX11_memory_10 rfl (by decide) ?_
    refine r_iload_n R 14 dX11_memory_13 rfl rfl ?_
    refine r_iconst R 15 dX11_memory_14 rfl ic_iconst_0 ?_
    refine r_bipush R 17 dX11_memory_15 rfl ic_bipush_15 ?_
    refine r_csI3 R 20 dX11_memory_17 rfl lk_X11_65 (c_X11_isWithin G x2 (0 : Int32) (15 : Int32) _ rfl) rfl rfl rfl ?_
    refine r_if_ne R 23 25 dX11_memory_20 rfl (by decide) (fun hc => ?_) (fun hc => ?_)
    · have h := pf_ifp hc h
      refine r_iconst R 24 dX11_memory_23 rfl ic_iconst_m1 ?_
      obtain rfl := Option.some.inj h
      exact r_ireturn R dX11_memory_24 rfl rfl rfl rfl
    · have h := pf_ifn hc h
      refine r_aload_n R 26 dX11_memory_25 rfl rfl ?_
      refine r_aload_n R 27 dX11_memory_26 rfl rfl ?_
      refine r_getfield R 30 dX11_memory_27 rfl fl_X11_19 rfl (show _ = pf_R 7 0 from rfl) ?_
      refine r_cvI0 R 33 dX11_memory_30 rfl lk_X11_105 rfl (c_X9_time G M _ rfl) rfl rfl rfl ?_
      obtain ⟨q6, hq6, h⟩ := pf_bd h
      refine r_cvV1 R 36 dX11_memory_33 rfl lk_X11_108 rfl (c_X3_showAt G i5 (fX9_time M) M _ hq6) rfl rfl rfl ?_
      refine r_aload_n R 37 dX11_memory_36 rfl rfl ?_
      refine r_getfield R 40 dX11_memory_37 rfl fl_X11_112 rfl (show _ = pf_R 12 i5 from rfl) ?_
      refine r_iload_n R 41 dX11_memory_40 rfl rfl ?_
      obtain ⟨hi7, h⟩ := pf_gd h
      refine r_iaload R 42 dX11_memory_41 rfl ⟨rfl, rfl⟩ (pf_in_iff.mp hi7) ?_
      obtain rfl := Option.some.inj h
      exact r_ireturn R dX11_memory_42 rfl rfl rfl rfl
