def lJ7_fill_53178_5 (kd : Nat) (i : Nat) (nn : Nat) (x1 : Int32) (f5_3 : Int32) : Nat → Int32 → pf_M → Option (pf_M)
  | 0, _, _ => none
  | n + 1, v5_2, M5 =>
  (if f5_3 ≤ v5_2 then some M5
  else (if pf_in v5_2 nn = true then (lJ7_fill_53178_5 kd i nn x1 f5_3 n) (v5_2 + (1 : Int32)) (pf_up M5 kd i v5_2.toNatClampNeg x1)
  else none))
def fJ7_fill_53178 (kd : Nat) (i : Nat) (nn : Nat) (x1 : Int32) (M : pf_M) : Option (pf_M) :=
  lJ7_fill_53178_5 kd i nn x1 (Int32.ofNat nn) pf_fu (0 : Int32) M
set_option maxRecDepth 4000 in
theorem c_J7_fill_53178 (G : pf_G) (kd : Nat) (i : Nat) (nn : Nat) (x1 : Int32) (M : pf_M) (q : pf_M) (hk : pf_intK kd nn) (h : fJ7_fill_53178 kd i nn x1 M = some q) : pf_Met G yJ7_fill_53178 cJ7_fill_53178 4 (none) 0 0 [pf_R kd i, pf_I x1] M none q := by
  refine pf_Met.of (by decide +kernel) (Nat.le_of_ble_eq_true rfl) (fun K R => ?_)
  show K 0 [pf_R kd i, pf_I x1, pf_U, pf_U] [] M
  have hl5 : ∀ (f5_3 : Int32), ∀ (n : Nat) (v5_2 : Int32) (M5 : pf_M), lJ7_fill_53178_5 kd i nn x1 f5_3 n v5_2 M5 = some q → K 5 [pf_R kd i, pf_I x1, pf_I v5_2, pf_I f5_3] [] M5 := by
    intro f5_3 n
    induction n with
    | zero =>
      intro v5_2 M5 h
      rw [lJ7_fill_53178_5] at h
      cases h
    | succ n ih5 =>
        intro v5_2 M5 h
        rw [lJ7_fill_53178_5] at h
        refine r_iload_n R 6 dJ7_fill_53178_5 rfl rfl ?_
        refine r_iload_n R 7 dJ7_fill_53178_6 rfl rfl ?_
        refine r_icmp_ge R 10 20 dJ7_fill_53178_7 rfl (by decide) (fun hc => ?_) (fun hc => ?_)
        · have h := pf_ifp hc h
          obtain rfl := Option.some.inj h
          exact r_return_ R dJ7_fill_53178_20 rfl rfl rfl
        · have h := pf_ifn hc h
          refine r_aload_n R 11 dJ7_fill_53178_10 rfl rfl ?_
          refine r_iload_n R 12 dJ7_fill_53178_11 rfl rfl ?_
          refine r_iload_n R 13 dJ7_fill_53178_12 rfl rfl ?_
          obtain ⟨hi2, h⟩ := pf_gd h
          refine r_iastore R 14 dJ7_fill_53178_13 rfl hk (pf_in_iff.mp hi2) ?_
          refine r_iinc R 17 dJ7_fill_53178_14 rfl rfl ic_iconst_1 (show _ = [pf_R kd i, pf_I x1, pf_I (v5_2 + (1 : Int32)), pf_I f5_3] from rfl) ?_
          refine r_goto R 5 dJ7_fill_53178_17 (by decide) ?_
          exact ih5 _ _ h
  unfold fJ7_fill_53178 at h
  refine r_iconst R 1 dJ7_fill_53178_0 rfl ic_iconst_0 ?_
  refine r_istore_n R 2 dJ7_fill_53178_1 rfl rfl (show _ = [pf_R kd i, pf_I x1, pf_I (0 : Int32), pf_U] from rfl) ?_
  refine r_aload_n R 3 dJ7_fill_53178_2 rfl rfl ?_
  refine r_arraylength R 4 dJ7_fill_53178_3 rfl hk ?_
  refine r_istore_n R 5 dJ7_fill_53178_4 rfl rfl (show _ = [pf_R kd i, pf_I x1, pf_I (0 : Int32), pf_I (Int32.ofNat nn)] from rfl) ?_
  exact hl5 _ pf_fu _ _ h
def fJ9_abs_0f7a4 (x0 : Int32) : Int32 :=
  (if (0 : Int32) ≤ x0 then x0
  else -x0)
set_option maxRecDepth 4000 in
theorem c_J9_abs_0f7a4 (G : pf_G) (x0 : Int32) {M : pf_M} (q : Int32) (h : fJ9_abs_0f7a4 x0 = q) : pf_Met G yJ9_abs_0f7a4 cJ9_abs_0f7a4 1 (some .int) 0 0 [pf_I x0] M (some (pf_I q)) M := by
  refine pf_Met.of (by decide +kernel) (Nat.le_of_ble_eq_true rfl) (fun K R => ?_)
  show K 0 [pf_I x0] [] M
  unfold fJ9_abs_0f7a4 at h
  refine r_iload_n R 1 dJ9_abs_0f7a4_0 rfl rfl ?_
  refine r_if_ge R 4 9 dJ9_abs_0f7a4_1 rfl (by decide) (fun hc => ?_) (fun hc => ?_)
  · have h := pf_ifp hc h
    refine r_iload_n R 10 dJ9_abs_0f7a4_9 rfl rfl ?_
    subst h
    exact r_ireturn R dJ9_abs_0f7a4_10 rfl rfl rfl rfl
  · have h := pf_ifn hc h
    refine r_iload_n R 5 dJ9_abs_0f7a4_4 rfl rfl ?_
    refine r_ineg R 6 dJ9_abs_0f7a4_5 rfl ?_
    refine r_goto R 10 dJ9_abs_0f7a4_6 (by decide) ?_
    subst h
    exact r_ireturn R dJ9_abs_0f7a4_10 rfl rfl rfl rfl
def fJ9_floorDiv_7cf53 (x0 : Int32) (x1 : Int32) : Option (Int32) :=
  (if pf_nz x1 = true then (if (0 : Int32) ≤ (x0 ^^^ x1) then some (x0 / x1)
  else (if ((x0 / x1) * x1) = x0 then some (x0 / x1)
  else some ((x0 / x1) - (1 : Int32))))
  else none)
set_option maxRecDepth 4000 in
theorem c_J9_floorDiv_7cf53 (G : pf_G) (x0 : Int32) (x1 : Int32) {M : pf_M} (q : Int32) (h : fJ9_floorDiv_7cf53 x0 x1 = some q) : pf_Met G yJ9_floorDiv_7cf53 cJ9_floorDiv_7cf53 3 (some .int) 0 0 [pf_I x0, pf_I x1] M (some (pf_I q)) M := by
  refine pf_Met.of (by decide +kernel) (Nat.le_of_ble_eq_true rfl) (fun K R => ?_)
  show K 0 [pf_I x0, pf_I x1, pf_U] [] M
  unfold fJ9_floorDiv_7cf53 at h
  refine r_iload_n R 1 dJ9_floorDiv_7cf53_0 rfl rfl ?_
  refine r_iload_n R 2 dJ9_floorDiv_7cf53_1 rfl rfl ?_
  obtain ⟨hz2, h⟩ := pf_gd h
  refine r_idiv R 3 dJ9_floorDiv_7cf53_2 rfl (pf_nz_iff.mp hz2) ?_
  refine r_istore_n R 4 dJ9_floorDiv_7cf53_3 rfl rfl (show _ = [pf_I x0, pf_I x1, pf_I (x0 / x1)] from rfl) ?_
  refine r_iload_n R 5 dJ9_floorDiv_7cf53_4 rfl rfl ?_
  refine r_iload_n R 6 dJ9_floorDiv_7cf53_5 rfl rfl ?_
  refine r_ixor R 7 dJ9_floorDiv_7cf53_6 rfl ?_
  refine r_if_ge R 10 21 dJ9_floorDiv_7cf53_7 rfl (by decide) (fun hc => ?_) (fun hc => ?_)
  · have h := pf_ifp hc h
    refine r_iload_n R 22 dJ9_floorDiv_7cf53_21 rfl rfl ?_
    obtain rfl := Option.some.inj h
    exact r_ireturn R dJ9_floorDiv_7cf53_22 rfl rfl rfl rfl
  · have h := pf_ifn hc h
    refine r_iload_n R 11 dJ9_floorDiv_7cf53_10 rfl rfl ?_
    refine r_iload_n R 12 dJ9_floorDiv_7cf53_11 rfl rfl ?_
    refine r_imul R 13 dJ9_floorDiv_7cf53_12 rfl ?_
    refine r_iload_n R 14 dJ9_floorDiv_7cf53_13 rfl rfl ?_
    refine r_icmp_eq R 17 21 dJ9_floorDiv_7cf53_14 rfl (by decide) (fun hc => ?_) (fun hc => ?_)
    · have h := pf_ifp hc h
      refine r_iload_n R 22 dJ9_floorDiv_7cf53_21 rfl rfl ?_
      obtain rfl := Option.some.inj h
      exact r_ireturn R dJ9_floorDiv_7cf53_22 rfl rfl rfl rfl
    · have h := pf_ifn hc h
      refine r_iload_n R 18 dJ9_floorDiv_7cf53_17 rfl rfl ?_
      refine r_iconst R 19 dJ9_floorDiv_7cf53_18 rfl ic_iconst_1 ?_
      refine r_isub R 20 dJ9_floorDiv_7cf53_19 rfl ?_
      obtain rfl := Option.some.inj h
      exact r_ireturn R dJ9_floorDiv_7cf53_20 rfl rfl rfl rfl
def fJ9_floorMod_7cf53 (x0 : Int32) (x1 : Int32) : Option (Int32) :=
  (if pf_nz x1 = true then (if (0 : Int32) ≤ (x0 ^^^ x1) then some (x0 - x0 / x1 * x1)
  else (if (x0 - x0 / x1 * x1) = (0 : Int32) then some (x0 - x0 / x1 * x1)
  else some ((x0 - x0 / x1 * x1) + x1)))
  else none)
set_option maxRecDepth 4000 in
theorem c_J9_floorMod_7cf53 (G : pf_G) (x0 : Int32) (x1 : Int32) {M : pf_M} (q : Int32) (h : fJ9_floorMod_7cf53 x0 x1 = some q) : pf_Met G yJ9_floorMod_7cf53 cJ9_floorMod_7cf53 3 (some .int) 0 0 [pf_I x0, pf_I x1] M (some (pf_I q)) M := by
  refine pf_Met.of (by decide +kernel) (Nat.le_of_ble_eq_true rfl) (fun K R => ?_)
  show K 0 [pf_I x0, pf_I x1, pf_U] [] M
  unfold fJ9_floorMod_7cf53 at h
  refine r_iload_n R 1 dJ9_floorMod_7cf53_0 rfl rfl ?_
  refine r_iload_n R 2 dJ9_floorMod_7cf53_1 rfl rfl ?_
  obtain ⟨hz2, h⟩ := pf_gd h
  refine r_irem R 3 dJ9_floorMod_7cf53_2 rfl (pf_nz_iff.mp hz2) ?_
  refine r_istore_n R 4 dJ9_floorMod_7cf53_3 rfl rfl (show _ = [pf_I x0, pf_I x1, pf_I (x0 - x0 / x1 * x1)] from rfl) ?_
  refine r_iload_n R 5 dJ9_floorMod_7cf53_4 rfl rfl ?_
  refine r_iload_n R 6 dJ9_floorMod_7cf53_5 rfl rfl ?_
  refine r_ixor R 7 dJ9_floorMod_7cf53_6 rfl ?_
  refine r_if_ge R 10 18 dJ9_floorMod_7cf53_7 rfl (by decide) (fun hc => ?_) (fun hc => ?_)
  · have h := pf_ifp hc h
    refine r_iload_n R 19 dJ9_floorMod_7cf53_18 rfl rfl ?_
    obtain rfl := Option.some.inj h
    exact r_ireturn R dJ9_floorMod_7cf53_19 rfl rfl rfl rfl
  · have h := pf_ifn hc h
    refine r_iload_n R 11 dJ9_floorMod_7cf53_10 rfl rfl ?_
    refine r_if_eq R 14 18 dJ9_floorMod_7cf53_11 rfl (by decide) (fun hc => ?_) (fun hc => ?_)
    · have h := pf_ifp hc h
      refine r_iload_n R 19 dJ9_floorMod_7cf53_18 rfl rfl ?_
      obtain rfl := Option.some.inj h
      exact r_ireturn R dJ9_floorMod_7cf53_19 rfl rfl rfl rfl
    · have h := pf_ifn hc h
      refine r_iload_n R 15 dJ9_floorMod_7cf53_14 rfl rfl ?_
      refine r_iload_n R 16 dJ9_floorMod_7cf53_15 rfl rfl ?_
      refine r_iadd R 17 dJ9_floorMod_7cf53_16 rfl ?_
      obtain rfl := Option.some.inj h
      exact r_ireturn R dJ9_floorMod_7cf53_17 rfl rfl rfl rfl
def fJ9_max_7cf53 (x0 : Int32) (x1 : Int32) : Int32 :=
  (if x0 < x1 then x1
  else x0)
set_option maxRecDepth 4000 in
theorem c_J9_max_7cf53 (G : pf_G) (x0 : Int32) (x1 : Int32) {M : pf_M} (q : Int32) (h : fJ9_max_7cf53 x0 x1 = q) : pf_Met G yJ9_max_7cf53 cJ9_max_7cf53 2 (some .int) 0 0 [pf_I x0, pf_I x1] M (some (pf_I q)) M := by
  refine pf_Met.of (by decide +kernel) (Nat.le_of_ble_eq_true rfl) (fun K R => ?_)
  show K 0 [pf_I x0, pf_I x1] [] M
  unfold fJ9_max_7cf53 at h
  refine r_iload_n R 1 dJ9_max_7cf53_0 rfl rfl ?_
  refine r_iload_n R 2 dJ9_max_7cf53_1 rfl rfl ?_
  refine r_icmp_lt R 5 9 dJ9_max_7cf53_2 rfl (by decide) (fun hc => ?_) (fun hc => ?_)
  · have h := pf_ifp hc h
    refine r_iload_n R 10 dJ9_max_7cf53_9 rfl rfl ?_
    subst h
    exact r_ireturn R dJ9_max_7cf53_10 rfl rfl rfl rfl
  · have h := pf_ifn hc h
    refine r_iload_n R 6 dJ9_max_7cf53_5 rfl rfl ?_
    refine r_goto R 10 dJ9_max_7cf53_6 (by decide) ?_
    subst h
    exact r_ireturn R dJ9_max_7cf53_10 rfl rfl rfl rfl
def fJ9_min_7cf53 (x0 : Int32) (x1 : Int32) : Int32 :=
  (if x1 < x0 then x1
  else x0)
set_option maxRecDepth 4000 in
theorem c_J9_min_7cf53 (G : pf_G) (x0 : Int32) (x1 : Int32) {M : pf_M} (q : Int32) (h : fJ9_min_7cf53 x0 x1 = q) : pf_Met G yJ9_min_7cf53 cJ9_min_7cf53 2 (some .int) 0 0 [pf_I x0, pf_I x1] M (some (pf_I q)) M := by
  refine pf_Met.of (by decide +kernel) (Nat.le_of_ble_eq_true rfl) (fun K R => ?_)
  show K 0 [pf_I x0, pf_I x1] [] M
  unfold fJ9_min_7cf53 at h
  refine r_iload_n R 1 dJ9_min_7cf53_0 rfl rfl ?_
  refine r_iload_n R 2 dJ9_min_7cf53_1 rfl rfl ?_
  refine r_icmp_gt R 5 9 dJ9_min_7cf53_2 rfl (by decide) (fun hc => ?_) (fun hc => ?_)
  · have h := pf_ifp hc h
    refine r_iload_n R 10 dJ9_min_7cf53_9 rfl rfl ?_
    subst h
    exact r_ireturn R dJ9_min_7cf53_10 rfl rfl rfl rfl
  · have h := pf_ifn hc h
    refine r_iload_n R 6 dJ9_min_7cf53_5 rfl rfl ?_
    refine r_goto R 10 dJ9_min_7cf53_6 (by decide) ?_
    subst h
    exact r_ireturn R dJ9_min_7cf53_10 rfl rfl rfl rfl
def fX0_arrive (o0 : Nat) (M : pf_M) : pf_M :=
  (pf_upf M 29 o0 (va_cpy (M 28 o0) (M 29 o0) (0 : Int32).toNatClampNeg (0 : Int32).toNatClampNeg (8 : Int32).toNatClampNeg))
set_option maxRecDepth 4000 in
theorem c_X0_arrive (G : pf_G) (o0 : Nat) (M : pf_M) (q : pf_M) (h : fX0_arrive o0 M = q) : pf_Met G yX0_arrive cX0_arrive 1 (none) 1 40 [pf_R 27 o0] M none q := by
  refine pf_Met.of (by decide +kernel) (Nat.le_of_ble_eq_true rfl) (fun K R => ?_)
  show K 0 [pf_R 27 o0] [] M
  unfold fX0_arrive at h
  refine r_aload_n R 1 dX0_arrive_0 rfl rfl ?_
  refine r_getfield R 4 dX0_arrive_1 rfl fl_X0_9 rfl (show _ = pf_R 28 o0 from rfl) ?_
  refine r_iconst R 5 dX0_arrive_4 rfl ic_iconst_0 ?_
  refine r_aload_n R 6 dX0_arrive_5 rfl rfl ?_
  refine r_getfield R 9 dX0_arrive_6 rfl fl_X0_15 rfl (show _ = pf_R 29 o0 from rfl) ?_
  refine r_iconst R 10 dX0_arrive_9 rfl ic_iconst_0 ?_
  refine r_bipush R 12 dX0_arrive_10 rfl ic_bipush_8 ?_
  refine r_copy R 15 dX0_arrive_12 rfl la_X0_18 ⟨rfl, rfl⟩ ⟨rfl, rfl⟩ (by decide) rfl rfl ?_
  subst h
  exact r_return_ R dX0_arrive_15 rfl rfl rfl
def fX0_load (o0 : Nat) (o1 : Nat) (M : pf_M) : pf_M :=
  (pf_up (pf_upf M 28 o0 (va_cpy (M 26 o1) (M 28 o0) (0 : Int32).toNatClampNeg (0 : Int32).toNatClampNeg (8 : Int32).toNatClampNeg)) 27 o0 2 (0 : Int32))
set_option maxRecDepth 4000 in
theorem c_X0_load (G : pf_G) (o0 : Nat) (o1 : Nat) (M : pf_M) (q : pf_M) (h : fX0_load o0 o1 M = q) : pf_Met G yX0_load cX0_load 2 (none) 1 40 [pf_R 27 o0, pf_R 26 o1] M none q := by
  refine pf_Met.of (by decide +kernel) (Nat.le_of_ble_eq_true rfl) (fun K R => ?_)
  show K 0 [pf_R 27 o0, pf_R 26 o1] [] M
  unfold fX0_load at h
  refine r_aload_n R 1 dX0_load_0 rfl rfl ?_
  refine r_iconst R 2 dX0_load_1 rfl ic_iconst_0 ?_
  refine r_aload_n R 3 dX0_load_2 rfl rfl ?_
  refine r_getfield R 6 dX0_load_3 rfl fl_X0_9 rfl (show _ = pf_R 28 o0 from rfl) ?_
  refine r_iconst R 7 dX0_load_6 rfl ic_iconst_0 ?_
  refine r_bipush R 9 dX0_load_7 rfl ic_bipush_8 ?_
  refine r_copy R 12 dX0_load_9 rfl la_X0_18 ⟨rfl, rfl⟩ ⟨rfl, rfl⟩ (by decide) rfl rfl ?_
  refine r_aload_n R 13 dX0_load_12 rfl rfl ?_
  refine r_iconst R 14 dX0_load_13 rfl ic_iconst_0 ?_
  refine r_putfield R 17 dX0_load_14 rfl fl_X0_24 rfl rfl rfl rfl ?_
  subst h
  exact r_return_ R dX0_load_17 rfl rfl rfl
def fX10_append (x1 : Int32) (M : pf_M) : Option (Int32 × pf_M) :=
  (if (M 1 0 5) < (200 : Int32) then (if pf_in (M 1 0 5) 200 = true then some ((1 : Int32), (pf_up (pf_up M 2 0 (M 1 0 5).toNatClampNeg (vp_nar .char x1)) 1 0 5 (((pf_up M 2 0 (M 1 0 5).toNatClampNeg (vp_nar .char x1)) 1 0 5) + (1 : Int32))))
  else none)
  else some ((0 : Int32), M))
set_option maxRecDepth 4000 in
theorem c_X10_append (G : pf_G) (x1 : Int32) (M : pf_M) (q : Int32 × pf_M) (h : fX10_append x1 M = some q) : pf_Met G yX10_append cX10_append 2 (some .boolean) 0 0 [pf_R 1 0, pf_I x1] M (some (pf_I q.1)) q.2 := by
  refine pf_Met.of (by decide +kernel) (Nat.le_of_ble_eq_true rfl) (fun K R => ?_)
  show K 0 [pf_R 1 0, pf_I x1] [] M
  unfold fX10_append at h
  refine r_aload_n R 1 dX10_append_0 rfl rfl ?_
  refine r_getfield R 4 dX10_append_1 rfl fl_X10_28 rfl (show _ = pf_I (M 1 0 5) from rfl) ?_
  refine r_sipush R 7 dX10_append_4 rfl ic_sipush_200 ?_
  refine r_icmp_lt R 10 12 dX10_append_7 rfl (by decide) (fun hc => ?_) (fun hc => ?_)
  · have h := pf_ifp hc h
    refine r_aload_n R 13 dX10_append_12 rfl rfl ?_
    refine r_getfield R 16 dX10_append_13 rfl fl_X10_9 rfl (show _ = pf_R 2 0 from rfl) ?_
    refine r_aload_n R 17 dX10_append_16 rfl rfl ?_
    refine r_getfield R 20 dX10_append_17 rfl fl_X10_28 rfl (show _ = pf_I (M 1 0 5) from rfl) ?_
    refine r_iload_n R 21 dX10_append_20 rfl rfl ?_
    obtain ⟨hi2, h⟩ := pf_gd h
    refine r_castore R 22 dX10_append_21 rfl rfl rfl (pf_in_iff.mp hi2) ?_
    refine r_aload_n R 23 dX10_append_22 rfl rfl ?_
    refine r_dup R 24 dX10_append_23 rfl rfl ?_
    refine r_getfield R 27 dX10_append_24 rfl fl_X10_28 rfl (show _ = pf_I ((pf_up M 2 0 (M 1 0 5).toNatClampNeg (vp_nar .char x1)) 1 0 5) from rfl) ?_
    refine r_iconst R 28 dX10_append_27 rfl ic_iconst_1 ?_
    refine r_iadd R 29 dX10_append_28 rfl ?_
    refine r_putfield R 32 dX10_append_29 rfl fl_X10_28 rfl rfl rfl rfl ?_
    refine r_iconst R 33 dX10_append_32 rfl ic_iconst_1 ?_
    obtain rfl := Option.some.inj h
    exact r_ireturn R dX10_append_33 rfl rfl rfl rfl
  · have h := pf_ifn hc h
    refine r_iconst R 11 dX10_append_10 rfl ic_iconst_0 ?_
    obtain rfl := Option.some.inj h
    exact r_ireturn R dX10_append_11 rfl rfl rfl rfl
def fX10_devices (M : pf_M) : Int32 :=
  M 1 0 6
set_option maxRecDepth 4000 in
theorem c_X10_devices (G : pf_G) (M : pf_M) (q : Int32) (h : fX10_devices M = q) : pf_Met G yX10_devices cX10_devices 1 (some .int) 0 0 [pf_R 1 0] M (some (pf_I q)) M := by
  refine pf_Met.of (by decide +kernel) (Nat.le_of_ble_eq_true rfl) (fun K R => ?_)
  show K 0 [pf_R 1 0] [] M
  unfold fX10_devices at h
  refine r_aload_n R 1 dX10_devices_0 rfl rfl ?_
  refine r_getfield R 4 dX10_devices_1 rfl fl_X10_32 rfl (show _ = pf_I (M 1 0 6) from rfl) ?_
  subst h
  exact r_ireturn R dX10_devices_4 rfl rfl rfl rfl
def fX10_empty (M : pf_M) : pf_M :=
  (pf_up M 1 0 5 (0 : Int32))
set_option maxRecDepth 4000 in
theorem c_X10_empty (G : pf_G) (M : pf_M) (q : pf_M) (h : fX10_empty M = q) : pf_Met G yX10_empty cX10_empty 1 (none) 0 0 [pf_R 1 0] M none q := by
  refine pf_Met.of (by decide +kernel) (Nat.le_of_ble_eq_true rfl) (fun K R => ?_)
  show K 0 [pf_R 1 0] [] M
  unfold fX10_empty at h
  refine r_aload_n R 1 dX10_empty_0 rfl rfl ?_
  refine r_iconst R 2 dX10_empty_1 rfl ic_iconst_0 ?_
  refine r_putfield R 5 dX10_empty_2 rfl fl_X10_28 rfl rfl rfl rfl ?_
  subst h
  exact r_return_ R dX10_empty_5 rfl rfl rfl
def fX10_has (x1 : Int32) (x2 : Int32) (M : pf_M) : Option (Int32) :=
  (if x1 < (0 : Int32) then some (0 : Int32)
  else (if (M 1 0 5) ≤ x1 then some (0 : Int32)
  else (if pf_in x1 200 = true then (if (M 2 0 x1.toNatClampNeg) = x2 then some (1 : Int32)
  else some (0 : Int32))
  else none)))
set_option maxRecDepth 4000 in
theorem c_X10_has (G : pf_G) (x1 : Int32) (x2 : Int32) (M : pf_M) (q : Int32) (h : fX10_has x1 x2 M = some q) : pf_Met G yX10_has cX10_has 3 (some .boolean) 0 0 [pf_R 1 0, pf_I x1, pf_I x2] M (some (pf_I q)) M := by
  refine pf_Met.of (by decide +kernel) (Nat.le_of_ble_eq_true rfl) (fun K R => ?_)
  show K 0 [pf_R 1 0, pf_I x1, pf_I x2] [] M
  unfold fX10_has at h
  refine r_iload_n R 1 dX10_has_0 rfl rfl ?_
  refine r_if_lt R 4 26 dX10_has_1 rfl (by decide) (fun hc => ?_) (fun hc => ?_)
  · have h := pf_ifp hc h
    refine r_iconst R 27 dX10_has_26 rfl ic_iconst_0 ?_
    obtain rfl := Option.some.inj h
    exact r_ireturn R dX10_has_27 rfl rfl rfl rfl
  · have h := pf_ifn hc h
    refine r_iload_n R 5 dX10_has_4 rfl rfl ?_
    refine r_aload_n R 6 dX10_has_5 rfl rfl ?_
    refine r_getfield R 9 dX10_has_6 rfl fl_X10_28 rfl (show _ = pf_I (M 1 0 5) from rfl) ?_
    refine r_icmp_ge R 12 26 dX10_has_9 rfl (by decide) (fun hc => ?_) (fun hc => ?_)
    · have h := pf_ifp hc h
      refine r_iconst R 27 dX10_has_26 rfl ic_iconst_0 ?_
      obtain rfl := Option.some.inj h
      exact r_ireturn R dX10_has_27 rfl rfl rfl rfl
    · have h := pf_ifn hc h
      refine r_aload_n R 13 dX10_has_12 rfl rfl ?_
      refine r_getfield R 16 dX10_has_13 rfl fl_X10_9 rfl (show _ = pf_R 2 0 from rfl) ?_
      refine r_iload_n R 17 dX10_has_16 rfl rfl ?_
      obtain ⟨hi2, h⟩ := pf_gd h
      refine r_caload R 18 dX10_has_17 rfl rfl rfl (pf_in_iff.mp hi2) ?_
      refine r_iload_n R 19 dX10_has_18 rfl rfl ?_
      refine r_icmp_ne R 22 26 dX10_has_19 rfl (by decide) (fun hc => ?_) (fun hc => ?_)
      · have h := pf_ifp hc h
        refine r_iconst R 23 dX10_has_22 rfl ic_iconst_1 ?_
        refine r_goto R 27 dX10_has_23 (by decide) ?_
        obtain rfl := Option.some.inj h
        exact r_ireturn R dX10_has_27 rfl rfl rfl rfl
      · have h := pf_ifn hc h
        refine r_iconst R 27 dX10_has_26 rfl ic_iconst_0 ?_
        obtain rfl := Option.some.inj h
        exact r_ireturn R dX10_has_27 rfl rfl rfl rfl
def lX10_hasNumber_2 (x1 : Int32) (M : pf_M) : Nat → Int32 → Option (Int32)
  | 0, _ => none
  | n + 1, v2_2 =>
  (if (M 1 0 6) ≤ v2_2 then some (0 : Int32)
  else (if pf_in v2_2 8 = true then (if (M 3 0 v2_2.toNatClampNeg) = x1 then some (1 : Int32)
  else (lX10_hasNumber_2 x1 M n) (v2_2 + (1 : Int32)))
  else none))
def fX10_hasNumber (x1 : Int32) (M : pf_M) : Option (Int32) :=
  lX10_hasNumber_2 x1 M pf_fu (0 : Int32)
set_option maxRecDepth 4000 in
theorem c_X10_hasNumber (G : pf_G) (x1 : Int32) (M : pf_M) (q : Int32) (h : fX10_hasNumber x1 M = some q) : pf_Met G yX10_hasNumber cX10_hasNumber 3 (some .boolean) 0 0 [pf_R 1 0, pf_I x1] M (some (pf_I q)) M := by
  refine pf_Met.of (by decide +kernel) (Nat.le_of_ble_eq_true rfl) (fun K R => ?_)
  show K 0 [pf_R 1 0, pf_I x1, pf_U] [] M
  have hl2 : ∀ (n : Nat) (v2_2 : Int32), lX10_hasNumber_2 x1 M n v2_2 = some q → K 2 [pf_R 1 0, pf_I x1, pf_I v2_2] [] M := by
    intro n
    induction n with
    | zero =>
      intro v2_2 h
      rw [lX10_hasNumber_2] at h
      cases h
    | succ n ih2 =>
        intro v2_2 h
        rw [lX10_hasNumber_2] at h
        refine r_iload_n R 3 dX10_hasNumber_2 rfl rfl ?_
        refine r_aload_n R 4 dX10_hasNumber_3 rfl rfl ?_
        refine r_getfield R 7 dX10_hasNumber_4 rfl fl_X10_32 rfl (show _ = pf_I (M 1 0 6) from rfl) ?_
        refine r_icmp_ge R 10 28 dX10_hasNumber_7 rfl (by decide) (fun hc => ?_) (fun hc => ?_)
        · have h := pf_ifp hc h
          refine r_iconst R 29 dX10_hasNumber_28 rfl ic_iconst_0 ?_
          obtain rfl := Option.some.inj h
          exact r_ireturn R dX10_hasNumber_29 rfl rfl rfl rfl
        · have h := pf_ifn hc h
          refine r_aload_n R 11 dX10_hasNumber_10 rfl rfl ?_
          refine r_getfield R 14 dX10_hasNumber_11 rfl fl_X10_15 rfl (show _ = pf_R 3 0 from rfl) ?_
          refine r_iload_n R 15 dX10_hasNumber_14 rfl rfl ?_
          obtain ⟨hi1, h⟩ := pf_gd h
          refine r_iaload R 16 dX10_hasNumber_15 rfl ⟨rfl, rfl⟩ (pf_in_iff.mp hi1) ?_
          refine r_iload_n R 17 dX10_hasNumber_16 rfl rfl ?_
          refine r_icmp_ne R 20 22 dX10_hasNumber_17 rfl (by decide) (fun hc => ?_) (fun hc => ?_)
          · have h := pf_ifp hc h
            refine r_iconst R 21 dX10_hasNumber_20 rfl ic_iconst_1 ?_
            obtain rfl := Option.some.inj h
            exact r_ireturn R dX10_hasNumber_21 rfl rfl rfl rfl
          · have h := pf_ifn hc h
            refine r_iinc R 25 dX10_hasNumber_22 rfl rfl ic_iconst_1 (show _ = [pf_R 1 0, pf_I x1, pf_I (v2_2 + (1 : Int32))] from rfl) ?_
            refine r_goto R 2 dX10_hasNumber_25 (by decide) ?_
            exact ih2 _ h
  unfold fX10_hasNumber at h
  refine r_iconst R 1 dX10_hasNumber_0 rfl ic_iconst_0 ?_
  refine r_istore_n R 2 dX10_hasNumber_1 rfl rfl (show _ = [pf_R 1 0, pf_I x1, pf_I (0 : Int32)] from rfl) ?_
  exact hl2 pf_fu _ h
def fX10_length (M : pf_M) : Int32 :=
  M 1 0 5
set_option maxRecDepth 4000 in
theorem c_X10_length (G : pf_G) (M : pf_M) (q : Int32) (h : fX10_length M = q) : pf_Met G yX10_length cX10_length 1 (some .int) 0 0 [pf_R 1 0] M (some (pf_I q)) M := by
  refine pf_Met.of (by decide +kernel) (Nat.le_of_ble_eq_true rfl) (fun K R => ?_)
  show K 0 [pf_R 1 0] [] M
  unfold fX10_length at h
  refine r_aload_n R 1 dX10_length_0 rfl rfl ?_
  refine r_getfield R 4 dX10_length_1 rfl fl_X10_28 rfl (show _ = pf_I (M 1 0 5) from rfl) ?_
  subst h
  exact r_ireturn R dX10_length_4 rfl rfl rfl rfl
def lX10_numberAt_22 (x1 : Int32) (x2 : Int32) (M : pf_M) : Nat → Int32 → Int32 → Option (Int32)
  | 0, _, _ => none
  | n + 1, v22_3, v22_4 =>
  (if (x1 + x2) ≤ v22_4 then some v22_3
  else (if pf_in v22_4 200 = true then (if (M 2 0 v22_4.toNatClampNeg) < (48 : Int32) then some (-4 : Int32)
  else (if pf_in v22_4 200 = true then (if (M 2 0 v22_4.toNatClampNeg) ≤ (57 : Int32) then (if pf_in v22_4 200 = true then (lX10_numberAt_22 x1 x2 M n) ((v22_3 * (10 : Int32)) + ((M 2 0 v22_4.toNatClampNeg) - (48 : Int32))) (v22_4 + (1 : Int32))
  else none)
  else some (-4 : Int32))
  else none))
  else none))
def fX10_numberAt (x1 : Int32) (x2 : Int32) (M : pf_M) : Option (Int32) :=
  (if x1 < (0 : Int32) then some (-4 : Int32)
  else (if (x1 + x2) ≤ (M 1 0 5) then lX10_numberAt_22 x1 x2 M pf_fu (0 : Int32) x1
  else some (-4 : Int32)))
set_option maxRecDepth 4000 in
theorem c_X10_numberAt (G : pf_G) (x1 : Int32) (x2 : Int32) (M : pf_M) (q : Int32) (h : fX10_numberAt x1 x2 M = some q) : pf_Met G yX10_numberAt cX10_numberAt 5 (some .int) 0 0 [pf_R 1 0, pf_I x1, pf_I x2] M (some (pf_I q)) M := by
  refine pf_Met.of (by decide +kernel) (Nat.le_of_ble_eq_true rfl) (fun K R => ?_)
  show K 0 [pf_R 1 0, pf_I x1, pf_I x2, pf_U, pf_U] [] M
  have hl22 : ∀ (n : Nat) (v22_3 : Int32) (v22_4 : Int32), lX10_numberAt_22 x1 x2 M n v22_3 v22_4 = some q → K 22 [pf_R 1 0, pf_I x1, pf_I x2, pf_I v22_3, pf_I v22_4] [] M := by
    intro n
    induction n with
    | zero =>
      intro v22_3 v22_4 h
      rw [lX10_numberAt_22] at h
      cases h
    | succ n ih22 =>
        intro v22_3 v22_4 h
        rw [lX10_numberAt_22] at h
        refine r_iload R 24 dX10_numberAt_22 rfl rfl ?_
        refine r_iload_n R 25 dX10_numberAt_24 rfl rfl ?_
        refine r_iload_n R 26 dX10_numberAt_25 rfl rfl ?_
        refine r_iadd R 27 dX10_numberAt_26 rfl ?_
        refine r_icmp_ge R 30 79 dX10_numberAt_27 rfl (by decide) (fun hc => ?_) (fun hc => ?_)
        · have h := pf_ifp hc h
          refine r_iload_n R 80 dX10_numberAt_79 rfl rfl ?_
          obtain rfl := Option.some.inj h
          exact r_ireturn R dX10_numberAt_80 rfl rfl rfl rfl
        · have h := pf_ifn hc h
          refine r_aload_n R 31 dX10_numberAt_30 rfl rfl ?_
          refine r_getfield R 34 dX10_numberAt_31 rfl fl_X10_9 rfl (show _ = pf_R 2 0 from rfl) ?_
          refine r_iload R 36 dX10_numberAt_34 rfl rfl ?_
          obtain ⟨hi4, h⟩ := pf_gd h
          refine r_caload R 37 dX10_numberAt_36 rfl rfl rfl (pf_in_iff.mp hi4) ?_
          refine r_bipush R 39 dX10_numberAt_37 rfl ic_bipush_48 ?_
          refine r_icmp_lt R 42 54 dX10_numberAt_39 rfl (by decide) (fun hc => ?_) (fun hc => ?_)
          · have h := pf_ifp hc h
            refine r_bipush R 56 dX10_numberAt_54 rfl ic_bipush_m4 ?_
            obtain rfl := Option.some.inj h
            exact r_ireturn R dX10_numberAt_56 rfl rfl rfl rfl
          · have h := pf_ifn hc h
            refine r_aload_n R 43 dX10_numberAt_42 rfl rfl ?_
            refine r_getfield R 46 dX10_numberAt_43 rfl fl_X10_9 rfl (show _ = pf_R 2 0 from rfl) ?_
            refine r_iload R 48 dX10_numberAt_46 rfl rfl ?_
            obtain ⟨hi5, h⟩ := pf_gd h
            refine r_caload R 49 dX10_numberAt_48 rfl rfl rfl (pf_in_iff.mp hi5) ?_
            refine r_bipush R 51 dX10_numberAt_49 rfl ic_bipush_57 ?_
            refine r_icmp_le R 54 57 dX10_numberAt_51 rfl (by decide) (fun hc => ?_) (fun hc => ?_)
            · have h := pf_ifp hc h
              refine r_iload_n R 58 dX10_numberAt_57 rfl rfl ?_
              refine r_bipush R 60 dX10_numberAt_58 rfl ic_bipush_10 ?_
              refine r_imul R 61 dX10_numberAt_60 rfl ?_
              refine r_aload_n R 62 dX10_numberAt_61 rfl rfl ?_
              refine r_getfield R 65 dX10_numberAt_62 rfl fl_X10_9 rfl (show _ = pf_R 2 0 from rfl) ?_
              refine r_iload R 67 dX10_numberAt_65 rfl rfl ?_
              obtain ⟨hi6, h⟩ := pf_gd h
              refine r_caload R 68 dX10_numberAt_67 rfl rfl rfl (pf_in_iff.mp hi6) ?_
              refine r_bipush R 70 dX10_numberAt_68 rfl ic_bipush_48 ?_
              refine r_isub R 71 dX10_numberAt_70 rfl ?_
              refine r_iadd R 72 dX10_numberAt_71 rfl ?_
              refine r_istore_n R 73 dX10_numberAt_72 rfl rfl (show _ = [pf_R 1 0, pf_I x1, pf_I x2, pf_I ((v22_3 * (10 : Int32)) + ((M 2 0 v22_4.toNatClampNeg) - (48 : Int32))), pf_I v22_4] from rfl) ?_
              refine r_iinc R 76 dX10_numberAt_73 rfl rfl ic_iconst_1 (show _ = [pf_R 1 0, pf_I x1, pf_I x2, pf_I ((v22_3 * (10 : Int32)) + ((M 2 0 v22_4.toNatClampNeg) - (48 : Int32))), pf_I (v22_4 + (1 : Int32))] from rfl) ?_
              refine r_goto R 22 dX10_numberAt_76 (by decide) ?_
              exact ih22 _ _ h
            · have h := pf_ifn hc h
              refine r_bipush R 56 dX10_numberAt_54 rfl ic_bipush_m4 ?_
              obtain rfl := Option.some.inj h
              exact r_ireturn R dX10_numberAt_56 rfl rfl rfl rfl
  unfold fX10_numberAt at h
  refine r_iload_n R 1 dX10_numberAt_0 rfl rfl ?_
  refine r_if_lt R 4 14 dX10_numberAt_1 rfl (by decide) (fun hc => ?_) (fun hc => ?_)
  · have h := pf_ifp hc h
    refine r_bipush R 16 dX10_numberAt_14 rfl ic_bipush_m4 ?_
    obtain rfl := Option.some.inj h
    exact r_ireturn R dX10_numberAt_16 rfl rfl rfl rfl
  · have h := pf_ifn hc h
    refine r_iload_n R 5 dX10_numberAt_4 rfl rfl ?_
    refine r_iload_n R 6 dX10_numberAt_5 rfl rfl ?_
    refine r_iadd R 7 dX10_numberAt_6 rfl ?_
    refine r_aload_n R 8 dX10_numberAt_7 rfl rfl ?_
    refine r_getfield R 11 dX10_numberAt_8 rfl fl_X10_28 rfl (show _ = pf_I (M 1 0 5) from rfl) ?_
    refine r_icmp_le R 14 17 dX10_numberAt_11 rfl (by decide) (fun hc => ?_) (fun hc => ?_)
    · have h := pf_ifp hc h
      refine r_iconst R 18 dX10_numberAt_17 rfl ic_iconst_0 ?_
      refine r_istore_n R 19 dX10_numberAt_18 rfl rfl (show _ = [pf_R 1 0, pf_I x1, pf_I x2, pf_I (0 : Int32), pf_U] from rfl) ?_
      refine r_iload_n R 20 dX10_numberAt_19 rfl rfl ?_
      refine r_istore R 22 dX10_numberAt_20 rfl rfl (show _ = [pf_R 1 0, pf_I x1, pf_I x2, pf_I (0 : Int32), pf_I x1] from rfl) ?_
      exact hl22 pf_fu _ _ h
    · have h := pf_ifn hc h
      refine r_bipush R 16 dX10_numberAt_14 rfl ic_bipush_m4 ?_
      obtain rfl := Option.some.inj h
      exact r_ireturn R dX10_numberAt_16 rfl rfl rfl rfl
def fX11_isWithin (x0 : Int32) (x1 : Int32) (x2 : Int32) : Int32 :=
  (if x0 < x1 then (0 : Int32)
  else (if x2 < x0 then (0 : Int32)
  else (1 : Int32)))
set_option maxRecDepth 4000 in
theorem c_X11_isWithin (G : pf_G) (x0 : Int32) (x1 : Int32) (x2 : Int32) {M : pf_M} (q : Int32) (h : fX11_isWithin x0 x1 x2 = q) : pf_Met G yX11_isWithin cX11_isWithin 3 (some .boolean) 0 0 [pf_I x0, pf_I x1, pf_I x2] M (some (pf_I q)) M := by
  refine pf_Met.of (by decide +kernel) (Nat.le_of_ble_eq_true rfl) (fun K R => ?_)
  show K 0 [pf_I x0, pf_I x1, pf_I x2] [] M
  unfold fX11_isWithin at h
  refine r_iload_n R 1 dX11_isWithin_0 rfl rfl ?_
  refine r_iload_n R 2 dX11_isWithin_1 rfl rfl ?_
  refine r_icmp_lt R 5 14 dX11_isWithin_2 rfl (by decide) (fun hc => ?_) (fun hc => ?_)
  · have h := pf_ifp hc h
    refine r_iconst R 15 dX11_isWithin_14 rfl ic_iconst_0 ?_
    subst h
    exact r_ireturn R dX11_isWithin_15 rfl rfl rfl rfl
  · have h := pf_ifn hc h
    refine r_iload_n R 6 dX11_isWithin_5 rfl rfl ?_
    refine r_iload_n R 7 dX11_isWithin_6 rfl rfl ?_
    refine r_icmp_gt R 10 14 dX11_isWithin_7 rfl (by decide) (fun hc => ?_) (fun hc => ?_)
    · have h := pf_ifp hc h
      refine r_iconst R 15 dX11_isWithin_14 rfl ic_iconst_0 ?_
      subst h
      exact r_ireturn R dX11_isWithin_15 rfl rfl rfl rfl
    · have h := pf_ifn hc h
      refine r_iconst R 11 dX11_isWithin_10 rfl ic_iconst_1 ?_
      refine r_goto R 15 dX11_isWithin_11 (by decide) ?_
      subst h
      exact r_ireturn R dX11_isWithin_15 rfl rfl rfl rfl
theorem fb_X11_isWithin (x0 : Int32) (x1 : Int32) (x2 : Int32) : fX11_isWithin x0 x1 x2 = 0 ∨ fX11_isWithin x0 x1 x2 = 1 := by
  unfold fX11_isWithin
  repeat' split
  all_goals first | exact Or.inl rfl | exact Or.inr rfl
def fX10_readDevice (x1 : Int32) (M : pf_M) : Option (Int32 × pf_M) :=
  ((fX10_numberAt (x1 + (1 : Int32)) (2 : Int32) M).bind fun r12 => ((fX10_numberAt (x1 + (3 : Int32)) (1 : Int32) M).bind fun r13 => ((fX10_numberAt (x1 + (4 : Int32)) (3 : Int32) M).bind fun r14 => ((fX10_numberAt (x1 + (7 : Int32)) (1 : Int32) M).bind fun r15 => ((fX10_has x1 (100 : Int32) M).bind fun r16 => (if r16 = (0 : Int32) then some ((0 : Int32), M)
  else ((fX10_has (x1 + (8 : Int32)) (59 : Int32) M).bind fun r17 => (if r17 = (0 : Int32) then some ((0 : Int32), M)
  else (if r12 < (1 : Int32) then some ((0 : Int32), M)
  else (if r13 < (1 : Int32) then some ((0 : Int32), M)
  else (if (0 : Int32) ≤ r14 then (if (fX11_isWithin r15 (0 : Int32) (8 : Int32)) = (0 : Int32) then some ((0 : Int32), M)
  else (if (8 : Int32) ≤ (M 1 0 6) then some ((0 : Int32), M)
  else ((fX10_hasNumber r12 M).bind fun r18 => (if r18 = (0 : Int32) then (if pf_in (M 1 0 6) 8 = true then (if pf_in ((pf_up M 3 0 (M 1 0 6).toNatClampNeg r12) 1 0 6) 8 = true then (if pf_in ((pf_up (pf_up M 3 0 (M 1 0 6).toNatClampNeg r12) 4 0 ((pf_up M 3 0 (M 1 0 6).toNatClampNeg r12) 1 0 6).toNatClampNeg r13) 1 0 6) 8 = true then (if pf_in ((pf_up (pf_up (pf_up M 3 0 (M 1 0 6).toNatClampNeg r12) 4 0 ((pf_up M 3 0 (M 1 0 6).toNatClampNeg r12) 1 0 6).toNatClampNeg r13) 5 0 ((pf_up (pf_up M 3 0 (M 1 0 6).toNatClampNeg r12) 4 0 ((pf_up M 3 0 (M 1 0 6).toNatClampNeg r12) 1 0 6).toNatClampNeg r13) 1 0 6).toNatClampNeg r14) 1 0 6) 8 = true then some ((1 : Int32), (pf_up (pf_up (pf_up (pf_up (pf_up M 3 0 (M 1 0 6).toNatClampNeg r12) 4 0 ((pf_up M 3 0 (M 1 0 6).toNatClampNeg r12) 1 0 6).toNatClampNeg r13) 5 0 ((pf_up (pf_up M 3 0 (M 1 0 6).toNatClampNeg r12) 4 0 ((pf_up M 3 0 (M 1 0 6).toNatClampNeg r12) 1 0 6).toNatClampNeg r13) 1 0 6).toNatClampNeg r14) 6 0 ((pf_up (pf_up (pf_up M 3 0 (M 1 0 6).toNatClampNeg r12) 4 0 ((pf_up M 3 0 (M 1 0 6).toNatClampNeg r12) 1 0 6).toNatClampNeg r13) 5 0 ((pf_up (pf_up M 3 0 (M 1 0 6).toNatClampNeg r12) 4 0 ((pf_up M 3 0 (M 1 0 6).toNatClampNeg r12) 1 0 6).toNatClampNeg r13) 1 0 6).toNatClampNeg r14) 1 0 6).toNatClampNeg r15) 1 0 6 (((pf_up (pf_up (pf_up (pf_up M 3 0 (M 1 0 6).toNatClampNeg r12) 4 0 ((pf_up M 3 0 (M 1 0 6).toNatClampNeg r12) 1 0 6).toNatClampNeg r13) 5 0 ((pf_up (pf_up M 3 0 (M 1 0 6).toNatClampNeg r12) 4 0 ((pf_up M 3 0 (M 1 0 6).toNatClampNeg r12) 1 0 6).toNatClampNeg r13) 1 0 6).toNatClampNeg r14) 6 0 ((pf_up (pf_up (pf_up M 3 0 (M 1 0 6).toNatClampNeg r12) 4 0 ((pf_up M 3 0 (M 1 0 6).toNatClampNeg r12) 1 0 6).toNatClampNeg r13) 5 0 ((pf_up (pf_up M 3 0 (M 1 0 6).toNatClampNeg r12) 4 0 ((pf_up M 3 0 (M 1 0 6).toNatClampNeg r12) 1 0 6).toNatClampNeg r13) 1 0 6).toNatClampNeg r14) 1 0 6).toNatClampNeg r15) 1 0 6) + (1 : Int32))))
  else none)
  else none)
  else none)
  else none)
  else some ((0 : Int32), M)))))
  else some ((0 : Int32), M))))))))))))
set_option maxRecDepth 4000 in
theorem c_X10_readDevice (G : pf_G) (x1 : Int32) (M : pf_M) (q : Int32 × pf_M) (h : fX10_readDevice x1 M = some q) : pf_Met G yX10_readDevice cX10_readDevice 6 (some .boolean) 1 24 [pf_R 1 0, pf_I x1] M (some (pf_I q.1)) q.2 := by
  refine pf_Met.of (by decide +kernel) (Nat.le_of_ble_eq_true rfl) (fun K R => ?_)
  show K 0 [pf_R 1 0, pf_I x1, pf_U, pf_U, pf_U, pf_U] [] M
  unfold fX10_readDevice at h
  refine r_aload_n R 1 dX10_readDevice_0 rfl rfl ?_
  refine r_iload_n R 2 dX10_readDevice_1 rfl rfl ?_
  refine r_iconst R 3 dX10_readDevice_2 rfl ic_iconst_1 ?_
  refine r_iadd R 4 dX10_readDevice_3 rfl ?_
  refine r_iconst R 5 dX10_readDevice_4 rfl ic_iconst_2 ?_
  obtain ⟨r12, hr12, h⟩ := pf_bd h
  refine r_cvI2 R 8 dX10_readDevice_5 rfl lk_X10_51 rfl (c_X10_numberAt G (x1 + (1 : Int32)) (2 : Int32) M _ hr12) rfl rfl rfl ?_
  refine r_istore_n R 9 dX10_readDevice_8 rfl rfl (show _ = [pf_R 1 0, pf_I x1, pf_I r12, pf_U, pf_U, pf_U] from rfl) ?_
  refine r_aload_n R 10 dX10_readDevice_9 rfl rfl ?_
  refine r_iload_n R 11 dX10_readDevice_10 rfl rfl ?_
  refine r_iconst R 12 dX10_readDevice_11 rfl ic_iconst_3 ?_
  refine r_iadd R 13 dX10_readDevice_12 rfl ?_
  refine r_iconst R 14 dX10_readDevice_13 rfl ic_iconst_1 ?_
  obtain ⟨r13, hr13, h⟩ := pf_bd h
  refine r_cvI2 R 17 dX10_readDevice_14 rfl lk_X10_51 rfl (c_X10_numberAt G (x1 + (3 : Int32)) (1 : Int32) M _ hr13) rfl rfl rfl ?_
  refine r_istore_n R 18 dX10_readDevice_17 rfl rfl (show _ = [pf_R 1 0, pf_I x1, pf_I r12, pf_I r13, pf_U, pf_U] from rfl) ?_
  refine r_aload_n R 19 dX10_readDevice_18 rfl rfl ?_
  refine r_iload_n R 20 dX10_readDevice_19 rfl rfl ?_
  refine r_iconst R 21 dX10_readDevice_20 rfl ic_iconst_4 ?_
  refine r_iadd R 22 dX10_readDevice_21 rfl ?_
  refine r_iconst R 23 dX10_readDevice_22 rfl ic_iconst_3 ?_
  obtain ⟨r14, hr14, h⟩ := pf_bd h
  refine r_cvI2 R 26 dX10_readDevice_23 rfl lk_X10_51 rfl (c_X10_numberAt G (x1 + (4 : Int32)) (3 : Int32) M _ hr14) rfl rfl rfl ?_
  refine r_istore R 28 dX10_readDevice_26 rfl rfl (show _ = [pf_R 1 0, pf_I x1, pf_I r12, pf_I r13, pf_I r14, pf_U] from rfl) ?_
  refine r_aload_n R 29 dX10_readDevice_28 rfl rfl ?_
  refine r_iload_n R 30 dX10_readDevice_29 rfl rfl ?_
  refine r_bipush R 32 dX10_readDevice_30 rfl ic_bipush_7 ?_
  refine r_iadd R 33 dX10_readDevice_32 rfl ?_
  refine r_iconst R 34 dX10_readDevice_33 rfl ic_iconst_1 ?_
  obtain ⟨r15, hr15, h⟩ := pf_bd h
  refine r_cvI2 R 37 dX10_readDevice_34 rfl lk_X10_51 rfl (c_X10_numberAt G (x1 + (7 : Int32)) (1 : Int32) M _ hr15) rfl rfl rfl ?_
  refine r_istore R 39 dX10_readDevice_37 rfl rfl (show _ = [pf_R 1 0, pf_I x1, pf_I r12, pf_I r13, pf_I r14, pf_I r15] from rfl) ?_
  refine r_aload_n R 40 dX10_readDevice_39 rfl rfl ?_
  refine r_iload_n R 41 dX10_readDevice_40 rfl rfl ?_
  refine r_bipush R 43 dX10_readDevice_41 rfl ic_bipush_100 ?_
  obtain ⟨r16, hr16, h⟩ := pf_bd h
  refine r_cvI2 R 46 dX10_readDevice_43 rfl lk_X10_55 rfl (c_X10_has G x1 (100 : Int32) M _ hr16) rfl rfl rfl ?_
  refine r_if_eq R 49 77 dX10_readDevice_46 rfl (by decide) (fun hc => ?_) (fun hc => ?_)
  · have h := pf_ifp hc h
    refine r_iconst R 78 dX10_readDevice_77 rfl ic_iconst_0 ?_
    obtain rfl := Option.some.inj h
    exact r_ireturn R dX10_readDevice_78 rfl rfl rfl rfl
  · have h := pf_ifn hc h
    refine r_aload_n R 50 dX10_readDevice_49 rfl rfl ?_
    refine r_iload_n R 51 dX10_readDevice_50 rfl rfl ?_
    refine r_bipush R 53 dX10_readDevice_51 rfl ic_bipush_8 ?_
    refine r_iadd R 54 dX10_readDevice_53 rfl ?_
    refine r_bipush R 56 dX10_readDevice_54 rfl ic_bipush_59 ?_
    obtain ⟨r17, hr17, h⟩ := pf_bd h
    refine r_cvI2 R 59 dX10_readDevice_56 rfl lk_X10_55 rfl (c_X10_has G (x1 + (8 : Int32)) (59 : Int32) M _ hr17) rfl rfl rfl ?_
    refine r_if_eq R 62 77 dX10_readDevice_59 rfl (by decide) (fun hc => ?_) (fun hc => ?_)
    · have h := pf_ifp hc h
      refine r_iconst R 78 dX10_readDevice_77 rfl ic_iconst_0 ?_
      obtain rfl := Option.some.inj h
      exact r_ireturn R dX10_readDevice_78 rfl rfl rfl rfl
    · have h := pf_ifn hc h
      refine r_iload_n R 63 dX10_readDevice_62 rfl rfl ?_
      refine r_iconst R 64 dX10_readDevice_63 rfl ic_iconst_1 ?_
      refine r_icmp_lt R 67 77 dX10_readDevice_64 rfl (by decide) (fun hc => ?_) (fun hc => ?_)
      · have h := pf_ifp hc h
        refine r_iconst R 78 dX10_readDevice_77 rfl ic_iconst_0 ?_
        obtain rfl := Option.some.inj h
        exact r_ireturn R dX10_readDevice_78 rfl rfl rfl rfl
      · have h := pf_ifn hc h
        refine r_iload_n R 68 dX10_readDevice_67 rfl rfl ?_
        refine r_iconst R 69 dX10_readDevice_68 rfl ic_iconst_1 ?_
        refine r_icmp_lt R 72 77 dX10_readDevice_69 rfl (by decide) (fun hc => ?_) (fun hc => ?_)
        · have h := pf_ifp hc h
          refine r_iconst R 78 dX10_readDevice_77 rfl ic_iconst_0 ?_
          obtain rfl := Option.some.inj h
          exact r_ireturn R dX10_readDevice_78 rfl rfl rfl rfl
        · have h := pf_ifn hc h
          refine r_iload R 74 dX10_readDevice_72 rfl rfl ?_
          refine r_if_ge R 77 79 dX10_readDevice_74 rfl (by decide) (fun hc => ?_) (fun hc => ?_)
          · have h := pf_ifp hc h
            refine r_iload R 81 dX10_readDevice_79 rfl rfl ?_
            refine r_iconst R 82 dX10_readDevice_81 rfl ic_iconst_0 ?_
            refine r_bipush R 84 dX10_readDevice_82 rfl ic_bipush_8 ?_
            refine r_csI3 R 87 dX10_readDevice_84 rfl lk_X10_59 (c_X11_isWithin G r15 (0 : Int32) (8 : Int32) _ rfl) rfl rfl rfl ?_
            refine r_if_eq R 90 107 dX10_readDevice_87 rfl (by decide) (fun hc => ?_) (fun hc => ?_)
            · have h := pf_ifp hc h
              refine r_iconst R 108 dX10_readDevice_107 rfl ic_iconst_0 ?_
              obtain rfl := Option.some.inj h
              exact r_ireturn R dX10_readDevice_108 rfl rfl rfl rfl
            · have h := pf_ifn hc h
              refine r_aload_n R 91 dX10_readDevice_90 rfl rfl ?_
              refine r_getfield R 94 dX10_readDevice_91 rfl fl_X10_32 rfl (show _ = pf_I (M 1 0 6) from rfl) ?_
              refine r_bipush R 96 dX10_readDevice_94 rfl ic_bipush_8 ?_
              refine r_icmp_ge R 99 107 dX10_readDevice_96 rfl (by decide) (fun hc => ?_) (fun hc => ?_)
              · have h := pf_ifp hc h
                refine r_iconst R 108 dX10_readDevice_107 rfl ic_iconst_0 ?_
                obtain rfl := Option.some.inj h
                exact r_ireturn R dX10_readDevice_108 rfl rfl rfl rfl
              · have h := pf_ifn hc h
                refine r_aload_n R 100 dX10_readDevice_99 rfl rfl ?_
                refine r_iload_n R 101 dX10_readDevice_100 rfl rfl ?_
                obtain ⟨r18, hr18, h⟩ := pf_bd h
                refine r_cvI1 R 104 dX10_readDevice_101 rfl lk_X10_63 rfl (c_X10_hasNumber G r12 M _ hr18) rfl rfl rfl ?_
                refine r_if_eq R 107 109 dX10_readDevice_104 rfl (by decide) (fun hc => ?_) (fun hc => ?_)
                · have h := pf_ifp hc h
                  refine r_aload_n R 110 dX10_readDevice_109 rfl rfl ?_
                  refine r_getfield R 113 dX10_readDevice_110 rfl fl_X10_15 rfl (show _ = pf_R 3 0 from rfl) ?_
                  refine r_aload_n R 114 dX10_readDevice_113 rfl rfl ?_
                  refine r_getfield R 117 dX10_readDevice_114 rfl fl_X10_32 rfl (show _ = pf_I (M 1 0 6) from rfl) ?_
                  refine r_iload_n R 118 dX10_readDevice_117 rfl rfl ?_
                  obtain ⟨hi19, h⟩ := pf_gd h
                  refine r_iastore R 119 dX10_readDevice_118 rfl ⟨rfl, rfl⟩ (pf_in_iff.mp hi19) ?_
                  refine r_aload_n R 120 dX10_readDevice_119 rfl rfl ?_
                  refine r_getfield R 123 dX10_readDevice_120 rfl fl_X10_19 rfl (show _ = pf_R 4 0 from rfl) ?_
                  refine r_aload_n R 124 dX10_readDevice_123 rfl rfl ?_
                  refine r_getfield R 127 dX10_readDevice_124 rfl fl_X10_32 rfl (show _ = pf_I ((pf_up M 3 0 (M 1 0 6).toNatClampNeg r12) 1 0 6) from rfl) ?_
                  refine r_iload_n R 128 dX10_readDevice_127 rfl rfl ?_
                  obtain ⟨hi20, h⟩ := pf_gd h
                  refine r_iastore R 129 dX10_readDevice_128 rfl ⟨rfl, rfl⟩ (pf_in_iff.mp hi20) ?_
                  refine r_aload_n R 130 dX10_readDevice_129 rfl rfl ?_
                  refine r_getfield R 133 dX10_readDevice_130 rfl fl_X10_22 rfl (show _ = pf_R 5 0 from rfl) ?_
                  refine r_aload_n R 134 dX10_readDevice_133 rfl rfl ?_
                  refine r_getfield R 137 dX10_readDevice_134 rfl fl_X10_32 rfl (show _ = pf_I ((pf_up (pf_up M 3 0 (M 1 0 6).toNatClampNeg r12) 4 0 ((pf_up M 3 0 (M 1 0 6).toNatClampNeg r12) 1 0 6).toNatClampNeg r13) 1 0 6) from rfl) ?_
                  refine r_iload R 139 dX10_readDevice_137 rfl rfl ?_
                  obtain ⟨hi21, h⟩ := pf_gd h
                  refine r_iastore R 140 dX10_readDevice_139 rfl ⟨rfl, rfl⟩ (pf_in_iff.mp hi21) ?_
                  refine r_aload_n R 141 dX10_readDevice_140 rfl rfl ?_
                  refine r_getfield R 144 dX10_readDevice_141 rfl fl_X10_25 rfl (show _ = pf_R 6 0 from rfl) ?_
                  refine r_aload_n R 145 dX10_readDevice_144 rfl rfl ?_
                  refine r_getfield R 148 dX10_readDevice_145 rfl fl_X10_32 rfl (show _ = pf_I ((pf_up (pf_up (pf_up M 3 0 (M 1 0 6).toNatClampNeg r12) 4 0 ((pf_up M 3 0 (M 1 0 6).toNatClampNeg r12) 1 0 6).toNatClampNeg r13) 5 0 ((pf_up (pf_up M 3 0 (M 1 0 6).toNatClampNeg r12) 4 0 ((pf_up M 3 0 (M 1 0 6).toNatClampNeg r12) 1 0 6).toNatClampNeg r13) 1 0 6).toNatClampNeg r14) 1 0 6) from rfl) ?_
                  refine r_iload R 150 dX10_readDevice_148 rfl rfl ?_
                  obtain ⟨hi22, h⟩ := pf_gd h
                  refine r_iastore R 151 dX10_readDevice_150 rfl ⟨rfl, rfl⟩ (pf_in_iff.mp hi22) ?_
                  refine r_aload_n R 152 dX10_readDevice_151 rfl rfl ?_
                  refine r_dup R 153 dX10_readDevice_152 rfl rfl ?_
                  refine r_getfield R 156 dX10_readDevice_153 rfl fl_X10_32 rfl (show _ = pf_I ((pf_up (pf_up (pf_up (pf_up M 3 0 (M 1 0 6).toNatClampNeg r12) 4 0 ((pf_up M 3 0 (M 1 0 6).toNatClampNeg r12) 1 0 6).toNatClampNeg r13) 5 0 ((pf_up (pf_up M 3 0 (M 1 0 6).toNatClampNeg r12) 4 0 ((pf_up M 3 0 (M 1 0 6).toNatClampNeg r12) 1 0 6).toNatClampNeg r13) 1 0 6).toNatClampNeg r14) 6 0 ((pf_up (pf_up (pf_up M 3 0 (M 1 0 6).toNatClampNeg r12) 4 0 ((pf_up M 3 0 (M 1 0 6).toNatClampNeg r12) 1 0 6).toNatClampNeg r13) 5 0 ((pf_up (pf_up M 3 0 (M 1 0 6).toNatClampNeg r12) 4 0 ((pf_up M 3 0 (M 1 0 6).toNatClampNeg r12) 1 0 6).toNatClampNeg r13) 1 0 6).toNatClampNeg r14) 1 0 6).toNatClampNeg r15) 1 0 6) from rfl) ?_
                  refine r_iconst R 157 dX10_readDevice_156 rfl ic_iconst_1 ?_
                  refine r_iadd R 158 dX10_readDevice_157 rfl ?_
                  refine r_putfield R 161 dX10_readDevice_158 rfl fl_X10_32 rfl rfl rfl rfl ?_
                  refine r_iconst R 162 dX10_readDevice_161 rfl ic_iconst_1 ?_
                  obtain rfl := Option.some.inj h
                  exact r_ireturn R dX10_readDevice_162 rfl rfl rfl rfl
                · have h := pf_ifn hc h
                  refine r_iconst R 108 dX10_readDevice_107 rfl ic_iconst_0 ?_
                  obtain rfl := Option.some.inj h
                  exact r_ireturn R dX10_readDevice_108 rfl rfl rfl rfl
          · have h := pf_ifn hc h
            refine r_iconst R 78 dX10_readDevice_77 rfl ic_iconst_0 ?_
            obtain rfl := Option.some.inj h
            exact r_ireturn R dX10_readDevice_78 rfl rfl rfl rfl
def fX10_readEnd (x1 : Int32) (M : pf_M) : Option (Int32 × pf_M) :=
  ((fX10_numberAt (x1 + (1 : Int32)) (1 : Int32) M).bind fun r6 => ((fX10_numberAt (x1 + (2 : Int32)) (1 : Int32) M).bind fun r7 => ((fX10_numberAt (x1 + (3 : Int32)) (1 : Int32) M).bind fun r8 => ((fX10_has x1 (101 : Int32) M).bind fun r9 => (if r9 = (0 : Int32) then some ((0 : Int32), M)
  else ((fX10_has (x1 + (4 : Int32)) (59 : Int32) M).bind fun r10 => (if r10 = (0 : Int32) then some ((0 : Int32), M)
  else (if r6 < (1 : Int32) then some ((0 : Int32), M)
  else (if r7 < (0 : Int32) then some ((0 : Int32), M)
  else (if (0 : Int32) ≤ r8 then some ((1 : Int32), (pf_up (pf_up (pf_up M 1 0 7 r6) 1 0 8 r7) 1 0 9 r8))
  else some ((0 : Int32), M)))))))))))
set_option maxRecDepth 4000 in
theorem c_X10_readEnd (G : pf_G) (x1 : Int32) (M : pf_M) (q : Int32 × pf_M) (h : fX10_readEnd x1 M = some q) : pf_Met G yX10_readEnd cX10_readEnd 5 (some .boolean) 1 24 [pf_R 1 0, pf_I x1] M (some (pf_I q.1)) q.2 := by
  refine pf_Met.of (by decide +kernel) (Nat.le_of_ble_eq_true rfl) (fun K R => ?_)
  show K 0 [pf_R 1 0, pf_I x1, pf_U, pf_U, pf_U] [] M
  unfold fX10_readEnd at h
  refine r_aload_n R 1 dX10_readEnd_0 rfl rfl ?_
  refine r_iload_n R 2 dX10_readEnd_1 rfl rfl ?_
  refine r_iconst R 3 dX10_readEnd_2 rfl ic_iconst_1 ?_
  refine r_iadd R 4 dX10_readEnd_3 rfl ?_
  refine r_iconst R 5 dX10_readEnd_4 rfl ic_iconst_1 ?_
  obtain ⟨r6, hr6, h⟩ := pf_bd h
  refine r_cvI2 R 8 dX10_readEnd_5 rfl lk_X10_51 rfl (c_X10_numberAt G (x1 + (1 : Int32)) (1 : Int32) M _ hr6) rfl rfl rfl ?_
  refine r_istore_n R 9 dX10_readEnd_8 rfl rfl (show _ = [pf_R 1 0, pf_I x1, pf_I r6, pf_U, pf_U] from rfl) ?_
  refine r_aload_n R 10 dX10_readEnd_9 rfl rfl ?_
  refine r_iload_n R 11 dX10_readEnd_10 rfl rfl ?_
  refine r_iconst R 12 dX10_readEnd_11 rfl ic_iconst_2 ?_
  refine r_iadd R 13 dX10_readEnd_12 rfl ?_
  refine r_iconst R 14 dX10_readEnd_13 rfl ic_iconst_1 ?_
  obtain ⟨r7, hr7, h⟩ := pf_bd h
  refine r_cvI2 R 17 dX10_readEnd_14 rfl lk_X10_51 rfl (c_X10_numberAt G (x1 + (2 : Int32)) (1 : Int32) M _ hr7) rfl rfl rfl ?_
  refine r_istore_n R 18 dX10_readEnd_17 rfl rfl (show _ = [pf_R 1 0, pf_I x1, pf_I r6, pf_I r7, pf_U] from rfl) ?_
  refine r_aload_n R 19 dX10_readEnd_18 rfl rfl ?_
  refine r_iload_n R 20 dX10_readEnd_19 rfl rfl ?_
  refine r_iconst R 21 dX10_readEnd_20 rfl ic_iconst_3 ?_
  refine r_iadd R 22 dX10_readEnd_21 rfl ?_
  refine r_iconst R 23 dX10_readEnd_22 rfl ic_iconst_1 ?_
  obtain ⟨r8, hr8, h⟩ := pf_bd h
  refine r_cvI2 R 26 dX10_readEnd_23 rfl lk_X10_51 rfl (c_X10_numberAt G (x1 + (3 : Int32)) (1 : Int32) M _ hr8) rfl rfl rfl ?_
  refine r_istore R 28 dX10_readEnd_26 rfl rfl (show _ = [pf_R 1 0, pf_I x1, pf_I r6, pf_I r7, pf_I r8] from rfl) ?_
  refine r_aload_n R 29 dX10_readEnd_28 rfl rfl ?_
  refine r_iload_n R 30 dX10_readEnd_29 rfl rfl ?_
  refine r_bipush R 32 dX10_readEnd_30 rfl ic_bipush_101 ?_
  obtain ⟨r9, hr9, h⟩ := pf_bd h
  refine r_cvI2 R 35 dX10_readEnd_32 rfl lk_X10_55 rfl (c_X10_has G x1 (101 : Int32) M _ hr9) rfl rfl rfl ?_
  refine r_if_eq R 38 64 dX10_readEnd_35 rfl (by decide) (fun hc => ?_) (fun hc => ?_)
  · have h := pf_ifp hc h
    refine r_iconst R 65 dX10_readEnd_64 rfl ic_iconst_0 ?_
    obtain rfl := Option.some.inj h
    exact r_ireturn R dX10_readEnd_65 rfl rfl rfl rfl
  · have h := pf_ifn hc h
    refine r_aload_n R 39 dX10_readEnd_38 rfl rfl ?_
    refine r_iload_n R 40 dX10_readEnd_39 rfl rfl ?_
    refine r_iconst R 41 dX10_readEnd_40 rfl ic_iconst_4 ?_
    refine r_iadd R 42 dX10_readEnd_41 rfl ?_
    refine r_bipush R 44 dX10_readEnd_42 rfl ic_bipush_59 ?_
    obtain ⟨r10, hr10, h⟩ := pf_bd h
    refine r_cvI2 R 47 dX10_readEnd_44 rfl lk_X10_55 rfl (c_X10_has G (x1 + (4 : Int32)) (59 : Int32) M _ hr10) rfl rfl rfl ?_
    refine r_if_eq R 50 64 dX10_readEnd_47 rfl (by decide) (fun hc => ?_) (fun hc => ?_)
    · have h := pf_ifp hc h
      refine r_iconst R 65 dX10_readEnd_64 rfl ic_iconst_0 ?_
      obtain rfl := Option.some.inj h
      exact r_ireturn R dX10_readEnd_65 rfl rfl rfl rfl
    · have h := pf_ifn hc h
      refine r_iload_n R 51 dX10_readEnd_50 rfl rfl ?_
      refine r_iconst R 52 dX10_readEnd_51 rfl ic_iconst_1 ?_
      refine r_icmp_lt R 55 64 dX10_readEnd_52 rfl (by decide) (fun hc => ?_) (fun hc => ?_)
      · have h := pf_ifp hc h
        refine r_iconst R 65 dX10_readEnd_64 rfl ic_iconst_0 ?_
        obtain rfl := Option.some.inj h
        exact r_ireturn R dX10_readEnd_65 rfl rfl rfl rfl
      · have h := pf_ifn hc h
        refine r_iload_n R 56 dX10_readEnd_55 rfl rfl ?_
        refine r_if_lt R 59 64 dX10_readEnd_56 rfl (by decide) (fun hc => ?_) (fun hc => ?_)
        · have h := pf_ifp hc h
          refine r_iconst R 65 dX10_readEnd_64 rfl ic_iconst_0 ?_
          obtain rfl := Option.some.inj h
          exact r_ireturn R dX10_readEnd_65 rfl rfl rfl rfl
        · have h := pf_ifn hc h
          refine r_iload R 61 dX10_readEnd_59 rfl rfl ?_
          refine r_if_ge R 64 66 dX10_readEnd_61 rfl (by decide) (fun hc => ?_) (fun hc => ?_)
          · have h := pf_ifp hc h
            refine r_aload_n R 67 dX10_readEnd_66 rfl rfl ?_
            refine r_iload_n R 68 dX10_readEnd_67 rfl rfl ?_
            refine r_putfield R 71 dX10_readEnd_68 rfl fl_X10_35 rfl rfl rfl rfl ?_
            refine r_aload_n R 72 dX10_readEnd_71 rfl rfl ?_
            refine r_iload_n R 73 dX10_readEnd_72 rfl rfl ?_
            refine r_putfield R 76 dX10_readEnd_73 rfl fl_X10_38 rfl rfl rfl rfl ?_
            refine r_aload_n R 77 dX10_readEnd_76 rfl rfl ?_
            refine r_iload R 79 dX10_readEnd_77 rfl rfl ?_
            refine r_putfield R 82 dX10_readEnd_79 rfl fl_X10_41 rfl rfl rfl rfl ?_
            refine r_iconst R 83 dX10_readEnd_82 rfl ic_iconst_1 ?_
            obtain rfl := Option.some.inj h
            exact r_ireturn R dX10_readEnd_83 rfl rfl rfl rfl
          · have h := pf_ifn hc h
            refine r_iconst R 65 dX10_readEnd_64 rfl ic_iconst_0 ?_
            obtain rfl := Option.some.inj h
            exact r_ireturn R dX10_readEnd_65 rfl rfl rfl rfl
def jX10_readRing_69 (rec24 : Int32 → Int32 → pf_M → Option (Int32 × pf_M)) (w69_1 : Int32) (w69_2 : Int32) (M69 : pf_M) : Option (Int32 × pf_M) :=
  rec24 w69_1 (w69_2 + (1 : Int32)) M69
def lX10_readRing_24  : Nat → Int32 → Int32 → pf_M → Option (Int32 × pf_M)
  | 0, _, _, _ => none
  | n + 1, v24_1, v24_2, M24 =>
  (if (200 : Int32) ≤ v24_2 then some ((-4 : Int32), M24)
  else (if (M24 1 0 5) ≤ v24_1 then some ((-4 : Int32), M24)
  else ((fX10_readDevice v24_1 M24).bind fun q3 => (if q3.1 = (0 : Int32) then ((fX10_readEnd v24_1 q3.2).bind fun q4 => (if q4.1 = (0 : Int32) then some (v24_1, q4.2)
  else jX10_readRing_69 (lX10_readRing_24 n) (v24_1 + (5 : Int32)) v24_2 q4.2))
  else jX10_readRing_69 (lX10_readRing_24 n) (v24_1 + (9 : Int32)) v24_2 q3.2))))
def fX10_readRing (M : pf_M) : Option (Int32 × pf_M) :=
  lX10_readRing_24 pf_fu (0 : Int32) (0 : Int32) (pf_up (pf_up (pf_up (pf_up M 1 0 6 (0 : Int32)) 1 0 7 (1 : Int32)) 1 0 8 (2 : Int32)) 1 0 9 (1 : Int32))
set_option maxRecDepth 4000 in
theorem c_X10_readRing (G : pf_G) (M : pf_M) (q : Int32 × pf_M) (h : fX10_readRing M = some q) : pf_Met G yX10_readRing cX10_readRing 3 (some .int) 2 49 [pf_R 1 0] M (some (pf_I q.1)) q.2 := by
  refine pf_Met.of (by decide +kernel) (Nat.le_of_ble_eq_true rfl) (fun K R => ?_)
  show K 0 [pf_R 1 0, pf_U, pf_U] [] M
  have hl24 : ∀ (n : Nat) (v24_1 : Int32) (v24_2 : Int32) (M24 : pf_M), lX10_readRing_24 n v24_1 v24_2 M24 = some q → K 24 [pf_R 1 0, pf_I v24_1, pf_I v24_2] [] M24 := by
    intro n
    induction n with
    | zero =>
      intro v24_1 v24_2 M24 h
      rw [lX10_readRing_24] at h
      cases h
    | succ n ih24 =>
        have hj69 : ∀ (w69_1 : Int32) (w69_2 : Int32) (M69 : pf_M), jX10_readRing_69 (lX10_readRing_24 n) w69_1 w69_2 M69 = some q → K 69 [pf_R 1 0, pf_I w69_1, pf_I w69_2] [] M69 := by
          intro w69_1 w69_2 M69 h
          unfold jX10_readRing_69 at h
          refine r_iinc R 72 dX10_readRing_69 rfl rfl ic_iconst_1 (show _ = [pf_R 1 0, pf_I w69_1, pf_I (w69_2 + (1 : Int32))] from rfl) ?_
          refine r_goto R 24 dX10_readRing_72 (by decide) ?_
          exact ih24 _ _ _ h
        intro v24_1 v24_2 M24 h
        rw [lX10_readRing_24] at h
        refine r_iload_n R 25 dX10_readRing_24 rfl rfl ?_
        refine r_sipush R 28 dX10_readRing_25 rfl ic_sipush_200 ?_
        refine r_icmp_ge R 31 75 dX10_readRing_28 rfl (by decide) (fun hc => ?_) (fun hc => ?_)
        · have h := pf_ifp hc h
          refine r_bipush R 77 dX10_readRing_75 rfl ic_bipush_m4 ?_
          obtain rfl := Option.some.inj h
          exact r_ireturn R dX10_readRing_77 rfl rfl rfl rfl
        · have h := pf_ifn hc h
          refine r_iload_n R 32 dX10_readRing_31 rfl rfl ?_
          refine r_aload_n R 33 dX10_readRing_32 rfl rfl ?_
          refine r_getfield R 36 dX10_readRing_33 rfl fl_X10_28 rfl (show _ = pf_I (M24 1 0 5) from rfl) ?_
          refine r_icmp_ge R 39 75 dX10_readRing_36 rfl (by decide) (fun hc => ?_) (fun hc => ?_)
          · have h := pf_ifp hc h
            refine r_bipush R 77 dX10_readRing_75 rfl ic_bipush_m4 ?_
            obtain rfl := Option.some.inj h
            exact r_ireturn R dX10_readRing_77 rfl rfl rfl rfl
          · have h := pf_ifn hc h
            refine r_aload_n R 40 dX10_readRing_39 rfl rfl ?_
            refine r_iload_n R 41 dX10_readRing_40 rfl rfl ?_
            obtain ⟨q3, hq3, h⟩ := pf_bd h
            refine r_cvI1 R 44 dX10_readRing_41 rfl lk_X10_44 rfl (c_X10_readDevice G v24_1 M24 _ hq3) rfl rfl rfl ?_
            refine r_if_eq R 47 53 dX10_readRing_44 rfl (by decide) (fun hc => ?_) (fun hc => ?_)
            · have h := pf_ifp hc h
              refine r_aload_n R 54 dX10_readRing_53 rfl rfl ?_
              refine r_iload_n R 55 dX10_readRing_54 rfl rfl ?_
              obtain ⟨q4, hq4, h⟩ := pf_bd h
              refine r_cvI1 R 58 dX10_readRing_55 rfl lk_X10_48 rfl (c_X10_readEnd G v24_1 q3.2 _ hq4) rfl rfl rfl ?_
              refine r_if_eq R 61 67 dX10_readRing_58 rfl (by decide) (fun hc => ?_) (fun hc => ?_)
              · have h := pf_ifp hc h
                refine r_iload_n R 68 dX10_readRing_67 rfl rfl ?_
                obtain rfl := Option.some.inj h
                exact r_ireturn R dX10_readRing_68 rfl rfl rfl rfl
              · have h := pf_ifn hc h
                refine r_iinc R 64 dX10_readRing_61 rfl rfl ic_iconst_5 (show _ = [pf_R 1 0, pf_I (v24_1 + (5 : Int32)), pf_I v24_2] from rfl) ?_
                refine r_goto R 69 dX10_readRing_64 (by decide) ?_
                exact hj69 _ _ _ h
            · have h := pf_ifn hc h
              refine r_iinc R 50 dX10_readRing_47 rfl rfl ic_iconst_9 (show _ = [pf_R 1 0, pf_I (v24_1 + (9 : Int32)), pf_I v24_2] from rfl) ?_
              refine r_goto R 69 dX10_readRing_50 (by decide) ?_
              exact hj69 _ _ _ h
  unfold fX10_readRing at h
  refine r_aload_n R 1 dX10_readRing_0 rfl rfl ?_
  refine r_iconst R 2 dX10_readRing_1 rfl ic_iconst_0 ?_
  refine r_putfield R 5 dX10_readRing_2 rfl fl_X10_32 rfl rfl rfl rfl ?_
  refine r_aload_n R 6 dX10_readRing_5 rfl rfl ?_
  refine r_iconst R 7 dX10_readRing_6 rfl ic_iconst_1 ?_
  refine r_putfield R 10 dX10_readRing_7 rfl fl_X10_35 rfl rfl rfl rfl ?_
  refine r_aload_n R 11 dX10_readRing_10 rfl rfl ?_
  refine r_iconst R 12 dX10_readRing_11 rfl ic_iconst_2 ?_
  refine r_putfield R 15 dX10_readRing_12 rfl fl_X10_38 rfl rfl rfl rfl ?_
  refine r_aload_n R 16 dX10_readRing_15 rfl rfl ?_
  refine r_iconst R 17 dX10_readRing_16 rfl ic_iconst_1 ?_
  refine r_putfield R 20 dX10_readRing_17 rfl fl_X10_41 rfl rfl rfl rfl ?_
  refine r_iconst R 21 dX10_readRing_20 rfl ic_iconst_0 ?_
  refine r_istore_n R 22 dX10_readRing_21 rfl rfl (show _ = [pf_R 1 0, pf_I (0 : Int32), pf_U] from rfl) ?_
  refine r_iconst R 23 dX10_readRing_22 rfl ic_iconst_0 ?_
  refine r_istore_n R 24 dX10_readRing_23 rfl rfl (show _ = [pf_R 1 0, pf_I (0 : Int32), pf_I (0 : Int32)] from rfl) ?_
  exact hl24 pf_fu _ _ _ h
def jX9_find_21  : Option (Option Nat) :=
  some none
def fX9_find (x1 : Int32) (M : pf_M) : Option (Option Nat) :=
  (if x1 < (0 : Int32) then jX9_find_21
  else (if (M 7 0 3) ≤ x1 then jX9_find_21
  else (if pf_in x1 8 = true then some (some x1.toNatClampNeg)
  else none)))
set_option maxRecDepth 4000 in
theorem c_X9_find (G : pf_G) (x1 : Int32) (M : pf_M) (q : Option Nat) (h : fX9_find x1 M = some q) : pf_Met G yX9_find cX9_find 2 (some (.object "PassingFrames$Device")) 0 0 [pf_R 7 0, pf_I x1] M (some (pf_Q 11 q)) M := by
  refine pf_Met.of (by decide +kernel) (Nat.le_of_ble_eq_true rfl) (fun K R => ?_)
  show K 0 [pf_R 7 0, pf_I x1] [] M
  have hj21 : jX9_find_21 = some q → K 21 [pf_U, pf_U] [] M := by
    intro  h
    unfold jX9_find_21 at h
    refine r_aconst_null R 22 dX9_find_21 rfl ?_
    obtain rfl := Option.some.inj h
    exact r_areturn R dX9_find_22 rfl rfl rfl
  unfold fX9_find at h
  refine r_iload_n R 1 dX9_find_0 rfl rfl ?_
  refine r_if_lt R 4 21 dX9_find_1 rfl (by decide) (fun hc => ?_) (fun hc => ?_)
  · have h := pf_ifp hc h
    refine r_fg R [false, false] (show _ = [pf_U, pf_U] from rfl) ?_
    exact hj21 h
  · have h := pf_ifn hc h
    refine r_iload_n R 5 dX9_find_4 rfl rfl ?_
    refine r_aload_n R 6 dX9_find_5 rfl rfl ?_
    refine r_getfield R 9 dX9_find_6 rfl fl_X9_30 rfl (show _ = pf_I (M 7 0 3) from rfl) ?_
    refine r_icmp_ge R 12 21 dX9_find_9 rfl (by decide) (fun hc => ?_) (fun hc => ?_)
    · have h := pf_ifp hc h
      refine r_fg R [false, false] (show _ = [pf_U, pf_U] from rfl) ?_
      exact hj21 h
    · have h := pf_ifn hc h
      refine r_aload_n R 13 dX9_find_12 rfl rfl ?_
      refine r_getfield R 16 dX9_find_13 rfl fl_X9_11 rfl (show _ = pf_R 8 0 from rfl) ?_
      refine r_iload_n R 17 dX9_find_16 rfl rfl ?_
      obtain ⟨hi2, h⟩ := pf_gd h
      refine r_aaload R 18 dX9_find_17 rfl rfl rfl rfl (pf_in_iff.mp hi2) ?_
      refine r_goto R 22 dX9_find_18 (by decide) ?_
      obtain rfl := Option.some.inj h
      exact r_areturn R dX9_find_22 rfl rfl rfl
def lX9_sizeOfA_2 (M : pf_M) (kx2 : Option (Int32)) : Nat → Int32 → Option (Int32)
  | 0, _ => none
  | n + 1, v2_1 =>
  (if (M 7 0 3) ≤ v2_1 then kx2
  else (if pf_in v2_1 9 = true then (if (M 10 0 v2_1.toNatClampNeg) = (1 : Int32) then some v2_1
  else (lX9_sizeOfA_2 M kx2 n) (v2_1 + (1 : Int32)))
  else none))
def fX9_sizeOfA (M : pf_M) : Option (Int32) :=
  lX9_sizeOfA_2 M (some (M 7 0 3)) pf_fu (0 : Int32)
set_option maxRecDepth 4000 in
theorem c_X9_sizeOfA (G : pf_G) (M : pf_M) (q : Int32) (h : fX9_sizeOfA M = some q) : pf_Met G yX9_sizeOfA cX9_sizeOfA 2 (some .int) 0 0 [pf_R 7 0] M (some (pf_I q)) M := by
  refine pf_Met.of (by decide +kernel) (Nat.le_of_ble_eq_true rfl) (fun K R => ?_)
  show K 0 [pf_R 7 0, pf_U] [] M
  have hl2 : ∀ (kx2 : Option (Int32)), (kx2  = some q → K 28 [pf_R 7 0, pf_U] [] M) → ∀ (n : Nat) (v2_1 : Int32), lX9_sizeOfA_2 M kx2 n v2_1 = some q → K 2 [pf_R 7 0, pf_I v2_1] [] M := by
    intro kx2 hkx2 n
    induction n with
    | zero =>
      intro v2_1 h
      rw [lX9_sizeOfA_2] at h
      cases h
    | succ n ih2 =>
        intro v2_1 h
        rw [lX9_sizeOfA_2] at h
        refine r_iload_n R 3 dX9_sizeOfA_2 rfl rfl ?_
        refine r_aload_n R 4 dX9_sizeOfA_3 rfl rfl ?_
        refine r_getfield R 7 dX9_sizeOfA_4 rfl fl_X9_30 rfl (show _ = pf_I (M 7 0 3) from rfl) ?_
        refine r_icmp_ge R 10 28 dX9_sizeOfA_7 rfl (by decide) (fun hc => ?_) (fun hc => ?_)
        · have h := pf_ifp hc h
          refine r_fg R [true, false] (show _ = [pf_R 7 0, pf_U] from rfl) ?_
          exact hkx2 h
        · have h := pf_ifn hc h
          refine r_aload_n R 11 dX9_sizeOfA_10 rfl rfl ?_
          refine r_getfield R 14 dX9_sizeOfA_11 rfl fl_X9_21 rfl (show _ = pf_R 10 0 from rfl) ?_
          refine r_iload_n R 15 dX9_sizeOfA_14 rfl rfl ?_
          obtain ⟨hi1, h⟩ := pf_gd h
          refine r_iaload R 16 dX9_sizeOfA_15 rfl ⟨rfl, rfl⟩ (pf_in_iff.mp hi1) ?_
          refine r_iconst R 17 dX9_sizeOfA_16 rfl ic_iconst_1 ?_
          refine r_icmp_ne R 20 22 dX9_sizeOfA_17 rfl (by decide) (fun hc => ?_) (fun hc => ?_)
          · have h := pf_ifp hc h
            refine r_iload_n R 21 dX9_sizeOfA_20 rfl rfl ?_
            obtain rfl := Option.some.inj h
            exact r_ireturn R dX9_sizeOfA_21 rfl rfl rfl rfl
          · have h := pf_ifn hc h
            refine r_iinc R 25 dX9_sizeOfA_22 rfl rfl ic_iconst_1 (show _ = [pf_R 7 0, pf_I (v2_1 + (1 : Int32))] from rfl) ?_
            refine r_goto R 2 dX9_sizeOfA_25 (by decide) ?_
            exact ih2 _ h
  unfold fX9_sizeOfA at h
  refine r_iconst R 1 dX9_sizeOfA_0 rfl ic_iconst_0 ?_
  refine r_istore_n R 2 dX9_sizeOfA_1 rfl rfl (show _ = [pf_R 7 0, pf_I (0 : Int32)] from rfl) ?_
  refine hl2 _ (fun  h => ?_) pf_fu _ h
  refine r_aload_n R 29 dX9_sizeOfA_28 rfl rfl ?_
  refine r_getfield R 32 dX9_sizeOfA_29 rfl fl_X9_30 rfl (show _ = pf_I (M 7 0 3) from rfl) ?_
  obtain rfl := Option.some.inj h
  exact r_ireturn R dX9_sizeOfA_32 rfl rfl rfl rfl
def lX9_firstOfB_5 (M : pf_M) (kx5 : Option (Int32)) : Nat → Int32 → Option (Int32)
  | 0, _ => none
  | n + 1, v5_1 =>
  (if v5_1 < (0 : Int32) then kx5
  else (if pf_in v5_1 9 = true then (if (M 10 0 v5_1.toNatClampNeg) = (1 : Int32) then some v5_1
  else (lX9_firstOfB_5 M kx5 n) (v5_1 + (-1 : Int32)))
  else none))
def fX9_firstOfB (M : pf_M) : Option (Int32) :=
  lX9_firstOfB_5 M (some (M 7 0 3)) pf_fu (M 7 0 3)
set_option maxRecDepth 4000 in
theorem c_X9_firstOfB (G : pf_G) (M : pf_M) (q : Int32) (h : fX9_firstOfB M = some q) : pf_Met G yX9_firstOfB cX9_firstOfB 2 (some .int) 0 0 [pf_R 7 0] M (some (pf_I q)) M := by
  refine pf_Met.of (by decide +kernel) (Nat.le_of_ble_eq_true rfl) (fun K R => ?_)
  show K 0 [pf_R 7 0, pf_U] [] M
  have hl5 : ∀ (kx5 : Option (Int32)), (kx5  = some q → K 27 [pf_R 7 0, pf_U] [] M) → ∀ (n : Nat) (v5_1 : Int32), lX9_firstOfB_5 M kx5 n v5_1 = some q → K 5 [pf_R 7 0, pf_I v5_1] [] M := by
    intro kx5 hkx5 n
    induction n with
    | zero =>
      intro v5_1 h
      rw [lX9_firstOfB_5] at h
      cases h
    | succ n ih5 =>
        intro v5_1 h
        rw [lX9_firstOfB_5] at h
        refine r_iload_n R 6 dX9_firstOfB_5 rfl rfl ?_
        refine r_if_lt R 9 27 dX9_firstOfB_6 rfl (by decide) (fun hc => ?_) (fun hc => ?_)
        · have h := pf_ifp hc h
          refine r_fg R [true, false] (show _ = [pf_R 7 0, pf_U] from rfl) ?_
          exact hkx5 h
        · have h := pf_ifn hc h
          refine r_aload_n R 10 dX9_firstOfB_9 rfl rfl ?_
          refine r_getfield R 13 dX9_firstOfB_10 rfl fl_X9_21 rfl (show _ = pf_R 10 0 from rfl) ?_
          refine r_iload_n R 14 dX9_firstOfB_13 rfl rfl ?_
          obtain ⟨hi2, h⟩ := pf_gd h
          refine r_iaload R 15 dX9_firstOfB_14 rfl ⟨rfl, rfl⟩ (pf_in_iff.mp hi2) ?_
          refine r_iconst R 16 dX9_firstOfB_15 rfl ic_iconst_1 ?_
          refine r_icmp_ne R 19 21 dX9_firstOfB_16 rfl (by decide) (fun hc => ?_) (fun hc => ?_)
          · have h := pf_ifp hc h
            refine r_iload_n R 20 dX9_firstOfB_19 rfl rfl ?_
            obtain rfl := Option.some.inj h
            exact r_ireturn R dX9_firstOfB_20 rfl rfl rfl rfl
          · have h := pf_ifn hc h
            refine r_iinc R 24 dX9_firstOfB_21 rfl rfl ic_iconst_m1 (show _ = [pf_R 7 0, pf_I (v5_1 + (-1 : Int32))] from rfl) ?_
            refine r_goto R 5 dX9_firstOfB_24 (by decide) ?_
            exact ih5 _ h
  unfold fX9_firstOfB at h
  refine r_aload_n R 1 dX9_firstOfB_0 rfl rfl ?_
  refine r_getfield R 4 dX9_firstOfB_1 rfl fl_X9_30 rfl (show _ = pf_I (M 7 0 3) from rfl) ?_
  refine r_istore_n R 5 dX9_firstOfB_4 rfl rfl (show _ = [pf_R 7 0, pf_I (M 7 0 3)] from rfl) ?_
  refine hl5 _ (fun  h => ?_) pf_fu _ h
  refine r_aload_n R 28 dX9_firstOfB_27 rfl rfl ?_
  refine r_getfield R 31 dX9_firstOfB_28 rfl fl_X9_30 rfl (show _ = pf_I (M 7 0 3) from rfl) ?_
  obtain rfl := Option.some.inj h
  exact r_ireturn R dX9_firstOfB_31 rfl rfl rfl rfl
def fX9_sideOf (x1 : Int32) (M : pf_M) : Option (Int32) :=
  ((fX9_sizeOfA M).bind fun r3 => (if r3 ≤ x1 then ((fX9_firstOfB M).bind fun r4 => (if x1 < r4 then some (0 : Int32)
  else some (2 : Int32)))
  else some (1 : Int32)))
set_option maxRecDepth 4000 in
theorem c_X9_sideOf (G : pf_G) (x1 : Int32) (M : pf_M) (q : Int32) (h : fX9_sideOf x1 M = some q) : pf_Met G yX9_sideOf cX9_sideOf 2 (some .int) 1 21 [pf_R 7 0, pf_I x1] M (some (pf_I q)) M := by
  refine pf_Met.of (by decide +kernel) (Nat.le_of_ble_eq_true rfl) (fun K R => ?_)
  show K 0 [pf_R 7 0, pf_I x1] [] M
  unfold fX9_sideOf at h
  refine r_iload_n R 1 dX9_sideOf_0 rfl rfl ?_
  refine r_aload_n R 2 dX9_sideOf_1 rfl rfl ?_
  obtain ⟨r3, hr3, h⟩ := pf_bd h
  refine r_cvI0 R 5 dX9_sideOf_2 rfl lk_X9_75 rfl (c_X9_sizeOfA G M _ hr3) rfl rfl rfl ?_
  refine r_icmp_ge R 8 10 dX9_sideOf_5 rfl (by decide) (fun hc => ?_) (fun hc => ?_)
  · have h := pf_ifp hc h
    refine r_iload_n R 11 dX9_sideOf_10 rfl rfl ?_
    refine r_aload_n R 12 dX9_sideOf_11 rfl rfl ?_
    obtain ⟨r4, hr4, h⟩ := pf_bd h
    refine r_cvI0 R 15 dX9_sideOf_12 rfl lk_X9_71 rfl (c_X9_firstOfB G M _ hr4) rfl rfl rfl ?_
    refine r_icmp_lt R 18 22 dX9_sideOf_15 rfl (by decide) (fun hc => ?_) (fun hc => ?_)
    · have h := pf_ifp hc h
      refine r_iconst R 23 dX9_sideOf_22 rfl ic_iconst_0 ?_
      obtain rfl := Option.some.inj h
      exact r_ireturn R dX9_sideOf_23 rfl rfl rfl rfl
    · have h := pf_ifn hc h
      refine r_iconst R 19 dX9_sideOf_18 rfl ic_iconst_2 ?_
      refine r_goto R 23 dX9_sideOf_19 (by decide) ?_
      obtain rfl := Option.some.inj h
      exact r_ireturn R dX9_sideOf_23 rfl rfl rfl rfl
  · have h := pf_ifn hc h
    refine r_iconst R 9 dX9_sideOf_8 rfl ic_iconst_1 ?_
    obtain rfl := Option.some.inj h
    exact r_ireturn R dX9_sideOf_9 rfl rfl rfl rfl
def fX9_isReached (x1 : Int32) (M : pf_M) : Option (Int32) :=
  ((fX9_find x1 M).bind fun r3 => (match r3 with
  | none => some (0 : Int32)
  | some i4 => (if (M 11 i4 7) = (0 : Int32) then some (0 : Int32)
  else ((fX9_sideOf x1 M).bind fun r5 => (if r5 = (0 : Int32) then some (0 : Int32)
  else some (1 : Int32))))))
set_option maxRecDepth 4000 in
theorem c_X9_isReached (G : pf_G) (x1 : Int32) (M : pf_M) (q : Int32) (h : fX9_isReached x1 M = some q) : pf_Met G yX9_isReached cX9_isReached 3 (some .boolean) 2 42 [pf_R 7 0, pf_I x1] M (some (pf_I q)) M := by
  refine pf_Met.of (by decide +kernel) (Nat.le_of_ble_eq_true rfl) (fun K R => ?_)
  show K 0 [pf_R 7 0, pf_I x1, pf_U] [] M
  unfold fX9_isReached at h
  refine r_aload_n R 1 dX9_isReached_0 rfl rfl ?_
  refine r_iload_n R 2 dX9_isReached_1 rfl rfl ?_
  obtain ⟨r3, hr3, h⟩ := pf_bd h
  refine r_cvQ1 R 5 dX9_isReached_2 rfl lk_X9_78 rfl (c_X9_find G x1 M _ hr3) rfl rfl rfl ?_
  refine r_astore_n R 6 dX9_isReached_5 rfl rfl (show _ = [pf_R 7 0, pf_I x1, pf_Q 11 r3] from rfl) ?_
  refine r_aload_n R 7 dX9_isReached_6 rfl rfl ?_
  cases r3 with
  | none =>
    refine r_ifnull_t R 29 dX9_isReached_7 (by decide) ?_
    refine r_iconst R 30 dX9_isReached_29 rfl ic_iconst_0 ?_
    obtain rfl := Option.some.inj h
    exact r_ireturn R dX9_isReached_30 rfl rfl rfl rfl
  | some i4 =>
    refine r_ifnull_f R 10 29 dX9_isReached_7 rfl (by decide) ?_
    refine r_aload_n R 11 dX9_isReached_10 rfl rfl ?_
    refine r_getfield R 14 dX9_isReached_11 rfl fl_X9_82 rfl (show _ = pf_I (M 11 i4 7) from rfl) ?_
    refine r_if_eq R 17 29 dX9_isReached_14 rfl (by decide) (fun hc => ?_) (fun hc => ?_)
    · have h := pf_ifp hc h
      refine r_iconst R 30 dX9_isReached_29 rfl ic_iconst_0 ?_
      obtain rfl := Option.some.inj h
      exact r_ireturn R dX9_isReached_30 rfl rfl rfl rfl
    · have h := pf_ifn hc h
      refine r_aload_n R 18 dX9_isReached_17 rfl rfl ?_
      refine r_iload_n R 19 dX9_isReached_18 rfl rfl ?_
      obtain ⟨r5, hr5, h⟩ := pf_bd h
      refine r_cvI1 R 22 dX9_isReached_19 rfl lk_X9_85 rfl (c_X9_sideOf G x1 M _ hr5) rfl rfl rfl ?_
      refine r_if_eq R 25 29 dX9_isReached_22 rfl (by decide) (fun hc => ?_) (fun hc => ?_)
      · have h := pf_ifp hc h
        refine r_iconst R 30 dX9_isReached_29 rfl ic_iconst_0 ?_
        obtain rfl := Option.some.inj h
        exact r_ireturn R dX9_isReached_30 rfl rfl rfl rfl
      · have h := pf_ifn hc h
        refine r_iconst R 26 dX9_isReached_25 rfl ic_iconst_1 ?_
        refine r_goto R 30 dX9_isReached_26 (by decide) ?_
        obtain rfl := Option.some.inj h
        exact r_ireturn R dX9_isReached_30 rfl rfl rfl rfl
def fX8_append (o0 : Nat) (x1 : Int32) (M : pf_M) : Option (Int32 × pf_M) :=
  (if (M 15 o0 1) < (4 : Int32) then (if pf_in (M 15 o0 1) 4 = true then some ((1 : Int32), (pf_up (pf_up M 16 o0 (M 15 o0 1).toNatClampNeg x1) 15 o0 1 (((pf_up M 16 o0 (M 15 o0 1).toNatClampNeg x1) 15 o0 1) + (1 : Int32))))
  else none)
  else some ((0 : Int32), M))
set_option maxRecDepth 4000 in
theorem c_X8_append (G : pf_G) (o0 : Nat) (x1 : Int32) (M : pf_M) (q : Int32 × pf_M) (h : fX8_append o0 x1 M = some q) : pf_Met G yX8_append cX8_append 2 (some .boolean) 0 0 [pf_R 15 o0, pf_I x1] M (some (pf_I q.1)) q.2 := by
  refine pf_Met.of (by decide +kernel) (Nat.le_of_ble_eq_true rfl) (fun K R => ?_)
  show K 0 [pf_R 15 o0, pf_I x1] [] M
  unfold fX8_append at h
  refine r_aload_n R 1 dX8_append_0 rfl rfl ?_
  refine r_getfield R 4 dX8_append_1 rfl fl_X8_15 rfl (show _ = pf_I (M 15 o0 1) from rfl) ?_
  refine r_iconst R 5 dX8_append_4 rfl ic_iconst_4 ?_
  refine r_icmp_lt R 8 10 dX8_append_5 rfl (by decide) (fun hc => ?_) (fun hc => ?_)
  · have h := pf_ifp hc h
    refine r_aload_n R 11 dX8_append_10 rfl rfl ?_
    refine r_getfield R 14 dX8_append_11 rfl fl_X8_9 rfl (show _ = pf_R 16 o0 from rfl) ?_
    refine r_aload_n R 15 dX8_append_14 rfl rfl ?_
    refine r_getfield R 18 dX8_append_15 rfl fl_X8_15 rfl (show _ = pf_I (M 15 o0 1) from rfl) ?_
    refine r_iload_n R 19 dX8_append_18 rfl rfl ?_
    obtain ⟨hi2, h⟩ := pf_gd h
    refine r_iastore R 20 dX8_append_19 rfl ⟨rfl, rfl⟩ (pf_in_iff.mp hi2) ?_
    refine r_aload_n R 21 dX8_append_20 rfl rfl ?_
    refine r_dup R 22 dX8_append_21 rfl rfl ?_
    refine r_getfield R 25 dX8_append_22 rfl fl_X8_15 rfl (show _ = pf_I ((pf_up M 16 o0 (M 15 o0 1).toNatClampNeg x1) 15 o0 1) from rfl) ?_
    refine r_iconst R 26 dX8_append_25 rfl ic_iconst_1 ?_
    refine r_iadd R 27 dX8_append_26 rfl ?_
    refine r_putfield R 30 dX8_append_27 rfl fl_X8_15 rfl rfl rfl rfl ?_
    refine r_iconst R 31 dX8_append_30 rfl ic_iconst_1 ?_
    obtain rfl := Option.some.inj h
    exact r_ireturn R dX8_append_31 rfl rfl rfl rfl
  · have h := pf_ifn hc h
    refine r_iconst R 9 dX8_append_8 rfl ic_iconst_0 ?_
    obtain rfl := Option.some.inj h
    exact r_ireturn R dX8_append_9 rfl rfl rfl rfl
