def jX12_send_104 (rec76 : Int32 → Int32 → pf_M → Option (Int32 × pf_M)) (w104_2 : Int32) (w104_3 : Int32) (M104 : pf_M) : Option (Int32 × pf_M) :=
  rec76 w104_2 (w104_3 + (1 : Int32)) M104
def lX12_send_76  : Nat → Int32 → Int32 → pf_M → Option (Int32 × pf_M)
  | 0, _, _, _ => none
  | n + 1, v76_2, v76_3, M76 =>
  (if (4 : Int32) ≤ v76_3 then some (v76_2, M76)
  else (if pf_in v76_3 4 = true then (if (M76 64 0 v76_3.toNatClampNeg) ≤ (0 : Int32) then jX12_send_104 (lX12_send_76 n) v76_2 v76_3 M76
  else ((fX12_keeps v76_3 M76).bind fun q6 => (if pf_in v76_3 4 = true then jX12_send_104 (lX12_send_76 n) (v76_2 + (q6 72 0 v76_3.toNatClampNeg)) v76_3 q6
  else none)))
  else none))
def jX12_send_27 (rec4 : Int32 → Int32 → pf_M → Option (Int32 × pf_M)) (w27_2 : Int32) (s27_0 : Int32) (M27 : pf_M) : Option (Int32 × pf_M) :=
  rec4 s27_0 (w27_2 + (1 : Int32)) M27
def jX12_send_22 (rec4 : Int32 → Int32 → pf_M → Option (Int32 × pf_M)) (w22_2 : Int32) (M22 : pf_M) : Option (Int32 × pf_M) :=
  jX12_send_27 rec4 w22_2 (1 : Int32) M22
def lX12_send_4 (kx4 : Int32 → pf_M → Option (Int32 × pf_M)) : Nat → Int32 → Int32 → pf_M → Option (Int32 × pf_M)
  | 0, _, _, _ => none
  | n + 1, v4_1, v4_2, M4 =>
  (if (4 : Int32) ≤ v4_2 then kx4 v4_1 M4
  else (if v4_1 = (0 : Int32) then (if pf_in v4_2 4 = true then (if (M4 64 0 v4_2.toNatClampNeg) ≤ (0 : Int32) then jX12_send_27 (lX12_send_4 kx4 n) v4_2 (0 : Int32) M4
  else jX12_send_22 (lX12_send_4 kx4 n) v4_2 M4)
  else none)
  else jX12_send_22 (lX12_send_4 kx4 n) v4_2 M4))
def fX12_send (M : pf_M) : Option (Int32 × pf_M) :=
  lX12_send_4 (fun u9_e4_1 u9_Me4 => (if u9_e4_1 = (0 : Int32) then some ((-2 : Int32), u9_Me4)
  else ((fX12_goes u9_Me4).bind fun q10 => ((fX12_trip q10).bind fun r11 => (if ((fX12_isLost (pf_up q10 40 0 22 ((q10 40 0 22) + r11))).1) = (0 : Int32) then ((fX12_joins (fX12_isLost (pf_up q10 40 0 22 ((q10 40 0 22) + r11))).2).bind fun q12 => lX12_send_76 pf_fu (0 : Int32) (0 : Int32) q12)
  else some ((-5 : Int32), (fX12_isLost (pf_up q10 40 0 22 ((q10 40 0 22) + r11))).2)))))) pf_fu (0 : Int32) (0 : Int32) M
set_option maxRecDepth 4000 in
theorem c_X12_send (G : pf_G) (M : pf_M) (q : Int32 × pf_M) (h : fX12_send M = some q) : pf_Met G yX12_send cX12_send 4 (some .int) 6 155 [pf_R 40 0] M (some (pf_I q.1)) q.2 := by
  refine pf_Met.of (by decide +kernel) (Nat.le_of_ble_eq_true rfl) (fun K R => ?_)
  show K 0 [pf_R 40 0, pf_U, pf_U, pf_U] [] M
  have hl76 : ∀ (n : Nat) (v76_2 : Int32) (v76_3 : Int32) (M76 : pf_M), lX12_send_76 n v76_2 v76_3 M76 = some q → K 76 [pf_R 40 0, pf_U, pf_I v76_2, pf_I v76_3] [] M76 := by
    intro n
    induction n with
    | zero =>
      intro v76_2 v76_3 M76 h
      rw [lX12_send_76] at h
      cases h
    | succ n ih76 =>
        have hj104 : ∀ (w104_2 : Int32) (w104_3 : Int32) (M104 : pf_M), jX12_send_104 (lX12_send_76 n) w104_2 w104_3 M104 = some q → K 104 [pf_R 40 0, pf_U, pf_I w104_2, pf_I w104_3] [] M104 := by
          intro w104_2 w104_3 M104 h
          unfold jX12_send_104 at h
          refine r_iinc R 107 dX12_send_104 rfl rfl ic_iconst_1 (show _ = [pf_R 40 0, pf_U, pf_I w104_2, pf_I (w104_3 + (1 : Int32))] from rfl) ?_
          refine r_goto R 76 dX12_send_107 (by decide) ?_
          exact ih76 _ _ _ h
        intro v76_2 v76_3 M76 h
        rw [lX12_send_76] at h
        refine r_iload_n R 77 dX12_send_76 rfl rfl ?_
        refine r_iconst R 78 dX12_send_77 rfl ic_iconst_4 ?_
        refine r_icmp_ge R 81 110 dX12_send_78 rfl (by decide) (fun hc => ?_) (fun hc => ?_)
        · have h := pf_ifp hc h
          refine r_iload_n R 111 dX12_send_110 rfl rfl ?_
          obtain rfl := Option.some.inj h
          exact r_ireturn R dX12_send_111 rfl rfl rfl rfl
        · have h := pf_ifn hc h
          refine r_aload_n R 82 dX12_send_81 rfl rfl ?_
          refine r_getfield R 85 dX12_send_82 rfl fl_X12_79 rfl (show _ = pf_R 64 0 from rfl) ?_
          refine r_iload_n R 86 dX12_send_85 rfl rfl ?_
          obtain ⟨hi5, h⟩ := pf_gd h
          refine r_iaload R 87 dX12_send_86 rfl ⟨rfl, rfl⟩ (pf_in_iff.mp hi5) ?_
          refine r_if_le R 90 104 dX12_send_87 rfl (by decide) (fun hc => ?_) (fun hc => ?_)
          · have h := pf_ifp hc h
            exact hj104 _ _ _ h
          · have h := pf_ifn hc h
            refine r_aload_n R 91 dX12_send_90 rfl rfl ?_
            refine r_iload_n R 92 dX12_send_91 rfl rfl ?_
            obtain ⟨q6, hq6, h⟩ := pf_bd h
            refine r_cvV1 R 95 dX12_send_92 rfl lk_X12_313 rfl (c_X12_keeps G v76_3 M76 _ hq6) rfl rfl rfl ?_
            refine r_iload_n R 96 dX12_send_95 rfl rfl ?_
            refine r_aload_n R 97 dX12_send_96 rfl rfl ?_
            refine r_getfield R 100 dX12_send_97 rfl fl_X12_103 rfl (show _ = pf_R 72 0 from rfl) ?_
            refine r_iload_n R 101 dX12_send_100 rfl rfl ?_
            obtain ⟨hi7, h⟩ := pf_gd h
            refine r_iaload R 102 dX12_send_101 rfl ⟨rfl, rfl⟩ (pf_in_iff.mp hi7) ?_
            refine r_iadd R 103 dX12_send_102 rfl ?_
            refine r_istore_n R 104 dX12_send_103 rfl rfl (show _ = [pf_R 40 0, pf_U, pf_I (v76_2 + (q6 72 0 v76_3.toNatClampNeg)), pf_I v76_3] from rfl) ?_
            exact hj104 _ _ _ h
  have hl4 : ∀ (kx4 : Int32 → pf_M → Option (Int32 × pf_M)), (∀ (e4_1 : Int32) (Me4 : pf_M), kx4 e4_1 Me4 = some q → K 34 [pf_R 40 0, pf_I e4_1, pf_U, pf_U] [] Me4) → ∀ (n : Nat) (v4_1 : Int32) (v4_2 : Int32) (M4 : pf_M), lX12_send_4 kx4 n v4_1 v4_2 M4 = some q → K 4 [pf_R 40 0, pf_I v4_1, pf_I v4_2, pf_U] [] M4 := by
    intro kx4 hkx4 n
    induction n with
    | zero =>
      intro v4_1 v4_2 M4 h
      rw [lX12_send_4] at h
      cases h
    | succ n ih4 =>
        have hj27 : ∀ (w27_2 : Int32) (s27_0 : Int32) (M27 : pf_M), jX12_send_27 (lX12_send_4 kx4 n) w27_2 s27_0 M27 = some q → K 27 [pf_R 40 0, pf_U, pf_I w27_2, pf_U] [pf_I s27_0] M27 := by
          intro w27_2 s27_0 M27 h
          unfold jX12_send_27 at h
          refine r_istore_n R 28 dX12_send_27 rfl rfl (show _ = [pf_R 40 0, pf_I s27_0, pf_I w27_2, pf_U] from rfl) ?_
          refine r_iinc R 31 dX12_send_28 rfl rfl ic_iconst_1 (show _ = [pf_R 40 0, pf_I s27_0, pf_I (w27_2 + (1 : Int32)), pf_U] from rfl) ?_
          refine r_goto R 4 dX12_send_31 (by decide) ?_
          exact ih4 _ _ _ h
        have hj22 : ∀ (w22_2 : Int32) (M22 : pf_M), jX12_send_22 (lX12_send_4 kx4 n) w22_2 M22 = some q → K 22 [pf_R 40 0, pf_U, pf_I w22_2, pf_U] [] M22 := by
          intro w22_2 M22 h
          unfold jX12_send_22 at h
          refine r_iconst R 23 dX12_send_22 rfl ic_iconst_1 ?_
          refine r_goto R 27 dX12_send_23 (by decide) ?_
          exact hj27 _ _ _ h
        intro v4_1 v4_2 M4 h
        rw [lX12_send_4] at h
        refine r_iload_n R 5 dX12_send_4 rfl rfl ?_
        refine r_iconst R 6 dX12_send_5 rfl ic_iconst_4 ?_
        refine r_icmp_ge R 9 34 dX12_send_6 rfl (by decide) (fun hc => ?_) (fun hc => ?_)
        · have h := pf_ifp hc h
          refine r_fg R [true, true, false, true] (show _ = [pf_R 40 0, pf_I v4_1, pf_U, pf_U] from rfl) ?_
          exact hkx4 _ _ h
        · have h := pf_ifn hc h
          refine r_iload_n R 10 dX12_send_9 rfl rfl ?_
          refine r_if_ne R 13 22 dX12_send_10 rfl (by decide) (fun hc => ?_) (fun hc => ?_)
          · have h := pf_ifp hc h
            refine r_aload_n R 14 dX12_send_13 rfl rfl ?_
            refine r_getfield R 17 dX12_send_14 rfl fl_X12_79 rfl (show _ = pf_R 64 0 from rfl) ?_
            refine r_iload_n R 18 dX12_send_17 rfl rfl ?_
            obtain ⟨hi8, h⟩ := pf_gd h
            refine r_iaload R 19 dX12_send_18 rfl ⟨rfl, rfl⟩ (pf_in_iff.mp hi8) ?_
            refine r_if_le R 22 26 dX12_send_19 rfl (by decide) (fun hc => ?_) (fun hc => ?_)
            · have h := pf_ifp hc h
              refine r_iconst R 27 dX12_send_26 rfl ic_iconst_0 ?_
              refine r_fg R [true, false, true, true] (show _ = [pf_R 40 0, pf_U, pf_I v4_2, pf_U] from rfl) ?_
              exact hj27 _ _ _ h
            · have h := pf_ifn hc h
              refine r_fg R [true, false, true, true] (show _ = [pf_R 40 0, pf_U, pf_I v4_2, pf_U] from rfl) ?_
              exact hj22 _ _ h
          · have h := pf_ifn hc h
            refine r_fg R [true, false, true, true] (show _ = [pf_R 40 0, pf_U, pf_I v4_2, pf_U] from rfl) ?_
            exact hj22 _ _ h
  unfold fX12_send at h
  refine r_iconst R 1 dX12_send_0 rfl ic_iconst_0 ?_
  refine r_istore_n R 2 dX12_send_1 rfl rfl (show _ = [pf_R 40 0, pf_I (0 : Int32), pf_U, pf_U] from rfl) ?_
  refine r_iconst R 3 dX12_send_2 rfl ic_iconst_0 ?_
  refine r_istore_n R 4 dX12_send_3 rfl rfl (show _ = [pf_R 40 0, pf_I (0 : Int32), pf_I (0 : Int32), pf_U] from rfl) ?_
  refine hl4 _ (fun u9_e4_1 u9_Me4 h => ?_) pf_fu _ _ _ h
  refine r_iload_n R 35 dX12_send_34 rfl rfl ?_
  refine r_if_ne R 38 41 dX12_send_35 rfl (by decide) (fun hc => ?_) (fun hc => ?_)
  · have h := pf_ifp hc h
    refine r_bipush R 40 dX12_send_38 rfl ic_bipush_m2 ?_
    obtain rfl := Option.some.inj h
    exact r_ireturn R dX12_send_40 rfl rfl rfl rfl
  · have h := pf_ifn hc h
    refine r_aload_n R 42 dX12_send_41 rfl rfl ?_
    obtain ⟨q10, hq10, h⟩ := pf_bd h
    refine r_cvV0 R 45 dX12_send_42 rfl lk_X12_301 rfl (c_X12_goes G u9_Me4 _ hq10) rfl rfl rfl ?_
    refine r_aload_n R 46 dX12_send_45 rfl rfl ?_
    refine r_dup R 47 dX12_send_46 rfl rfl ?_
    refine r_getfield R 50 dX12_send_47 rfl fl_X12_193 rfl (show _ = pf_I (q10 40 0 22) from rfl) ?_
    refine r_aload_n R 51 dX12_send_50 rfl rfl ?_
    obtain ⟨r11, hr11, h⟩ := pf_bd h
    refine r_cvI0 R 54 dX12_send_51 rfl lk_X12_304 rfl (c_X12_trip G q10 _ hr11) rfl rfl rfl ?_
    refine r_iadd R 55 dX12_send_54 rfl ?_
    refine r_putfield R 58 dX12_send_55 rfl fl_X12_193 rfl rfl rfl rfl ?_
    refine r_aload_n R 59 dX12_send_58 rfl rfl ?_
    refine r_cvI0 R 62 dX12_send_59 rfl lk_X12_307 rfl (c_X12_isLost G (pf_up q10 40 0 22 ((q10 40 0 22) + r11)) _ rfl) rfl rfl rfl ?_
    refine r_if_eq R 65 68 dX12_send_62 rfl (by decide) (fun hc => ?_) (fun hc => ?_)
    · have h := pf_ifp hc h
      refine r_aload_n R 69 dX12_send_68 rfl rfl ?_
      obtain ⟨q12, hq12, h⟩ := pf_bd h
      refine r_cvV0 R 72 dX12_send_69 rfl lk_X12_310 rfl (c_X12_joins G (fX12_isLost (pf_up q10 40 0 22 ((q10 40 0 22) + r11))).2 _ hq12) rfl rfl rfl ?_
      refine r_iconst R 73 dX12_send_72 rfl ic_iconst_0 ?_
      refine r_istore_n R 74 dX12_send_73 rfl rfl (show _ = [pf_R 40 0, pf_I u9_e4_1, pf_I (0 : Int32), pf_U] from rfl) ?_
      refine r_iconst R 75 dX12_send_74 rfl ic_iconst_0 ?_
      refine r_istore_n R 76 dX12_send_75 rfl rfl (show _ = [pf_R 40 0, pf_I u9_e4_1, pf_I (0 : Int32), pf_I (0 : Int32)] from rfl) ?_
      refine r_fg R [true, false, true, true] (show _ = [pf_R 40 0, pf_U, pf_I (0 : Int32), pf_I (0 : Int32)] from rfl) ?_
      exact hl76 pf_fu _ _ _ h
    · have h := pf_ifn hc h
      refine r_bipush R 67 dX12_send_65 rfl ic_bipush_m5 ?_
      obtain rfl := Option.some.inj h
      exact r_ireturn R dX12_send_67 rfl rfl rfl rfl
def fX12_state (x1 : Int32) (x2 : Int32) (M : pf_M) : Option (Int32 × pf_M) :=
  (if (fX12_isDevice x1 M) = (0 : Int32) then some ((-1 : Int32), M)
  else (if (fX12_in x2.toInt64 (0 : Int64) (3 : Int64)) = (0 : Int32) then some ((-1 : Int32), M)
  else (if pf_in x1 8 = true then ((fX12_sideOf x1 M).bind fun r6 => (if r6 = (0 : Int32) then some ((-2 : Int32), M)
  else (if (M 51 0 x1.toNatClampNeg) = x2 then some ((-2 : Int32), M)
  else (if x2 ≤ ((M 51 0 x1.toNatClampNeg) + (1 : Int32)) then (if pf_in x1 8 = true then (if x2 = (0 : Int32) then ((fX12_becomeInit x1 (pf_up M 51 0 x1.toNatClampNeg x2)).bind fun q8 => some (M 51 0 x1.toNatClampNeg, q8))
  else some (M 51 0 x1.toNatClampNeg, (pf_up M 51 0 x1.toNatClampNeg x2)))
  else none)
  else some ((-2 : Int32), M)))))
  else none)))
set_option maxRecDepth 4000 in
theorem c_X12_state (G : pf_G) (x1 : Int32) (x2 : Int32) (M : pf_M) (q : Int32 × pf_M) (h : fX12_state x1 x2 M = some q) : pf_Met G yX12_state cX12_state 4 (some .int) 2 46 [pf_R 40 0, pf_I x1, pf_I x2] M (some (pf_I q.1)) q.2 := by
  refine pf_Met.of (by decide +kernel) (Nat.le_of_ble_eq_true rfl) (fun K R => ?_)
  show K 0 [pf_R 40 0, pf_I x1, pf_I x2, pf_U] [] M
  unfold fX12_state at h
  refine r_aload_n R 1 dX12_state_0 rfl rfl ?_
  refine r_iload_n R 2 dX12_state_1 rfl rfl ?_
  refine r_cvI1 R 5 dX12_state_2 rfl lk_X12_236 rfl (c_X12_isDevice G x1 M _ rfl) rfl rfl rfl ?_
  refine r_if_eq R 8 20 dX12_state_5 rfl (by decide) (fun hc => ?_) (fun hc => ?_)
  · have h := pf_ifp hc h
    refine r_iconst R 21 dX12_state_20 rfl ic_iconst_m1 ?_
    obtain rfl := Option.some.inj h
    exact r_ireturn R dX12_state_21 rfl rfl rfl rfl
  · have h := pf_ifn hc h
    refine r_iload_n R 9 dX12_state_8 rfl rfl ?_
    refine r_i2l R 10 dX12_state_9 rfl ?_
    refine r_lconst R 11 dX12_state_10 rfl lc_0 ?_
    refine r_ldc2_w R 14 dX12_state_11 rfl kc_X12_260 ?_
    refine r_csI3 R 17 dX12_state_14 rfl lk_X12_145 (c_X12_in G x2.toInt64 (0 : Int64) (3 : Int64) _ rfl) rfl rfl rfl ?_
    refine r_if_ne R 20 22 dX12_state_17 rfl (by decide) (fun hc => ?_) (fun hc => ?_)
    · have h := pf_ifp hc h
      refine r_iconst R 21 dX12_state_20 rfl ic_iconst_m1 ?_
      obtain rfl := Option.some.inj h
      exact r_ireturn R dX12_state_21 rfl rfl rfl rfl
    · have h := pf_ifn hc h
      refine r_aload_n R 23 dX12_state_22 rfl rfl ?_
      refine r_getfield R 26 dX12_state_23 rfl fl_X12_40 rfl (show _ = pf_R 51 0 from rfl) ?_
      refine r_iload_n R 27 dX12_state_26 rfl rfl ?_
      obtain ⟨hi5, h⟩ := pf_gd h
      refine r_iaload R 28 dX12_state_27 rfl ⟨rfl, rfl⟩ (pf_in_iff.mp hi5) ?_
      refine r_istore_n R 29 dX12_state_28 rfl rfl (show _ = [pf_R 40 0, pf_I x1, pf_I x2, pf_I (M 51 0 x1.toNatClampNeg)] from rfl) ?_
      refine r_aload_n R 30 dX12_state_29 rfl rfl ?_
      refine r_iload_n R 31 dX12_state_30 rfl rfl ?_
      obtain ⟨r6, hr6, h⟩ := pf_bd h
      refine r_cvI1 R 34 dX12_state_31 rfl lk_X12_242 rfl (c_X12_sideOf G x1 M _ hr6) rfl rfl rfl ?_
      refine r_if_eq R 37 49 dX12_state_34 rfl (by decide) (fun hc => ?_) (fun hc => ?_)
      · have h := pf_ifp hc h
        refine r_bipush R 51 dX12_state_49 rfl ic_bipush_m2 ?_
        obtain rfl := Option.some.inj h
        exact r_ireturn R dX12_state_51 rfl rfl rfl rfl
      · have h := pf_ifn hc h
        refine r_iload_n R 38 dX12_state_37 rfl rfl ?_
        refine r_iload_n R 39 dX12_state_38 rfl rfl ?_
        refine r_icmp_eq R 42 49 dX12_state_39 rfl (by decide) (fun hc => ?_) (fun hc => ?_)
        · have h := pf_ifp hc h
          refine r_bipush R 51 dX12_state_49 rfl ic_bipush_m2 ?_
          obtain rfl := Option.some.inj h
          exact r_ireturn R dX12_state_51 rfl rfl rfl rfl
        · have h := pf_ifn hc h
          refine r_iload_n R 43 dX12_state_42 rfl rfl ?_
          refine r_iload_n R 44 dX12_state_43 rfl rfl ?_
          refine r_iconst R 45 dX12_state_44 rfl ic_iconst_1 ?_
          refine r_iadd R 46 dX12_state_45 rfl ?_
          refine r_icmp_le R 49 52 dX12_state_46 rfl (by decide) (fun hc => ?_) (fun hc => ?_)
          · have h := pf_ifp hc h
            refine r_aload_n R 53 dX12_state_52 rfl rfl ?_
            refine r_getfield R 56 dX12_state_53 rfl fl_X12_40 rfl (show _ = pf_R 51 0 from rfl) ?_
            refine r_iload_n R 57 dX12_state_56 rfl rfl ?_
            refine r_iload_n R 58 dX12_state_57 rfl rfl ?_
            obtain ⟨hi7, h⟩ := pf_gd h
            refine r_iastore R 59 dX12_state_58 rfl ⟨rfl, rfl⟩ (pf_in_iff.mp hi7) ?_
            refine r_iload_n R 60 dX12_state_59 rfl rfl ?_
            refine r_if_ne R 63 68 dX12_state_60 rfl (by decide) (fun hc => ?_) (fun hc => ?_)
            · have h := pf_ifp hc h
              refine r_aload_n R 64 dX12_state_63 rfl rfl ?_
              refine r_iload_n R 65 dX12_state_64 rfl rfl ?_
              obtain ⟨q8, hq8, h⟩ := pf_bd h
              refine r_cvV1 R 68 dX12_state_65 rfl lk_X12_189 rfl (c_X12_becomeInit G x1 (pf_up M 51 0 x1.toNatClampNeg x2) _ hq8) rfl rfl rfl ?_
              refine r_iload_n R 69 dX12_state_68 rfl rfl ?_
              obtain rfl := Option.some.inj h
              exact r_ireturn R dX12_state_69 rfl rfl rfl rfl
            · have h := pf_ifn hc h
              refine r_iload_n R 69 dX12_state_68 rfl rfl ?_
              obtain rfl := Option.some.inj h
              exact r_ireturn R dX12_state_69 rfl rfl rfl rfl
          · have h := pf_ifn hc h
            refine r_bipush R 51 dX12_state_49 rfl ic_bipush_m2 ?_
            obtain rfl := Option.some.inj h
            exact r_ireturn R dX12_state_51 rfl rfl rfl rfl
def jX12_steer_151 (rec44 : Int64 → Int32 → pf_M → Option (Int32 × pf_M)) (w151_5 : Int64) (w151_7 : Int32) (s151_1 : Int32) (s151_2 : Int32) (s151_3 : Int32) (M151 : pf_M) : Option (Int32 × pf_M) :=
  (if pf_in s151_1 8 = true then rec44 w151_5 (w151_7 + (1 : Int32)) (pf_up M151 53 0 s151_1.toNatClampNeg (s151_2 + s151_3))
  else none)
def jX12_steer_124 (rec44 : Int64 → Int32 → pf_M → Option (Int32 × pf_M)) (w124_5 : Int64) (w124_7 : Int32) (w124_8 : Int64) (s124_0 : Int64) (M124 : pf_M) : Option (Int32 × pf_M) :=
  (if pf_in w124_7 8 = true then (if (0 : Int32) ≤ (lg_cmp w124_8 (0 : Int64)) then jX12_steer_151 rec44 w124_5 w124_7 w124_7 (M124 53 0 w124_7.toNatClampNeg) s124_0.toInt32 M124
  else jX12_steer_151 rec44 w124_5 w124_7 w124_7 (M124 53 0 w124_7.toNatClampNeg) (-s124_0.toInt32) M124)
  else none)
def jX12_steer_107 (x1 : Int32) (rec44 : Int64 → Int32 → pf_M → Option (Int32 × pf_M)) (w107_7 : Int32) (w107_8 : Int64) (w107_10 : Int64) (s107_0 : Int64) (M107 : pf_M) : Option (Int32 × pf_M) :=
  (if (lg_cmp w107_10 x1.toInt64) ≤ (0 : Int32) then jX12_steer_124 rec44 s107_0 w107_7 w107_8 w107_10 M107
  else jX12_steer_124 rec44 s107_0 w107_7 w107_8 x1.toInt64 M107)
def jX12_steer_90 (x1 : Int32) (rec44 : Int64 → Int32 → pf_M → Option (Int32 × pf_M)) (w90_5 : Int64) (w90_7 : Int32) (w90_8 : Int64) (s90_0 : Int64) (M90 : pf_M) : Option (Int32 × pf_M) :=
  (if (lg_cmp s90_0 w90_5) ≤ (0 : Int32) then jX12_steer_107 x1 rec44 w90_7 w90_8 s90_0 w90_5 M90
  else jX12_steer_107 x1 rec44 w90_7 w90_8 s90_0 s90_0 M90)
def lX12_steer_44 (x1 : Int32) (f44_2 : Int32) (f44_3 : Int64) (kx44 : Int64 → pf_M → Option (Int32 × pf_M)) : Nat → Int64 → Int32 → pf_M → Option (Int32 × pf_M)
  | 0, _, _, _ => none
  | n + 1, v44_5, v44_7, M44 =>
  (if f44_2 ≤ v44_7 then kx44 v44_5 M44
  else (if pf_in v44_7 8 = true then ((fX12_whenBy v44_7 M44).bind fun r10 => ((fX12_systemAt v44_7 r10 M44).bind fun r11 => (if (0 : Int32) ≤ (lg_cmp ((f44_3 + ((M44 54 0 v44_7.toNatClampNeg).toInt64)) - r11) (0 : Int64)) then jX12_steer_90 x1 (lX12_steer_44 x1 f44_2 f44_3 kx44 n) v44_5 v44_7 ((f44_3 + ((M44 54 0 v44_7.toNatClampNeg).toInt64)) - r11) ((f44_3 + ((M44 54 0 v44_7.toNatClampNeg).toInt64)) - r11) M44
  else jX12_steer_90 x1 (lX12_steer_44 x1 f44_2 f44_3 kx44 n) v44_5 v44_7 ((f44_3 + ((M44 54 0 v44_7.toNatClampNeg).toInt64)) - r11) (-((f44_3 + ((M44 54 0 v44_7.toNatClampNeg).toInt64)) - r11)) M44)))
  else none))
def fX12_steer (x1 : Int32) (M : pf_M) : Option (Int32 × pf_M) :=
  (if (fX12_in x1.toInt64 (1 : Int64) (99 : Int64)) = (0 : Int32) then some ((-1 : Int32), M)
  else ((fX12_sideA M).bind fun r12 => (if (2 : Int32) ≤ r12 then ((fX12_whenBy (0 : Int32) M).bind fun r13 => ((fX12_systemAt (0 : Int32) r13 M).bind fun r14 => lX12_steer_44 x1 r12 r14 (fun u15_e44_5 u15_Me44 => ((fX12_trip u15_Me44).bind fun r16 => some (u15_e44_5.toInt32, (pf_up u15_Me44 40 0 22 ((u15_Me44 40 0 22) + r16))))) pf_fu (0 : Int64) (1 : Int32) M))
  else some ((-2 : Int32), M))))
set_option maxRecDepth 4000 in
theorem c_X12_steer (G : pf_G) (x1 : Int32) (M : pf_M) (q : Int32 × pf_M) (h : fX12_steer x1 M = some q) : pf_Met G yX12_steer cX12_steer 14 (some .int) 2 48 [pf_R 40 0, pf_I x1] M (some (pf_I q.1)) q.2 := by
  refine pf_Met.of (by decide +kernel) (Nat.le_of_ble_eq_true rfl) (fun K R => ?_)
  show K 0 [pf_R 40 0, pf_I x1, pf_U, pf_U, pf_U, pf_U, pf_U, pf_U, pf_U, pf_U, pf_U, pf_U, pf_U, pf_U] [] M
  have hl44 : ∀ (f44_2 : Int32) (f44_3 : Int64), ∀ (kx44 : Int64 → pf_M → Option (Int32 × pf_M)), (∀ (e44_5 : Int64) (Me44 : pf_M), kx44 e44_5 Me44 = some q → K 159 [pf_R 40 0, pf_U, pf_U, pf_U, pf_U, pf_L e44_5, pf_U, pf_U, pf_U, pf_U, pf_U, pf_U, pf_U, pf_U] [] Me44) → ∀ (n : Nat) (v44_5 : Int64) (v44_7 : Int32) (M44 : pf_M), lX12_steer_44 x1 f44_2 f44_3 kx44 n v44_5 v44_7 M44 = some q → K 44 [pf_R 40 0, pf_I x1, pf_I f44_2, pf_L f44_3, pf_U, pf_L v44_5, pf_U, pf_I v44_7, pf_U, pf_U, pf_U, pf_U, pf_U, pf_U] [] M44 := by
    intro f44_2 f44_3 kx44 hkx44 n
    induction n with
    | zero =>
      intro v44_5 v44_7 M44 h
      rw [lX12_steer_44] at h
      cases h
    | succ n ih44 =>
        have hj151 : ∀ (w151_5 : Int64) (w151_7 : Int32) (s151_1 : Int32) (s151_2 : Int32) (s151_3 : Int32) (M151 : pf_M), jX12_steer_151 (lX12_steer_44 x1 f44_2 f44_3 kx44 n) w151_5 w151_7 s151_1 s151_2 s151_3 M151 = some q → K 151 [pf_R 40 0, pf_I x1, pf_I f44_2, pf_L f44_3, pf_U, pf_L w151_5, pf_U, pf_I w151_7, pf_U, pf_U, pf_U, pf_U, pf_U, pf_U] [pf_I s151_3, pf_I s151_2, pf_I s151_1, pf_R 53 0] M151 := by
          intro w151_5 w151_7 s151_1 s151_2 s151_3 M151 h
          unfold jX12_steer_151 at h
          refine r_iadd R 152 dX12_steer_151 rfl ?_
          obtain ⟨hi7, h⟩ := pf_gd h
          refine r_iastore R 153 dX12_steer_152 rfl ⟨rfl, rfl⟩ (pf_in_iff.mp hi7) ?_
          refine r_iinc R 156 dX12_steer_153 rfl rfl ic_iconst_1 (show _ = [pf_R 40 0, pf_I x1, pf_I f44_2, pf_L f44_3, pf_U, pf_L w151_5, pf_U, pf_I (w151_7 + (1 : Int32)), pf_U, pf_U, pf_U, pf_U, pf_U, pf_U] from rfl) ?_
          refine r_goto R 44 dX12_steer_156 (by decide) ?_
          exact ih44 _ _ _ h
        have hj124 : ∀ (w124_5 : Int64) (w124_7 : Int32) (w124_8 : Int64) (s124_0 : Int64) (M124 : pf_M), jX12_steer_124 (lX12_steer_44 x1 f44_2 f44_3 kx44 n) w124_5 w124_7 w124_8 s124_0 M124 = some q → K 124 [pf_R 40 0, pf_I x1, pf_I f44_2, pf_L f44_3, pf_U, pf_L w124_5, pf_U, pf_I w124_7, pf_L w124_8, pf_U, pf_U, pf_U, pf_U, pf_U] [pf_L s124_0] M124 := by
          intro w124_5 w124_7 w124_8 s124_0 M124 h
          unfold jX12_steer_124 at h
          refine r_lstore R 126 dX12_steer_124 rfl rfl (show _ = [pf_R 40 0, pf_I x1, pf_I f44_2, pf_L f44_3, pf_U, pf_L w124_5, pf_U, pf_I w124_7, pf_L w124_8, pf_U, pf_U, pf_U, pf_L s124_0, pf_U] from rfl) ?_
          refine r_aload_n R 127 dX12_steer_126 rfl rfl ?_
          refine r_getfield R 130 dX12_steer_127 rfl fl_X12_46 rfl (show _ = pf_R 53 0 from rfl) ?_
          refine r_iload R 132 dX12_steer_130 rfl rfl ?_
          refine r_dup2 R 133 dX12_steer_132 rfl rfl rfl ?_
          obtain ⟨hi8, h⟩ := pf_gd h
          refine r_iaload R 134 dX12_steer_133 rfl ⟨rfl, rfl⟩ (pf_in_iff.mp hi8) ?_
          refine r_lload R 136 dX12_steer_134 rfl rfl ?_
          refine r_lconst R 137 dX12_steer_136 rfl lc_0 ?_
          refine r_lcmp R 138 dX12_steer_137 rfl ?_
          refine r_if_ge R 141 148 dX12_steer_138 rfl (by decide) (fun hc => ?_) (fun hc => ?_)
          · have h := pf_ifp hc h
            refine r_lload R 150 dX12_steer_148 rfl rfl ?_
            refine r_l2i R 151 dX12_steer_150 rfl ?_
            refine r_fg R [true, true, true, true, true, true, true, true, false, true, true, true, false, true] (show _ = [pf_R 40 0, pf_I x1, pf_I f44_2, pf_L f44_3, pf_U, pf_L w124_5, pf_U, pf_I w124_7, pf_U, pf_U, pf_U, pf_U, pf_U, pf_U] from rfl) ?_
            exact hj151 _ _ _ _ _ _ h
          · have h := pf_ifn hc h
            refine r_lload R 143 dX12_steer_141 rfl rfl ?_
            refine r_l2i R 144 dX12_steer_143 rfl ?_
            refine r_ineg R 145 dX12_steer_144 rfl ?_
            refine r_goto R 151 dX12_steer_145 (by decide) ?_
            refine r_fg R [true, true, true, true, true, true, true, true, false, true, true, true, false, true] (show _ = [pf_R 40 0, pf_I x1, pf_I f44_2, pf_L f44_3, pf_U, pf_L w124_5, pf_U, pf_I w124_7, pf_U, pf_U, pf_U, pf_U, pf_U, pf_U] from rfl) ?_
            exact hj151 _ _ _ _ _ _ h
        have hj107 : ∀ (w107_7 : Int32) (w107_8 : Int64) (w107_10 : Int64) (s107_0 : Int64) (M107 : pf_M), jX12_steer_107 x1 (lX12_steer_44 x1 f44_2 f44_3 kx44 n) w107_7 w107_8 w107_10 s107_0 M107 = some q → K 107 [pf_R 40 0, pf_I x1, pf_I f44_2, pf_L f44_3, pf_U, pf_U, pf_U, pf_I w107_7, pf_L w107_8, pf_U, pf_L w107_10, pf_U, pf_U, pf_U] [pf_L s107_0] M107 := by
          intro w107_7 w107_8 w107_10 s107_0 M107 h
          unfold jX12_steer_107 at h
          refine r_lstore R 109 dX12_steer_107 rfl rfl (show _ = [pf_R 40 0, pf_I x1, pf_I f44_2, pf_L f44_3, pf_U, pf_L s107_0, pf_U, pf_I w107_7, pf_L w107_8, pf_U, pf_L w107_10, pf_U, pf_U, pf_U] from rfl) ?_
          refine r_lload R 111 dX12_steer_109 rfl rfl ?_
          refine r_iload_n R 112 dX12_steer_111 rfl rfl ?_
          refine r_i2l R 113 dX12_steer_112 rfl ?_
          refine r_lcmp R 114 dX12_steer_113 rfl ?_
          refine r_if_le R 117 122 dX12_steer_114 rfl (by decide) (fun hc => ?_) (fun hc => ?_)
          · have h := pf_ifp hc h
            refine r_lload R 124 dX12_steer_122 rfl rfl ?_
            refine r_fg R [true, true, true, true, true, true, true, true, true, true, false, true, true, true] (show _ = [pf_R 40 0, pf_I x1, pf_I f44_2, pf_L f44_3, pf_U, pf_L s107_0, pf_U, pf_I w107_7, pf_L w107_8, pf_U, pf_U, pf_U, pf_U, pf_U] from rfl) ?_
            exact hj124 _ _ _ _ _ h
          · have h := pf_ifn hc h
            refine r_iload_n R 118 dX12_steer_117 rfl rfl ?_
            refine r_i2l R 119 dX12_steer_118 rfl ?_
            refine r_goto R 124 dX12_steer_119 (by decide) ?_
            refine r_fg R [true, true, true, true, true, true, true, true, true, true, false, true, true, true] (show _ = [pf_R 40 0, pf_I x1, pf_I f44_2, pf_L f44_3, pf_U, pf_L s107_0, pf_U, pf_I w107_7, pf_L w107_8, pf_U, pf_U, pf_U, pf_U, pf_U] from rfl) ?_
            exact hj124 _ _ _ _ _ h
        have hj90 : ∀ (w90_5 : Int64) (w90_7 : Int32) (w90_8 : Int64) (s90_0 : Int64) (M90 : pf_M), jX12_steer_90 x1 (lX12_steer_44 x1 f44_2 f44_3 kx44 n) w90_5 w90_7 w90_8 s90_0 M90 = some q → K 90 [pf_R 40 0, pf_I x1, pf_I f44_2, pf_L f44_3, pf_U, pf_L w90_5, pf_U, pf_I w90_7, pf_L w90_8, pf_U, pf_U, pf_U, pf_U, pf_U] [pf_L s90_0] M90 := by
          intro w90_5 w90_7 w90_8 s90_0 M90 h
          unfold jX12_steer_90 at h
          refine r_lstore R 92 dX12_steer_90 rfl rfl (show _ = [pf_R 40 0, pf_I x1, pf_I f44_2, pf_L f44_3, pf_U, pf_L w90_5, pf_U, pf_I w90_7, pf_L w90_8, pf_U, pf_L s90_0, pf_U, pf_U, pf_U] from rfl) ?_
          refine r_lload R 94 dX12_steer_92 rfl rfl ?_
          refine r_lload R 96 dX12_steer_94 rfl rfl ?_
          refine r_lcmp R 97 dX12_steer_96 rfl ?_
          refine r_if_le R 100 105 dX12_steer_97 rfl (by decide) (fun hc => ?_) (fun hc => ?_)
          · have h := pf_ifp hc h
            refine r_lload R 107 dX12_steer_105 rfl rfl ?_
            refine r_fg R [true, true, true, true, true, false, true, true, true, true, true, true, true, true] (show _ = [pf_R 40 0, pf_I x1, pf_I f44_2, pf_L f44_3, pf_U, pf_U, pf_U, pf_I w90_7, pf_L w90_8, pf_U, pf_L s90_0, pf_U, pf_U, pf_U] from rfl) ?_
            exact hj107 _ _ _ _ _ h
          · have h := pf_ifn hc h
            refine r_lload R 102 dX12_steer_100 rfl rfl ?_
            refine r_goto R 107 dX12_steer_102 (by decide) ?_
            refine r_fg R [true, true, true, true, true, false, true, true, true, true, true, true, true, true] (show _ = [pf_R 40 0, pf_I x1, pf_I f44_2, pf_L f44_3, pf_U, pf_U, pf_U, pf_I w90_7, pf_L w90_8, pf_U, pf_L s90_0, pf_U, pf_U, pf_U] from rfl) ?_
            exact hj107 _ _ _ _ _ h
        intro v44_5 v44_7 M44 h
        rw [lX12_steer_44] at h
        refine r_iload R 46 dX12_steer_44 rfl rfl ?_
        refine r_iload_n R 47 dX12_steer_46 rfl rfl ?_
        refine r_icmp_ge R 50 159 dX12_steer_47 rfl (by decide) (fun hc => ?_) (fun hc => ?_)
        · have h := pf_ifp hc h
          refine r_fg R [true, false, false, false, true, true, true, false, true, true, true, true, true, true] (show _ = [pf_R 40 0, pf_U, pf_U, pf_U, pf_U, pf_L v44_5, pf_U, pf_U, pf_U, pf_U, pf_U, pf_U, pf_U, pf_U] from rfl) ?_
          exact hkx44 _ _ h
        · have h := pf_ifn hc h
          refine r_lload_n R 51 dX12_steer_50 rfl rfl ?_
          refine r_aload_n R 52 dX12_steer_51 rfl rfl ?_
          refine r_getfield R 55 dX12_steer_52 rfl fl_X12_49 rfl (show _ = pf_R 54 0 from rfl) ?_
          refine r_iload R 57 dX12_steer_55 rfl rfl ?_
          obtain ⟨hi9, h⟩ := pf_gd h
          refine r_iaload R 58 dX12_steer_57 rfl ⟨rfl, rfl⟩ (pf_in_iff.mp hi9) ?_
          refine r_i2l R 59 dX12_steer_58 rfl ?_
          refine r_ladd R 60 dX12_steer_59 rfl ?_
          refine r_aload_n R 61 dX12_steer_60 rfl rfl ?_
          refine r_iload R 63 dX12_steer_61 rfl rfl ?_
          refine r_aload_n R 64 dX12_steer_63 rfl rfl ?_
          refine r_iload R 66 dX12_steer_64 rfl rfl ?_
          obtain ⟨r10, hr10, h⟩ := pf_bd h
          refine r_cvI1 R 69 dX12_steer_66 rfl lk_X12_292 rfl (c_X12_whenBy G v44_7 M44 _ hr10) rfl rfl rfl ?_
          obtain ⟨r11, hr11, h⟩ := pf_bd h
          refine r_cvL2 R 72 dX12_steer_69 rfl lk_X12_231 rfl (c_X12_systemAt G v44_7 r10 M44 _ hr11) rfl rfl rfl ?_
          refine r_lsub R 73 dX12_steer_72 rfl ?_
          refine r_lstore R 75 dX12_steer_73 rfl rfl (show _ = [pf_R 40 0, pf_I x1, pf_I f44_2, pf_L f44_3, pf_U, pf_L v44_5, pf_U, pf_I v44_7, pf_L ((f44_3 + ((M44 54 0 v44_7.toNatClampNeg).toInt64)) - r11), pf_U, pf_U, pf_U, pf_U, pf_U] from rfl) ?_
          refine r_lload R 77 dX12_steer_75 rfl rfl ?_
          refine r_lconst R 78 dX12_steer_77 rfl lc_0 ?_
          refine r_lcmp R 79 dX12_steer_78 rfl ?_
          refine r_if_ge R 82 88 dX12_steer_79 rfl (by decide) (fun hc => ?_) (fun hc => ?_)
          · have h := pf_ifp hc h
            refine r_lload R 90 dX12_steer_88 rfl rfl ?_
            exact hj90 _ _ _ _ _ h
          · have h := pf_ifn hc h
            refine r_lload R 84 dX12_steer_82 rfl rfl ?_
            refine r_lneg R 85 dX12_steer_84 rfl ?_
            refine r_goto R 90 dX12_steer_85 (by decide) ?_
            exact hj90 _ _ _ _ _ h
  unfold fX12_steer at h
  refine r_iload_n R 1 dX12_steer_0 rfl rfl ?_
  refine r_i2l R 2 dX12_steer_1 rfl ?_
  refine r_lconst R 3 dX12_steer_2 rfl lc_1 ?_
  refine r_ldc2_w R 6 dX12_steer_3 rfl kc_X12_272 ?_
  refine r_csI3 R 9 dX12_steer_6 rfl lk_X12_145 (c_X12_in G x1.toInt64 (1 : Int64) (99 : Int64) _ rfl) rfl rfl rfl ?_
  refine r_if_ne R 12 14 dX12_steer_9 rfl (by decide) (fun hc => ?_) (fun hc => ?_)
  · have h := pf_ifp hc h
    refine r_iconst R 13 dX12_steer_12 rfl ic_iconst_m1 ?_
    obtain rfl := Option.some.inj h
    exact r_ireturn R dX12_steer_13 rfl rfl rfl rfl
  · have h := pf_ifn hc h
    refine r_aload_n R 15 dX12_steer_14 rfl rfl ?_
    obtain ⟨r12, hr12, h⟩ := pf_bd h
    refine r_cvI0 R 18 dX12_steer_15 rfl lk_X12_209 rfl (c_X12_sideA G M _ hr12) rfl rfl rfl ?_
    refine r_istore_n R 19 dX12_steer_18 rfl rfl (show _ = [pf_R 40 0, pf_I x1, pf_I r12, pf_U, pf_U, pf_U, pf_U, pf_U, pf_U, pf_U, pf_U, pf_U, pf_U, pf_U] from rfl) ?_
    refine r_iload_n R 20 dX12_steer_19 rfl rfl ?_
    refine r_iconst R 21 dX12_steer_20 rfl ic_iconst_2 ?_
    refine r_icmp_ge R 24 27 dX12_steer_21 rfl (by decide) (fun hc => ?_) (fun hc => ?_)
    · have h := pf_ifp hc h
      refine r_aload_n R 28 dX12_steer_27 rfl rfl ?_
      refine r_iconst R 29 dX12_steer_28 rfl ic_iconst_0 ?_
      refine r_aload_n R 30 dX12_steer_29 rfl rfl ?_
      refine r_iconst R 31 dX12_steer_30 rfl ic_iconst_0 ?_
      obtain ⟨r13, hr13, h⟩ := pf_bd h
      refine r_cvI1 R 34 dX12_steer_31 rfl lk_X12_292 rfl (c_X12_whenBy G (0 : Int32) M _ hr13) rfl rfl rfl ?_
      obtain ⟨r14, hr14, h⟩ := pf_bd h
      refine r_cvL2 R 37 dX12_steer_34 rfl lk_X12_231 rfl (c_X12_systemAt G (0 : Int32) r13 M _ hr14) rfl rfl rfl ?_
      refine r_lstore_n R 38 dX12_steer_37 rfl rfl (show _ = [pf_R 40 0, pf_I x1, pf_I r12, pf_L r14, pf_U, pf_U, pf_U, pf_U, pf_U, pf_U, pf_U, pf_U, pf_U, pf_U] from rfl) ?_
      refine r_lconst R 39 dX12_steer_38 rfl lc_0 ?_
      refine r_lstore R 41 dX12_steer_39 rfl rfl (show _ = [pf_R 40 0, pf_I x1, pf_I r12, pf_L r14, pf_U, pf_L (0 : Int64), pf_U, pf_U, pf_U, pf_U, pf_U, pf_U, pf_U, pf_U] from rfl) ?_
      refine r_iconst R 42 dX12_steer_41 rfl ic_iconst_1 ?_
      refine r_istore R 44 dX12_steer_42 rfl rfl (show _ = [pf_R 40 0, pf_I x1, pf_I r12, pf_L r14, pf_U, pf_L (0 : Int64), pf_U, pf_I (1 : Int32), pf_U, pf_U, pf_U, pf_U, pf_U, pf_U] from rfl) ?_
      refine hl44 _ _ _ (fun u15_e44_5 u15_Me44 h => ?_) pf_fu _ _ _ h
      refine r_aload_n R 160 dX12_steer_159 rfl rfl ?_
      refine r_dup R 161 dX12_steer_160 rfl rfl ?_
      refine r_getfield R 164 dX12_steer_161 rfl fl_X12_193 rfl (show _ = pf_I (u15_Me44 40 0 22) from rfl) ?_
      refine r_aload_n R 165 dX12_steer_164 rfl rfl ?_
      obtain ⟨r16, hr16, h⟩ := pf_bd h
      refine r_cvI0 R 168 dX12_steer_165 rfl lk_X12_304 rfl (c_X12_trip G u15_Me44 _ hr16) rfl rfl rfl ?_
      refine r_iadd R 169 dX12_steer_168 rfl ?_
      refine r_putfield R 172 dX12_steer_169 rfl fl_X12_193 rfl rfl rfl rfl ?_
      refine r_lload R 174 dX12_steer_172 rfl rfl ?_
      refine r_l2i R 175 dX12_steer_174 rfl ?_
      obtain rfl := Option.some.inj h
      exact r_ireturn R dX12_steer_175 rfl rfl rfl rfl
    · have h := pf_ifn hc h
      refine r_bipush R 26 dX12_steer_24 rfl ic_bipush_m2 ?_
      obtain rfl := Option.some.inj h
      exact r_ireturn R dX12_steer_26 rfl rfl rfl rfl
def fX12_take (x1 : Int32) (M : pf_M) : Option (Int32 × pf_M) :=
  (if (fX12_isDevice x1 M) = (0 : Int32) then some ((-1 : Int32), M)
  else (if pf_in (((2 : Int32) * x1) + (1 : Int32)) 16 = true then (if (M 59 0 (((2 : Int32) * x1) + (1 : Int32)).toNatClampNeg) = (0 : Int32) then some ((-4 : Int32), M)
  else ((fX12_takesOff (((2 : Int32) * x1) + (1 : Int32)) M).bind fun q4 => some (q4.1, q4.2)))
  else none))
set_option maxRecDepth 4000 in
theorem c_X12_take (G : pf_G) (x1 : Int32) (M : pf_M) (q : Int32 × pf_M) (h : fX12_take x1 M = some q) : pf_Met G yX12_take cX12_take 2 (some .int) 2 46 [pf_R 40 0, pf_I x1] M (some (pf_I q.1)) q.2 := by
  refine pf_Met.of (by decide +kernel) (Nat.le_of_ble_eq_true rfl) (fun K R => ?_)
  show K 0 [pf_R 40 0, pf_I x1] [] M
  unfold fX12_take at h
  refine r_aload_n R 1 dX12_take_0 rfl rfl ?_
  refine r_iload_n R 2 dX12_take_1 rfl rfl ?_
  refine r_cvI1 R 5 dX12_take_2 rfl lk_X12_236 rfl (c_X12_isDevice G x1 M _ rfl) rfl rfl rfl ?_
  refine r_if_ne R 8 10 dX12_take_5 rfl (by decide) (fun hc => ?_) (fun hc => ?_)
  · have h := pf_ifp hc h
    refine r_iconst R 9 dX12_take_8 rfl ic_iconst_m1 ?_
    obtain rfl := Option.some.inj h
    exact r_ireturn R dX12_take_9 rfl rfl rfl rfl
  · have h := pf_ifn hc h
    refine r_aload_n R 11 dX12_take_10 rfl rfl ?_
    refine r_getfield R 14 dX12_take_11 rfl fl_X12_64 rfl (show _ = pf_R 59 0 from rfl) ?_
    refine r_iconst R 15 dX12_take_14 rfl ic_iconst_2 ?_
    refine r_iload_n R 16 dX12_take_15 rfl rfl ?_
    refine r_imul R 17 dX12_take_16 rfl ?_
    refine r_iconst R 18 dX12_take_17 rfl ic_iconst_1 ?_
    refine r_iadd R 19 dX12_take_18 rfl ?_
    obtain ⟨hi3, h⟩ := pf_gd h
    refine r_iaload R 20 dX12_take_19 rfl ⟨rfl, rfl⟩ (pf_in_iff.mp hi3) ?_
    refine r_if_ne R 23 28 dX12_take_20 rfl (by decide) (fun hc => ?_) (fun hc => ?_)
    · have h := pf_ifp hc h
      refine r_bipush R 25 dX12_take_23 rfl ic_bipush_m4 ?_
      refine r_goto R 37 dX12_take_25 (by decide) ?_
      obtain rfl := Option.some.inj h
      exact r_ireturn R dX12_take_37 rfl rfl rfl rfl
    · have h := pf_ifn hc h
      refine r_aload_n R 29 dX12_take_28 rfl rfl ?_
      refine r_iconst R 30 dX12_take_29 rfl ic_iconst_2 ?_
      refine r_iload_n R 31 dX12_take_30 rfl rfl ?_
      refine r_imul R 32 dX12_take_31 rfl ?_
      refine r_iconst R 33 dX12_take_32 rfl ic_iconst_1 ?_
      refine r_iadd R 34 dX12_take_33 rfl ?_
      obtain ⟨q4, hq4, h⟩ := pf_bd h
      refine r_cvI1 R 37 dX12_take_34 rfl lk_X12_318 rfl (c_X12_takesOff G (((2 : Int32) * x1) + (1 : Int32)) M _ hq4) rfl rfl rfl ?_
      obtain rfl := Option.some.inj h
      exact r_ireturn R dX12_take_37 rfl rfl rfl rfl
def fX12_tell (x1 : Int32) (x2 : Int32) (M : pf_M) : Option (Int32 × pf_M) :=
  (if (fX12_isDevice x1 M) = (0 : Int32) then some ((-1 : Int32), M)
  else (if (fX12_in x2.toInt64 (1 : Int64) (255 : Int64)) = (0 : Int32) then some ((-1 : Int32), M)
  else (if pf_in ((2 : Int32) * x1) 16 = true then (if (M 59 0 ((2 : Int32) * x1).toNatClampNeg) = (4 : Int32) then some ((-3 : Int32), M)
  else (if pf_in ((2 : Int32) * x1) 16 = true then (if pf_in (((4 : Int32) * ((2 : Int32) * x1)) + (M 59 0 ((2 : Int32) * x1).toNatClampNeg)) 64 = true then (if pf_in ((2 : Int32) * x1) 16 = true then (if pf_in ((2 : Int32) * x1) 16 = true then (if pf_in ((2 : Int32) * x1) 16 = true then some ((pf_up (pf_up M 58 0 (((4 : Int32) * ((2 : Int32) * x1)) + (M 59 0 ((2 : Int32) * x1).toNatClampNeg)).toNatClampNeg x2) 59 0 ((2 : Int32) * x1).toNatClampNeg (((pf_up M 58 0 (((4 : Int32) * ((2 : Int32) * x1)) + (M 59 0 ((2 : Int32) * x1).toNatClampNeg)).toNatClampNeg x2) 59 0 ((2 : Int32) * x1).toNatClampNeg) + (1 : Int32))) 59 0 ((2 : Int32) * x1).toNatClampNeg, (pf_up (pf_up M 58 0 (((4 : Int32) * ((2 : Int32) * x1)) + (M 59 0 ((2 : Int32) * x1).toNatClampNeg)).toNatClampNeg x2) 59 0 ((2 : Int32) * x1).toNatClampNeg (((pf_up M 58 0 (((4 : Int32) * ((2 : Int32) * x1)) + (M 59 0 ((2 : Int32) * x1).toNatClampNeg)).toNatClampNeg x2) 59 0 ((2 : Int32) * x1).toNatClampNeg) + (1 : Int32))))
  else none)
  else none)
  else none)
  else none)
  else none))
  else none)))
set_option maxRecDepth 4000 in
theorem c_X12_tell (G : pf_G) (x1 : Int32) (x2 : Int32) (M : pf_M) (q : Int32 × pf_M) (h : fX12_tell x1 x2 M = some q) : pf_Met G yX12_tell cX12_tell 4 (some .int) 2 46 [pf_R 40 0, pf_I x1, pf_I x2] M (some (pf_I q.1)) q.2 := by
  refine pf_Met.of (by decide +kernel) (Nat.le_of_ble_eq_true rfl) (fun K R => ?_)
  show K 0 [pf_R 40 0, pf_I x1, pf_I x2, pf_U] [] M
  unfold fX12_tell at h
  refine r_aload_n R 1 dX12_tell_0 rfl rfl ?_
  refine r_iload_n R 2 dX12_tell_1 rfl rfl ?_
  refine r_cvI1 R 5 dX12_tell_2 rfl lk_X12_236 rfl (c_X12_isDevice G x1 M _ rfl) rfl rfl rfl ?_
  refine r_if_eq R 8 20 dX12_tell_5 rfl (by decide) (fun hc => ?_) (fun hc => ?_)
  · have h := pf_ifp hc h
    refine r_iconst R 21 dX12_tell_20 rfl ic_iconst_m1 ?_
    obtain rfl := Option.some.inj h
    exact r_ireturn R dX12_tell_21 rfl rfl rfl rfl
  · have h := pf_ifn hc h
    refine r_iload_n R 9 dX12_tell_8 rfl rfl ?_
    refine r_i2l R 10 dX12_tell_9 rfl ?_
    refine r_lconst R 11 dX12_tell_10 rfl lc_1 ?_
    refine r_ldc2_w R 14 dX12_tell_11 rfl kc_X12_253 ?_
    refine r_csI3 R 17 dX12_tell_14 rfl lk_X12_145 (c_X12_in G x2.toInt64 (1 : Int64) (255 : Int64) _ rfl) rfl rfl rfl ?_
    refine r_if_ne R 20 22 dX12_tell_17 rfl (by decide) (fun hc => ?_) (fun hc => ?_)
    · have h := pf_ifp hc h
      refine r_iconst R 21 dX12_tell_20 rfl ic_iconst_m1 ?_
      obtain rfl := Option.some.inj h
      exact r_ireturn R dX12_tell_21 rfl rfl rfl rfl
    · have h := pf_ifn hc h
      refine r_iconst R 23 dX12_tell_22 rfl ic_iconst_2 ?_
      refine r_iload_n R 24 dX12_tell_23 rfl rfl ?_
      refine r_imul R 25 dX12_tell_24 rfl ?_
      refine r_istore_n R 26 dX12_tell_25 rfl rfl (show _ = [pf_R 40 0, pf_I x1, pf_I x2, pf_I ((2 : Int32) * x1)] from rfl) ?_
      refine r_aload_n R 27 dX12_tell_26 rfl rfl ?_
      refine r_getfield R 30 dX12_tell_27 rfl fl_X12_64 rfl (show _ = pf_R 59 0 from rfl) ?_
      refine r_iload_n R 31 dX12_tell_30 rfl rfl ?_
      obtain ⟨hi7, h⟩ := pf_gd h
      refine r_iaload R 32 dX12_tell_31 rfl ⟨rfl, rfl⟩ (pf_in_iff.mp hi7) ?_
      refine r_iconst R 33 dX12_tell_32 rfl ic_iconst_4 ?_
      refine r_icmp_ne R 36 39 dX12_tell_33 rfl (by decide) (fun hc => ?_) (fun hc => ?_)
      · have h := pf_ifp hc h
        refine r_bipush R 38 dX12_tell_36 rfl ic_bipush_m3 ?_
        obtain rfl := Option.some.inj h
        exact r_ireturn R dX12_tell_38 rfl rfl rfl rfl
      · have h := pf_ifn hc h
        refine r_aload_n R 40 dX12_tell_39 rfl rfl ?_
        refine r_getfield R 43 dX12_tell_40 rfl fl_X12_61 rfl (show _ = pf_R 58 0 from rfl) ?_
        refine r_iconst R 44 dX12_tell_43 rfl ic_iconst_4 ?_
        refine r_iload_n R 45 dX12_tell_44 rfl rfl ?_
        refine r_imul R 46 dX12_tell_45 rfl ?_
        refine r_aload_n R 47 dX12_tell_46 rfl rfl ?_
        refine r_getfield R 50 dX12_tell_47 rfl fl_X12_64 rfl (show _ = pf_R 59 0 from rfl) ?_
        refine r_iload_n R 51 dX12_tell_50 rfl rfl ?_
        obtain ⟨hi8, h⟩ := pf_gd h
        refine r_iaload R 52 dX12_tell_51 rfl ⟨rfl, rfl⟩ (pf_in_iff.mp hi8) ?_
        refine r_iadd R 53 dX12_tell_52 rfl ?_
        refine r_iload_n R 54 dX12_tell_53 rfl rfl ?_
        obtain ⟨hi9, h⟩ := pf_gd h
        refine r_iastore R 55 dX12_tell_54 rfl ⟨rfl, rfl⟩ (pf_in_iff.mp hi9) ?_
        refine r_aload_n R 56 dX12_tell_55 rfl rfl ?_
        refine r_getfield R 59 dX12_tell_56 rfl fl_X12_64 rfl (show _ = pf_R 59 0 from rfl) ?_
        refine r_iload_n R 60 dX12_tell_59 rfl rfl ?_
        refine r_dup2 R 61 dX12_tell_60 rfl rfl rfl ?_
        obtain ⟨hi10, h⟩ := pf_gd h
        refine r_iaload R 62 dX12_tell_61 rfl ⟨rfl, rfl⟩ (pf_in_iff.mp hi10) ?_
        refine r_iconst R 63 dX12_tell_62 rfl ic_iconst_1 ?_
        refine r_iadd R 64 dX12_tell_63 rfl ?_
        obtain ⟨hi11, h⟩ := pf_gd h
        refine r_iastore R 65 dX12_tell_64 rfl ⟨rfl, rfl⟩ (pf_in_iff.mp hi11) ?_
        refine r_aload_n R 66 dX12_tell_65 rfl rfl ?_
        refine r_getfield R 69 dX12_tell_66 rfl fl_X12_64 rfl (show _ = pf_R 59 0 from rfl) ?_
        refine r_iload_n R 70 dX12_tell_69 rfl rfl ?_
        obtain ⟨hi12, h⟩ := pf_gd h
        refine r_iaload R 71 dX12_tell_70 rfl ⟨rfl, rfl⟩ (pf_in_iff.mp hi12) ?_
        obtain rfl := Option.some.inj h
        exact r_ireturn R dX12_tell_71 rfl rfl rfl rfl
def fX12_unmap (x1 : Int32) (x2 : Int32) (M : pf_M) : Option (Int32 × pf_M) :=
  (if (fX12_isDevice x1 M) = (0 : Int32) then some ((-1 : Int32), M)
  else (if (fX12_in x2.toInt64 (0 : Int64) (1 : Int64)) = (0 : Int32) then some ((-1 : Int32), M)
  else (if pf_in (((2 : Int32) * x1) + x2) 16 = true then (if (M 56 0 (((2 : Int32) * x1) + x2).toNatClampNeg) = (0 : Int32) then some ((-2 : Int32), M)
  else (if pf_in (((2 : Int32) * x1) + x2) 16 = true then some ((1 : Int32), (pf_up M 56 0 (((2 : Int32) * x1) + x2).toNatClampNeg (0 : Int32)))
  else none))
  else none)))
set_option maxRecDepth 4000 in
theorem c_X12_unmap (G : pf_G) (x1 : Int32) (x2 : Int32) (M : pf_M) (q : Int32 × pf_M) (h : fX12_unmap x1 x2 M = some q) : pf_Met G yX12_unmap cX12_unmap 3 (some .int) 2 46 [pf_R 40 0, pf_I x1, pf_I x2] M (some (pf_I q.1)) q.2 := by
  refine pf_Met.of (by decide +kernel) (Nat.le_of_ble_eq_true rfl) (fun K R => ?_)
  show K 0 [pf_R 40 0, pf_I x1, pf_I x2] [] M
  unfold fX12_unmap at h
  refine r_aload_n R 1 dX12_unmap_0 rfl rfl ?_
  refine r_iload_n R 2 dX12_unmap_1 rfl rfl ?_
  refine r_cvI1 R 5 dX12_unmap_2 rfl lk_X12_236 rfl (c_X12_isDevice G x1 M _ rfl) rfl rfl rfl ?_
  refine r_if_eq R 8 18 dX12_unmap_5 rfl (by decide) (fun hc => ?_) (fun hc => ?_)
  · have h := pf_ifp hc h
    refine r_iconst R 19 dX12_unmap_18 rfl ic_iconst_m1 ?_
    obtain rfl := Option.some.inj h
    exact r_ireturn R dX12_unmap_19 rfl rfl rfl rfl
  · have h := pf_ifn hc h
    refine r_iload_n R 9 dX12_unmap_8 rfl rfl ?_
    refine r_i2l R 10 dX12_unmap_9 rfl ?_
    refine r_lconst R 11 dX12_unmap_10 rfl lc_0 ?_
    refine r_lconst R 12 dX12_unmap_11 rfl lc_1 ?_
    refine r_csI3 R 15 dX12_unmap_12 rfl lk_X12_145 (c_X12_in G x2.toInt64 (0 : Int64) (1 : Int64) _ rfl) rfl rfl rfl ?_
    refine r_if_ne R 18 20 dX12_unmap_15 rfl (by decide) (fun hc => ?_) (fun hc => ?_)
    · have h := pf_ifp hc h
      refine r_iconst R 19 dX12_unmap_18 rfl ic_iconst_m1 ?_
      obtain rfl := Option.some.inj h
      exact r_ireturn R dX12_unmap_19 rfl rfl rfl rfl
    · have h := pf_ifn hc h
      refine r_aload_n R 21 dX12_unmap_20 rfl rfl ?_
      refine r_getfield R 24 dX12_unmap_21 rfl fl_X12_55 rfl (show _ = pf_R 56 0 from rfl) ?_
      refine r_iconst R 25 dX12_unmap_24 rfl ic_iconst_2 ?_
      refine r_iload_n R 26 dX12_unmap_25 rfl rfl ?_
      refine r_imul R 27 dX12_unmap_26 rfl ?_
      refine r_iload_n R 28 dX12_unmap_27 rfl rfl ?_
      refine r_iadd R 29 dX12_unmap_28 rfl ?_
      obtain ⟨hi3, h⟩ := pf_gd h
      refine r_iaload R 30 dX12_unmap_29 rfl ⟨rfl, rfl⟩ (pf_in_iff.mp hi3) ?_
      refine r_if_ne R 33 36 dX12_unmap_30 rfl (by decide) (fun hc => ?_) (fun hc => ?_)
      · have h := pf_ifp hc h
        refine r_bipush R 35 dX12_unmap_33 rfl ic_bipush_m2 ?_
        obtain rfl := Option.some.inj h
        exact r_ireturn R dX12_unmap_35 rfl rfl rfl rfl
      · have h := pf_ifn hc h
        refine r_aload_n R 37 dX12_unmap_36 rfl rfl ?_
        refine r_getfield R 40 dX12_unmap_37 rfl fl_X12_55 rfl (show _ = pf_R 56 0 from rfl) ?_
        refine r_iconst R 41 dX12_unmap_40 rfl ic_iconst_2 ?_
        refine r_iload_n R 42 dX12_unmap_41 rfl rfl ?_
        refine r_imul R 43 dX12_unmap_42 rfl ?_
        refine r_iload_n R 44 dX12_unmap_43 rfl rfl ?_
        refine r_iadd R 45 dX12_unmap_44 rfl ?_
        refine r_iconst R 46 dX12_unmap_45 rfl ic_iconst_0 ?_
        obtain ⟨hi4, h⟩ := pf_gd h
        refine r_iastore R 47 dX12_unmap_46 rfl ⟨rfl, rfl⟩ (pf_in_iff.mp hi4) ?_
        refine r_iconst R 48 dX12_unmap_47 rfl ic_iconst_1 ?_
        obtain rfl := Option.some.inj h
        exact r_ireturn R dX12_unmap_48 rfl rfl rfl rfl
def fX12_wipe (M : pf_M) : Int32 × pf_M :=
  (M 40 0 0, (pf_up M 40 0 0 (0 : Int32)))
set_option maxRecDepth 4000 in
theorem c_X12_wipe (G : pf_G) (M : pf_M) (q : Int32 × pf_M) (h : fX12_wipe M = q) : pf_Met G yX12_wipe cX12_wipe 2 (some .int) 0 0 [pf_R 40 0] M (some (pf_I q.1)) q.2 := by
  refine pf_Met.of (by decide +kernel) (Nat.le_of_ble_eq_true rfl) (fun K R => ?_)
  show K 0 [pf_R 40 0, pf_U] [] M
  unfold fX12_wipe at h
  refine r_aload_n R 1 dX12_wipe_0 rfl rfl ?_
  refine r_getfield R 4 dX12_wipe_1 rfl fl_X12_149 rfl (show _ = pf_I (M 40 0 0) from rfl) ?_
  refine r_istore_n R 5 dX12_wipe_4 rfl rfl (show _ = [pf_R 40 0, pf_I (M 40 0 0)] from rfl) ?_
  refine r_aload_n R 6 dX12_wipe_5 rfl rfl ?_
  refine r_iconst R 7 dX12_wipe_6 rfl ic_iconst_0 ?_
  refine r_putfield R 10 dX12_wipe_7 rfl fl_X12_149 rfl rfl rfl rfl ?_
  refine r_iload_n R 11 dX12_wipe_10 rfl rfl ?_
  subst h
  exact r_ireturn R dX12_wipe_11 rfl rfl rfl rfl
def fX12_write (x1 : Int32) (M : pf_M) : Option (Int32 × pf_M) :=
  (if (fX12_in x1.toInt64 (32 : Int64) (126 : Int64)) = (0 : Int32) then some ((-1 : Int32), M)
  else (if (M 40 0 0) = (200 : Int32) then some ((-3 : Int32), M)
  else (if pf_in (M 40 0 0) 200 = true then some ((pf_up (pf_up M 41 0 (M 40 0 0).toNatClampNeg x1) 40 0 0 (((pf_up M 41 0 (M 40 0 0).toNatClampNeg x1) 40 0 0) + (1 : Int32))) 40 0 0, (pf_up (pf_up M 41 0 (M 40 0 0).toNatClampNeg x1) 40 0 0 (((pf_up M 41 0 (M 40 0 0).toNatClampNeg x1) 40 0 0) + (1 : Int32))))
  else none)))
set_option maxRecDepth 4000 in
theorem c_X12_write (G : pf_G) (x1 : Int32) (M : pf_M) (q : Int32 × pf_M) (h : fX12_write x1 M = some q) : pf_Met G yX12_write cX12_write 2 (some .int) 1 25 [pf_R 40 0, pf_I x1] M (some (pf_I q.1)) q.2 := by
  refine pf_Met.of (by decide +kernel) (Nat.le_of_ble_eq_true rfl) (fun K R => ?_)
  show K 0 [pf_R 40 0, pf_I x1] [] M
  unfold fX12_write at h
  refine r_iload_n R 1 dX12_write_0 rfl rfl ?_
  refine r_i2l R 2 dX12_write_1 rfl ?_
  refine r_ldc2_w R 5 dX12_write_2 rfl kc_X12_141 ?_
  refine r_ldc2_w R 8 dX12_write_5 rfl kc_X12_143 ?_
  refine r_csI3 R 11 dX12_write_8 rfl lk_X12_145 (c_X12_in G x1.toInt64 (32 : Int64) (126 : Int64) _ rfl) rfl rfl rfl ?_
  refine r_if_ne R 14 16 dX12_write_11 rfl (by decide) (fun hc => ?_) (fun hc => ?_)
  · have h := pf_ifp hc h
    refine r_iconst R 15 dX12_write_14 rfl ic_iconst_m1 ?_
    obtain rfl := Option.some.inj h
    exact r_ireturn R dX12_write_15 rfl rfl rfl rfl
  · have h := pf_ifn hc h
    refine r_aload_n R 17 dX12_write_16 rfl rfl ?_
    refine r_getfield R 20 dX12_write_17 rfl fl_X12_149 rfl (show _ = pf_I (M 40 0 0) from rfl) ?_
    refine r_sipush R 23 dX12_write_20 rfl ic_sipush_200 ?_
    refine r_icmp_ne R 26 29 dX12_write_23 rfl (by decide) (fun hc => ?_) (fun hc => ?_)
    · have h := pf_ifp hc h
      refine r_bipush R 28 dX12_write_26 rfl ic_bipush_m3 ?_
      obtain rfl := Option.some.inj h
      exact r_ireturn R dX12_write_28 rfl rfl rfl rfl
    · have h := pf_ifn hc h
      refine r_aload_n R 30 dX12_write_29 rfl rfl ?_
      refine r_getfield R 33 dX12_write_30 rfl fl_X12_7 rfl (show _ = pf_R 41 0 from rfl) ?_
      refine r_aload_n R 34 dX12_write_33 rfl rfl ?_
      refine r_getfield R 37 dX12_write_34 rfl fl_X12_149 rfl (show _ = pf_I (M 40 0 0) from rfl) ?_
      refine r_iload_n R 38 dX12_write_37 rfl rfl ?_
      obtain ⟨hi2, h⟩ := pf_gd h
      refine r_iastore R 39 dX12_write_38 rfl ⟨rfl, rfl⟩ (pf_in_iff.mp hi2) ?_
      refine r_aload_n R 40 dX12_write_39 rfl rfl ?_
      refine r_dup R 41 dX12_write_40 rfl rfl ?_
      refine r_getfield R 44 dX12_write_41 rfl fl_X12_149 rfl (show _ = pf_I ((pf_up M 41 0 (M 40 0 0).toNatClampNeg x1) 40 0 0) from rfl) ?_
      refine r_iconst R 45 dX12_write_44 rfl ic_iconst_1 ?_
      refine r_iadd R 46 dX12_write_45 rfl ?_
      refine r_putfield R 49 dX12_write_46 rfl fl_X12_149 rfl rfl rfl rfl ?_
      refine r_aload_n R 50 dX12_write_49 rfl rfl ?_
      refine r_getfield R 53 dX12_write_50 rfl fl_X12_149 rfl (show _ = pf_I ((pf_up (pf_up M 41 0 (M 40 0 0).toNatClampNeg x1) 40 0 0 (((pf_up M 41 0 (M 40 0 0).toNatClampNeg x1) 40 0 0) + (1 : Int32))) 40 0 0) from rfl) ?_
      obtain rfl := Option.some.inj h
      exact r_ireturn R dX12_write_53 rfl rfl rfl rfl
