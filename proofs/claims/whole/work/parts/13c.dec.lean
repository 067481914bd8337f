def fX11_cut (x1 : Int32) (x2 : Int32) (M : pf_M) : Option (Int32 × pf_M) :=
  (if (fX11_isWithin x1 (0 : Int32) (fX9_size M)) = (0 : Int32) then some ((-1 : Int32), M)
  else (if (fX11_isWithin x2 (0 : Int32) (1 : Int32)) = (0 : Int32) then some ((-1 : Int32), M)
  else ((fX9_changeWire x1 x2 M).bind fun q3 => (if q3.1 = (0 : Int32) then some ((-2 : Int32), q3.2)
  else ((fX9_cutWires q3.2).bind fun r4 => some (r4, q3.2))))))
set_option maxRecDepth 4000 in
theorem c_X11_cut (G : pf_G) (x1 : Int32) (x2 : Int32) (M : pf_M) (q : Int32 × pf_M) (h : fX11_cut x1 x2 M = some q) : pf_Met G yX11_cut cX11_cut 3 (some .int) 1 22 [pf_R 0 0, pf_I x1, pf_I x2] M (some (pf_I q.1)) q.2 := by
  refine pf_Met.of (by decide +kernel) (Nat.le_of_ble_eq_true rfl) (fun K R => ?_)
  show K 0 [pf_R 0 0, pf_I x1, pf_I x2] [] M
  unfold fX11_cut at h
  refine r_iload_n R 1 dX11_cut_0 rfl rfl ?_
  refine r_iconst R 2 dX11_cut_1 rfl ic_iconst_0 ?_
  refine r_aload_n R 3 dX11_cut_2 rfl rfl ?_
  refine r_getfield R 6 dX11_cut_3 rfl fl_X11_19 rfl (show _ = pf_R 7 0 from rfl) ?_
  refine r_cvI0 R 9 dX11_cut_6 rfl lk_X11_76 rfl (c_X9_size G M _ rfl) rfl rfl rfl ?_
  refine r_csI3 R 12 dX11_cut_9 rfl lk_X11_65 (c_X11_isWithin G x1 (0 : Int32) (fX9_size M) _ rfl) rfl rfl rfl ?_
  refine r_if_eq R 15 24 dX11_cut_12 rfl (by decide) (fun hc => ?_) (fun hc => ?_)
  · have h := pf_ifp hc h
    refine r_iconst R 25 dX11_cut_24 rfl ic_iconst_m1 ?_
    obtain rfl := Option.some.inj h
    exact r_ireturn R dX11_cut_25 rfl rfl rfl rfl
  · have h := pf_ifn hc h
    refine r_iload_n R 16 dX11_cut_15 rfl rfl ?_
    refine r_iconst R 17 dX11_cut_16 rfl ic_iconst_0 ?_
    refine r_iconst R 18 dX11_cut_17 rfl ic_iconst_1 ?_
    refine r_csI3 R 21 dX11_cut_18 rfl lk_X11_65 (c_X11_isWithin G x2 (0 : Int32) (1 : Int32) _ rfl) rfl rfl rfl ?_
    refine r_if_ne R 24 26 dX11_cut_21 rfl (by decide) (fun hc => ?_) (fun hc => ?_)
    · have h := pf_ifp hc h
      refine r_iconst R 25 dX11_cut_24 rfl ic_iconst_m1 ?_
      obtain rfl := Option.some.inj h
      exact r_ireturn R dX11_cut_25 rfl rfl rfl rfl
    · have h := pf_ifn hc h
      refine r_aload_n R 27 dX11_cut_26 rfl rfl ?_
      refine r_getfield R 30 dX11_cut_27 rfl fl_X11_19 rfl (show _ = pf_R 7 0 from rfl) ?_
      refine r_iload_n R 31 dX11_cut_30 rfl rfl ?_
      refine r_iload_n R 32 dX11_cut_31 rfl rfl ?_
      obtain ⟨q3, hq3, h⟩ := pf_bd h
      refine r_cvI2 R 35 dX11_cut_32 rfl lk_X11_120 rfl (c_X9_changeWire G x1 x2 M _ hq3) rfl rfl rfl ?_
      refine r_if_eq R 38 48 dX11_cut_35 rfl (by decide) (fun hc => ?_) (fun hc => ?_)
      · have h := pf_ifp hc h
        refine r_bipush R 50 dX11_cut_48 rfl ic_bipush_m2 ?_
        obtain rfl := Option.some.inj h
        exact r_ireturn R dX11_cut_50 rfl rfl rfl rfl
      · have h := pf_ifn hc h
        refine r_aload_n R 39 dX11_cut_38 rfl rfl ?_
        refine r_getfield R 42 dX11_cut_39 rfl fl_X11_19 rfl (show _ = pf_R 7 0 from rfl) ?_
        obtain ⟨r4, hr4, h⟩ := pf_bd h
        refine r_cvI0 R 45 dX11_cut_42 rfl lk_X11_124 rfl (c_X9_cutWires G q3.2 _ hr4) rfl rfl rfl ?_
        refine r_goto R 50 dX11_cut_45 (by decide) ?_
        obtain rfl := Option.some.inj h
        exact r_ireturn R dX11_cut_50 rfl rfl rfl rfl
def fX11_device (x1 : Int32) (x2 : Int32) (M : pf_M) : Option (Int32) :=
  ((fX9_find x1 M).bind fun r4 => (match r4 with
  | none => some (-1 : Int32)
  | some i5 => (if x2 = (0 : Int32) then some (M 11 i5 4)
  else (if x2 = (1 : Int32) then ((fX9_wireTime x1 M).bind fun r6 => some r6)
  else (if x2 = (2 : Int32) then some (M 11 i5 5)
  else (if x2 = (3 : Int32) then some (M 11 i5 6)
  else (if x2 = (4 : Int32) then some (M 11 i5 7)
  else (if x2 = (5 : Int32) then ((fX9_sideOf x1 M).bind fun r7 => some r7)
  else some (-1 : Int32)))))))))
set_option maxRecDepth 4000 in
theorem c_X11_device (G : pf_G) (x1 : Int32) (x2 : Int32) (M : pf_M) (q : Int32) (h : fX11_device x1 x2 M = some q) : pf_Met G yX11_device cX11_device 4 (some .int) 2 42 [pf_R 0 0, pf_I x1, pf_I x2] M (some (pf_I q)) M := by
  refine pf_Met.of (by decide +kernel) (Nat.le_of_ble_eq_true rfl) (fun K R => ?_)
  show K 0 [pf_R 0 0, pf_I x1, pf_I x2, pf_U] [] M
  unfold fX11_device at h
  refine r_aload_n R 1 dX11_device_0 rfl rfl ?_
  refine r_getfield R 4 dX11_device_1 rfl fl_X11_19 rfl (show _ = pf_R 7 0 from rfl) ?_
  refine r_iload_n R 5 dX11_device_4 rfl rfl ?_
  obtain ⟨r4, hr4, h⟩ := pf_bd h
  refine r_cvQ1 R 8 dX11_device_5 rfl lk_X11_79 rfl (c_X9_find G x1 M _ hr4) rfl rfl rfl ?_
  refine r_astore_n R 9 dX11_device_8 rfl rfl (show _ = [pf_R 0 0, pf_I x1, pf_I x2, pf_Q 11 r4] from rfl) ?_
  refine r_aload_n R 10 dX11_device_9 rfl rfl ?_
  cases r4 with
  | none =>
    refine r_ifnonnull_f R 13 15 dX11_device_10 rfl (by decide) ?_
    refine r_iconst R 14 dX11_device_13 rfl ic_iconst_m1 ?_
    obtain rfl := Option.some.inj h
    exact r_ireturn R dX11_device_14 rfl rfl rfl rfl
  | some i5 =>
    refine r_ifnonnull_t R 15 dX11_device_10 (by decide) ?_
    refine r_iload_n R 16 dX11_device_15 rfl rfl ?_
    by_cases hs16_0 : x2 = (0 : Int32)
    · have h := pf_ifp hs16_0 h
      refine r_swIn R 56 (40) dX11_device_16 (by rw [hs16_0]; decide) (by rw [hs16_0]; decide) (by rw [hs16_0]; rfl) (by decide) ?_
      refine r_aload_n R 57 dX11_device_56 rfl rfl ?_
      refine r_getfield R 60 dX11_device_57 rfl fl_X11_83 rfl (show _ = pf_I (M 11 i5 4) from rfl) ?_
      obtain rfl := Option.some.inj h
      exact r_ireturn R dX11_device_60 rfl rfl rfl rfl
    have h := pf_ifn hs16_0 h
    by_cases hs16_1 : x2 = (1 : Int32)
    · have h := pf_ifp hs16_1 h
      refine r_swIn R 61 (45) dX11_device_16 (by rw [hs16_1]; decide) (by rw [hs16_1]; decide) (by rw [hs16_1]; rfl) (by decide) ?_
      refine r_aload_n R 62 dX11_device_61 rfl rfl ?_
      refine r_getfield R 65 dX11_device_62 rfl fl_X11_19 rfl (show _ = pf_R 7 0 from rfl) ?_
      refine r_iload_n R 66 dX11_device_65 rfl rfl ?_
      obtain ⟨r6, hr6, h⟩ := pf_bd h
      refine r_cvI1 R 69 dX11_device_66 rfl lk_X11_89 rfl (c_X9_wireTime G x1 M _ hr6) rfl rfl rfl ?_
      obtain rfl := Option.some.inj h
      exact r_ireturn R dX11_device_69 rfl rfl rfl rfl
    have h := pf_ifn hs16_1 h
    by_cases hs16_2 : x2 = (2 : Int32)
    · have h := pf_ifp hs16_2 h
      refine r_swIn R 70 (54) dX11_device_16 (by rw [hs16_2]; decide) (by rw [hs16_2]; decide) (by rw [hs16_2]; rfl) (by decide) ?_
      refine r_aload_n R 71 dX11_device_70 rfl rfl ?_
      refine r_getfield R 74 dX11_device_71 rfl fl_X11_93 rfl (show _ = pf_I (M 11 i5 5) from rfl) ?_
      obtain rfl := Option.some.inj h
      exact r_ireturn R dX11_device_74 rfl rfl rfl rfl
    have h := pf_ifn hs16_2 h
    by_cases hs16_3 : x2 = (3 : Int32)
    · have h := pf_ifp hs16_3 h
      refine r_swIn R 75 (59) dX11_device_16 (by rw [hs16_3]; decide) (by rw [hs16_3]; decide) (by rw [hs16_3]; rfl) (by decide) ?_
      refine r_aload_n R 76 dX11_device_75 rfl rfl ?_
      refine r_getfield R 79 dX11_device_76 rfl fl_X11_96 rfl (show _ = pf_I (M 11 i5 6) from rfl) ?_
      obtain rfl := Option.some.inj h
      exact r_ireturn R dX11_device_79 rfl rfl rfl rfl
    have h := pf_ifn hs16_3 h
    by_cases hs16_4 : x2 = (4 : Int32)
    · have h := pf_ifp hs16_4 h
      refine r_swIn R 80 (64) dX11_device_16 (by rw [hs16_4]; decide) (by rw [hs16_4]; decide) (by rw [hs16_4]; rfl) (by decide) ?_
      refine r_aload_n R 81 dX11_device_80 rfl rfl ?_
      refine r_getfield R 84 dX11_device_81 rfl fl_X11_99 rfl (show _ = pf_I (M 11 i5 7) from rfl) ?_
      obtain rfl := Option.some.inj h
      exact r_ireturn R dX11_device_84 rfl rfl rfl rfl
    have h := pf_ifn hs16_4 h
    by_cases hs16_5 : x2 = (5 : Int32)
    · have h := pf_ifp hs16_5 h
      refine r_swIn R 85 (69) dX11_device_16 (by rw [hs16_5]; decide) (by rw [hs16_5]; decide) (by rw [hs16_5]; rfl) (by decide) ?_
      refine r_aload_n R 86 dX11_device_85 rfl rfl ?_
      refine r_getfield R 89 dX11_device_86 rfl fl_X11_19 rfl (show _ = pf_R 7 0 from rfl) ?_
      refine r_iload_n R 90 dX11_device_89 rfl rfl ?_
      obtain ⟨r7, hr7, h⟩ := pf_bd h
      refine r_cvI1 R 93 dX11_device_90 rfl lk_X11_102 rfl (c_X9_sideOf G x1 M _ hr7) rfl rfl rfl ?_
      obtain rfl := Option.some.inj h
      exact r_ireturn R dX11_device_93 rfl rfl rfl rfl
    have h := pf_ifn hs16_5 h
    refine r_swOut R 94 dX11_device_16 (pf_swo 6 (by decide) (fun k hk => by
        rcases (show k = 0 ∨ k = 1 ∨ k = 2 ∨ k = 3 ∨ k = 4 ∨ k = 5 by omega) with rfl | rfl | rfl | rfl | rfl | rfl
        · exact hs16_0
        · exact hs16_1
        · exact hs16_2
        · exact hs16_3
        · exact hs16_4
        · exact hs16_5)) (by decide) ?_
    refine r_iconst R 95 dX11_device_94 rfl ic_iconst_m1 ?_
    obtain rfl := Option.some.inj h
    exact r_ireturn R dX11_device_95 rfl rfl rfl rfl
def fX2_likeness (o0 : Nat) (M : pf_M) : Int32 :=
  ((((((M 25 o0 0) * (100 : Int32)) + (M 25 o0 1)) * (16 : Int32)) + (M 25 o0 2)) * (10 : Int32)) + (M 25 o0 3)
set_option maxRecDepth 4000 in
theorem c_X2_likeness (G : pf_G) (o0 : Nat) (M : pf_M) (q : Int32) (h : fX2_likeness o0 M = q) : pf_Met G yX2_likeness cX2_likeness 1 (some .int) 0 0 [pf_R 25 o0] M (some (pf_I q)) M := by
  refine pf_Met.of (by decide +kernel) (Nat.le_of_ble_eq_true rfl) (fun K R => ?_)
  show K 0 [pf_R 25 o0] [] M
  unfold fX2_likeness at h
  refine r_aload_n R 1 dX2_likeness_0 rfl rfl ?_
  refine r_getfield R 4 dX2_likeness_1 rfl fl_X2_28 rfl (show _ = pf_I (M 25 o0 0) from rfl) ?_
  refine r_bipush R 6 dX2_likeness_4 rfl ic_bipush_100 ?_
  refine r_imul R 7 dX2_likeness_6 rfl ?_
  refine r_aload_n R 8 dX2_likeness_7 rfl rfl ?_
  refine r_getfield R 11 dX2_likeness_8 rfl fl_X2_41 rfl (show _ = pf_I (M 25 o0 1) from rfl) ?_
  refine r_iadd R 12 dX2_likeness_11 rfl ?_
  refine r_bipush R 14 dX2_likeness_12 rfl ic_bipush_16 ?_
  refine r_imul R 15 dX2_likeness_14 rfl ?_
  refine r_aload_n R 16 dX2_likeness_15 rfl rfl ?_
  refine r_getfield R 19 dX2_likeness_16 rfl fl_X2_44 rfl (show _ = pf_I (M 25 o0 2) from rfl) ?_
  refine r_iadd R 20 dX2_likeness_19 rfl ?_
  refine r_bipush R 22 dX2_likeness_20 rfl ic_bipush_10 ?_
  refine r_imul R 23 dX2_likeness_22 rfl ?_
  refine r_aload_n R 24 dX2_likeness_23 rfl rfl ?_
  refine r_getfield R 27 dX2_likeness_24 rfl fl_X2_47 rfl (show _ = pf_I (M 25 o0 3) from rfl) ?_
  refine r_iadd R 28 dX2_likeness_27 rfl ?_
  subst h
  exact r_ireturn R dX2_likeness_28 rfl rfl rfl rfl
def lX4_indexOf_2 (x1 : Int32) (M : pf_M) : Nat → Int32 → Option (Int32)
  | 0, _ => none
  | n + 1, v2_2 =>
  (if (M 22 0 2) ≤ v2_2 then some (-4 : Int32)
  else (if pf_in v2_2 6 = true then (if (M 23 0 v2_2.toNatClampNeg) = x1 then some v2_2
  else (lX4_indexOf_2 x1 M n) (v2_2 + (1 : Int32)))
  else none))
def fX4_indexOf (x1 : Int32) (M : pf_M) : Option (Int32) :=
  lX4_indexOf_2 x1 M pf_fu (0 : Int32)
set_option maxRecDepth 4000 in
theorem c_X4_indexOf (G : pf_G) (x1 : Int32) (M : pf_M) (q : Int32) (h : fX4_indexOf x1 M = some q) : pf_Met G yX4_indexOf cX4_indexOf 3 (some .int) 0 0 [pf_R 22 0, pf_I x1] M (some (pf_I q)) M := by
  refine pf_Met.of (by decide +kernel) (Nat.le_of_ble_eq_true rfl) (fun K R => ?_)
  show K 0 [pf_R 22 0, pf_I x1, pf_U] [] M
  have hl2 : ∀ (n : Nat) (v2_2 : Int32), lX4_indexOf_2 x1 M n v2_2 = some q → K 2 [pf_R 22 0, pf_I x1, pf_I v2_2] [] M := by
    intro n
    induction n with
    | zero =>
      intro v2_2 h
      rw [lX4_indexOf_2] at h
      cases h
    | succ n ih2 =>
        intro v2_2 h
        rw [lX4_indexOf_2] at h
        refine r_iload_n R 3 dX4_indexOf_2 rfl rfl ?_
        refine r_aload_n R 4 dX4_indexOf_3 rfl rfl ?_
        refine r_getfield R 7 dX4_indexOf_4 rfl fl_X4_18 rfl (show _ = pf_I (M 22 0 2) from rfl) ?_
        refine r_icmp_ge R 10 28 dX4_indexOf_7 rfl (by decide) (fun hc => ?_) (fun hc => ?_)
        · have h := pf_ifp hc h
          refine r_bipush R 30 dX4_indexOf_28 rfl ic_bipush_m4 ?_
          obtain rfl := Option.some.inj h
          exact r_ireturn R dX4_indexOf_30 rfl rfl rfl rfl
        · have h := pf_ifn hc h
          refine r_aload_n R 11 dX4_indexOf_10 rfl rfl ?_
          refine r_getfield R 14 dX4_indexOf_11 rfl fl_X4_9 rfl (show _ = pf_R 23 0 from rfl) ?_
          refine r_iload_n R 15 dX4_indexOf_14 rfl rfl ?_
          obtain ⟨hi1, h⟩ := pf_gd h
          refine r_iaload R 16 dX4_indexOf_15 rfl ⟨rfl, rfl⟩ (pf_in_iff.mp hi1) ?_
          refine r_iload_n R 17 dX4_indexOf_16 rfl rfl ?_
          refine r_icmp_ne R 20 22 dX4_indexOf_17 rfl (by decide) (fun hc => ?_) (fun hc => ?_)
          · have h := pf_ifp hc h
            refine r_iload_n R 21 dX4_indexOf_20 rfl rfl ?_
            obtain rfl := Option.some.inj h
            exact r_ireturn R dX4_indexOf_21 rfl rfl rfl rfl
          · have h := pf_ifn hc h
            refine r_iinc R 25 dX4_indexOf_22 rfl rfl ic_iconst_1 (show _ = [pf_R 22 0, pf_I x1, pf_I (v2_2 + (1 : Int32))] from rfl) ?_
            refine r_goto R 2 dX4_indexOf_25 (by decide) ?_
            exact ih2 _ h
  unfold fX4_indexOf at h
  refine r_iconst R 1 dX4_indexOf_0 rfl ic_iconst_0 ?_
  refine r_istore_n R 2 dX4_indexOf_1 rfl rfl (show _ = [pf_R 22 0, pf_I x1, pf_I (0 : Int32)] from rfl) ?_
  exact hl2 pf_fu _ h
def fX4_counterOf (x1 : Int32) (M : pf_M) : Option (Int32) :=
  ((fX4_indexOf x1 M).bind fun r3 => (if (0 : Int32) ≤ r3 then (if pf_in r3 6 = true then some (M 24 0 r3.toNatClampNeg)
  else none)
  else some (-4 : Int32)))
set_option maxRecDepth 4000 in
theorem c_X4_counterOf (G : pf_G) (x1 : Int32) (M : pf_M) (q : Int32) (h : fX4_counterOf x1 M = some q) : pf_Met G yX4_counterOf cX4_counterOf 3 (some .int) 1 22 [pf_R 22 0, pf_I x1] M (some (pf_I q)) M := by
  refine pf_Met.of (by decide +kernel) (Nat.le_of_ble_eq_true rfl) (fun K R => ?_)
  show K 0 [pf_R 22 0, pf_I x1, pf_U] [] M
  unfold fX4_counterOf at h
  refine r_aload_n R 1 dX4_counterOf_0 rfl rfl ?_
  refine r_iload_n R 2 dX4_counterOf_1 rfl rfl ?_
  obtain ⟨r3, hr3, h⟩ := pf_bd h
  refine r_cvI1 R 5 dX4_counterOf_2 rfl lk_X4_22 rfl (c_X4_indexOf G x1 M _ hr3) rfl rfl rfl ?_
  refine r_istore_n R 6 dX4_counterOf_5 rfl rfl (show _ = [pf_R 22 0, pf_I x1, pf_I r3] from rfl) ?_
  refine r_iload_n R 7 dX4_counterOf_6 rfl rfl ?_
  refine r_if_ge R 10 15 dX4_counterOf_7 rfl (by decide) (fun hc => ?_) (fun hc => ?_)
  · have h := pf_ifp hc h
    refine r_aload_n R 16 dX4_counterOf_15 rfl rfl ?_
    refine r_getfield R 19 dX4_counterOf_16 rfl fl_X4_15 rfl (show _ = pf_R 24 0 from rfl) ?_
    refine r_iload_n R 20 dX4_counterOf_19 rfl rfl ?_
    obtain ⟨hi4, h⟩ := pf_gd h
    refine r_iaload R 21 dX4_counterOf_20 rfl ⟨rfl, rfl⟩ (pf_in_iff.mp hi4) ?_
    obtain rfl := Option.some.inj h
    exact r_ireturn R dX4_counterOf_21 rfl rfl rfl rfl
  · have h := pf_ifn hc h
    refine r_bipush R 12 dX4_counterOf_10 rfl ic_bipush_m4 ?_
    refine r_goto R 21 dX4_counterOf_12 (by decide) ?_
    obtain rfl := Option.some.inj h
    exact r_ireturn R dX4_counterOf_21 rfl rfl rfl rfl
def fX6_expectedOf (o1 : Nat) (M : pf_M) : Option (Int32) :=
  ((fX4_counterOf (fX2_likeness o1 M) M).bind fun r2 => some r2)
set_option maxRecDepth 4000 in
theorem c_X6_expectedOf (G : pf_G) (o1 : Nat) (M : pf_M) (q : Int32) (h : fX6_expectedOf o1 M = some q) : pf_Met G yX6_expectedOf cX6_expectedOf 2 (some .int) 2 44 [pf_R 20 0, pf_R 25 o1] M (some (pf_I q)) M := by
  refine pf_Met.of (by decide +kernel) (Nat.le_of_ble_eq_true rfl) (fun K R => ?_)
  show K 0 [pf_R 20 0, pf_R 25 o1] [] M
  unfold fX6_expectedOf at h
  refine r_aload_n R 1 dX6_expectedOf_0 rfl rfl ?_
  refine r_getfield R 4 dX6_expectedOf_1 rfl fl_X6_20 rfl (show _ = pf_R 22 0 from rfl) ?_
  refine r_aload_n R 5 dX6_expectedOf_4 rfl rfl ?_
  refine r_cvI0 R 8 dX6_expectedOf_5 rfl lk_X6_49 rfl (c_X2_likeness G o1 M _ rfl) rfl rfl rfl ?_
  obtain ⟨r2, hr2, h⟩ := pf_bd h
  refine r_cvI1 R 11 dX6_expectedOf_8 rfl lk_X6_52 rfl (c_X4_counterOf G (fX2_likeness o1 M) M _ hr2) rfl rfl rfl ?_
  obtain rfl := Option.some.inj h
  exact r_ireturn R dX6_expectedOf_11 rfl rfl rfl rfl
def fX11_expected (x1 : Int32) (M : pf_M) : Option (Int32) :=
  ((fX6_find x1 M).bind fun r3 => (match r3 with
  | none => some (-1 : Int32)
  | some i4 => (if (M 25 i4 0) = (0 : Int32) then some (-4 : Int32)
  else ((fX6_expectedOf i4 M).bind fun r5 => some r5))))
set_option maxRecDepth 4000 in
theorem c_X11_expected (G : pf_G) (x1 : Int32) (M : pf_M) (q : Int32) (h : fX11_expected x1 M = some q) : pf_Met G yX11_expected cX11_expected 3 (some .int) 3 65 [pf_R 0 0, pf_I x1] M (some (pf_I q)) M := by
  refine pf_Met.of (by decide +kernel) (Nat.le_of_ble_eq_true rfl) (fun K R => ?_)
  show K 0 [pf_R 0 0, pf_I x1, pf_U] [] M
  unfold fX11_expected at h
  refine r_aload_n R 1 dX11_expected_0 rfl rfl ?_
  refine r_getfield R 4 dX11_expected_1 rfl fl_X11_35 rfl (show _ = pf_R 20 0 from rfl) ?_
  refine r_iload_n R 5 dX11_expected_4 rfl rfl ?_
  obtain ⟨r3, hr3, h⟩ := pf_bd h
  refine r_cvQ1 R 8 dX11_expected_5 rfl lk_X11_166 rfl (c_X6_find G x1 M _ hr3) rfl rfl rfl ?_
  refine r_astore_n R 9 dX11_expected_8 rfl rfl (show _ = [pf_R 0 0, pf_I x1, pf_Q 25 r3] from rfl) ?_
  refine r_aload_n R 10 dX11_expected_9 rfl rfl ?_
  cases r3 with
  | none =>
    refine r_ifnonnull_f R 13 15 dX11_expected_10 rfl (by decide) ?_
    refine r_iconst R 14 dX11_expected_13 rfl ic_iconst_m1 ?_
    obtain rfl := Option.some.inj h
    exact r_ireturn R dX11_expected_14 rfl rfl rfl rfl
  | some i4 =>
    refine r_ifnonnull_t R 15 dX11_expected_10 (by decide) ?_
    refine r_aload_n R 16 dX11_expected_15 rfl rfl ?_
    refine r_getfield R 19 dX11_expected_16 rfl fl_X11_172 rfl (show _ = pf_I (M 25 i4 0) from rfl) ?_
    refine r_if_ne R 22 27 dX11_expected_19 rfl (by decide) (fun hc => ?_) (fun hc => ?_)
    · have h := pf_ifp hc h
      refine r_bipush R 24 dX11_expected_22 rfl ic_bipush_m4 ?_
      refine r_goto R 35 dX11_expected_24 (by decide) ?_
      obtain rfl := Option.some.inj h
      exact r_ireturn R dX11_expected_35 rfl rfl rfl rfl
    · have h := pf_ifn hc h
      refine r_aload_n R 28 dX11_expected_27 rfl rfl ?_
      refine r_getfield R 31 dX11_expected_28 rfl fl_X11_35 rfl (show _ = pf_R 20 0 from rfl) ?_
      refine r_aload_n R 32 dX11_expected_31 rfl rfl ?_
      obtain ⟨r5, hr5, h⟩ := pf_bd h
      refine r_cvI1 R 35 dX11_expected_32 rfl lk_X11_197 rfl (c_X6_expectedOf G i4 M _ hr5) rfl rfl rfl ?_
      obtain rfl := Option.some.inj h
      exact r_ireturn R dX11_expected_35 rfl rfl rfl rfl
def fX11_fault (M : pf_M) : Option (Int32 × pf_M) :=
  ((fX10_readRing M).bind fun q2 => some (q2.1, q2.2))
set_option maxRecDepth 4000 in
theorem c_X11_fault (G : pf_G) (M : pf_M) (q : Int32 × pf_M) (h : fX11_fault M = some q) : pf_Met G yX11_fault cX11_fault 1 (some .int) 3 71 [pf_R 0 0] M (some (pf_I q.1)) q.2 := by
  refine pf_Met.of (by decide +kernel) (Nat.le_of_ble_eq_true rfl) (fun K R => ?_)
  show K 0 [pf_R 0 0] [] M
  unfold fX11_fault at h
  refine r_aload_n R 1 dX11_fault_0 rfl rfl ?_
  refine r_getfield R 4 dX11_fault_1 rfl fl_X11_10 rfl (show _ = pf_R 1 0 from rfl) ?_
  obtain ⟨q2, hq2, h⟩ := pf_bd h
  refine r_cvI0 R 7 dX11_fault_4 rfl lk_X11_55 rfl (c_X10_readRing G M _ hq2) rfl rfl rfl ?_
  obtain rfl := Option.some.inj h
  exact r_ireturn R dX11_fault_7 rfl rfl rfl rfl
def lX8_removeOldest_18 (o0 : Nat) (kx18 : pf_M → Option (Int32 × pf_M)) : Nat → Int32 → pf_M → Option (Int32 × pf_M)
  | 0, _, _ => none
  | n + 1, v18_2, M18 =>
  (if (M18 15 o0 1) ≤ v18_2 then kx18 M18
  else (if pf_in v18_2 4 = true then (if pf_in (v18_2 - (1 : Int32)) 4 = true then (lX8_removeOldest_18 o0 kx18 n) (v18_2 + (1 : Int32)) (pf_up M18 16 o0 (v18_2 - (1 : Int32)).toNatClampNeg (M18 16 o0 v18_2.toNatClampNeg))
  else none)
  else none))
def fX8_removeOldest (o0 : Nat) (M : pf_M) : Option (Int32 × pf_M) :=
  (if (M 15 o0 1) = (0 : Int32) then some ((0 : Int32), M)
  else lX8_removeOldest_18 o0 (fun u4_Me18 => some ((M 16 o0 (0 : Int32).toNatClampNeg), (pf_up u4_Me18 15 o0 1 ((u4_Me18 15 o0 1) - (1 : Int32))))) pf_fu (1 : Int32) M)
set_option maxRecDepth 4000 in
theorem c_X8_removeOldest (G : pf_G) (o0 : Nat) (M : pf_M) (q : Int32 × pf_M) (h : fX8_removeOldest o0 M = some q) : pf_Met G yX8_removeOldest cX8_removeOldest 3 (some .int) 0 0 [pf_R 15 o0] M (some (pf_I q.1)) q.2 := by
  refine pf_Met.of (by decide +kernel) (Nat.le_of_ble_eq_true rfl) (fun K R => ?_)
  show K 0 [pf_R 15 o0, pf_U, pf_U] [] M
  have hl18 : ∀ (f18_1 : Int32), ∀ (kx18 : pf_M → Option (Int32 × pf_M)), (∀ (Me18 : pf_M), kx18 Me18 = some q → K 46 [pf_R 15 o0, pf_I f18_1, pf_U] [] Me18) → ∀ (n : Nat) (v18_2 : Int32) (M18 : pf_M), lX8_removeOldest_18 o0 kx18 n v18_2 M18 = some q → K 18 [pf_R 15 o0, pf_I f18_1, pf_I v18_2] [] M18 := by
    intro f18_1 kx18 hkx18 n
    induction n with
    | zero =>
      intro v18_2 M18 h
      rw [lX8_removeOldest_18] at h
      cases h
    | succ n ih18 =>
        intro v18_2 M18 h
        rw [lX8_removeOldest_18] at h
        refine r_iload_n R 19 dX8_removeOldest_18 rfl rfl ?_
        refine r_aload_n R 20 dX8_removeOldest_19 rfl rfl ?_
        refine r_getfield R 23 dX8_removeOldest_20 rfl fl_X8_15 rfl (show _ = pf_I (M18 15 o0 1) from rfl) ?_
        refine r_icmp_ge R 26 46 dX8_removeOldest_23 rfl (by decide) (fun hc => ?_) (fun hc => ?_)
        · have h := pf_ifp hc h
          refine r_fg R [true, true, false] (show _ = [pf_R 15 o0, pf_I f18_1, pf_U] from rfl) ?_
          exact hkx18 _ h
        · have h := pf_ifn hc h
          refine r_aload_n R 27 dX8_removeOldest_26 rfl rfl ?_
          refine r_getfield R 30 dX8_removeOldest_27 rfl fl_X8_9 rfl (show _ = pf_R 16 o0 from rfl) ?_
          refine r_iload_n R 31 dX8_removeOldest_30 rfl rfl ?_
          refine r_iconst R 32 dX8_removeOldest_31 rfl ic_iconst_1 ?_
          refine r_isub R 33 dX8_removeOldest_32 rfl ?_
          refine r_aload_n R 34 dX8_removeOldest_33 rfl rfl ?_
          refine r_getfield R 37 dX8_removeOldest_34 rfl fl_X8_9 rfl (show _ = pf_R 16 o0 from rfl) ?_
          refine r_iload_n R 38 dX8_removeOldest_37 rfl rfl ?_
          obtain ⟨hi2, h⟩ := pf_gd h
          refine r_iaload R 39 dX8_removeOldest_38 rfl ⟨rfl, rfl⟩ (pf_in_iff.mp hi2) ?_
          obtain ⟨hi3, h⟩ := pf_gd h
          refine r_iastore R 40 dX8_removeOldest_39 rfl ⟨rfl, rfl⟩ (pf_in_iff.mp hi3) ?_
          refine r_iinc R 43 dX8_removeOldest_40 rfl rfl ic_iconst_1 (show _ = [pf_R 15 o0, pf_I f18_1, pf_I (v18_2 + (1 : Int32))] from rfl) ?_
          refine r_goto R 18 dX8_removeOldest_43 (by decide) ?_
          exact ih18 _ _ h
  unfold fX8_removeOldest at h
  refine r_aload_n R 1 dX8_removeOldest_0 rfl rfl ?_
  refine r_getfield R 4 dX8_removeOldest_1 rfl fl_X8_15 rfl (show _ = pf_I (M 15 o0 1) from rfl) ?_
  refine r_if_ne R 7 9 dX8_removeOldest_4 rfl (by decide) (fun hc => ?_) (fun hc => ?_)
  · have h := pf_ifp hc h
    refine r_iconst R 8 dX8_removeOldest_7 rfl ic_iconst_0 ?_
    obtain rfl := Option.some.inj h
    exact r_ireturn R dX8_removeOldest_8 rfl rfl rfl rfl
  · have h := pf_ifn hc h
    refine r_aload_n R 10 dX8_removeOldest_9 rfl rfl ?_
    refine r_getfield R 13 dX8_removeOldest_10 rfl fl_X8_9 rfl (show _ = pf_R 16 o0 from rfl) ?_
    refine r_iconst R 14 dX8_removeOldest_13 rfl ic_iconst_0 ?_
    refine r_iaload R 15 dX8_removeOldest_14 rfl ⟨rfl, rfl⟩ (pf_in_iff.mp (by decide)) ?_
    refine r_istore_n R 16 dX8_removeOldest_15 rfl rfl (show _ = [pf_R 15 o0, pf_I (M 16 o0 (0 : Int32).toNatClampNeg), pf_U] from rfl) ?_
    refine r_iconst R 17 dX8_removeOldest_16 rfl ic_iconst_1 ?_
    refine r_istore_n R 18 dX8_removeOldest_17 rfl rfl (show _ = [pf_R 15 o0, pf_I (M 16 o0 (0 : Int32).toNatClampNeg), pf_I (1 : Int32)] from rfl) ?_
    refine hl18 _ _ (fun u4_Me18 h => ?_) pf_fu _ _ h
    refine r_aload_n R 47 dX8_removeOldest_46 rfl rfl ?_
    refine r_dup R 48 dX8_removeOldest_47 rfl rfl ?_
    refine r_getfield R 51 dX8_removeOldest_48 rfl fl_X8_15 rfl (show _ = pf_I (u4_Me18 15 o0 1) from rfl) ?_
    refine r_iconst R 52 dX8_removeOldest_51 rfl ic_iconst_1 ?_
    refine r_isub R 53 dX8_removeOldest_52 rfl ?_
    refine r_putfield R 56 dX8_removeOldest_53 rfl fl_X8_15 rfl rfl rfl rfl ?_
    refine r_iload_n R 57 dX8_removeOldest_56 rfl rfl ?_
    obtain rfl := Option.some.inj h
    exact r_ireturn R dX8_removeOldest_57 rfl rfl rfl rfl
def fX5_give (o0 : Nat) (M : pf_M) : Option (Int32 × pf_M) :=
  (if (M 14 o0 4) = (M 14 o0 2) then some (M 14 o0 6, M)
  else (if (fX8_size (2 * o0) M) = (0 : Int32) then some ((0 : Int32), M)
  else ((fX8_removeOldest (2 * o0) M).bind fun q2 => some ((pf_up (pf_up q2.2 14 o0 6 q2.1) 14 o0 2 ((pf_up q2.2 14 o0 6 q2.1) 14 o0 4)) 14 o0 6, (pf_up (pf_up q2.2 14 o0 6 q2.1) 14 o0 2 ((pf_up q2.2 14 o0 6 q2.1) 14 o0 4))))))
set_option maxRecDepth 4000 in
theorem c_X5_give (G : pf_G) (o0 : Nat) (M : pf_M) (q : Int32 × pf_M) (h : fX5_give o0 M = some q) : pf_Met G yX5_give cX5_give 1 (some .int) 1 22 [pf_R 14 o0] M (some (pf_I q.1)) q.2 := by
  refine pf_Met.of (by decide +kernel) (Nat.le_of_ble_eq_true rfl) (fun K R => ?_)
  show K 0 [pf_R 14 o0] [] M
  unfold fX5_give at h
  refine r_aload_n R 1 dX5_give_0 rfl rfl ?_
  refine r_getfield R 4 dX5_give_1 rfl fl_X5_31 rfl (show _ = pf_I (M 14 o0 4) from rfl) ?_
  refine r_aload_n R 5 dX5_give_4 rfl rfl ?_
  refine r_getfield R 8 dX5_give_5 rfl fl_X5_24 rfl (show _ = pf_I (M 14 o0 2) from rfl) ?_
  refine r_icmp_ne R 11 16 dX5_give_8 rfl (by decide) (fun hc => ?_) (fun hc => ?_)
  · have h := pf_ifp hc h
    refine r_aload_n R 12 dX5_give_11 rfl rfl ?_
    refine r_getfield R 15 dX5_give_12 rfl fl_X5_37 rfl (show _ = pf_I (M 14 o0 6) from rfl) ?_
    obtain rfl := Option.some.inj h
    exact r_ireturn R dX5_give_15 rfl rfl rfl rfl
  · have h := pf_ifn hc h
    refine r_aload_n R 17 dX5_give_16 rfl rfl ?_
    refine r_getfield R 20 dX5_give_17 rfl fl_X5_12 rfl (show _ = pf_R 15 (2 * o0) from rfl) ?_
    refine r_cvI0 R 23 dX5_give_20 rfl lk_X5_43 rfl (c_X8_size G (2 * o0) M _ rfl) rfl rfl rfl ?_
    refine r_if_ne R 26 28 dX5_give_23 rfl (by decide) (fun hc => ?_) (fun hc => ?_)
    · have h := pf_ifp hc h
      refine r_iconst R 27 dX5_give_26 rfl ic_iconst_0 ?_
      obtain rfl := Option.some.inj h
      exact r_ireturn R dX5_give_27 rfl rfl rfl rfl
    · have h := pf_ifn hc h
      refine r_aload_n R 29 dX5_give_28 rfl rfl ?_
      refine r_aload_n R 30 dX5_give_29 rfl rfl ?_
      refine r_getfield R 33 dX5_give_30 rfl fl_X5_12 rfl (show _ = pf_R 15 (2 * o0) from rfl) ?_
      obtain ⟨q2, hq2, h⟩ := pf_bd h
      refine r_cvI0 R 36 dX5_give_33 rfl lk_X5_47 rfl (c_X8_removeOldest G (2 * o0) M _ hq2) rfl rfl rfl ?_
      refine r_putfield R 39 dX5_give_36 rfl fl_X5_37 rfl rfl rfl rfl ?_
      refine r_aload_n R 40 dX5_give_39 rfl rfl ?_
      refine r_aload_n R 41 dX5_give_40 rfl rfl ?_
      refine r_getfield R 44 dX5_give_41 rfl fl_X5_31 rfl (show _ = pf_I ((pf_up q2.2 14 o0 6 q2.1) 14 o0 4) from rfl) ?_
      refine r_putfield R 47 dX5_give_44 rfl fl_X5_24 rfl rfl rfl rfl ?_
      refine r_aload_n R 48 dX5_give_47 rfl rfl ?_
      refine r_getfield R 51 dX5_give_48 rfl fl_X5_37 rfl (show _ = pf_I ((pf_up (pf_up q2.2 14 o0 6 q2.1) 14 o0 2 ((pf_up q2.2 14 o0 6 q2.1) 14 o0 4)) 14 o0 6) from rfl) ?_
      obtain rfl := Option.some.inj h
      exact r_ireturn R dX5_give_51 rfl rfl rfl rfl
def fX5_confirmGiven (o0 : Nat) (M : pf_M) : pf_M :=
  (pf_up M 14 o0 4 ((1 : Int32) - (M 14 o0 4)))
set_option maxRecDepth 4000 in
theorem c_X5_confirmGiven (G : pf_G) (o0 : Nat) (M : pf_M) (q : pf_M) (h : fX5_confirmGiven o0 M = q) : pf_Met G yX5_confirmGiven cX5_confirmGiven 1 (none) 0 0 [pf_R 14 o0] M none q := by
  refine pf_Met.of (by decide +kernel) (Nat.le_of_ble_eq_true rfl) (fun K R => ?_)
  show K 0 [pf_R 14 o0] [] M
  unfold fX5_confirmGiven at h
  refine r_aload_n R 1 dX5_confirmGiven_0 rfl rfl ?_
  refine r_iconst R 2 dX5_confirmGiven_1 rfl ic_iconst_1 ?_
  refine r_aload_n R 3 dX5_confirmGiven_2 rfl rfl ?_
  refine r_getfield R 6 dX5_confirmGiven_3 rfl fl_X5_31 rfl (show _ = pf_I (M 14 o0 4) from rfl) ?_
  refine r_isub R 7 dX5_confirmGiven_6 rfl ?_
  refine r_putfield R 10 dX5_confirmGiven_7 rfl fl_X5_31 rfl rfl rfl rfl ?_
  subst h
  exact r_return_ R dX5_confirmGiven_10 rfl rfl rfl
def fX11_fetch (x1 : Int32) (M : pf_M) : Option (Int32 × pf_M) :=
  ((fX9_find x1 M).bind fun r5 => (match r5 with
  | none => some ((-1 : Int32), M)
  | some i6 => ((fX9_isReached x1 M).bind fun r7 => (if r7 = (0 : Int32) then some ((-2 : Int32), M)
  else ((fX5_give i6 M).bind fun q8 => ((fX6_frameComesHome q8.2).bind fun q9 => (if q9.1 = (0 : Int32) then some ((-5 : Int32), q9.2)
  else (if q8.1 = (0 : Int32) then some ((-4 : Int32), q9.2)
  else some (q8.1, (fX5_confirmGiven i6 q9.2))))))))))
set_option maxRecDepth 4000 in
theorem c_X11_fetch (G : pf_G) (x1 : Int32) (M : pf_M) (q : Int32 × pf_M) (h : fX11_fetch x1 M = some q) : pf_Met G yX11_fetch cX11_fetch 4 (some .int) 4 87 [pf_R 0 0, pf_I x1] M (some (pf_I q.1)) q.2 := by
  refine pf_Met.of (by decide +kernel) (Nat.le_of_ble_eq_true rfl) (fun K R => ?_)
  show K 0 [pf_R 0 0, pf_I x1, pf_U, pf_U] [] M
  unfold fX11_fetch at h
  refine r_aload_n R 1 dX11_fetch_0 rfl rfl ?_
  refine r_getfield R 4 dX11_fetch_1 rfl fl_X11_19 rfl (show _ = pf_R 7 0 from rfl) ?_
  refine r_iload_n R 5 dX11_fetch_4 rfl rfl ?_
  obtain ⟨r5, hr5, h⟩ := pf_bd h
  refine r_cvQ1 R 8 dX11_fetch_5 rfl lk_X11_79 rfl (c_X9_find G x1 M _ hr5) rfl rfl rfl ?_
  refine r_astore_n R 9 dX11_fetch_8 rfl rfl (show _ = [pf_R 0 0, pf_I x1, pf_Q 11 r5, pf_U] from rfl) ?_
  refine r_aload_n R 10 dX11_fetch_9 rfl rfl ?_
  cases r5 with
  | none =>
    refine r_ifnonnull_f R 13 15 dX11_fetch_10 rfl (by decide) ?_
    refine r_iconst R 14 dX11_fetch_13 rfl ic_iconst_m1 ?_
    obtain rfl := Option.some.inj h
    exact r_ireturn R dX11_fetch_14 rfl rfl rfl rfl
  | some i6 =>
    refine r_ifnonnull_t R 15 dX11_fetch_10 (by decide) ?_
    refine r_aload_n R 16 dX11_fetch_15 rfl rfl ?_
    refine r_getfield R 19 dX11_fetch_16 rfl fl_X11_19 rfl (show _ = pf_R 7 0 from rfl) ?_
    refine r_iload_n R 20 dX11_fetch_19 rfl rfl ?_
    obtain ⟨r7, hr7, h⟩ := pf_bd h
    refine r_cvI1 R 23 dX11_fetch_20 rfl lk_X11_225 rfl (c_X9_isReached G x1 M _ hr7) rfl rfl rfl ?_
    refine r_if_ne R 26 29 dX11_fetch_23 rfl (by decide) (fun hc => ?_) (fun hc => ?_)
    · have h := pf_ifp hc h
      refine r_bipush R 28 dX11_fetch_26 rfl ic_bipush_m2 ?_
      obtain rfl := Option.some.inj h
      exact r_ireturn R dX11_fetch_28 rfl rfl rfl rfl
    · have h := pf_ifn hc h
      refine r_aload_n R 30 dX11_fetch_29 rfl rfl ?_
      refine r_getfield R 33 dX11_fetch_30 rfl fl_X11_204 rfl (show _ = pf_R 14 i6 from rfl) ?_
      obtain ⟨q8, hq8, h⟩ := pf_bd h
      refine r_cvI0 R 36 dX11_fetch_33 rfl lk_X11_228 rfl (c_X5_give G i6 M _ hq8) rfl rfl rfl ?_
      refine r_istore_n R 37 dX11_fetch_36 rfl rfl (show _ = [pf_R 0 0, pf_I x1, pf_R 11 i6, pf_I q8.1] from rfl) ?_
      refine r_aload_n R 38 dX11_fetch_37 rfl rfl ?_
      refine r_getfield R 41 dX11_fetch_38 rfl fl_X11_35 rfl (show _ = pf_R 20 0 from rfl) ?_
      obtain ⟨q9, hq9, h⟩ := pf_bd h
      refine r_cvI0 R 44 dX11_fetch_41 rfl lk_X11_231 rfl (c_X6_frameComesHome G q8.2 _ hq9) rfl rfl rfl ?_
      refine r_if_ne R 47 50 dX11_fetch_44 rfl (by decide) (fun hc => ?_) (fun hc => ?_)
      · have h := pf_ifp hc h
        refine r_bipush R 49 dX11_fetch_47 rfl ic_bipush_m5 ?_
        obtain rfl := Option.some.inj h
        exact r_ireturn R dX11_fetch_49 rfl rfl rfl rfl
      · have h := pf_ifn hc h
        refine r_iload_n R 51 dX11_fetch_50 rfl rfl ?_
        refine r_if_ne R 54 57 dX11_fetch_51 rfl (by decide) (fun hc => ?_) (fun hc => ?_)
        · have h := pf_ifp hc h
          refine r_bipush R 56 dX11_fetch_54 rfl ic_bipush_m4 ?_
          obtain rfl := Option.some.inj h
          exact r_ireturn R dX11_fetch_56 rfl rfl rfl rfl
        · have h := pf_ifn hc h
          refine r_aload_n R 58 dX11_fetch_57 rfl rfl ?_
          refine r_getfield R 61 dX11_fetch_58 rfl fl_X11_204 rfl (show _ = pf_R 14 i6 from rfl) ?_
          refine r_cvV0 R 64 dX11_fetch_61 rfl lk_X11_234 rfl (c_X5_confirmGiven G i6 q9.2 _ rfl) rfl rfl rfl ?_
          refine r_iload_n R 65 dX11_fetch_64 rfl rfl ?_
          obtain rfl := Option.some.inj h
          exact r_ireturn R dX11_fetch_65 rfl rfl rfl rfl
def fX3_overlay (o0 : Nat) (x1 : Int32) (M : pf_M) : Nat :=
  (if x1 = (1 : Int32) then 2 * o0 + 1
  else 2 * o0)
set_option maxRecDepth 4000 in
theorem c_X3_overlay (G : pf_G) (o0 : Nat) (x1 : Int32) (M : pf_M) (q : Nat) (h : fX3_overlay o0 x1 M = q) : pf_Met G yX3_overlay cX3_overlay 2 (some (.object "PassingFrames$Overlay")) 0 0 [pf_R 11 o0, pf_I x1] M (some (pf_R 13 q)) M := by
  refine pf_Met.of (by decide +kernel) (Nat.le_of_ble_eq_true rfl) (fun K R => ?_)
  show K 0 [pf_R 11 o0, pf_I x1] [] M
  unfold fX3_overlay at h
  refine r_iload_n R 1 dX3_overlay_0 rfl rfl ?_
  refine r_iconst R 2 dX3_overlay_1 rfl ic_iconst_1 ?_
  refine r_icmp_ne R 5 12 dX3_overlay_2 rfl (by decide) (fun hc => ?_) (fun hc => ?_)
  · have h := pf_ifp hc h
    refine r_aload_n R 6 dX3_overlay_5 rfl rfl ?_
    refine r_getfield R 9 dX3_overlay_6 rfl fl_X3_22 rfl (show _ = pf_R 13 (2 * o0 + 1) from rfl) ?_
    refine r_goto R 16 dX3_overlay_9 (by decide) ?_
    subst h
    exact r_areturn R dX3_overlay_16 rfl rfl rfl
  · have h := pf_ifn hc h
    refine r_aload_n R 13 dX3_overlay_12 rfl rfl ?_
    refine r_getfield R 16 dX3_overlay_13 rfl fl_X3_18 rfl (show _ = pf_R 13 (2 * o0) from rfl) ?_
    subst h
    exact r_areturn R dX3_overlay_16 rfl rfl rfl
def jX11_findOverlay_22  : Option (Option Nat) :=
  some none
def fX11_findOverlay (x1 : Int32) (x2 : Int32) (M : pf_M) : Option (Option Nat) :=
  ((fX9_find x1 M).bind fun r2 => (match r2 with
  | none => jX11_findOverlay_22
  | some i3 => (if (fX11_isWithin x2 (0 : Int32) (1 : Int32)) = (0 : Int32) then jX11_findOverlay_22
  else some (some (fX3_overlay i3 x2 M)))))
set_option maxRecDepth 4000 in
theorem c_X11_findOverlay (G : pf_G) (x1 : Int32) (x2 : Int32) (M : pf_M) (q : Option Nat) (h : fX11_findOverlay x1 x2 M = some q) : pf_Met G yX11_findOverlay cX11_findOverlay 4 (some (.object "PassingFrames$Overlay")) 1 22 [pf_R 0 0, pf_I x1, pf_I x2] M (some (pf_Q 13 q)) M := by
  refine pf_Met.of (by decide +kernel) (Nat.le_of_ble_eq_true rfl) (fun K R => ?_)
  show K 0 [pf_R 0 0, pf_I x1, pf_I x2, pf_U] [] M
  have hj22 : jX11_findOverlay_22 = some q → K 22 [pf_U, pf_U, pf_U, pf_U] [] M := by
    intro  h
    unfold jX11_findOverlay_22 at h
    refine r_aconst_null R 23 dX11_findOverlay_22 rfl ?_
    obtain rfl := Option.some.inj h
    exact r_areturn R dX11_findOverlay_23 rfl rfl rfl
  unfold fX11_findOverlay at h
  refine r_aload_n R 1 dX11_findOverlay_0 rfl rfl ?_
  refine r_getfield R 4 dX11_findOverlay_1 rfl fl_X11_19 rfl (show _ = pf_R 7 0 from rfl) ?_
  refine r_iload_n R 5 dX11_findOverlay_4 rfl rfl ?_
  obtain ⟨r2, hr2, h⟩ := pf_bd h
  refine r_cvQ1 R 8 dX11_findOverlay_5 rfl lk_X11_79 rfl (c_X9_find G x1 M _ hr2) rfl rfl rfl ?_
  refine r_astore_n R 9 dX11_findOverlay_8 rfl rfl (show _ = [pf_R 0 0, pf_I x1, pf_I x2, pf_Q 11 r2] from rfl) ?_
  refine r_aload_n R 10 dX11_findOverlay_9 rfl rfl ?_
  cases r2 with
  | none =>
    refine r_ifnull_t R 22 dX11_findOverlay_10 (by decide) ?_
    refine r_fg R [false, false, false, false] (show _ = [pf_U, pf_U, pf_U, pf_U] from rfl) ?_
    exact hj22 h
  | some i3 =>
    refine r_ifnull_f R 13 22 dX11_findOverlay_10 rfl (by decide) ?_
    refine r_iload_n R 14 dX11_findOverlay_13 rfl rfl ?_
    refine r_iconst R 15 dX11_findOverlay_14 rfl ic_iconst_0 ?_
    refine r_iconst R 16 dX11_findOverlay_15 rfl ic_iconst_1 ?_
    refine r_csI3 R 19 dX11_findOverlay_16 rfl lk_X11_65 (c_X11_isWithin G x2 (0 : Int32) (1 : Int32) _ rfl) rfl rfl rfl ?_
    refine r_if_ne R 22 24 dX11_findOverlay_19 rfl (by decide) (fun hc => ?_) (fun hc => ?_)
    · have h := pf_ifp hc h
      refine r_fg R [false, false, false, false] (show _ = [pf_U, pf_U, pf_U, pf_U] from rfl) ?_
      exact hj22 h
    · have h := pf_ifn hc h
      refine r_aload_n R 25 dX11_findOverlay_24 rfl rfl ?_
      refine r_iload_n R 26 dX11_findOverlay_25 rfl rfl ?_
      refine r_cvQ1 R 29 dX11_findOverlay_26 rfl lk_X11_162 rfl (c_X3_overlay G i3 x2 M _ rfl) rfl rfl rfl ?_
      obtain rfl := Option.some.inj h
      exact r_areturn R dX11_findOverlay_29 rfl rfl rfl
def jX11_isAddress_43 (s43_0 : Int32) (s43_1 : Int32) (s43_2 : Int32) : Int32 :=
  fX11_isWithin s43_0 s43_1 s43_2
def fX11_isAddress (x0 : Int32) (x1 : Int32) (x2 : Int32) : Int32 :=
  (if (3 : Int32) < x0 then (if (6 : Int32) < x0 then (if (9 : Int32) < x0 then jX11_isAddress_43 x1 (0 : Int32) ((32 : Int32) - x2)
  else jX11_isAddress_43 x1 (0 : Int32) (0 : Int32))
  else fX11_isWithin x1 (1 : Int32) (99 : Int32))
  else fX11_isWithin x1 (0 : Int32) (7 : Int32))
set_option maxRecDepth 4000 in
theorem c_X11_isAddress (G : pf_G) (x0 : Int32) (x1 : Int32) (x2 : Int32) {M : pf_M} (q : Int32) (h : fX11_isAddress x0 x1 x2 = q) : pf_Met G yX11_isAddress cX11_isAddress 3 (some .boolean) 1 22 [pf_I x0, pf_I x1, pf_I x2] M (some (pf_I q)) M := by
  refine pf_Met.of (by decide +kernel) (Nat.le_of_ble_eq_true rfl) (fun K R => ?_)
  show K 0 [pf_I x0, pf_I x1, pf_I x2] [] M
  have hj43 : ∀ (s43_0 : Int32) (s43_1 : Int32) (s43_2 : Int32), jX11_isAddress_43 s43_0 s43_1 s43_2 = q → K 43 [pf_U, pf_U, pf_U] [pf_I s43_2, pf_I s43_1, pf_I s43_0] M := by
    intro s43_0 s43_1 s43_2 h
    unfold jX11_isAddress_43 at h
    refine r_csI3 R 46 dX11_isAddress_43 rfl lk_X11_65 (c_X11_isWithin G s43_0 s43_1 s43_2 _ rfl) rfl rfl rfl ?_
    subst h
    exact r_ireturn R dX11_isAddress_46 rfl (pf_bool (fb_X11_isWithin _ _ _)) rfl rfl
  unfold fX11_isAddress at h
  refine r_iload_n R 1 dX11_isAddress_0 rfl rfl ?_
  refine r_iconst R 2 dX11_isAddress_1 rfl ic_iconst_3 ?_
  refine r_icmp_gt R 5 13 dX11_isAddress_2 rfl (by decide) (fun hc => ?_) (fun hc => ?_)
  · have h := pf_ifp hc h
    refine r_iload_n R 14 dX11_isAddress_13 rfl rfl ?_
    refine r_bipush R 16 dX11_isAddress_14 rfl ic_bipush_6 ?_
    refine r_icmp_gt R 19 27 dX11_isAddress_16 rfl (by decide) (fun hc => ?_) (fun hc => ?_)
    · have h := pf_ifp hc h
      refine r_iload_n R 28 dX11_isAddress_27 rfl rfl ?_
      refine r_iconst R 29 dX11_isAddress_28 rfl ic_iconst_0 ?_
      refine r_iload_n R 30 dX11_isAddress_29 rfl rfl ?_
      refine r_bipush R 32 dX11_isAddress_30 rfl ic_bipush_9 ?_
      refine r_icmp_gt R 35 39 dX11_isAddress_32 rfl (by decide) (fun hc => ?_) (fun hc => ?_)
      · have h := pf_ifp hc h
        refine r_bipush R 41 dX11_isAddress_39 rfl ic_bipush_32 ?_
        refine r_iload_n R 42 dX11_isAddress_41 rfl rfl ?_
        refine r_isub R 43 dX11_isAddress_42 rfl ?_
        refine r_fg R [false, false, false] (show _ = [pf_U, pf_U, pf_U] from rfl) ?_
        exact hj43 _ _ _ h
      · have h := pf_ifn hc h
        refine r_iconst R 36 dX11_isAddress_35 rfl ic_iconst_0 ?_
        refine r_goto R 43 dX11_isAddress_36 (by decide) ?_
        refine r_fg R [false, false, false] (show _ = [pf_U, pf_U, pf_U] from rfl) ?_
        exact hj43 _ _ _ h
    · have h := pf_ifn hc h
      refine r_iload_n R 20 dX11_isAddress_19 rfl rfl ?_
      refine r_iconst R 21 dX11_isAddress_20 rfl ic_iconst_1 ?_
      refine r_bipush R 23 dX11_isAddress_21 rfl ic_bipush_99 ?_
      refine r_csI3 R 26 dX11_isAddress_23 rfl lk_X11_65 (c_X11_isWithin G x1 (1 : Int32) (99 : Int32) _ rfl) rfl rfl rfl ?_
      subst h
      exact r_ireturn R dX11_isAddress_26 rfl (pf_bool (fb_X11_isWithin _ _ _)) rfl rfl
  · have h := pf_ifn hc h
    refine r_iload_n R 6 dX11_isAddress_5 rfl rfl ?_
    refine r_iconst R 7 dX11_isAddress_6 rfl ic_iconst_0 ?_
    refine r_bipush R 9 dX11_isAddress_7 rfl ic_bipush_7 ?_
    refine r_csI3 R 12 dX11_isAddress_9 rfl lk_X11_65 (c_X11_isWithin G x1 (0 : Int32) (7 : Int32) _ rfl) rfl rfl rfl ?_
    subst h
    exact r_ireturn R dX11_isAddress_12 rfl (pf_bool (fb_X11_isWithin _ _ _)) rfl rfl
theorem fb_X11_isAddress (x0 : Int32) (x1 : Int32) (x2 : Int32) : fX11_isAddress x0 x1 x2 = 0 ∨ fX11_isAddress x0 x1 x2 = 1 := by
  unfold fX11_isAddress
  try unfold jX11_isAddress_43
  repeat' split
  all_goals first | exact Or.inl rfl | exact Or.inr rfl | exact fb_X11_isWithin _ _ _ | exact fb_X11_isWithin _ _ _ | exact fb_X11_isWithin _ _ _
def fX2_order (o0 : Nat) (x1 : Int32) (x2 : Int32) (x3 : Int32) (x4 : Int32) (M : pf_M) : pf_M :=
  (pf_up (pf_up (pf_up (pf_up M 25 o0 0 x1) 25 o0 1 x2) 25 o0 2 x3) 25 o0 3 x4)
set_option maxRecDepth 4000 in
theorem c_X2_order (G : pf_G) (o0 : Nat) (x1 : Int32) (x2 : Int32) (x3 : Int32) (x4 : Int32) (M : pf_M) (q : pf_M) (h : fX2_order o0 x1 x2 x3 x4 M = q) : pf_Met G yX2_order cX2_order 5 (none) 0 0 [pf_R 25 o0, pf_I x1, pf_I x2, pf_I x3, pf_I x4] M none q := by
  refine pf_Met.of (by decide +kernel) (Nat.le_of_ble_eq_true rfl) (fun K R => ?_)
  show K 0 [pf_R 25 o0, pf_I x1, pf_I x2, pf_I x3, pf_I x4] [] M
  unfold fX2_order at h
  refine r_aload_n R 1 dX2_order_0 rfl rfl ?_
  refine r_iload_n R 2 dX2_order_1 rfl rfl ?_
  refine r_putfield R 5 dX2_order_2 rfl fl_X2_28 rfl rfl rfl rfl ?_
  refine r_aload_n R 6 dX2_order_5 rfl rfl ?_
  refine r_iload_n R 7 dX2_order_6 rfl rfl ?_
  refine r_putfield R 10 dX2_order_7 rfl fl_X2_41 rfl rfl rfl rfl ?_
  refine r_aload_n R 11 dX2_order_10 rfl rfl ?_
  refine r_iload_n R 12 dX2_order_11 rfl rfl ?_
  refine r_putfield R 15 dX2_order_12 rfl fl_X2_44 rfl rfl rfl rfl ?_
  refine r_aload_n R 16 dX2_order_15 rfl rfl ?_
  refine r_iload R 18 dX2_order_16 rfl rfl ?_
  refine r_putfield R 21 dX2_order_18 rfl fl_X2_47 rfl rfl rfl rfl ?_
  subst h
  exact r_return_ R dX2_order_21 rfl rfl rfl
def jX11_gram_63 (x2 : Int32) (x3 : Int32) (x4 : Int32) (x5 : Int32) (w63_6 : Nat) (s63_0 : Int32) (s63_1 : Int32) (s63_2 : Int32) (M63 : pf_M) : Option (Int32 × pf_M) :=
  (if (fX11_isWithin s63_0 s63_1 s63_2) = (0 : Int32) then some ((-1 : Int32), M63)
  else some (M63 25 w63_6 0, (fX2_order w63_6 x2 x3 x4 x5 M63)))
def fX11_gram (x1 : Int32) (x2 : Int32) (x3 : Int32) (x4 : Int32) (x5 : Int32) (M : pf_M) : Option (Int32 × pf_M) :=
  ((fX6_find x1 M).bind fun r2 => (match r2 with
  | none => some ((-1 : Int32), M)
  | some i3 => (if (fX11_isWithin x2 (1 : Int32) (12 : Int32)) = (0 : Int32) then some ((-1 : Int32), M)
  else (if (fX11_isWithin x5 (1 : Int32) (8 : Int32)) = (0 : Int32) then some ((-1 : Int32), M)
  else (if (fX11_isAddress x2 x3 x5) = (0 : Int32) then some ((-1 : Int32), M)
  else (if (10 : Int32) ≤ x2 then jX11_gram_63 x2 x3 x4 x5 i3 x4 (0 : Int32) (0 : Int32) M
  else jX11_gram_63 x2 x3 x4 x5 i3 x4 (0 : Int32) (15 : Int32) M))))))
set_option maxRecDepth 4000 in
theorem c_X11_gram (G : pf_G) (x1 : Int32) (x2 : Int32) (x3 : Int32) (x4 : Int32) (x5 : Int32) (M : pf_M) (q : Int32 × pf_M) (h : fX11_gram x1 x2 x3 x4 x5 M = some q) : pf_Met G yX11_gram cX11_gram 8 (some .int) 2 44 [pf_R 0 0, pf_I x1, pf_I x2, pf_I x3, pf_I x4, pf_I x5] M (some (pf_I q.1)) q.2 := by
  refine pf_Met.of (by decide +kernel) (Nat.le_of_ble_eq_true rfl) (fun K R => ?_)
  show K 0 [pf_R 0 0, pf_I x1, pf_I x2, pf_I x3, pf_I x4, pf_I x5, pf_U, pf_U] [] M
  have hj63 : ∀ (w63_6 : Nat) (s63_0 : Int32) (s63_1 : Int32) (s63_2 : Int32) (M63 : pf_M), jX11_gram_63 x2 x3 x4 x5 w63_6 s63_0 s63_1 s63_2 M63 = some q → K 63 [pf_U, pf_U, pf_I x2, pf_I x3, pf_I x4, pf_I x5, pf_R 25 w63_6, pf_U] [pf_I s63_2, pf_I s63_1, pf_I s63_0] M63 := by
    intro w63_6 s63_0 s63_1 s63_2 M63 h
    unfold jX11_gram_63 at h
    refine r_csI3 R 66 dX11_gram_63 rfl lk_X11_65 (c_X11_isWithin G s63_0 s63_1 s63_2 _ rfl) rfl rfl rfl ?_
    refine r_if_ne R 69 71 dX11_gram_66 rfl (by decide) (fun hc => ?_) (fun hc => ?_)
    · have h := pf_ifp hc h
      refine r_iconst R 70 dX11_gram_69 rfl ic_iconst_m1 ?_
      obtain rfl := Option.some.inj h
      exact r_ireturn R dX11_gram_70 rfl rfl rfl rfl
    · have h := pf_ifn hc h
      refine r_aload R 73 dX11_gram_71 rfl rfl ?_
      refine r_getfield R 76 dX11_gram_73 rfl fl_X11_172 rfl (show _ = pf_I (M63 25 w63_6 0) from rfl) ?_
      refine r_istore R 78 dX11_gram_76 rfl rfl (show _ = [pf_U, pf_U, pf_I x2, pf_I x3, pf_I x4, pf_I x5, pf_R 25 w63_6, pf_I (M63 25 w63_6 0)] from rfl) ?_
      refine r_aload R 80 dX11_gram_78 rfl rfl ?_
      refine r_iload_n R 81 dX11_gram_80 rfl rfl ?_
      refine r_iload_n R 82 dX11_gram_81 rfl rfl ?_
      refine r_iload R 84 dX11_gram_82 rfl rfl ?_
      refine r_iload R 86 dX11_gram_84 rfl rfl ?_
      refine r_cvV4 R 89 dX11_gram_86 rfl lk_X11_177 rfl (c_X2_order G w63_6 x2 x3 x4 x5 M63 _ rfl) rfl rfl rfl ?_
      refine r_iload R 91 dX11_gram_89 rfl rfl ?_
      obtain rfl := Option.some.inj h
      exact r_ireturn R dX11_gram_91 rfl rfl rfl rfl
  unfold fX11_gram at h
  refine r_aload_n R 1 dX11_gram_0 rfl rfl ?_
  refine r_getfield R 4 dX11_gram_1 rfl fl_X11_35 rfl (show _ = pf_R 20 0 from rfl) ?_
  refine r_iload_n R 5 dX11_gram_4 rfl rfl ?_
  obtain ⟨r2, hr2, h⟩ := pf_bd h
  refine r_cvQ1 R 8 dX11_gram_5 rfl lk_X11_166 rfl (c_X6_find G x1 M _ hr2) rfl rfl rfl ?_
  refine r_astore R 10 dX11_gram_8 rfl rfl (show _ = [pf_R 0 0, pf_I x1, pf_I x2, pf_I x3, pf_I x4, pf_I x5, pf_Q 25 r2, pf_U] from rfl) ?_
  refine r_aload R 12 dX11_gram_10 rfl rfl ?_
  cases r2 with
  | none =>
    refine r_ifnull_t R 36 dX11_gram_12 (by decide) ?_
    refine r_iconst R 37 dX11_gram_36 rfl ic_iconst_m1 ?_
    obtain rfl := Option.some.inj h
    exact r_ireturn R dX11_gram_37 rfl rfl rfl rfl
  | some i3 =>
    refine r_ifnull_f R 15 36 dX11_gram_12 rfl (by decide) ?_
    refine r_iload_n R 16 dX11_gram_15 rfl rfl ?_
    refine r_iconst R 17 dX11_gram_16 rfl ic_iconst_1 ?_
    refine r_bipush R 19 dX11_gram_17 rfl ic_bipush_12 ?_
    refine r_csI3 R 22 dX11_gram_19 rfl lk_X11_65 (c_X11_isWithin G x2 (1 : Int32) (12 : Int32) _ rfl) rfl rfl rfl ?_
    refine r_if_eq R 25 36 dX11_gram_22 rfl (by decide) (fun hc => ?_) (fun hc => ?_)
    · have h := pf_ifp hc h
      refine r_iconst R 37 dX11_gram_36 rfl ic_iconst_m1 ?_
      obtain rfl := Option.some.inj h
      exact r_ireturn R dX11_gram_37 rfl rfl rfl rfl
    · have h := pf_ifn hc h
      refine r_iload R 27 dX11_gram_25 rfl rfl ?_
      refine r_iconst R 28 dX11_gram_27 rfl ic_iconst_1 ?_
      refine r_bipush R 30 dX11_gram_28 rfl ic_bipush_8 ?_
      refine r_csI3 R 33 dX11_gram_30 rfl lk_X11_65 (c_X11_isWithin G x5 (1 : Int32) (8 : Int32) _ rfl) rfl rfl rfl ?_
      refine r_if_ne R 36 38 dX11_gram_33 rfl (by decide) (fun hc => ?_) (fun hc => ?_)
      · have h := pf_ifp hc h
        refine r_iconst R 37 dX11_gram_36 rfl ic_iconst_m1 ?_
        obtain rfl := Option.some.inj h
        exact r_ireturn R dX11_gram_37 rfl rfl rfl rfl
      · have h := pf_ifn hc h
        refine r_iload_n R 39 dX11_gram_38 rfl rfl ?_
        refine r_iload_n R 40 dX11_gram_39 rfl rfl ?_
        refine r_iload R 42 dX11_gram_40 rfl rfl ?_
        refine r_csI3 R 45 dX11_gram_42 rfl lk_X11_169 (c_X11_isAddress G x2 x3 x5 _ rfl) rfl rfl rfl ?_
        refine r_if_eq R 48 69 dX11_gram_45 rfl (by decide) (fun hc => ?_) (fun hc => ?_)
        · have h := pf_ifp hc h
          refine r_iconst R 70 dX11_gram_69 rfl ic_iconst_m1 ?_
          obtain rfl := Option.some.inj h
          exact r_ireturn R dX11_gram_70 rfl rfl rfl rfl
        · have h := pf_ifn hc h
          refine r_iload R 50 dX11_gram_48 rfl rfl ?_
          refine r_iconst R 51 dX11_gram_50 rfl ic_iconst_0 ?_
          refine r_iload_n R 52 dX11_gram_51 rfl rfl ?_
          refine r_bipush R 54 dX11_gram_52 rfl ic_bipush_10 ?_
          refine r_icmp_ge R 57 62 dX11_gram_54 rfl (by decide) (fun hc => ?_) (fun hc => ?_)
          · have h := pf_ifp hc h
            refine r_iconst R 63 dX11_gram_62 rfl ic_iconst_0 ?_
            refine r_fg R [false, false, true, true, true, true, true, true] (show _ = [pf_U, pf_U, pf_I x2, pf_I x3, pf_I x4, pf_I x5, pf_R 25 i3, pf_U] from rfl) ?_
            exact hj63 _ _ _ _ _ h
          · have h := pf_ifn hc h
            refine r_bipush R 59 dX11_gram_57 rfl ic_bipush_15 ?_
            refine r_goto R 63 dX11_gram_59 (by decide) ?_
            refine r_fg R [false, false, true, true, true, true, true, true] (show _ = [pf_U, pf_U, pf_I x2, pf_I x3, pf_I x4, pf_I x5, pf_R 25 i3, pf_U] from rfl) ?_
            exact hj63 _ _ _ _ _ h
def fX11_home (x1 : Int32) (x2 : Int32) (M : pf_M) : Option (Int32) :=
  ((fX6_find x1 M).bind fun r3 => (match r3 with
  | none => some (-1 : Int32)
  | some i4 => (if (fX11_isWithin x2 (-1 : Int32) (7 : Int32)) = (0 : Int32) then some (-1 : Int32)
  else (if (M 25 i4 9) = (0 : Int32) then some (-4 : Int32)
  else (if x2 < (M 25 i4 9) then (if (0 : Int32) ≤ x2 then (if pf_in x2 8 = true then some (M 30 i4 x2.toNatClampNeg)
  else none)
  else some (M 25 i4 8))
  else some (-4 : Int32))))))
set_option maxRecDepth 4000 in
theorem c_X11_home (G : pf_G) (x1 : Int32) (x2 : Int32) (M : pf_M) (q : Int32) (h : fX11_home x1 x2 M = some q) : pf_Met G yX11_home cX11_home 4 (some .int) 1 22 [pf_R 0 0, pf_I x1, pf_I x2] M (some (pf_I q)) M := by
  refine pf_Met.of (by decide +kernel) (Nat.le_of_ble_eq_true rfl) (fun K R => ?_)
  show K 0 [pf_R 0 0, pf_I x1, pf_I x2, pf_U] [] M
  unfold fX11_home at h
  refine r_aload_n R 1 dX11_home_0 rfl rfl ?_
  refine r_getfield R 4 dX11_home_1 rfl fl_X11_35 rfl (show _ = pf_R 20 0 from rfl) ?_
  refine r_iload_n R 5 dX11_home_4 rfl rfl ?_
  obtain ⟨r3, hr3, h⟩ := pf_bd h
  refine r_cvQ1 R 8 dX11_home_5 rfl lk_X11_166 rfl (c_X6_find G x1 M _ hr3) rfl rfl rfl ?_
  refine r_astore_n R 9 dX11_home_8 rfl rfl (show _ = [pf_R 0 0, pf_I x1, pf_I x2, pf_Q 25 r3] from rfl) ?_
  refine r_aload_n R 10 dX11_home_9 rfl rfl ?_
  cases r3 with
  | none =>
    refine r_ifnull_t R 23 dX11_home_10 (by decide) ?_
    refine r_iconst R 24 dX11_home_23 rfl ic_iconst_m1 ?_
    obtain rfl := Option.some.inj h
    exact r_ireturn R dX11_home_24 rfl rfl rfl rfl
  | some i4 =>
    refine r_ifnull_f R 13 23 dX11_home_10 rfl (by decide) ?_
    refine r_iload_n R 14 dX11_home_13 rfl rfl ?_
    refine r_iconst R 15 dX11_home_14 rfl ic_iconst_m1 ?_
    refine r_bipush R 17 dX11_home_15 rfl ic_bipush_7 ?_
    refine r_csI3 R 20 dX11_home_17 rfl lk_X11_65 (c_X11_isWithin G x2 (-1 : Int32) (7 : Int32) _ rfl) rfl rfl rfl ?_
    refine r_if_ne R 23 25 dX11_home_20 rfl (by decide) (fun hc => ?_) (fun hc => ?_)
    · have h := pf_ifp hc h
      refine r_iconst R 24 dX11_home_23 rfl ic_iconst_m1 ?_
      obtain rfl := Option.some.inj h
      exact r_ireturn R dX11_home_24 rfl rfl rfl rfl
    · have h := pf_ifn hc h
      refine r_aload_n R 26 dX11_home_25 rfl rfl ?_
      refine r_getfield R 29 dX11_home_26 rfl fl_X11_188 rfl (show _ = pf_I (M 25 i4 9) from rfl) ?_
      refine r_if_eq R 32 40 dX11_home_29 rfl (by decide) (fun hc => ?_) (fun hc => ?_)
      · have h := pf_ifp hc h
        refine r_bipush R 42 dX11_home_40 rfl ic_bipush_m4 ?_
        obtain rfl := Option.some.inj h
        exact r_ireturn R dX11_home_42 rfl rfl rfl rfl
      · have h := pf_ifn hc h
        refine r_iload_n R 33 dX11_home_32 rfl rfl ?_
        refine r_aload_n R 34 dX11_home_33 rfl rfl ?_
        refine r_getfield R 37 dX11_home_34 rfl fl_X11_188 rfl (show _ = pf_I (M 25 i4 9) from rfl) ?_
        refine r_icmp_lt R 40 43 dX11_home_37 rfl (by decide) (fun hc => ?_) (fun hc => ?_)
        · have h := pf_ifp hc h
          refine r_iload_n R 44 dX11_home_43 rfl rfl ?_
          refine r_if_ge R 47 54 dX11_home_44 rfl (by decide) (fun hc => ?_) (fun hc => ?_)
          · have h := pf_ifp hc h
            refine r_aload_n R 55 dX11_home_54 rfl rfl ?_
            refine r_getfield R 58 dX11_home_55 rfl fl_X11_194 rfl (show _ = pf_R 30 i4 from rfl) ?_
            refine r_iload_n R 59 dX11_home_58 rfl rfl ?_
            obtain ⟨hi5, h⟩ := pf_gd h
            refine r_iaload R 60 dX11_home_59 rfl ⟨rfl, rfl⟩ (pf_in_iff.mp hi5) ?_
            obtain rfl := Option.some.inj h
            exact r_ireturn R dX11_home_60 rfl rfl rfl rfl
          · have h := pf_ifn hc h
            refine r_aload_n R 48 dX11_home_47 rfl rfl ?_
            refine r_getfield R 51 dX11_home_48 rfl fl_X11_191 rfl (show _ = pf_I (M 25 i4 8) from rfl) ?_
            refine r_goto R 60 dX11_home_51 (by decide) ?_
            obtain rfl := Option.some.inj h
            exact r_ireturn R dX11_home_60 rfl rfl rfl rfl
        · have h := pf_ifn hc h
          refine r_bipush R 42 dX11_home_40 rfl ic_bipush_m4 ?_
          obtain rfl := Option.some.inj h
          exact r_ireturn R dX11_home_42 rfl rfl rfl rfl
def fX11_isByte (x0 : Int32) : Int32 :=
  fX11_isWithin x0 (0 : Int32) (255 : Int32)
set_option maxRecDepth 4000 in
theorem c_X11_isByte (G : pf_G) (x0 : Int32) {M : pf_M} (q : Int32) (h : fX11_isByte x0 = q) : pf_Met G yX11_isByte cX11_isByte 1 (some .boolean) 1 22 [pf_I x0] M (some (pf_I q)) M := by
  refine pf_Met.of (by decide +kernel) (Nat.le_of_ble_eq_true rfl) (fun K R => ?_)
  show K 0 [pf_I x0] [] M
  unfold fX11_isByte at h
  refine r_iload_n R 1 dX11_isByte_0 rfl rfl ?_
  refine r_iconst R 2 dX11_isByte_1 rfl ic_iconst_0 ?_
  refine r_sipush R 5 dX11_isByte_2 rfl ic_sipush_255 ?_
  refine r_csI3 R 8 dX11_isByte_5 rfl lk_X11_65 (c_X11_isWithin G x0 (0 : Int32) (255 : Int32) _ rfl) rfl rfl rfl ?_
  subst h
  exact r_ireturn R dX11_isByte_8 rfl (pf_bool (fb_X11_isWithin _ _ _)) rfl rfl
theorem fb_X11_isByte (x0 : Int32) : fX11_isByte x0 = 0 ∨ fX11_isByte x0 = 1 := by
  unfold fX11_isByte
  repeat' split
  all_goals first | exact Or.inl rfl | exact Or.inr rfl | exact fb_X11_isWithin _ _ _
def fX11_isMessage (x0 : Int32) : Int32 :=
  fX11_isWithin x0 (1 : Int32) (255 : Int32)
set_option maxRecDepth 4000 in
theorem c_X11_isMessage (G : pf_G) (x0 : Int32) {M : pf_M} (q : Int32) (h : fX11_isMessage x0 = q) : pf_Met G yX11_isMessage cX11_isMessage 1 (some .boolean) 1 22 [pf_I x0] M (some (pf_I q)) M := by
  refine pf_Met.of (by decide +kernel) (Nat.le_of_ble_eq_true rfl) (fun K R => ?_)
  show K 0 [pf_I x0] [] M
  unfold fX11_isMessage at h
  refine r_iload_n R 1 dX11_isMessage_0 rfl rfl ?_
  refine r_iconst R 2 dX11_isMessage_1 rfl ic_iconst_1 ?_
  refine r_sipush R 5 dX11_isMessage_2 rfl ic_sipush_255 ?_
  refine r_csI3 R 8 dX11_isMessage_5 rfl lk_X11_65 (c_X11_isWithin G x0 (1 : Int32) (255 : Int32) _ rfl) rfl rfl rfl ?_
  subst h
  exact r_ireturn R dX11_isMessage_8 rfl (pf_bool (fb_X11_isWithin _ _ _)) rfl rfl
theorem fb_X11_isMessage (x0 : Int32) : fX11_isMessage x0 = 0 ∨ fX11_isMessage x0 = 1 := by
  unfold fX11_isMessage
  repeat' split
  all_goals first | exact Or.inl rfl | exact Or.inr rfl | exact fb_X11_isWithin _ _ _
def fX11_later (x1 : Int32) (M : pf_M) : Int32 × pf_M :=
  (if (fX11_isWithin x1 (1 : Int32) (9999 : Int32)) = (0 : Int32) then ((-1 : Int32), M)
  else (fX9_time (fX9_passTime x1 M), (fX9_passTime x1 M)))
set_option maxRecDepth 4000 in
theorem c_X11_later (G : pf_G) (x1 : Int32) (M : pf_M) (q : Int32 × pf_M) (h : fX11_later x1 M = q) : pf_Met G yX11_later cX11_later 2 (some .int) 1 22 [pf_R 0 0, pf_I x1] M (some (pf_I q.1)) q.2 := by
  refine pf_Met.of (by decide +kernel) (Nat.le_of_ble_eq_true rfl) (fun K R => ?_)
  show K 0 [pf_R 0 0, pf_I x1] [] M
  unfold fX11_later at h
  refine r_iload_n R 1 dX11_later_0 rfl rfl ?_
  refine r_iconst R 2 dX11_later_1 rfl ic_iconst_1 ?_
  refine r_sipush R 5 dX11_later_2 rfl ic_sipush_9999 ?_
  refine r_csI3 R 8 dX11_later_5 rfl lk_X11_65 (c_X11_isWithin G x1 (1 : Int32) (9999 : Int32) _ rfl) rfl rfl rfl ?_
  refine r_if_ne R 11 13 dX11_later_8 rfl (by decide) (fun hc => ?_) (fun hc => ?_)
  · have h := pf_ifp hc h
    refine r_iconst R 12 dX11_later_11 rfl ic_iconst_m1 ?_
    subst h
    exact r_ireturn R dX11_later_12 rfl rfl rfl rfl
  · have h := pf_ifn hc h
    refine r_aload_n R 14 dX11_later_13 rfl rfl ?_
    refine r_getfield R 17 dX11_later_14 rfl fl_X11_19 rfl (show _ = pf_R 7 0 from rfl) ?_
    refine r_iload_n R 18 dX11_later_17 rfl rfl ?_
    refine r_cvV1 R 21 dX11_later_18 rfl lk_X11_253 rfl (c_X9_passTime G x1 M _ rfl) rfl rfl rfl ?_
    refine r_aload_n R 22 dX11_later_21 rfl rfl ?_
    refine r_getfield R 25 dX11_later_22 rfl fl_X11_19 rfl (show _ = pf_R 7 0 from rfl) ?_
    refine r_cvI0 R 28 dX11_later_25 rfl lk_X11_105 rfl (c_X9_time G (fX9_passTime x1 M) _ rfl) rfl rfl rfl ?_
    subst h
    exact r_ireturn R dX11_later_28 rfl rfl rfl rfl
def fX7_remove (o0 : Nat) (M : pf_M) : pf_M :=
  (pf_up M 13 o0 1 (0 : Int32))
set_option maxRecDepth 4000 in
theorem c_X7_remove (G : pf_G) (o0 : Nat) (M : pf_M) (q : pf_M) (h : fX7_remove o0 M = q) : pf_Met G yX7_remove cX7_remove 1 (none) 0 0 [pf_R 13 o0] M none q := by
  refine pf_Met.of (by decide +kernel) (Nat.le_of_ble_eq_true rfl) (fun K R => ?_)
  show K 0 [pf_R 13 o0] [] M
  unfold fX7_remove at h
  refine r_aload_n R 1 dX7_remove_0 rfl rfl ?_
  refine r_iconst R 2 dX7_remove_1 rfl ic_iconst_0 ?_
  refine r_putfield R 5 dX7_remove_2 rfl fl_X7_15 rfl rfl rfl rfl ?_
  subst h
  exact r_return_ R dX7_remove_5 rfl rfl rfl
def fX8_empty (o0 : Nat) (M : pf_M) : pf_M :=
  (pf_up M 15 o0 1 (0 : Int32))
set_option maxRecDepth 4000 in
theorem c_X8_empty (G : pf_G) (o0 : Nat) (M : pf_M) (q : pf_M) (h : fX8_empty o0 M = q) : pf_Met G yX8_empty cX8_empty 1 (none) 0 0 [pf_R 15 o0] M none q := by
  refine pf_Met.of (by decide +kernel) (Nat.le_of_ble_eq_true rfl) (fun K R => ?_)
  show K 0 [pf_R 15 o0] [] M
  unfold fX8_empty at h
  refine r_aload_n R 1 dX8_empty_0 rfl rfl ?_
  refine r_iconst R 2 dX8_empty_1 rfl ic_iconst_0 ?_
  refine r_putfield R 5 dX8_empty_2 rfl fl_X8_15 rfl rfl rfl rfl ?_
  subst h
  exact r_return_ R dX8_empty_5 rfl rfl rfl
def fX5_begin (o0 : Nat) (M : pf_M) : pf_M :=
  (pf_up (pf_up (pf_up (pf_up (pf_up (pf_up (fX8_empty (2 * o0 + 1) (fX8_empty (2 * o0) M)) 14 o0 2 (0 : Int32)) 14 o0 3 (0 : Int32)) 14 o0 4 (1 : Int32)) 14 o0 5 (1 : Int32)) 14 o0 6 (0 : Int32)) 14 o0 7 (0 : Int32))
set_option maxRecDepth 4000 in
theorem c_X5_begin (G : pf_G) (o0 : Nat) (M : pf_M) (q : pf_M) (h : fX5_begin o0 M = q) : pf_Met G yX5_begin cX5_begin 1 (none) 1 20 [pf_R 14 o0] M none q := by
  refine pf_Met.of (by decide +kernel) (Nat.le_of_ble_eq_true rfl) (fun K R => ?_)
  show K 0 [pf_R 14 o0] [] M
  unfold fX5_begin at h
  refine r_aload_n R 1 dX5_begin_0 rfl rfl ?_
  refine r_getfield R 4 dX5_begin_1 rfl fl_X5_12 rfl (show _ = pf_R 15 (2 * o0) from rfl) ?_
  refine r_cvV0 R 7 dX5_begin_4 rfl lk_X5_21 rfl (c_X8_empty G (2 * o0) M _ rfl) rfl rfl rfl ?_
  refine r_aload_n R 8 dX5_begin_7 rfl rfl ?_
  refine r_getfield R 11 dX5_begin_8 rfl fl_X5_18 rfl (show _ = pf_R 15 (2 * o0 + 1) from rfl) ?_
  refine r_cvV0 R 14 dX5_begin_11 rfl lk_X5_21 rfl (c_X8_empty G (2 * o0 + 1) (fX8_empty (2 * o0) M) _ rfl) rfl rfl rfl ?_
  refine r_aload_n R 15 dX5_begin_14 rfl rfl ?_
  refine r_iconst R 16 dX5_begin_15 rfl ic_iconst_0 ?_
  refine r_putfield R 19 dX5_begin_16 rfl fl_X5_24 rfl rfl rfl rfl ?_
  refine r_aload_n R 20 dX5_begin_19 rfl rfl ?_
  refine r_iconst R 21 dX5_begin_20 rfl ic_iconst_0 ?_
  refine r_putfield R 24 dX5_begin_21 rfl fl_X5_28 rfl rfl rfl rfl ?_
  refine r_aload_n R 25 dX5_begin_24 rfl rfl ?_
  refine r_iconst R 26 dX5_begin_25 rfl ic_iconst_1 ?_
  refine r_putfield R 29 dX5_begin_26 rfl fl_X5_31 rfl rfl rfl rfl ?_
  refine r_aload_n R 30 dX5_begin_29 rfl rfl ?_
  refine r_iconst R 31 dX5_begin_30 rfl ic_iconst_1 ?_
  refine r_putfield R 34 dX5_begin_31 rfl fl_X5_34 rfl rfl rfl rfl ?_
  refine r_aload_n R 35 dX5_begin_34 rfl rfl ?_
  refine r_iconst R 36 dX5_begin_35 rfl ic_iconst_0 ?_
  refine r_putfield R 39 dX5_begin_36 rfl fl_X5_37 rfl rfl rfl rfl ?_
  refine r_aload_n R 40 dX5_begin_39 rfl rfl ?_
  refine r_iconst R 41 dX5_begin_40 rfl ic_iconst_0 ?_
  refine r_putfield R 44 dX5_begin_41 rfl fl_X5_40 rfl rfl rfl rfl ?_
  subst h
  exact r_return_ R dX5_begin_44 rfl rfl rfl
def fX3_enter (o0 : Nat) (x1 : Int32) (M : pf_M) : pf_M :=
  (if x1 = (0 : Int32) then (fX5_begin o0 (pf_up M 11 o0 7 x1))
  else (pf_up M 11 o0 7 x1))
set_option maxRecDepth 4000 in
theorem c_X3_enter (G : pf_G) (o0 : Nat) (x1 : Int32) (M : pf_M) (q : pf_M) (h : fX3_enter o0 x1 M = q) : pf_Met G yX3_enter cX3_enter 2 (none) 2 40 [pf_R 11 o0, pf_I x1] M none q := by
  refine pf_Met.of (by decide +kernel) (Nat.le_of_ble_eq_true rfl) (fun K R => ?_)
  show K 0 [pf_R 11 o0, pf_I x1] [] M
  unfold fX3_enter at h
  refine r_aload_n R 1 dX3_enter_0 rfl rfl ?_
  refine r_iload_n R 2 dX3_enter_1 rfl rfl ?_
  refine r_putfield R 5 dX3_enter_2 rfl fl_X3_61 rfl rfl rfl rfl ?_
  refine r_iload_n R 6 dX3_enter_5 rfl rfl ?_
  refine r_if_ne R 9 16 dX3_enter_6 rfl (by decide) (fun hc => ?_) (fun hc => ?_)
  · have h := pf_ifp hc h
    refine r_aload_n R 10 dX3_enter_9 rfl rfl ?_
    refine r_getfield R 13 dX3_enter_10 rfl fl_X3_28 rfl (show _ = pf_R 14 o0 from rfl) ?_
    refine r_cvV0 R 16 dX3_enter_13 rfl lk_X3_64 rfl (c_X5_begin G o0 (pf_up M 11 o0 7 x1) _ rfl) rfl rfl rfl ?_
    subst h
    exact r_return_ R dX3_enter_16 rfl rfl rfl
  · have h := pf_ifn hc h
    subst h
    exact r_return_ R dX3_enter_16 rfl rfl rfl
def fX3_begin (o0 : Nat) (x1 : Int32) (x2 : Int32) (x3 : Int32) (M : pf_M) : Option (pf_M) :=
  ((fJ7_fill_53178 12 o0 16 (0 : Int32) (pf_up (pf_up (pf_up (pf_up (pf_up M 11 o0 4 x1) 11 o0 5 x2) 11 o0 6 x3) 11 o0 8 (0 : Int32)) 11 o0 9 (0 : Int32))).bind fun q2 => some (fX3_enter o0 (0 : Int32) (fX7_remove (2 * o0 + 1) (fX7_remove (2 * o0) q2))))
set_option maxRecDepth 4000 in
theorem c_X3_begin (G : pf_G) (o0 : Nat) (x1 : Int32) (x2 : Int32) (x3 : Int32) (M : pf_M) (q : pf_M) (h : fX3_begin o0 x1 x2 x3 M = some q) : pf_Met G yX3_begin cX3_begin 4 (none) 3 61 [pf_R 11 o0, pf_I x1, pf_I x2, pf_I x3] M none q := by
  refine pf_Met.of (by decide +kernel) (Nat.le_of_ble_eq_true rfl) (fun K R => ?_)
  show K 0 [pf_R 11 o0, pf_I x1, pf_I x2, pf_I x3] [] M
  unfold fX3_begin at h
  refine r_aload_n R 1 dX3_begin_0 rfl rfl ?_
  refine r_iload_n R 2 dX3_begin_1 rfl rfl ?_
  refine r_putfield R 5 dX3_begin_2 rfl fl_X3_32 rfl rfl rfl rfl ?_
  refine r_aload_n R 6 dX3_begin_5 rfl rfl ?_
  refine r_iload_n R 7 dX3_begin_6 rfl rfl ?_
  refine r_putfield R 10 dX3_begin_7 rfl fl_X3_36 rfl rfl rfl rfl ?_
  refine r_aload_n R 11 dX3_begin_10 rfl rfl ?_
  refine r_iload_n R 12 dX3_begin_11 rfl rfl ?_
  refine r_putfield R 15 dX3_begin_12 rfl fl_X3_39 rfl rfl rfl rfl ?_
  refine r_aload_n R 16 dX3_begin_15 rfl rfl ?_
  refine r_iconst R 17 dX3_begin_16 rfl ic_iconst_0 ?_
  refine r_putfield R 20 dX3_begin_17 rfl fl_X3_42 rfl rfl rfl rfl ?_
  refine r_aload_n R 21 dX3_begin_20 rfl rfl ?_
  refine r_iconst R 22 dX3_begin_21 rfl ic_iconst_0 ?_
  refine r_putfield R 25 dX3_begin_22 rfl fl_X3_45 rfl rfl rfl rfl ?_
  refine r_aload_n R 26 dX3_begin_25 rfl rfl ?_
  refine r_getfield R 29 dX3_begin_26 rfl fl_X3_9 rfl (show _ = pf_R 12 o0 from rfl) ?_
  refine r_iconst R 30 dX3_begin_29 rfl ic_iconst_0 ?_
  obtain ⟨q2, hq2, h⟩ := pf_bd h
  refine r_csV2 R 33 dX3_begin_30 rfl lk_X3_48 (c_J7_fill_53178 G 12 o0 16 (0 : Int32) (pf_up (pf_up (pf_up (pf_up (pf_up M 11 o0 4 x1) 11 o0 5 x2) 11 o0 6 x3) 11 o0 8 (0 : Int32)) 11 o0 9 (0 : Int32)) _ ⟨rfl, rfl⟩ hq2) rfl rfl rfl ?_
  refine r_aload_n R 34 dX3_begin_33 rfl rfl ?_
  refine r_getfield R 37 dX3_begin_34 rfl fl_X3_18 rfl (show _ = pf_R 13 (2 * o0) from rfl) ?_
  refine r_cvV0 R 40 dX3_begin_37 rfl lk_X3_54 rfl (c_X7_remove G (2 * o0) q2 _ rfl) rfl rfl rfl ?_
  refine r_aload_n R 41 dX3_begin_40 rfl rfl ?_
  refine r_getfield R 44 dX3_begin_41 rfl fl_X3_22 rfl (show _ = pf_R 13 (2 * o0 + 1) from rfl) ?_
  refine r_cvV0 R 47 dX3_begin_44 rfl lk_X3_54 rfl (c_X7_remove G (2 * o0 + 1) (fX7_remove (2 * o0) q2) _ rfl) rfl rfl rfl ?_
  refine r_aload_n R 48 dX3_begin_47 rfl rfl ?_
  refine r_iconst R 49 dX3_begin_48 rfl ic_iconst_0 ?_
  refine r_cvV1 R 52 dX3_begin_49 rfl lk_X3_57 rfl (c_X3_enter G o0 (0 : Int32) (fX7_remove (2 * o0 + 1) (fX7_remove (2 * o0) q2)) _ rfl) rfl rfl rfl ?_
  obtain rfl := Option.some.inj h
  exact r_return_ R dX3_begin_52 rfl rfl rfl
def lX9_build_39 (kx39 : pf_M → Option (pf_M)) : Nat → Int32 → pf_M → Option (pf_M)
  | 0, _, _ => none
  | n + 1, v39_2, M39 =>
  (if (M39 7 0 3) ≤ v39_2 then kx39 M39
  else (if pf_in v39_2 8 = true then (if pf_in v39_2 8 = true then (if pf_in v39_2 8 = true then (if pf_in v39_2 8 = true then ((fX3_begin v39_2.toNatClampNeg (M39 3 0 v39_2.toNatClampNeg) (M39 5 0 v39_2.toNatClampNeg) (M39 6 0 v39_2.toNatClampNeg) M39).bind fun q8 => (if pf_in v39_2 8 = true then (if pf_in v39_2 9 = true then (lX9_build_39 kx39 n) (v39_2 + (1 : Int32)) (pf_up q8 9 0 v39_2.toNatClampNeg (q8 4 0 v39_2.toNatClampNeg))
  else none)
  else none))
  else none)
  else none)
  else none)
  else none))
def fX9_build (M : pf_M) : Option (pf_M) :=
  ((fJ7_fill_53178 10 0 9 (0 : Int32) (pf_up (pf_up (pf_up (pf_up M 7 0 3 (M 1 0 6)) 7 0 4 ((pf_up M 7 0 3 (M 1 0 6)) 1 0 8)) 7 0 5 ((pf_up (pf_up M 7 0 3 (M 1 0 6)) 7 0 4 ((pf_up M 7 0 3 (M 1 0 6)) 1 0 8)) 1 0 9)) 7 0 6 (0 : Int32))).bind fun q11 => lX9_build_39 (fun u12_Me39 => (if pf_in (u12_Me39 7 0 3) 9 = true then some (pf_up u12_Me39 9 0 (u12_Me39 7 0 3).toNatClampNeg (u12_Me39 1 0 7))
  else none)) pf_fu (0 : Int32) q11)
set_option maxRecDepth 4000 in
theorem c_X9_build (G : pf_G) (M : pf_M) (q : pf_M) (h : fX9_build M = some q) : pf_Met G yX9_build cX9_build 3 (none) 4 84 [pf_R 7 0, pf_R 1 0] M none q := by
  refine pf_Met.of (by decide +kernel) (Nat.le_of_ble_eq_true rfl) (fun K R => ?_)
  show K 0 [pf_R 7 0, pf_R 1 0, pf_U] [] M
  have hl39 : ∀ (kx39 : pf_M → Option (pf_M)), (∀ (Me39 : pf_M), kx39 Me39 = some q → K 92 [pf_R 7 0, pf_R 1 0, pf_U] [] Me39) → ∀ (n : Nat) (v39_2 : Int32) (M39 : pf_M), lX9_build_39 kx39 n v39_2 M39 = some q → K 39 [pf_R 7 0, pf_R 1 0, pf_I v39_2] [] M39 := by
    intro kx39 hkx39 n
    induction n with
    | zero =>
      intro v39_2 M39 h
      rw [lX9_build_39] at h
      cases h
    | succ n ih39 =>
        intro v39_2 M39 h
        rw [lX9_build_39] at h
        refine r_iload_n R 40 dX9_build_39 rfl rfl ?_
        refine r_aload_n R 41 dX9_build_40 rfl rfl ?_
        refine r_getfield R 44 dX9_build_41 rfl fl_X9_30 rfl (show _ = pf_I (M39 7 0 3) from rfl) ?_
        refine r_icmp_ge R 47 92 dX9_build_44 rfl (by decide) (fun hc => ?_) (fun hc => ?_)
        · have h := pf_ifp hc h
          refine r_fg R [true, true, false] (show _ = [pf_R 7 0, pf_R 1 0, pf_U] from rfl) ?_
          exact hkx39 _ h
        · have h := pf_ifn hc h
          refine r_aload_n R 48 dX9_build_47 rfl rfl ?_
          refine r_getfield R 51 dX9_build_48 rfl fl_X9_11 rfl (show _ = pf_R 8 0 from rfl) ?_
          refine r_iload_n R 52 dX9_build_51 rfl rfl ?_
          obtain ⟨hi4, h⟩ := pf_gd h
          refine r_aaload R 53 dX9_build_52 rfl rfl rfl rfl (pf_in_iff.mp hi4) ?_
          refine r_aload_n R 54 dX9_build_53 rfl rfl ?_
          refine r_getfield R 57 dX9_build_54 rfl fl_X9_50 rfl (show _ = pf_R 3 0 from rfl) ?_
          refine r_iload_n R 58 dX9_build_57 rfl rfl ?_
          obtain ⟨hi5, h⟩ := pf_gd h
          refine r_iaload R 59 dX9_build_58 rfl ⟨rfl, rfl⟩ (pf_in_iff.mp hi5) ?_
          refine r_aload_n R 60 dX9_build_59 rfl rfl ?_
          refine r_getfield R 63 dX9_build_60 rfl fl_X9_53 rfl (show _ = pf_R 5 0 from rfl) ?_
          refine r_iload_n R 64 dX9_build_63 rfl rfl ?_
          obtain ⟨hi6, h⟩ := pf_gd h
          refine r_iaload R 65 dX9_build_64 rfl ⟨rfl, rfl⟩ (pf_in_iff.mp hi6) ?_
          refine r_aload_n R 66 dX9_build_65 rfl rfl ?_
          refine r_getfield R 69 dX9_build_66 rfl fl_X9_56 rfl (show _ = pf_R 6 0 from rfl) ?_
          refine r_iload_n R 70 dX9_build_69 rfl rfl ?_
          obtain ⟨hi7, h⟩ := pf_gd h
          refine r_iaload R 71 dX9_build_70 rfl ⟨rfl, rfl⟩ (pf_in_iff.mp hi7) ?_
          obtain ⟨q8, hq8, h⟩ := pf_bd h
          refine r_cvV3 R 74 dX9_build_71 rfl lk_X9_59 rfl (c_X3_begin G v39_2.toNatClampNeg (M39 3 0 v39_2.toNatClampNeg) (M39 5 0 v39_2.toNatClampNeg) (M39 6 0 v39_2.toNatClampNeg) M39 _ hq8) rfl rfl rfl ?_
          refine r_aload_n R 75 dX9_build_74 rfl rfl ?_
          refine r_getfield R 78 dX9_build_75 rfl fl_X9_17 rfl (show _ = pf_R 9 0 from rfl) ?_
          refine r_iload_n R 79 dX9_build_78 rfl rfl ?_
          refine r_aload_n R 80 dX9_build_79 rfl rfl ?_
          refine r_getfield R 83 dX9_build_80 rfl fl_X9_63 rfl (show _ = pf_R 4 0 from rfl) ?_
          refine r_iload_n R 84 dX9_build_83 rfl rfl ?_
          obtain ⟨hi9, h⟩ := pf_gd h
          refine r_iaload R 85 dX9_build_84 rfl ⟨rfl, rfl⟩ (pf_in_iff.mp hi9) ?_
          obtain ⟨hi10, h⟩ := pf_gd h
          refine r_iastore R 86 dX9_build_85 rfl ⟨rfl, rfl⟩ (pf_in_iff.mp hi10) ?_
          refine r_iinc R 89 dX9_build_86 rfl rfl ic_iconst_1 (show _ = [pf_R 7 0, pf_R 1 0, pf_I (v39_2 + (1 : Int32))] from rfl) ?_
          refine r_goto R 39 dX9_build_89 (by decide) ?_
          exact ih39 _ _ h
  unfold fX9_build at h
  refine r_aload_n R 1 dX9_build_0 rfl rfl ?_
  refine r_aload_n R 2 dX9_build_1 rfl rfl ?_
  refine r_getfield R 5 dX9_build_2 rfl fl_X9_25 rfl (show _ = pf_I (M 1 0 6) from rfl) ?_
  refine r_putfield R 8 dX9_build_5 rfl fl_X9_30 rfl rfl rfl rfl ?_
  refine r_aload_n R 9 dX9_build_8 rfl rfl ?_
  refine r_aload_n R 10 dX9_build_9 rfl rfl ?_
  refine r_getfield R 13 dX9_build_10 rfl fl_X9_33 rfl (show _ = pf_I ((pf_up M 7 0 3 (M 1 0 6)) 1 0 8) from rfl) ?_
  refine r_putfield R 16 dX9_build_13 rfl fl_X9_36 rfl rfl rfl rfl ?_
  refine r_aload_n R 17 dX9_build_16 rfl rfl ?_
  refine r_aload_n R 18 dX9_build_17 rfl rfl ?_
  refine r_getfield R 21 dX9_build_18 rfl fl_X9_37 rfl (show _ = pf_I ((pf_up (pf_up M 7 0 3 (M 1 0 6)) 7 0 4 ((pf_up M 7 0 3 (M 1 0 6)) 1 0 8)) 1 0 9) from rfl) ?_
  refine r_putfield R 24 dX9_build_21 rfl fl_X9_40 rfl rfl rfl rfl ?_
  refine r_aload_n R 25 dX9_build_24 rfl rfl ?_
  refine r_iconst R 26 dX9_build_25 rfl ic_iconst_0 ?_
  refine r_putfield R 29 dX9_build_26 rfl fl_X9_41 rfl rfl rfl rfl ?_
  refine r_aload_n R 30 dX9_build_29 rfl rfl ?_
  refine r_getfield R 33 dX9_build_30 rfl fl_X9_21 rfl (show _ = pf_R 10 0 from rfl) ?_
  refine r_iconst R 34 dX9_build_33 rfl ic_iconst_0 ?_
  obtain ⟨q11, hq11, h⟩ := pf_bd h
  refine r_csV2 R 37 dX9_build_34 rfl lk_X9_44 (c_J7_fill_53178 G 10 0 9 (0 : Int32) (pf_up (pf_up (pf_up (pf_up M 7 0 3 (M 1 0 6)) 7 0 4 ((pf_up M 7 0 3 (M 1 0 6)) 1 0 8)) 7 0 5 ((pf_up (pf_up M 7 0 3 (M 1 0 6)) 7 0 4 ((pf_up M 7 0 3 (M 1 0 6)) 1 0 8)) 1 0 9)) 7 0 6 (0 : Int32)) _ ⟨rfl, rfl⟩ hq11) rfl rfl rfl ?_
  refine r_iconst R 38 dX9_build_37 rfl ic_iconst_0 ?_
  refine r_istore_n R 39 dX9_build_38 rfl rfl (show _ = [pf_R 7 0, pf_R 1 0, pf_I (0 : Int32)] from rfl) ?_
  refine hl39 _ (fun u12_Me39 h => ?_) pf_fu _ _ h
  refine r_aload_n R 93 dX9_build_92 rfl rfl ?_
  refine r_getfield R 96 dX9_build_93 rfl fl_X9_17 rfl (show _ = pf_R 9 0 from rfl) ?_
  refine r_aload_n R 97 dX9_build_96 rfl rfl ?_
  refine r_getfield R 100 dX9_build_97 rfl fl_X9_30 rfl (show _ = pf_I (u12_Me39 7 0 3) from rfl) ?_
  refine r_aload_n R 101 dX9_build_100 rfl rfl ?_
  refine r_getfield R 104 dX9_build_101 rfl fl_X9_64 rfl (show _ = pf_I (u12_Me39 1 0 7) from rfl) ?_
  obtain ⟨hi13, h⟩ := pf_gd h
  refine r_iastore R 105 dX9_build_104 rfl ⟨rfl, rfl⟩ (pf_in_iff.mp hi13) ?_
  obtain rfl := Option.some.inj h
  exact r_return_ R dX9_build_105 rfl rfl rfl
