def jX12_box_88 (x1 : Int32) (x2 : Int32) (M : pf_M) : Option (Int32) :=
  (if pf_in ((((2 : Int32) * x1) + x2) - (4 : Int32)) 16 = true then some (M 61 0 ((((2 : Int32) * x1) + x2) - (4 : Int32)).toNatClampNeg)
  else none)
def jX12_box_75 (x1 : Int32) (x2 : Int32) (M : pf_M) : Option (Int32) :=
  (if pf_in ((((2 : Int32) * x1) + x2) - (2 : Int32)) 16 = true then some (M 60 0 ((((2 : Int32) * x1) + x2) - (2 : Int32)).toNatClampNeg)
  else none)
def jX12_box_64 (x1 : Int32) (x2 : Int32) (M : pf_M) : Option (Int32) :=
  (if pf_in (((2 : Int32) * x1) + x2) 16 = true then some (M 59 0 (((2 : Int32) * x1) + x2).toNatClampNeg)
  else none)
def fX12_box (x1 : Int32) (x2 : Int32) (M : pf_M) : Option (Int32) :=
  (if (fX12_isDevice x1 M) = (0 : Int32) then some (-1 : Int32)
  else (if (fX12_in x2.toInt64 (0 : Int64) (7 : Int64)) = (0 : Int32) then some (-1 : Int32)
  else (if x2 = (0 : Int32) then jX12_box_64 x1 x2 M
  else (if x2 = (1 : Int32) then jX12_box_64 x1 x2 M
  else (if x2 = (2 : Int32) then jX12_box_75 x1 x2 M
  else (if x2 = (3 : Int32) then jX12_box_75 x1 x2 M
  else (if x2 = (4 : Int32) then jX12_box_88 x1 x2 M
  else (if x2 = (5 : Int32) then jX12_box_88 x1 x2 M
  else (if x2 = (6 : Int32) then (if pf_in x1 8 = true then some (M 62 0 x1.toNatClampNeg)
  else none)
  else (if pf_in x1 8 = true then some (M 63 0 x1.toNatClampNeg)
  else none))))))))))
set_option maxRecDepth 4000 in
theorem c_X12_box (G : pf_G) (x1 : Int32) (x2 : Int32) (M : pf_M) (q : Int32) (h : fX12_box x1 x2 M = some q) : pf_Met G yX12_box cX12_box 3 (some .int) 2 46 [pf_R 40 0, pf_I x1, pf_I x2] M (some (pf_I q)) M := by
  refine pf_Met.of (by decide +kernel) (Nat.le_of_ble_eq_true rfl) (fun K R => ?_)
  show K 0 [pf_R 40 0, pf_I x1, pf_I x2] [] M
  have hj88 : jX12_box_88 x1 x2 M = some q → K 88 [pf_R 40 0, pf_I x1, pf_I x2] [] M := by
    intro  h
    unfold jX12_box_88 at h
    refine r_aload_n R 89 dX12_box_88 rfl rfl ?_
    refine r_getfield R 92 dX12_box_89 rfl fl_X12_70 rfl (show _ = pf_R 61 0 from rfl) ?_
    refine r_iconst R 93 dX12_box_92 rfl ic_iconst_2 ?_
    refine r_iload_n R 94 dX12_box_93 rfl rfl ?_
    refine r_imul R 95 dX12_box_94 rfl ?_
    refine r_iload_n R 96 dX12_box_95 rfl rfl ?_
    refine r_iadd R 97 dX12_box_96 rfl ?_
    refine r_iconst R 98 dX12_box_97 rfl ic_iconst_4 ?_
    refine r_isub R 99 dX12_box_98 rfl ?_
    obtain ⟨hi6, h⟩ := pf_gd h
    refine r_iaload R 100 dX12_box_99 rfl ⟨rfl, rfl⟩ (pf_in_iff.mp hi6) ?_
    obtain rfl := Option.some.inj h
    exact r_ireturn R dX12_box_100 rfl rfl rfl rfl
  have hj75 : jX12_box_75 x1 x2 M = some q → K 75 [pf_R 40 0, pf_I x1, pf_I x2] [] M := by
    intro  h
    unfold jX12_box_75 at h
    refine r_aload_n R 76 dX12_box_75 rfl rfl ?_
    refine r_getfield R 79 dX12_box_76 rfl fl_X12_67 rfl (show _ = pf_R 60 0 from rfl) ?_
    refine r_iconst R 80 dX12_box_79 rfl ic_iconst_2 ?_
    refine r_iload_n R 81 dX12_box_80 rfl rfl ?_
    refine r_imul R 82 dX12_box_81 rfl ?_
    refine r_iload_n R 83 dX12_box_82 rfl rfl ?_
    refine r_iadd R 84 dX12_box_83 rfl ?_
    refine r_iconst R 85 dX12_box_84 rfl ic_iconst_2 ?_
    refine r_isub R 86 dX12_box_85 rfl ?_
    obtain ⟨hi7, h⟩ := pf_gd h
    refine r_iaload R 87 dX12_box_86 rfl ⟨rfl, rfl⟩ (pf_in_iff.mp hi7) ?_
    obtain rfl := Option.some.inj h
    exact r_ireturn R dX12_box_87 rfl rfl rfl rfl
  have hj64 : jX12_box_64 x1 x2 M = some q → K 64 [pf_R 40 0, pf_I x1, pf_I x2] [] M := by
    intro  h
    unfold jX12_box_64 at h
    refine r_aload_n R 65 dX12_box_64 rfl rfl ?_
    refine r_getfield R 68 dX12_box_65 rfl fl_X12_64 rfl (show _ = pf_R 59 0 from rfl) ?_
    refine r_iconst R 69 dX12_box_68 rfl ic_iconst_2 ?_
    refine r_iload_n R 70 dX12_box_69 rfl rfl ?_
    refine r_imul R 71 dX12_box_70 rfl ?_
    refine r_iload_n R 72 dX12_box_71 rfl rfl ?_
    refine r_iadd R 73 dX12_box_72 rfl ?_
    obtain ⟨hi8, h⟩ := pf_gd h
    refine r_iaload R 74 dX12_box_73 rfl ⟨rfl, rfl⟩ (pf_in_iff.mp hi8) ?_
    obtain rfl := Option.some.inj h
    exact r_ireturn R dX12_box_74 rfl rfl rfl rfl
  unfold fX12_box at h
  refine r_aload_n R 1 dX12_box_0 rfl rfl ?_
  refine r_iload_n R 2 dX12_box_1 rfl rfl ?_
  refine r_cvI1 R 5 dX12_box_2 rfl lk_X12_236 rfl (c_X12_isDevice G x1 M _ rfl) rfl rfl rfl ?_
  refine r_if_eq R 8 20 dX12_box_5 rfl (by decide) (fun hc => ?_) (fun hc => ?_)
  · have h := pf_ifp hc h
    refine r_iconst R 21 dX12_box_20 rfl ic_iconst_m1 ?_
    obtain rfl := Option.some.inj h
    exact r_ireturn R dX12_box_21 rfl rfl rfl rfl
  · have h := pf_ifn hc h
    refine r_iload_n R 9 dX12_box_8 rfl rfl ?_
    refine r_i2l R 10 dX12_box_9 rfl ?_
    refine r_lconst R 11 dX12_box_10 rfl lc_0 ?_
    refine r_ldc2_w R 14 dX12_box_11 rfl kc_X12_270 ?_
    refine r_csI3 R 17 dX12_box_14 rfl lk_X12_145 (c_X12_in G x2.toInt64 (0 : Int64) (7 : Int64) _ rfl) rfl rfl rfl ?_
    refine r_if_ne R 20 22 dX12_box_17 rfl (by decide) (fun hc => ?_) (fun hc => ?_)
    · have h := pf_ifp hc h
      refine r_iconst R 21 dX12_box_20 rfl ic_iconst_m1 ?_
      obtain rfl := Option.some.inj h
      exact r_ireturn R dX12_box_21 rfl rfl rfl rfl
    · have h := pf_ifn hc h
      refine r_iload_n R 23 dX12_box_22 rfl rfl ?_
      by_cases hs23_0 : x2 = (0 : Int32)
      · have h := pf_ifp hs23_0 h
        refine r_swIn R 64 (41) dX12_box_23 (by rw [hs23_0]; decide) (by rw [hs23_0]; decide) (by rw [hs23_0]; rfl) (by decide) ?_
        exact hj64 h
      have h := pf_ifn hs23_0 h
      by_cases hs23_1 : x2 = (1 : Int32)
      · have h := pf_ifp hs23_1 h
        refine r_swIn R 64 (41) dX12_box_23 (by rw [hs23_1]; decide) (by rw [hs23_1]; decide) (by rw [hs23_1]; rfl) (by decide) ?_
        exact hj64 h
      have h := pf_ifn hs23_1 h
      by_cases hs23_2 : x2 = (2 : Int32)
      · have h := pf_ifp hs23_2 h
        refine r_swIn R 75 (52) dX12_box_23 (by rw [hs23_2]; decide) (by rw [hs23_2]; decide) (by rw [hs23_2]; rfl) (by decide) ?_
        exact hj75 h
      have h := pf_ifn hs23_2 h
      by_cases hs23_3 : x2 = (3 : Int32)
      · have h := pf_ifp hs23_3 h
        refine r_swIn R 75 (52) dX12_box_23 (by rw [hs23_3]; decide) (by rw [hs23_3]; decide) (by rw [hs23_3]; rfl) (by decide) ?_
        exact hj75 h
      have h := pf_ifn hs23_3 h
      by_cases hs23_4 : x2 = (4 : Int32)
      · have h := pf_ifp hs23_4 h
        refine r_swIn R 88 (65) dX12_box_23 (by rw [hs23_4]; decide) (by rw [hs23_4]; decide) (by rw [hs23_4]; rfl) (by decide) ?_
        exact hj88 h
      have h := pf_ifn hs23_4 h
      by_cases hs23_5 : x2 = (5 : Int32)
      · have h := pf_ifp hs23_5 h
        refine r_swIn R 88 (65) dX12_box_23 (by rw [hs23_5]; decide) (by rw [hs23_5]; decide) (by rw [hs23_5]; rfl) (by decide) ?_
        exact hj88 h
      have h := pf_ifn hs23_5 h
      by_cases hs23_6 : x2 = (6 : Int32)
      · have h := pf_ifp hs23_6 h
        refine r_swIn R 101 (78) dX12_box_23 (by rw [hs23_6]; decide) (by rw [hs23_6]; decide) (by rw [hs23_6]; rfl) (by decide) ?_
        refine r_aload_n R 102 dX12_box_101 rfl rfl ?_
        refine r_getfield R 105 dX12_box_102 rfl fl_X12_73 rfl (show _ = pf_R 62 0 from rfl) ?_
        refine r_iload_n R 106 dX12_box_105 rfl rfl ?_
        obtain ⟨hi9, h⟩ := pf_gd h
        refine r_iaload R 107 dX12_box_106 rfl ⟨rfl, rfl⟩ (pf_in_iff.mp hi9) ?_
        obtain rfl := Option.some.inj h
        exact r_ireturn R dX12_box_107 rfl rfl rfl rfl
      have h := pf_ifn hs23_6 h
      refine r_swOut R 108 dX12_box_23 (pf_swo 7 (by decide) (fun k hk => by
          rcases (show k = 0 ∨ k = 1 ∨ k = 2 ∨ k = 3 ∨ k = 4 ∨ k = 5 ∨ k = 6 by omega) with rfl | rfl | rfl | rfl | rfl | rfl | rfl
          · exact hs23_0
          · exact hs23_1
          · exact hs23_2
          · exact hs23_3
          · exact hs23_4
          · exact hs23_5
          · exact hs23_6)) (by decide) ?_
      refine r_aload_n R 109 dX12_box_108 rfl rfl ?_
      refine r_getfield R 112 dX12_box_109 rfl fl_X12_76 rfl (show _ = pf_R 63 0 from rfl) ?_
      refine r_iload_n R 113 dX12_box_112 rfl rfl ?_
      obtain ⟨hi10, h⟩ := pf_gd h
      refine r_iaload R 114 dX12_box_113 rfl ⟨rfl, rfl⟩ (pf_in_iff.mp hi10) ?_
      obtain rfl := Option.some.inj h
      exact r_ireturn R dX12_box_114 rfl rfl rfl rfl
def jX12_byteAt_30 (x1 : Int32) (x2 : Int32) (M : pf_M) (s30_0 : Int64) : Option (Int32) :=
  (if x2 = (0 : Int32) then (if pf_in x1 8 = true then some (M 46 0 x1.toNatClampNeg)
  else none)
  else (if x2 = (1 : Int32) then (if pf_in x1 8 = true then some (M 51 0 x1.toNatClampNeg)
  else none)
  else (if x2 = (2 : Int32) then some (s30_0.toInt32 - s30_0.toInt32 / (256 : Int32) * (256 : Int32))
  else (if x2 = (3 : Int32) then some (s30_0.toInt32 / (256 : Int32))
  else (if pf_in (((16 : Int32) * x1) + x2) 128 = true then some (M 52 0 (((16 : Int32) * x1) + x2).toNatClampNeg)
  else none)))))
def fX12_byteAt (x1 : Int32) (x2 : Int32) (x3 : Int32) (M : pf_M) : Option (Int32) :=
  ((fX12_systemAt x1 x3 M).bind fun r8 => (if (0 : Int32) ≤ (lg_cmp (r8 - r8 / (65536 : Int64) * (65536 : Int64)) (0 : Int64)) then jX12_byteAt_30 x1 x2 M (r8 - r8 / (65536 : Int64) * (65536 : Int64))
  else jX12_byteAt_30 x1 x2 M ((r8 - r8 / (65536 : Int64) * (65536 : Int64)) + (65536 : Int64))))
set_option maxRecDepth 4000 in
theorem c_X12_byteAt (G : pf_G) (x1 : Int32) (x2 : Int32) (x3 : Int32) (M : pf_M) (q : Int32) (h : fX12_byteAt x1 x2 x3 M = some q) : pf_Met G yX12_byteAt cX12_byteAt 7 (some .int) 2 48 [pf_R 40 0, pf_I x1, pf_I x2, pf_I x3] M (some (pf_I q)) M := by
  refine pf_Met.of (by decide +kernel) (Nat.le_of_ble_eq_true rfl) (fun K R => ?_)
  show K 0 [pf_R 40 0, pf_I x1, pf_I x2, pf_I x3, pf_U, pf_U, pf_U] [] M
  have hj30 : ∀ (s30_0 : Int64), jX12_byteAt_30 x1 x2 M s30_0 = some q → K 30 [pf_R 40 0, pf_I x1, pf_I x2, pf_U, pf_U, pf_U, pf_U] [pf_L s30_0] M := by
    intro s30_0 h
    unfold jX12_byteAt_30 at h
    refine r_l2i R 31 dX12_byteAt_30 rfl ?_
    refine r_istore R 33 dX12_byteAt_31 rfl rfl (show _ = [pf_R 40 0, pf_I x1, pf_I x2, pf_U, pf_U, pf_U, pf_I s30_0.toInt32] from rfl) ?_
    refine r_iload_n R 34 dX12_byteAt_33 rfl rfl ?_
    by_cases hs34_0 : x2 = (0 : Int32)
    · have h := pf_ifp hs34_0 h
      refine r_swIn R 64 (30) dX12_byteAt_34 (by rw [hs34_0]; decide) (by rw [hs34_0]; decide) (by rw [hs34_0]; rfl) (by decide) ?_
      refine r_aload_n R 65 dX12_byteAt_64 rfl rfl ?_
      refine r_getfield R 68 dX12_byteAt_65 rfl fl_X12_25 rfl (show _ = pf_R 46 0 from rfl) ?_
      refine r_iload_n R 69 dX12_byteAt_68 rfl rfl ?_
      obtain ⟨hi5, h⟩ := pf_gd h
      refine r_iaload R 70 dX12_byteAt_69 rfl ⟨rfl, rfl⟩ (pf_in_iff.mp hi5) ?_
      obtain rfl := Option.some.inj h
      exact r_ireturn R dX12_byteAt_70 rfl rfl rfl rfl
    have h := pf_ifn hs34_0 h
    by_cases hs34_1 : x2 = (1 : Int32)
    · have h := pf_ifp hs34_1 h
      refine r_swIn R 71 (37) dX12_byteAt_34 (by rw [hs34_1]; decide) (by rw [hs34_1]; decide) (by rw [hs34_1]; rfl) (by decide) ?_
      refine r_aload_n R 72 dX12_byteAt_71 rfl rfl ?_
      refine r_getfield R 75 dX12_byteAt_72 rfl fl_X12_40 rfl (show _ = pf_R 51 0 from rfl) ?_
      refine r_iload_n R 76 dX12_byteAt_75 rfl rfl ?_
      obtain ⟨hi6, h⟩ := pf_gd h
      refine r_iaload R 77 dX12_byteAt_76 rfl ⟨rfl, rfl⟩ (pf_in_iff.mp hi6) ?_
      obtain rfl := Option.some.inj h
      exact r_ireturn R dX12_byteAt_77 rfl rfl rfl rfl
    have h := pf_ifn hs34_1 h
    by_cases hs34_2 : x2 = (2 : Int32)
    · have h := pf_ifp hs34_2 h
      refine r_swIn R 78 (44) dX12_byteAt_34 (by rw [hs34_2]; decide) (by rw [hs34_2]; decide) (by rw [hs34_2]; rfl) (by decide) ?_
      refine r_iload R 80 dX12_byteAt_78 rfl rfl ?_
      refine r_sipush R 83 dX12_byteAt_80 rfl ic_sipush_256 ?_
      refine r_irem R 84 dX12_byteAt_83 rfl (by decide) ?_
      obtain rfl := Option.some.inj h
      exact r_ireturn R dX12_byteAt_84 rfl rfl rfl rfl
    have h := pf_ifn hs34_2 h
    by_cases hs34_3 : x2 = (3 : Int32)
    · have h := pf_ifp hs34_3 h
      refine r_swIn R 85 (51) dX12_byteAt_34 (by rw [hs34_3]; decide) (by rw [hs34_3]; decide) (by rw [hs34_3]; rfl) (by decide) ?_
      refine r_iload R 87 dX12_byteAt_85 rfl rfl ?_
      refine r_sipush R 90 dX12_byteAt_87 rfl ic_sipush_256 ?_
      refine r_idiv R 91 dX12_byteAt_90 rfl (by decide) ?_
      obtain rfl := Option.some.inj h
      exact r_ireturn R dX12_byteAt_91 rfl rfl rfl rfl
    have h := pf_ifn hs34_3 h
    refine r_swOut R 92 dX12_byteAt_34 (pf_swo 4 (by decide) (fun k hk => by
        rcases (show k = 0 ∨ k = 1 ∨ k = 2 ∨ k = 3 by omega) with rfl | rfl | rfl | rfl
        · exact hs34_0
        · exact hs34_1
        · exact hs34_2
        · exact hs34_3)) (by decide) ?_
    refine r_aload_n R 93 dX12_byteAt_92 rfl rfl ?_
    refine r_getfield R 96 dX12_byteAt_93 rfl fl_X12_43 rfl (show _ = pf_R 52 0 from rfl) ?_
    refine r_bipush R 98 dX12_byteAt_96 rfl ic_bipush_16 ?_
    refine r_iload_n R 99 dX12_byteAt_98 rfl rfl ?_
    refine r_imul R 100 dX12_byteAt_99 rfl ?_
    refine r_iload_n R 101 dX12_byteAt_100 rfl rfl ?_
    refine r_iadd R 102 dX12_byteAt_101 rfl ?_
    obtain ⟨hi7, h⟩ := pf_gd h
    refine r_iaload R 103 dX12_byteAt_102 rfl ⟨rfl, rfl⟩ (pf_in_iff.mp hi7) ?_
    obtain rfl := Option.some.inj h
    exact r_ireturn R dX12_byteAt_103 rfl rfl rfl rfl
  unfold fX12_byteAt at h
  refine r_aload_n R 1 dX12_byteAt_0 rfl rfl ?_
  refine r_iload_n R 2 dX12_byteAt_1 rfl rfl ?_
  refine r_iload_n R 3 dX12_byteAt_2 rfl rfl ?_
  obtain ⟨r8, hr8, h⟩ := pf_bd h
  refine r_cvL2 R 6 dX12_byteAt_3 rfl lk_X12_231 rfl (c_X12_systemAt G x1 x3 M _ hr8) rfl rfl rfl ?_
  refine r_ldc2_w R 9 dX12_byteAt_6 rfl kc_X12_234 ?_
  refine r_lrem R 10 dX12_byteAt_9 rfl (by decide) ?_
  refine r_lstore R 12 dX12_byteAt_10 rfl rfl (show _ = [pf_R 40 0, pf_I x1, pf_I x2, pf_I x3, pf_L (r8 - r8 / (65536 : Int64) * (65536 : Int64)), pf_U, pf_U] from rfl) ?_
  refine r_lload R 14 dX12_byteAt_12 rfl rfl ?_
  refine r_lconst R 15 dX12_byteAt_14 rfl lc_0 ?_
  refine r_lcmp R 16 dX12_byteAt_15 rfl ?_
  refine r_if_ge R 19 28 dX12_byteAt_16 rfl (by decide) (fun hc => ?_) (fun hc => ?_)
  · have h := pf_ifp hc h
    refine r_lload R 30 dX12_byteAt_28 rfl rfl ?_
    refine r_fg R [true, true, true, false, false, true, true] (show _ = [pf_R 40 0, pf_I x1, pf_I x2, pf_U, pf_U, pf_U, pf_U] from rfl) ?_
    exact hj30 _ h
  · have h := pf_ifn hc h
    refine r_lload R 21 dX12_byteAt_19 rfl rfl ?_
    refine r_ldc2_w R 24 dX12_byteAt_21 rfl kc_X12_234 ?_
    refine r_ladd R 25 dX12_byteAt_24 rfl ?_
    refine r_goto R 30 dX12_byteAt_25 (by decide) ?_
    refine r_fg R [true, true, true, false, false, true, true] (show _ = [pf_R 40 0, pf_I x1, pf_I x2, pf_U, pf_U, pf_U, pf_U] from rfl) ?_
    exact hj30 _ h
def fX12_byteOver (x1 : Int32) (x2 : Int32) (x3 : Int32) (M : pf_M) : Option (Int32) :=
  (if pf_in (((2 : Int32) * x1) + x2) 16 = true then (if pf_in (((2 : Int32) * x1) + x2) 16 = true then (if pf_in (((2 : Int32) * x1) + x2) 16 = true then (if (fX12_in x3.toInt64 ((M 55 0 (((2 : Int32) * x1) + x2).toNatClampNeg).toInt64) ((((M 55 0 (((2 : Int32) * x1) + x2).toNatClampNeg) + (M 56 0 (((2 : Int32) * x1) + x2).toNatClampNeg)) - (1 : Int32)).toInt64)) = (0 : Int32) then some (-4 : Int32)
  else (if pf_in (((2 : Int32) * x1) + x2) 16 = true then (if pf_in (((2 : Int32) * x1) + x2) 16 = true then some (((M 57 0 (((2 : Int32) * x1) + x2).toNatClampNeg) + x3) - (M 55 0 (((2 : Int32) * x1) + x2).toNatClampNeg))
  else none)
  else none))
  else none)
  else none)
  else none)
set_option maxRecDepth 4000 in
theorem c_X12_byteOver (G : pf_G) (x1 : Int32) (x2 : Int32) (x3 : Int32) (M : pf_M) (q : Int32) (h : fX12_byteOver x1 x2 x3 M = some q) : pf_Met G yX12_byteOver cX12_byteOver 5 (some .int) 1 25 [pf_R 40 0, pf_I x1, pf_I x2, pf_I x3] M (some (pf_I q)) M := by
  refine pf_Met.of (by decide +kernel) (Nat.le_of_ble_eq_true rfl) (fun K R => ?_)
  show K 0 [pf_R 40 0, pf_I x1, pf_I x2, pf_I x3, pf_U] [] M
  unfold fX12_byteOver at h
  refine r_iconst R 1 dX12_byteOver_0 rfl ic_iconst_2 ?_
  refine r_iload_n R 2 dX12_byteOver_1 rfl rfl ?_
  refine r_imul R 3 dX12_byteOver_2 rfl ?_
  refine r_iload_n R 4 dX12_byteOver_3 rfl rfl ?_
  refine r_iadd R 5 dX12_byteOver_4 rfl ?_
  refine r_istore R 7 dX12_byteOver_5 rfl rfl (show _ = [pf_R 40 0, pf_I x1, pf_I x2, pf_I x3, pf_I (((2 : Int32) * x1) + x2)] from rfl) ?_
  refine r_iload_n R 8 dX12_byteOver_7 rfl rfl ?_
  refine r_i2l R 9 dX12_byteOver_8 rfl ?_
  refine r_aload_n R 10 dX12_byteOver_9 rfl rfl ?_
  refine r_getfield R 13 dX12_byteOver_10 rfl fl_X12_52 rfl (show _ = pf_R 55 0 from rfl) ?_
  refine r_iload R 15 dX12_byteOver_13 rfl rfl ?_
  obtain ⟨hi6, h⟩ := pf_gd h
  refine r_iaload R 16 dX12_byteOver_15 rfl ⟨rfl, rfl⟩ (pf_in_iff.mp hi6) ?_
  refine r_i2l R 17 dX12_byteOver_16 rfl ?_
  refine r_aload_n R 18 dX12_byteOver_17 rfl rfl ?_
  refine r_getfield R 21 dX12_byteOver_18 rfl fl_X12_52 rfl (show _ = pf_R 55 0 from rfl) ?_
  refine r_iload R 23 dX12_byteOver_21 rfl rfl ?_
  obtain ⟨hi7, h⟩ := pf_gd h
  refine r_iaload R 24 dX12_byteOver_23 rfl ⟨rfl, rfl⟩ (pf_in_iff.mp hi7) ?_
  refine r_aload_n R 25 dX12_byteOver_24 rfl rfl ?_
  refine r_getfield R 28 dX12_byteOver_25 rfl fl_X12_55 rfl (show _ = pf_R 56 0 from rfl) ?_
  refine r_iload R 30 dX12_byteOver_28 rfl rfl ?_
  obtain ⟨hi8, h⟩ := pf_gd h
  refine r_iaload R 31 dX12_byteOver_30 rfl ⟨rfl, rfl⟩ (pf_in_iff.mp hi8) ?_
  refine r_iadd R 32 dX12_byteOver_31 rfl ?_
  refine r_iconst R 33 dX12_byteOver_32 rfl ic_iconst_1 ?_
  refine r_isub R 34 dX12_byteOver_33 rfl ?_
  refine r_i2l R 35 dX12_byteOver_34 rfl ?_
  refine r_csI3 R 38 dX12_byteOver_35 rfl lk_X12_145 (c_X12_in G x3.toInt64 ((M 55 0 (((2 : Int32) * x1) + x2).toNatClampNeg).toInt64) ((((M 55 0 (((2 : Int32) * x1) + x2).toNatClampNeg) + (M 56 0 (((2 : Int32) * x1) + x2).toNatClampNeg)) - (1 : Int32)).toInt64) _ rfl) rfl rfl rfl ?_
  refine r_if_eq R 41 61 dX12_byteOver_38 rfl (by decide) (fun hc => ?_) (fun hc => ?_)
  · have h := pf_ifp hc h
    refine r_bipush R 63 dX12_byteOver_61 rfl ic_bipush_m4 ?_
    obtain rfl := Option.some.inj h
    exact r_ireturn R dX12_byteOver_63 rfl rfl rfl rfl
  · have h := pf_ifn hc h
    refine r_aload_n R 42 dX12_byteOver_41 rfl rfl ?_
    refine r_getfield R 45 dX12_byteOver_42 rfl fl_X12_58 rfl (show _ = pf_R 57 0 from rfl) ?_
    refine r_iload R 47 dX12_byteOver_45 rfl rfl ?_
    obtain ⟨hi9, h⟩ := pf_gd h
    refine r_iaload R 48 dX12_byteOver_47 rfl ⟨rfl, rfl⟩ (pf_in_iff.mp hi9) ?_
    refine r_iload_n R 49 dX12_byteOver_48 rfl rfl ?_
    refine r_iadd R 50 dX12_byteOver_49 rfl ?_
    refine r_aload_n R 51 dX12_byteOver_50 rfl rfl ?_
    refine r_getfield R 54 dX12_byteOver_51 rfl fl_X12_52 rfl (show _ = pf_R 55 0 from rfl) ?_
    refine r_iload R 56 dX12_byteOver_54 rfl rfl ?_
    obtain ⟨hi10, h⟩ := pf_gd h
    refine r_iaload R 57 dX12_byteOver_56 rfl ⟨rfl, rfl⟩ (pf_in_iff.mp hi10) ?_
    refine r_isub R 58 dX12_byteOver_57 rfl ?_
    refine r_goto R 63 dX12_byteOver_58 (by decide) ?_
    obtain rfl := Option.some.inj h
    exact r_ireturn R dX12_byteOver_63 rfl rfl rfl rfl
def fX12_clear (x1 : Int32) (M : pf_M) : Option (Int32 × pf_M) :=
  (if (fX12_in x1.toInt64 (0 : Int64) (3 : Int64)) = (0 : Int32) then some ((-1 : Int32), M)
  else (if pf_in x1 4 = true then (if pf_in x1 4 = true then (if (M 64 0 x1.toNatClampNeg) = (0 : Int32) then some ((-2 : Int32), (pf_up M 64 0 x1.toNatClampNeg (0 : Int32)))
  else some (M 64 0 x1.toNatClampNeg, (pf_up M 64 0 x1.toNatClampNeg (0 : Int32))))
  else none)
  else none))
set_option maxRecDepth 4000 in
theorem c_X12_clear (G : pf_G) (x1 : Int32) (M : pf_M) (q : Int32 × pf_M) (h : fX12_clear x1 M = some q) : pf_Met G yX12_clear cX12_clear 3 (some .int) 1 25 [pf_R 40 0, pf_I x1] M (some (pf_I q.1)) q.2 := by
  refine pf_Met.of (by decide +kernel) (Nat.le_of_ble_eq_true rfl) (fun K R => ?_)
  show K 0 [pf_R 40 0, pf_I x1, pf_U] [] M
  unfold fX12_clear at h
  refine r_iload_n R 1 dX12_clear_0 rfl rfl ?_
  refine r_i2l R 2 dX12_clear_1 rfl ?_
  refine r_lconst R 3 dX12_clear_2 rfl lc_0 ?_
  refine r_ldc2_w R 6 dX12_clear_3 rfl kc_X12_260 ?_
  refine r_csI3 R 9 dX12_clear_6 rfl lk_X12_145 (c_X12_in G x1.toInt64 (0 : Int64) (3 : Int64) _ rfl) rfl rfl rfl ?_
  refine r_if_ne R 12 14 dX12_clear_9 rfl (by decide) (fun hc => ?_) (fun hc => ?_)
  · have h := pf_ifp hc h
    refine r_iconst R 13 dX12_clear_12 rfl ic_iconst_m1 ?_
    obtain rfl := Option.some.inj h
    exact r_ireturn R dX12_clear_13 rfl rfl rfl rfl
  · have h := pf_ifn hc h
    refine r_aload_n R 15 dX12_clear_14 rfl rfl ?_
    refine r_getfield R 18 dX12_clear_15 rfl fl_X12_79 rfl (show _ = pf_R 64 0 from rfl) ?_
    refine r_iload_n R 19 dX12_clear_18 rfl rfl ?_
    obtain ⟨hi3, h⟩ := pf_gd h
    refine r_iaload R 20 dX12_clear_19 rfl ⟨rfl, rfl⟩ (pf_in_iff.mp hi3) ?_
    refine r_istore_n R 21 dX12_clear_20 rfl rfl (show _ = [pf_R 40 0, pf_I x1, pf_I (M 64 0 x1.toNatClampNeg)] from rfl) ?_
    refine r_aload_n R 22 dX12_clear_21 rfl rfl ?_
    refine r_getfield R 25 dX12_clear_22 rfl fl_X12_79 rfl (show _ = pf_R 64 0 from rfl) ?_
    refine r_iload_n R 26 dX12_clear_25 rfl rfl ?_
    refine r_iconst R 27 dX12_clear_26 rfl ic_iconst_0 ?_
    obtain ⟨hi4, h⟩ := pf_gd h
    refine r_iastore R 28 dX12_clear_27 rfl ⟨rfl, rfl⟩ (pf_in_iff.mp hi4) ?_
    refine r_iload_n R 29 dX12_clear_28 rfl rfl ?_
    refine r_if_ne R 32 37 dX12_clear_29 rfl (by decide) (fun hc => ?_) (fun hc => ?_)
    · have h := pf_ifp hc h
      refine r_bipush R 34 dX12_clear_32 rfl ic_bipush_m2 ?_
      refine r_goto R 38 dX12_clear_34 (by decide) ?_
      obtain rfl := Option.some.inj h
      exact r_ireturn R dX12_clear_38 rfl rfl rfl rfl
    · have h := pf_ifn hc h
      refine r_iload_n R 38 dX12_clear_37 rfl rfl ?_
      obtain rfl := Option.some.inj h
      exact r_ireturn R dX12_clear_38 rfl rfl rfl rfl
def fX12_clock (x1 : Int32) (x2 : Int32) (M : pf_M) : Option (Int32) :=
  (if (fX12_isDevice x1 M) = (0 : Int32) then some (-1 : Int32)
  else (if (fX12_in x2.toInt64 (0 : Int64) (3 : Int64)) = (0 : Int32) then some (-1 : Int32)
  else (if x2 = (0 : Int32) then ((fX12_ownAt x1 (M 40 0 22) M).bind fun r5 => some (r5.toInt32 + (100000000 : Int32)))
  else (if x2 = (1 : Int32) then ((fX12_systemAt x1 (M 40 0 22) M).bind fun r6 => some (r6.toInt32 + (100000000 : Int32)))
  else (if x2 = (2 : Int32) then (if pf_in x1 8 = true then some ((M 53 0 x1.toNatClampNeg) + (100000000 : Int32))
  else none)
  else (if pf_in x1 8 = true then some (M 54 0 x1.toNatClampNeg)
  else none))))))
set_option maxRecDepth 4000 in
theorem c_X12_clock (G : pf_G) (x1 : Int32) (x2 : Int32) (M : pf_M) (q : Int32) (h : fX12_clock x1 x2 M = some q) : pf_Met G yX12_clock cX12_clock 3 (some .int) 2 48 [pf_R 40 0, pf_I x1, pf_I x2] M (some (pf_I q)) M := by
  refine pf_Met.of (by decide +kernel) (Nat.le_of_ble_eq_true rfl) (fun K R => ?_)
  show K 0 [pf_R 40 0, pf_I x1, pf_I x2] [] M
  unfold fX12_clock at h
  refine r_aload_n R 1 dX12_clock_0 rfl rfl ?_
  refine r_iload_n R 2 dX12_clock_1 rfl rfl ?_
  refine r_cvI1 R 5 dX12_clock_2 rfl lk_X12_236 rfl (c_X12_isDevice G x1 M _ rfl) rfl rfl rfl ?_
  refine r_if_eq R 8 20 dX12_clock_5 rfl (by decide) (fun hc => ?_) (fun hc => ?_)
  · have h := pf_ifp hc h
    refine r_iconst R 21 dX12_clock_20 rfl ic_iconst_m1 ?_
    obtain rfl := Option.some.inj h
    exact r_ireturn R dX12_clock_21 rfl rfl rfl rfl
  · have h := pf_ifn hc h
    refine r_iload_n R 9 dX12_clock_8 rfl rfl ?_
    refine r_i2l R 10 dX12_clock_9 rfl ?_
    refine r_lconst R 11 dX12_clock_10 rfl lc_0 ?_
    refine r_ldc2_w R 14 dX12_clock_11 rfl kc_X12_260 ?_
    refine r_csI3 R 17 dX12_clock_14 rfl lk_X12_145 (c_X12_in G x2.toInt64 (0 : Int64) (3 : Int64) _ rfl) rfl rfl rfl ?_
    refine r_if_ne R 20 22 dX12_clock_17 rfl (by decide) (fun hc => ?_) (fun hc => ?_)
    · have h := pf_ifp hc h
      refine r_iconst R 21 dX12_clock_20 rfl ic_iconst_m1 ?_
      obtain rfl := Option.some.inj h
      exact r_ireturn R dX12_clock_21 rfl rfl rfl rfl
    · have h := pf_ifn hc h
      refine r_iload_n R 23 dX12_clock_22 rfl rfl ?_
      by_cases hs23_0 : x2 = (0 : Int32)
      · have h := pf_ifp hs23_0 h
        refine r_swIn R 48 (25) dX12_clock_23 (by rw [hs23_0]; decide) (by rw [hs23_0]; decide) (by rw [hs23_0]; rfl) (by decide) ?_
        refine r_aload_n R 49 dX12_clock_48 rfl rfl ?_
        refine r_iload_n R 50 dX12_clock_49 rfl rfl ?_
        refine r_aload_n R 51 dX12_clock_50 rfl rfl ?_
        refine r_getfield R 54 dX12_clock_51 rfl fl_X12_193 rfl (show _ = pf_I (M 40 0 22) from rfl) ?_
        obtain ⟨r5, hr5, h⟩ := pf_bd h
        refine r_cvL2 R 57 dX12_clock_54 rfl lk_X12_227 rfl (c_X12_ownAt G x1 (M 40 0 22) M _ hr5) rfl rfl rfl ?_
        refine r_l2i R 58 dX12_clock_57 rfl ?_
        refine r_ldc_w R 61 dX12_clock_58 rfl kc_X12_333 ?_
        refine r_iadd R 62 dX12_clock_61 rfl ?_
        obtain rfl := Option.some.inj h
        exact r_ireturn R dX12_clock_62 rfl rfl rfl rfl
      have h := pf_ifn hs23_0 h
      by_cases hs23_1 : x2 = (1 : Int32)
      · have h := pf_ifp hs23_1 h
        refine r_swIn R 63 (40) dX12_clock_23 (by rw [hs23_1]; decide) (by rw [hs23_1]; decide) (by rw [hs23_1]; rfl) (by decide) ?_
        refine r_aload_n R 64 dX12_clock_63 rfl rfl ?_
        refine r_iload_n R 65 dX12_clock_64 rfl rfl ?_
        refine r_aload_n R 66 dX12_clock_65 rfl rfl ?_
        refine r_getfield R 69 dX12_clock_66 rfl fl_X12_193 rfl (show _ = pf_I (M 40 0 22) from rfl) ?_
        obtain ⟨r6, hr6, h⟩ := pf_bd h
        refine r_cvL2 R 72 dX12_clock_69 rfl lk_X12_231 rfl (c_X12_systemAt G x1 (M 40 0 22) M _ hr6) rfl rfl rfl ?_
        refine r_l2i R 73 dX12_clock_72 rfl ?_
        refine r_ldc_w R 76 dX12_clock_73 rfl kc_X12_333 ?_
        refine r_iadd R 77 dX12_clock_76 rfl ?_
        obtain rfl := Option.some.inj h
        exact r_ireturn R dX12_clock_77 rfl rfl rfl rfl
      have h := pf_ifn hs23_1 h
      by_cases hs23_2 : x2 = (2 : Int32)
      · have h := pf_ifp hs23_2 h
        refine r_swIn R 78 (55) dX12_clock_23 (by rw [hs23_2]; decide) (by rw [hs23_2]; decide) (by rw [hs23_2]; rfl) (by decide) ?_
        refine r_aload_n R 79 dX12_clock_78 rfl rfl ?_
        refine r_getfield R 82 dX12_clock_79 rfl fl_X12_46 rfl (show _ = pf_R 53 0 from rfl) ?_
        refine r_iload_n R 83 dX12_clock_82 rfl rfl ?_
        obtain ⟨hi7, h⟩ := pf_gd h
        refine r_iaload R 84 dX12_clock_83 rfl ⟨rfl, rfl⟩ (pf_in_iff.mp hi7) ?_
        refine r_ldc_w R 87 dX12_clock_84 rfl kc_X12_333 ?_
        refine r_iadd R 88 dX12_clock_87 rfl ?_
        obtain rfl := Option.some.inj h
        exact r_ireturn R dX12_clock_88 rfl rfl rfl rfl
      have h := pf_ifn hs23_2 h
      refine r_swOut R 89 dX12_clock_23 (pf_swo 3 (by decide) (fun k hk => by
          rcases (show k = 0 ∨ k = 1 ∨ k = 2 by omega) with rfl | rfl | rfl
          · exact hs23_0
          · exact hs23_1
          · exact hs23_2)) (by decide) ?_
      refine r_aload_n R 90 dX12_clock_89 rfl rfl ?_
      refine r_getfield R 93 dX12_clock_90 rfl fl_X12_49 rfl (show _ = pf_R 54 0 from rfl) ?_
      refine r_iload_n R 94 dX12_clock_93 rfl rfl ?_
      obtain ⟨hi8, h⟩ := pf_gd h
      refine r_iaload R 95 dX12_clock_94 rfl ⟨rfl, rfl⟩ (pf_in_iff.mp hi8) ?_
      obtain rfl := Option.some.inj h
      exact r_ireturn R dX12_clock_95 rfl rfl rfl rfl
def lX12_cutMany_4 (M : pf_M) : Nat → Int32 → Int32 → Option (Int32)
  | 0, _, _ => none
  | n + 1, v4_1, v4_2 =>
  (if (M 40 0 10) < v4_2 then some v4_1
  else (if pf_in v4_2 9 = true then (lX12_cutMany_4 M n) (v4_1 + (M 50 0 v4_2.toNatClampNeg)) (v4_2 + (1 : Int32))
  else none))
def fX12_cutMany (M : pf_M) : Option (Int32) :=
  lX12_cutMany_4 M pf_fu (0 : Int32) (0 : Int32)
set_option maxRecDepth 4000 in
theorem c_X12_cutMany (G : pf_G) (M : pf_M) (q : Int32) (h : fX12_cutMany M = some q) : pf_Met G yX12_cutMany cX12_cutMany 3 (some .int) 0 0 [pf_R 40 0] M (some (pf_I q)) M := by
  refine pf_Met.of (by decide +kernel) (Nat.le_of_ble_eq_true rfl) (fun K R => ?_)
  show K 0 [pf_R 40 0, pf_U, pf_U] [] M
  have hl4 : ∀ (n : Nat) (v4_1 : Int32) (v4_2 : Int32), lX12_cutMany_4 M n v4_1 v4_2 = some q → K 4 [pf_R 40 0, pf_I v4_1, pf_I v4_2] [] M := by
    intro n
    induction n with
    | zero =>
      intro v4_1 v4_2 h
      rw [lX12_cutMany_4] at h
      cases h
    | succ n ih4 =>
        intro v4_1 v4_2 h
        rw [lX12_cutMany_4] at h
        refine r_iload_n R 5 dX12_cutMany_4 rfl rfl ?_
        refine r_aload_n R 6 dX12_cutMany_5 rfl rfl ?_
        refine r_getfield R 9 dX12_cutMany_6 rfl fl_X12_180 rfl (show _ = pf_I (M 40 0 10) from rfl) ?_
        refine r_icmp_gt R 12 27 dX12_cutMany_9 rfl (by decide) (fun hc => ?_) (fun hc => ?_)
        · have h := pf_ifp hc h
          refine r_iload_n R 28 dX12_cutMany_27 rfl rfl ?_
          obtain rfl := Option.some.inj h
          exact r_ireturn R dX12_cutMany_28 rfl rfl rfl rfl
        · have h := pf_ifn hc h
          refine r_iload_n R 13 dX12_cutMany_12 rfl rfl ?_
          refine r_aload_n R 14 dX12_cutMany_13 rfl rfl ?_
          refine r_getfield R 17 dX12_cutMany_14 rfl fl_X12_37 rfl (show _ = pf_R 50 0 from rfl) ?_
          refine r_iload_n R 18 dX12_cutMany_17 rfl rfl ?_
          obtain ⟨hi1, h⟩ := pf_gd h
          refine r_iaload R 19 dX12_cutMany_18 rfl ⟨rfl, rfl⟩ (pf_in_iff.mp hi1) ?_
          refine r_iadd R 20 dX12_cutMany_19 rfl ?_
          refine r_istore_n R 21 dX12_cutMany_20 rfl rfl (show _ = [pf_R 40 0, pf_I (v4_1 + (M 50 0 v4_2.toNatClampNeg)), pf_I v4_2] from rfl) ?_
          refine r_iinc R 24 dX12_cutMany_21 rfl rfl ic_iconst_1 (show _ = [pf_R 40 0, pf_I (v4_1 + (M 50 0 v4_2.toNatClampNeg)), pf_I (v4_2 + (1 : Int32))] from rfl) ?_
          refine r_goto R 4 dX12_cutMany_24 (by decide) ?_
          exact ih4 _ _ h
  unfold fX12_cutMany at h
  refine r_iconst R 1 dX12_cutMany_0 rfl ic_iconst_0 ?_
  refine r_istore_n R 2 dX12_cutMany_1 rfl rfl (show _ = [pf_R 40 0, pf_I (0 : Int32), pf_U] from rfl) ?_
  refine r_iconst R 3 dX12_cutMany_2 rfl ic_iconst_0 ?_
  refine r_istore_n R 4 dX12_cutMany_3 rfl rfl (show _ = [pf_R 40 0, pf_I (0 : Int32), pf_I (0 : Int32)] from rfl) ?_
  exact hl4 pf_fu _ _ h
def fX12_count (x1 : Int32) (M : pf_M) : Option (Int32) :=
  (if x1 = (0 : Int32) then some (M 40 0 10)
  else (if x1 = (1 : Int32) then some (M 40 0 22)
  else (if x1 = (2 : Int32) then ((fX12_cutMany M).bind fun r6 => some r6)
  else (if x1 = (3 : Int32) then ((fX12_sideA M).bind fun r7 => some r7)
  else (if x1 = (4 : Int32) then ((fX12_firstB M).bind fun r8 => some ((M 40 0 10) - r8))
  else (if x1 = (5 : Int32) then some (M 40 0 46)
  else (if x1 = (6 : Int32) then some (M 40 0 44)
  else (if x1 = (7 : Int32) then some (M 40 0 23)
  else (if x1 = (8 : Int32) then some (M 40 0 0)
  else (if x1 = (9 : Int32) then (if pf_in (M 40 0 10) 9 = true then some (M 47 0 (M 40 0 10).toNatClampNeg)
  else none)
  else (if x1 = (10 : Int32) then some (M 40 0 15)
  else (if x1 = (11 : Int32) then some (M 40 0 16)
  else (if x1 = (12 : Int32) then ((fX12_trip M).bind fun r10 => some r10)
  else some (-1 : Int32))))))))))))))
set_option maxRecDepth 4000 in
theorem c_X12_count (G : pf_G) (x1 : Int32) (M : pf_M) (q : Int32) (h : fX12_count x1 M = some q) : pf_Met G yX12_count cX12_count 2 (some .int) 2 46 [pf_R 40 0, pf_I x1] M (some (pf_I q)) M := by
  refine pf_Met.of (by decide +kernel) (Nat.le_of_ble_eq_true rfl) (fun K R => ?_)
  show K 0 [pf_R 40 0, pf_I x1] [] M
  unfold fX12_count at h
  refine r_iload_n R 1 dX12_count_0 rfl rfl ?_
  by_cases hs1_0 : x1 = (0 : Int32)
  · have h := pf_ifp hs1_0 h
    refine r_swIn R 68 (67) dX12_count_1 (by rw [hs1_0]; decide) (by rw [hs1_0]; decide) (by rw [hs1_0]; rfl) (by decide) ?_
    refine r_aload_n R 69 dX12_count_68 rfl rfl ?_
    refine r_getfield R 72 dX12_count_69 rfl fl_X12_180 rfl (show _ = pf_I (M 40 0 10) from rfl) ?_
    obtain rfl := Option.some.inj h
    exact r_ireturn R dX12_count_72 rfl rfl rfl rfl
  have h := pf_ifn hs1_0 h
  by_cases hs1_1 : x1 = (1 : Int32)
  · have h := pf_ifp hs1_1 h
    refine r_swIn R 73 (72) dX12_count_1 (by rw [hs1_1]; decide) (by rw [hs1_1]; decide) (by rw [hs1_1]; rfl) (by decide) ?_
    refine r_aload_n R 74 dX12_count_73 rfl rfl ?_
    refine r_getfield R 77 dX12_count_74 rfl fl_X12_193 rfl (show _ = pf_I (M 40 0 22) from rfl) ?_
    obtain rfl := Option.some.inj h
    exact r_ireturn R dX12_count_77 rfl rfl rfl rfl
  have h := pf_ifn hs1_1 h
  by_cases hs1_2 : x1 = (2 : Int32)
  · have h := pf_ifp hs1_2 h
    refine r_swIn R 78 (77) dX12_count_1 (by rw [hs1_2]; decide) (by rw [hs1_2]; decide) (by rw [hs1_2]; rfl) (by decide) ?_
    refine r_aload_n R 79 dX12_count_78 rfl rfl ?_
    obtain ⟨r6, hr6, h⟩ := pf_bd h
    refine r_cvI0 R 82 dX12_count_79 rfl lk_X12_255 rfl (c_X12_cutMany G M _ hr6) rfl rfl rfl ?_
    obtain rfl := Option.some.inj h
    exact r_ireturn R dX12_count_82 rfl rfl rfl rfl
  have h := pf_ifn hs1_2 h
  by_cases hs1_3 : x1 = (3 : Int32)
  · have h := pf_ifp hs1_3 h
    refine r_swIn R 83 (82) dX12_count_1 (by rw [hs1_3]; decide) (by rw [hs1_3]; decide) (by rw [hs1_3]; rfl) (by decide) ?_
    refine r_aload_n R 84 dX12_count_83 rfl rfl ?_
    obtain ⟨r7, hr7, h⟩ := pf_bd h
    refine r_cvI0 R 87 dX12_count_84 rfl lk_X12_209 rfl (c_X12_sideA G M _ hr7) rfl rfl rfl ?_
    obtain rfl := Option.some.inj h
    exact r_ireturn R dX12_count_87 rfl rfl rfl rfl
  have h := pf_ifn hs1_3 h
  by_cases hs1_4 : x1 = (4 : Int32)
  · have h := pf_ifp hs1_4 h
    refine r_swIn R 88 (87) dX12_count_1 (by rw [hs1_4]; decide) (by rw [hs1_4]; decide) (by rw [hs1_4]; rfl) (by decide) ?_
    refine r_aload_n R 89 dX12_count_88 rfl rfl ?_
    refine r_getfield R 92 dX12_count_89 rfl fl_X12_180 rfl (show _ = pf_I (M 40 0 10) from rfl) ?_
    refine r_aload_n R 93 dX12_count_92 rfl rfl ?_
    obtain ⟨r8, hr8, h⟩ := pf_bd h
    refine r_cvI0 R 96 dX12_count_93 rfl lk_X12_212 rfl (c_X12_firstB G M _ hr8) rfl rfl rfl ?_
    refine r_isub R 97 dX12_count_96 rfl ?_
    obtain rfl := Option.some.inj h
    exact r_ireturn R dX12_count_97 rfl rfl rfl rfl
  have h := pf_ifn hs1_4 h
  by_cases hs1_5 : x1 = (5 : Int32)
  · have h := pf_ifp hs1_5 h
    refine r_swIn R 98 (97) dX12_count_1 (by rw [hs1_5]; decide) (by rw [hs1_5]; decide) (by rw [hs1_5]; rfl) (by decide) ?_
    refine r_aload_n R 99 dX12_count_98 rfl rfl ?_
    refine r_getfield R 102 dX12_count_99 rfl fl_X12_206 rfl (show _ = pf_I (M 40 0 46) from rfl) ?_
    obtain rfl := Option.some.inj h
    exact r_ireturn R dX12_count_102 rfl rfl rfl rfl
  have h := pf_ifn hs1_5 h
  by_cases hs1_6 : x1 = (6 : Int32)
  · have h := pf_ifp hs1_6 h
    refine r_swIn R 103 (102) dX12_count_1 (by rw [hs1_6]; decide) (by rw [hs1_6]; decide) (by rw [hs1_6]; rfl) (by decide) ?_
    refine r_aload_n R 104 dX12_count_103 rfl rfl ?_
    refine r_getfield R 107 dX12_count_104 rfl fl_X12_203 rfl (show _ = pf_I (M 40 0 44) from rfl) ?_
    obtain rfl := Option.some.inj h
    exact r_ireturn R dX12_count_107 rfl rfl rfl rfl
  have h := pf_ifn hs1_6 h
  by_cases hs1_7 : x1 = (7 : Int32)
  · have h := pf_ifp hs1_7 h
    refine r_swIn R 108 (107) dX12_count_1 (by rw [hs1_7]; decide) (by rw [hs1_7]; decide) (by rw [hs1_7]; rfl) (by decide) ?_
    refine r_aload_n R 109 dX12_count_108 rfl rfl ?_
    refine r_getfield R 112 dX12_count_109 rfl fl_X12_196 rfl (show _ = pf_I (M 40 0 23) from rfl) ?_
    obtain rfl := Option.some.inj h
    exact r_ireturn R dX12_count_112 rfl rfl rfl rfl
  have h := pf_ifn hs1_7 h
  by_cases hs1_8 : x1 = (8 : Int32)
  · have h := pf_ifp hs1_8 h
    refine r_swIn R 113 (112) dX12_count_1 (by rw [hs1_8]; decide) (by rw [hs1_8]; decide) (by rw [hs1_8]; rfl) (by decide) ?_
    refine r_aload_n R 114 dX12_count_113 rfl rfl ?_
    refine r_getfield R 117 dX12_count_114 rfl fl_X12_149 rfl (show _ = pf_I (M 40 0 0) from rfl) ?_
    obtain rfl := Option.some.inj h
    exact r_ireturn R dX12_count_117 rfl rfl rfl rfl
  have h := pf_ifn hs1_8 h
  by_cases hs1_9 : x1 = (9 : Int32)
  · have h := pf_ifp hs1_9 h
    refine r_swIn R 118 (117) dX12_count_1 (by rw [hs1_9]; decide) (by rw [hs1_9]; decide) (by rw [hs1_9]; rfl) (by decide) ?_
    refine r_aload_n R 119 dX12_count_118 rfl rfl ?_
    refine r_getfield R 122 dX12_count_119 rfl fl_X12_28 rfl (show _ = pf_R 47 0 from rfl) ?_
    refine r_aload_n R 123 dX12_count_122 rfl rfl ?_
    refine r_getfield R 126 dX12_count_123 rfl fl_X12_180 rfl (show _ = pf_I (M 40 0 10) from rfl) ?_
    obtain ⟨hi9, h⟩ := pf_gd h
    refine r_iaload R 127 dX12_count_126 rfl ⟨rfl, rfl⟩ (pf_in_iff.mp hi9) ?_
    obtain rfl := Option.some.inj h
    exact r_ireturn R dX12_count_127 rfl rfl rfl rfl
  have h := pf_ifn hs1_9 h
  by_cases hs1_10 : x1 = (10 : Int32)
  · have h := pf_ifp hs1_10 h
    refine r_swIn R 128 (127) dX12_count_1 (by rw [hs1_10]; decide) (by rw [hs1_10]; decide) (by rw [hs1_10]; rfl) (by decide) ?_
    refine r_aload_n R 129 dX12_count_128 rfl rfl ?_
    refine r_getfield R 132 dX12_count_129 rfl fl_X12_183 rfl (show _ = pf_I (M 40 0 15) from rfl) ?_
    obtain rfl := Option.some.inj h
    exact r_ireturn R dX12_count_132 rfl rfl rfl rfl
  have h := pf_ifn hs1_10 h
  by_cases hs1_11 : x1 = (11 : Int32)
  · have h := pf_ifp hs1_11 h
    refine r_swIn R 133 (132) dX12_count_1 (by rw [hs1_11]; decide) (by rw [hs1_11]; decide) (by rw [hs1_11]; rfl) (by decide) ?_
    refine r_aload_n R 134 dX12_count_133 rfl rfl ?_
    refine r_getfield R 137 dX12_count_134 rfl fl_X12_186 rfl (show _ = pf_I (M 40 0 16) from rfl) ?_
    obtain rfl := Option.some.inj h
    exact r_ireturn R dX12_count_137 rfl rfl rfl rfl
  have h := pf_ifn hs1_11 h
  by_cases hs1_12 : x1 = (12 : Int32)
  · have h := pf_ifp hs1_12 h
    refine r_swIn R 138 (137) dX12_count_1 (by rw [hs1_12]; decide) (by rw [hs1_12]; decide) (by rw [hs1_12]; rfl) (by decide) ?_
    refine r_aload_n R 139 dX12_count_138 rfl rfl ?_
    obtain ⟨r10, hr10, h⟩ := pf_bd h
    refine r_cvI0 R 142 dX12_count_139 rfl lk_X12_304 rfl (c_X12_trip G M _ hr10) rfl rfl rfl ?_
    obtain rfl := Option.some.inj h
    exact r_ireturn R dX12_count_142 rfl rfl rfl rfl
  have h := pf_ifn hs1_12 h
  refine r_swOut R 143 dX12_count_1 (pf_swo 13 (by decide) (fun k hk => by
      rcases (show k = 0 ∨ k = 1 ∨ k = 2 ∨ k = 3 ∨ k = 4 ∨ k = 5 ∨ k = 6 ∨ k = 7 ∨ k = 8 ∨ k = 9 ∨ k = 10 ∨ k = 11 ∨ k = 12 by omega) with rfl | rfl | rfl | rfl | rfl | rfl | rfl | rfl | rfl | rfl | rfl | rfl | rfl
      · exact hs1_0
      · exact hs1_1
      · exact hs1_2
      · exact hs1_3
      · exact hs1_4
      · exact hs1_5
      · exact hs1_6
      · exact hs1_7
      · exact hs1_8
      · exact hs1_9
      · exact hs1_10
      · exact hs1_11
      · exact hs1_12)) (by decide) ?_
  refine r_iconst R 144 dX12_count_143 rfl ic_iconst_m1 ?_
  obtain rfl := Option.some.inj h
  exact r_ireturn R dX12_count_144 rfl rfl rfl rfl
def fX12_cut (x1 : Int32) (x2 : Int32) (M : pf_M) : Option (Int32 × pf_M) :=
  (if (fX12_in x1.toInt64 (0 : Int64) ((M 40 0 10).toInt64)) = (0 : Int32) then some ((-1 : Int32), M)
  else (if (fX12_in x2.toInt64 (0 : Int64) (1 : Int64)) = (0 : Int32) then some ((-1 : Int32), M)
  else (if pf_in x1 9 = true then (if (M 50 0 x1.toNatClampNeg) = x2 then some ((-2 : Int32), M)
  else (if pf_in x1 9 = true then ((fX12_cutMany (pf_up M 50 0 x1.toNatClampNeg x2)).bind fun r6 => some (r6, (pf_up M 50 0 x1.toNatClampNeg x2)))
  else none))
  else none)))
set_option maxRecDepth 4000 in
theorem c_X12_cut (G : pf_G) (x1 : Int32) (x2 : Int32) (M : pf_M) (q : Int32 × pf_M) (h : fX12_cut x1 x2 M = some q) : pf_Met G yX12_cut cX12_cut 3 (some .int) 1 25 [pf_R 40 0, pf_I x1, pf_I x2] M (some (pf_I q.1)) q.2 := by
  refine pf_Met.of (by decide +kernel) (Nat.le_of_ble_eq_true rfl) (fun K R => ?_)
  show K 0 [pf_R 40 0, pf_I x1, pf_I x2] [] M
  unfold fX12_cut at h
  refine r_iload_n R 1 dX12_cut_0 rfl rfl ?_
  refine r_i2l R 2 dX12_cut_1 rfl ?_
  refine r_lconst R 3 dX12_cut_2 rfl lc_0 ?_
  refine r_aload_n R 4 dX12_cut_3 rfl rfl ?_
  refine r_getfield R 7 dX12_cut_4 rfl fl_X12_180 rfl (show _ = pf_I (M 40 0 10) from rfl) ?_
  refine r_i2l R 8 dX12_cut_7 rfl ?_
  refine r_csI3 R 11 dX12_cut_8 rfl lk_X12_145 (c_X12_in G x1.toInt64 (0 : Int64) ((M 40 0 10).toInt64) _ rfl) rfl rfl rfl ?_
  refine r_if_eq R 14 24 dX12_cut_11 rfl (by decide) (fun hc => ?_) (fun hc => ?_)
  · have h := pf_ifp hc h
    refine r_iconst R 25 dX12_cut_24 rfl ic_iconst_m1 ?_
    obtain rfl := Option.some.inj h
    exact r_ireturn R dX12_cut_25 rfl rfl rfl rfl
  · have h := pf_ifn hc h
    refine r_iload_n R 15 dX12_cut_14 rfl rfl ?_
    refine r_i2l R 16 dX12_cut_15 rfl ?_
    refine r_lconst R 17 dX12_cut_16 rfl lc_0 ?_
    refine r_lconst R 18 dX12_cut_17 rfl lc_1 ?_
    refine r_csI3 R 21 dX12_cut_18 rfl lk_X12_145 (c_X12_in G x2.toInt64 (0 : Int64) (1 : Int64) _ rfl) rfl rfl rfl ?_
    refine r_if_ne R 24 26 dX12_cut_21 rfl (by decide) (fun hc => ?_) (fun hc => ?_)
    · have h := pf_ifp hc h
      refine r_iconst R 25 dX12_cut_24 rfl ic_iconst_m1 ?_
      obtain rfl := Option.some.inj h
      exact r_ireturn R dX12_cut_25 rfl rfl rfl rfl
    · have h := pf_ifn hc h
      refine r_aload_n R 27 dX12_cut_26 rfl rfl ?_
      refine r_getfield R 30 dX12_cut_27 rfl fl_X12_37 rfl (show _ = pf_R 50 0 from rfl) ?_
      refine r_iload_n R 31 dX12_cut_30 rfl rfl ?_
      obtain ⟨hi4, h⟩ := pf_gd h
      refine r_iaload R 32 dX12_cut_31 rfl ⟨rfl, rfl⟩ (pf_in_iff.mp hi4) ?_
      refine r_iload_n R 33 dX12_cut_32 rfl rfl ?_
      refine r_icmp_ne R 36 39 dX12_cut_33 rfl (by decide) (fun hc => ?_) (fun hc => ?_)
      · have h := pf_ifp hc h
        refine r_bipush R 38 dX12_cut_36 rfl ic_bipush_m2 ?_
        obtain rfl := Option.some.inj h
        exact r_ireturn R dX12_cut_38 rfl rfl rfl rfl
      · have h := pf_ifn hc h
        refine r_aload_n R 40 dX12_cut_39 rfl rfl ?_
        refine r_getfield R 43 dX12_cut_40 rfl fl_X12_37 rfl (show _ = pf_R 50 0 from rfl) ?_
        refine r_iload_n R 44 dX12_cut_43 rfl rfl ?_
        refine r_iload_n R 45 dX12_cut_44 rfl rfl ?_
        obtain ⟨hi5, h⟩ := pf_gd h
        refine r_iastore R 46 dX12_cut_45 rfl ⟨rfl, rfl⟩ (pf_in_iff.mp hi5) ?_
        refine r_aload_n R 47 dX12_cut_46 rfl rfl ?_
        obtain ⟨r6, hr6, h⟩ := pf_bd h
        refine r_cvI0 R 50 dX12_cut_47 rfl lk_X12_255 rfl (c_X12_cutMany G (pf_up M 50 0 x1.toNatClampNeg x2) _ hr6) rfl rfl rfl ?_
        obtain rfl := Option.some.inj h
        exact r_ireturn R dX12_cut_50 rfl rfl rfl rfl
def fX12_device (x1 : Int32) (x2 : Int32) (M : pf_M) : Option (Int32) :=
  (if (fX12_isDevice x1 M) = (0 : Int32) then some (-1 : Int32)
  else (if (fX12_in x2.toInt64 (0 : Int64) (5 : Int64)) = (0 : Int32) then some (-1 : Int32)
  else (if x2 = (0 : Int32) then (if pf_in x1 8 = true then some (M 46 0 x1.toNatClampNeg)
  else none)
  else (if x2 = (1 : Int32) then (if pf_in x1 9 = true then some (M 47 0 x1.toNatClampNeg)
  else none)
  else (if x2 = (2 : Int32) then (if pf_in x1 8 = true then some (M 48 0 x1.toNatClampNeg)
  else none)
  else (if x2 = (3 : Int32) then (if pf_in x1 8 = true then some (M 49 0 x1.toNatClampNeg)
  else none)
  else (if x2 = (4 : Int32) then (if pf_in x1 8 = true then some (M 51 0 x1.toNatClampNeg)
  else none)
  else ((fX12_sideOf x1 M).bind fun r12 => some r12))))))))
set_option maxRecDepth 4000 in
theorem c_X12_device (G : pf_G) (x1 : Int32) (x2 : Int32) (M : pf_M) (q : Int32) (h : fX12_device x1 x2 M = some q) : pf_Met G yX12_device cX12_device 3 (some .int) 2 46 [pf_R 40 0, pf_I x1, pf_I x2] M (some (pf_I q)) M := by
  refine pf_Met.of (by decide +kernel) (Nat.le_of_ble_eq_true rfl) (fun K R => ?_)
  show K 0 [pf_R 40 0, pf_I x1, pf_I x2] [] M
  unfold fX12_device at h
  refine r_aload_n R 1 dX12_device_0 rfl rfl ?_
  refine r_iload_n R 2 dX12_device_1 rfl rfl ?_
  refine r_cvI1 R 5 dX12_device_2 rfl lk_X12_236 rfl (c_X12_isDevice G x1 M _ rfl) rfl rfl rfl ?_
  refine r_if_eq R 8 20 dX12_device_5 rfl (by decide) (fun hc => ?_) (fun hc => ?_)
  · have h := pf_ifp hc h
    refine r_iconst R 21 dX12_device_20 rfl ic_iconst_m1 ?_
    obtain rfl := Option.some.inj h
    exact r_ireturn R dX12_device_21 rfl rfl rfl rfl
  · have h := pf_ifn hc h
    refine r_iload_n R 9 dX12_device_8 rfl rfl ?_
    refine r_i2l R 10 dX12_device_9 rfl ?_
    refine r_lconst R 11 dX12_device_10 rfl lc_0 ?_
    refine r_ldc2_w R 14 dX12_device_11 rfl kc_X12_240 ?_
    refine r_csI3 R 17 dX12_device_14 rfl lk_X12_145 (c_X12_in G x2.toInt64 (0 : Int64) (5 : Int64) _ rfl) rfl rfl rfl ?_
    refine r_if_ne R 20 22 dX12_device_17 rfl (by decide) (fun hc => ?_) (fun hc => ?_)
    · have h := pf_ifp hc h
      refine r_iconst R 21 dX12_device_20 rfl ic_iconst_m1 ?_
      obtain rfl := Option.some.inj h
      exact r_ireturn R dX12_device_21 rfl rfl rfl rfl
    · have h := pf_ifn hc h
      refine r_iload_n R 23 dX12_device_22 rfl rfl ?_
      by_cases hs23_0 : x2 = (0 : Int32)
      · have h := pf_ifp hs23_0 h
        refine r_swIn R 56 (33) dX12_device_23 (by rw [hs23_0]; decide) (by rw [hs23_0]; decide) (by rw [hs23_0]; rfl) (by decide) ?_
        refine r_aload_n R 57 dX12_device_56 rfl rfl ?_
        refine r_getfield R 60 dX12_device_57 rfl fl_X12_25 rfl (show _ = pf_R 46 0 from rfl) ?_
        refine r_iload_n R 61 dX12_device_60 rfl rfl ?_
        obtain ⟨hi7, h⟩ := pf_gd h
        refine r_iaload R 62 dX12_device_61 rfl ⟨rfl, rfl⟩ (pf_in_iff.mp hi7) ?_
        obtain rfl := Option.some.inj h
        exact r_ireturn R dX12_device_62 rfl rfl rfl rfl
      have h := pf_ifn hs23_0 h
      by_cases hs23_1 : x2 = (1 : Int32)
      · have h := pf_ifp hs23_1 h
        refine r_swIn R 63 (40) dX12_device_23 (by rw [hs23_1]; decide) (by rw [hs23_1]; decide) (by rw [hs23_1]; rfl) (by decide) ?_
        refine r_aload_n R 64 dX12_device_63 rfl rfl ?_
        refine r_getfield R 67 dX12_device_64 rfl fl_X12_28 rfl (show _ = pf_R 47 0 from rfl) ?_
        refine r_iload_n R 68 dX12_device_67 rfl rfl ?_
        obtain ⟨hi8, h⟩ := pf_gd h
        refine r_iaload R 69 dX12_device_68 rfl ⟨rfl, rfl⟩ (pf_in_iff.mp hi8) ?_
        obtain rfl := Option.some.inj h
        exact r_ireturn R dX12_device_69 rfl rfl rfl rfl
      have h := pf_ifn hs23_1 h
      by_cases hs23_2 : x2 = (2 : Int32)
      · have h := pf_ifp hs23_2 h
        refine r_swIn R 70 (47) dX12_device_23 (by rw [hs23_2]; decide) (by rw [hs23_2]; decide) (by rw [hs23_2]; rfl) (by decide) ?_
        refine r_aload_n R 71 dX12_device_70 rfl rfl ?_
        refine r_getfield R 74 dX12_device_71 rfl fl_X12_31 rfl (show _ = pf_R 48 0 from rfl) ?_
        refine r_iload_n R 75 dX12_device_74 rfl rfl ?_
        obtain ⟨hi9, h⟩ := pf_gd h
        refine r_iaload R 76 dX12_device_75 rfl ⟨rfl, rfl⟩ (pf_in_iff.mp hi9) ?_
        obtain rfl := Option.some.inj h
        exact r_ireturn R dX12_device_76 rfl rfl rfl rfl
      have h := pf_ifn hs23_2 h
      by_cases hs23_3 : x2 = (3 : Int32)
      · have h := pf_ifp hs23_3 h
        refine r_swIn R 77 (54) dX12_device_23 (by rw [hs23_3]; decide) (by rw [hs23_3]; decide) (by rw [hs23_3]; rfl) (by decide) ?_
        refine r_aload_n R 78 dX12_device_77 rfl rfl ?_
        refine r_getfield R 81 dX12_device_78 rfl fl_X12_34 rfl (show _ = pf_R 49 0 from rfl) ?_
        refine r_iload_n R 82 dX12_device_81 rfl rfl ?_
        obtain ⟨hi10, h⟩ := pf_gd h
        refine r_iaload R 83 dX12_device_82 rfl ⟨rfl, rfl⟩ (pf_in_iff.mp hi10) ?_
        obtain rfl := Option.some.inj h
        exact r_ireturn R dX12_device_83 rfl rfl rfl rfl
      have h := pf_ifn hs23_3 h
      by_cases hs23_4 : x2 = (4 : Int32)
      · have h := pf_ifp hs23_4 h
        refine r_swIn R 84 (61) dX12_device_23 (by rw [hs23_4]; decide) (by rw [hs23_4]; decide) (by rw [hs23_4]; rfl) (by decide) ?_
        refine r_aload_n R 85 dX12_device_84 rfl rfl ?_
        refine r_getfield R 88 dX12_device_85 rfl fl_X12_40 rfl (show _ = pf_R 51 0 from rfl) ?_
        refine r_iload_n R 89 dX12_device_88 rfl rfl ?_
        obtain ⟨hi11, h⟩ := pf_gd h
        refine r_iaload R 90 dX12_device_89 rfl ⟨rfl, rfl⟩ (pf_in_iff.mp hi11) ?_
        obtain rfl := Option.some.inj h
        exact r_ireturn R dX12_device_90 rfl rfl rfl rfl
      have h := pf_ifn hs23_4 h
      refine r_swOut R 91 dX12_device_23 (pf_swo 5 (by decide) (fun k hk => by
          rcases (show k = 0 ∨ k = 1 ∨ k = 2 ∨ k = 3 ∨ k = 4 by omega) with rfl | rfl | rfl | rfl | rfl
          · exact hs23_0
          · exact hs23_1
          · exact hs23_2
          · exact hs23_3
          · exact hs23_4)) (by decide) ?_
      refine r_aload_n R 92 dX12_device_91 rfl rfl ?_
      refine r_iload_n R 93 dX12_device_92 rfl rfl ?_
      obtain ⟨r12, hr12, h⟩ := pf_bd h
      refine r_cvI1 R 96 dX12_device_93 rfl lk_X12_242 rfl (c_X12_sideOf G x1 M _ hr12) rfl rfl rfl ?_
      obtain rfl := Option.some.inj h
      exact r_ireturn R dX12_device_96 rfl rfl rfl rfl
def fX12_deviceIs (x1 : Int32) (x2 : Int32) (x3 : Int32) (x4 : Int32) (M : pf_M) : Option (pf_M) :=
  (if pf_in (M 40 0 3) 8 = true then (if pf_in ((pf_up M 42 0 (M 40 0 3).toNatClampNeg x1) 40 0 3) 9 = true then (if pf_in ((pf_up (pf_up M 42 0 (M 40 0 3).toNatClampNeg x1) 43 0 ((pf_up M 42 0 (M 40 0 3).toNatClampNeg x1) 40 0 3).toNatClampNeg x2) 40 0 3) 8 = true then (if pf_in ((pf_up (pf_up (pf_up M 42 0 (M 40 0 3).toNatClampNeg x1) 43 0 ((pf_up M 42 0 (M 40 0 3).toNatClampNeg x1) 40 0 3).toNatClampNeg x2) 44 0 ((pf_up (pf_up M 42 0 (M 40 0 3).toNatClampNeg x1) 43 0 ((pf_up M 42 0 (M 40 0 3).toNatClampNeg x1) 40 0 3).toNatClampNeg x2) 40 0 3).toNatClampNeg x3) 40 0 3) 8 = true then some (pf_up (pf_up (pf_up (pf_up (pf_up M 42 0 (M 40 0 3).toNatClampNeg x1) 43 0 ((pf_up M 42 0 (M 40 0 3).toNatClampNeg x1) 40 0 3).toNatClampNeg x2) 44 0 ((pf_up (pf_up M 42 0 (M 40 0 3).toNatClampNeg x1) 43 0 ((pf_up M 42 0 (M 40 0 3).toNatClampNeg x1) 40 0 3).toNatClampNeg x2) 40 0 3).toNatClampNeg x3) 45 0 ((pf_up (pf_up (pf_up M 42 0 (M 40 0 3).toNatClampNeg x1) 43 0 ((pf_up M 42 0 (M 40 0 3).toNatClampNeg x1) 40 0 3).toNatClampNeg x2) 44 0 ((pf_up (pf_up M 42 0 (M 40 0 3).toNatClampNeg x1) 43 0 ((pf_up M 42 0 (M 40 0 3).toNatClampNeg x1) 40 0 3).toNatClampNeg x2) 40 0 3).toNatClampNeg x3) 40 0 3).toNatClampNeg x4) 40 0 3 (((pf_up (pf_up (pf_up (pf_up M 42 0 (M 40 0 3).toNatClampNeg x1) 43 0 ((pf_up M 42 0 (M 40 0 3).toNatClampNeg x1) 40 0 3).toNatClampNeg x2) 44 0 ((pf_up (pf_up M 42 0 (M 40 0 3).toNatClampNeg x1) 43 0 ((pf_up M 42 0 (M 40 0 3).toNatClampNeg x1) 40 0 3).toNatClampNeg x2) 40 0 3).toNatClampNeg x3) 45 0 ((pf_up (pf_up (pf_up M 42 0 (M 40 0 3).toNatClampNeg x1) 43 0 ((pf_up M 42 0 (M 40 0 3).toNatClampNeg x1) 40 0 3).toNatClampNeg x2) 44 0 ((pf_up (pf_up M 42 0 (M 40 0 3).toNatClampNeg x1) 43 0 ((pf_up M 42 0 (M 40 0 3).toNatClampNeg x1) 40 0 3).toNatClampNeg x2) 40 0 3).toNatClampNeg x3) 40 0 3).toNatClampNeg x4) 40 0 3) + (1 : Int32)))
  else none)
  else none)
  else none)
  else none)
set_option maxRecDepth 4000 in
theorem c_X12_deviceIs (G : pf_G) (x1 : Int32) (x2 : Int32) (x3 : Int32) (x4 : Int32) (M : pf_M) (q : pf_M) (h : fX12_deviceIs x1 x2 x3 x4 M = some q) : pf_Met G yX12_deviceIs cX12_deviceIs 5 (none) 0 0 [pf_R 40 0, pf_I x1, pf_I x2, pf_I x3, pf_I x4] M none q := by
  refine pf_Met.of (by decide +kernel) (Nat.le_of_ble_eq_true rfl) (fun K R => ?_)
  show K 0 [pf_R 40 0, pf_I x1, pf_I x2, pf_I x3, pf_I x4] [] M
  unfold fX12_deviceIs at h
  refine r_aload_n R 1 dX12_deviceIs_0 rfl rfl ?_
  refine r_getfield R 4 dX12_deviceIs_1 rfl fl_X12_13 rfl (show _ = pf_R 42 0 from rfl) ?_
  refine r_aload_n R 5 dX12_deviceIs_4 rfl rfl ?_
  refine r_getfield R 8 dX12_deviceIs_5 rfl fl_X12_138 rfl (show _ = pf_I (M 40 0 3) from rfl) ?_
  refine r_iload_n R 9 dX12_deviceIs_8 rfl rfl ?_
  obtain ⟨hi5, h⟩ := pf_gd h
  refine r_iastore R 10 dX12_deviceIs_9 rfl ⟨rfl, rfl⟩ (pf_in_iff.mp hi5) ?_
  refine r_aload_n R 11 dX12_deviceIs_10 rfl rfl ?_
  refine r_getfield R 14 dX12_deviceIs_11 rfl fl_X12_16 rfl (show _ = pf_R 43 0 from rfl) ?_
  refine r_aload_n R 15 dX12_deviceIs_14 rfl rfl ?_
  refine r_getfield R 18 dX12_deviceIs_15 rfl fl_X12_138 rfl (show _ = pf_I ((pf_up M 42 0 (M 40 0 3).toNatClampNeg x1) 40 0 3) from rfl) ?_
  refine r_iload_n R 19 dX12_deviceIs_18 rfl rfl ?_
  obtain ⟨hi6, h⟩ := pf_gd h
  refine r_iastore R 20 dX12_deviceIs_19 rfl ⟨rfl, rfl⟩ (pf_in_iff.mp hi6) ?_
  refine r_aload_n R 21 dX12_deviceIs_20 rfl rfl ?_
  refine r_getfield R 24 dX12_deviceIs_21 rfl fl_X12_19 rfl (show _ = pf_R 44 0 from rfl) ?_
  refine r_aload_n R 25 dX12_deviceIs_24 rfl rfl ?_
  refine r_getfield R 28 dX12_deviceIs_25 rfl fl_X12_138 rfl (show _ = pf_I ((pf_up (pf_up M 42 0 (M 40 0 3).toNatClampNeg x1) 43 0 ((pf_up M 42 0 (M 40 0 3).toNatClampNeg x1) 40 0 3).toNatClampNeg x2) 40 0 3) from rfl) ?_
  refine r_iload_n R 29 dX12_deviceIs_28 rfl rfl ?_
  obtain ⟨hi7, h⟩ := pf_gd h
  refine r_iastore R 30 dX12_deviceIs_29 rfl ⟨rfl, rfl⟩ (pf_in_iff.mp hi7) ?_
  refine r_aload_n R 31 dX12_deviceIs_30 rfl rfl ?_
  refine r_getfield R 34 dX12_deviceIs_31 rfl fl_X12_22 rfl (show _ = pf_R 45 0 from rfl) ?_
  refine r_aload_n R 35 dX12_deviceIs_34 rfl rfl ?_
  refine r_getfield R 38 dX12_deviceIs_35 rfl fl_X12_138 rfl (show _ = pf_I ((pf_up (pf_up (pf_up M 42 0 (M 40 0 3).toNatClampNeg x1) 43 0 ((pf_up M 42 0 (M 40 0 3).toNatClampNeg x1) 40 0 3).toNatClampNeg x2) 44 0 ((pf_up (pf_up M 42 0 (M 40 0 3).toNatClampNeg x1) 43 0 ((pf_up M 42 0 (M 40 0 3).toNatClampNeg x1) 40 0 3).toNatClampNeg x2) 40 0 3).toNatClampNeg x3) 40 0 3) from rfl) ?_
  refine r_iload R 40 dX12_deviceIs_38 rfl rfl ?_
  obtain ⟨hi8, h⟩ := pf_gd h
  refine r_iastore R 41 dX12_deviceIs_40 rfl ⟨rfl, rfl⟩ (pf_in_iff.mp hi8) ?_
  refine r_aload_n R 42 dX12_deviceIs_41 rfl rfl ?_
  refine r_dup R 43 dX12_deviceIs_42 rfl rfl ?_
  refine r_getfield R 46 dX12_deviceIs_43 rfl fl_X12_138 rfl (show _ = pf_I ((pf_up (pf_up (pf_up (pf_up M 42 0 (M 40 0 3).toNatClampNeg x1) 43 0 ((pf_up M 42 0 (M 40 0 3).toNatClampNeg x1) 40 0 3).toNatClampNeg x2) 44 0 ((pf_up (pf_up M 42 0 (M 40 0 3).toNatClampNeg x1) 43 0 ((pf_up M 42 0 (M 40 0 3).toNatClampNeg x1) 40 0 3).toNatClampNeg x2) 40 0 3).toNatClampNeg x3) 45 0 ((pf_up (pf_up (pf_up M 42 0 (M 40 0 3).toNatClampNeg x1) 43 0 ((pf_up M 42 0 (M 40 0 3).toNatClampNeg x1) 40 0 3).toNatClampNeg x2) 44 0 ((pf_up (pf_up M 42 0 (M 40 0 3).toNatClampNeg x1) 43 0 ((pf_up M 42 0 (M 40 0 3).toNatClampNeg x1) 40 0 3).toNatClampNeg x2) 40 0 3).toNatClampNeg x3) 40 0 3).toNatClampNeg x4) 40 0 3) from rfl) ?_
  refine r_iconst R 47 dX12_deviceIs_46 rfl ic_iconst_1 ?_
  refine r_iadd R 48 dX12_deviceIs_47 rfl ?_
  refine r_putfield R 51 dX12_deviceIs_48 rfl fl_X12_138 rfl rfl rfl rfl ?_
  obtain rfl := Option.some.inj h
  exact r_return_ R dX12_deviceIs_51 rfl rfl rfl
def fX12_letterAt (x1 : Int32) (M : pf_M) : Option (Int32) :=
  (if (M 40 0 0) ≤ x1 then some (0 : Int32)
  else (if pf_in x1 200 = true then some (M 41 0 x1.toNatClampNeg)
  else none))
set_option maxRecDepth 4000 in
theorem c_X12_letterAt (G : pf_G) (x1 : Int32) (M : pf_M) (q : Int32) (h : fX12_letterAt x1 M = some q) : pf_Met G yX12_letterAt cX12_letterAt 2 (some .int) 0 0 [pf_R 40 0, pf_I x1] M (some (pf_I q)) M := by
  refine pf_Met.of (by decide +kernel) (Nat.le_of_ble_eq_true rfl) (fun K R => ?_)
  show K 0 [pf_R 40 0, pf_I x1] [] M
  unfold fX12_letterAt at h
  refine r_iload_n R 1 dX12_letterAt_0 rfl rfl ?_
  refine r_aload_n R 2 dX12_letterAt_1 rfl rfl ?_
  refine r_getfield R 5 dX12_letterAt_2 rfl fl_X12_149 rfl (show _ = pf_I (M 40 0 0) from rfl) ?_
  refine r_icmp_ge R 8 17 dX12_letterAt_5 rfl (by decide) (fun hc => ?_) (fun hc => ?_)
  · have h := pf_ifp hc h
    refine r_iconst R 18 dX12_letterAt_17 rfl ic_iconst_0 ?_
    obtain rfl := Option.some.inj h
    exact r_ireturn R dX12_letterAt_18 rfl rfl rfl rfl
  · have h := pf_ifn hc h
    refine r_aload_n R 9 dX12_letterAt_8 rfl rfl ?_
    refine r_getfield R 12 dX12_letterAt_9 rfl fl_X12_7 rfl (show _ = pf_R 41 0 from rfl) ?_
    refine r_iload_n R 13 dX12_letterAt_12 rfl rfl ?_
    obtain ⟨hi2, h⟩ := pf_gd h
    refine r_iaload R 14 dX12_letterAt_13 rfl ⟨rfl, rfl⟩ (pf_in_iff.mp hi2) ?_
    refine r_goto R 18 dX12_letterAt_14 (by decide) ?_
    obtain rfl := Option.some.inj h
    exact r_ireturn R dX12_letterAt_18 rfl rfl rfl rfl
def lX12_figures_4 (x1 : Int32) : Nat → Int32 → Int32 → pf_M → Option (Int32 × pf_M)
  | 0, _, _, _ => none
  | n + 1, v4_2, v4_3, M4 =>
  (if x1 ≤ v4_3 then some (v4_2, M4)
  else ((fX12_letterAt (M4 40 0 2) M4).bind fun r3 => (if (fX12_in r3.toInt64 (48 : Int64) (57 : Int64)) = (0 : Int32) then some ((-4 : Int32), M4)
  else ((fX12_letterAt (M4 40 0 2) M4).bind fun r4 => (lX12_figures_4 x1 n) ((((10 : Int32) * v4_2) + r4) - (48 : Int32)) (v4_3 + (1 : Int32)) (pf_up M4 40 0 2 ((M4 40 0 2) + (1 : Int32)))))))
def fX12_figures (x1 : Int32) (M : pf_M) : Option (Int32 × pf_M) :=
  lX12_figures_4 x1 pf_fu (0 : Int32) (0 : Int32) M
set_option maxRecDepth 4000 in
theorem c_X12_figures (G : pf_G) (x1 : Int32) (M : pf_M) (q : Int32 × pf_M) (h : fX12_figures x1 M = some q) : pf_Met G yX12_figures cX12_figures 4 (some .int) 1 25 [pf_R 40 0, pf_I x1] M (some (pf_I q.1)) q.2 := by
  refine pf_Met.of (by decide +kernel) (Nat.le_of_ble_eq_true rfl) (fun K R => ?_)
  show K 0 [pf_R 40 0, pf_I x1, pf_U, pf_U] [] M
  have hl4 : ∀ (n : Nat) (v4_2 : Int32) (v4_3 : Int32) (M4 : pf_M), lX12_figures_4 x1 n v4_2 v4_3 M4 = some q → K 4 [pf_R 40 0, pf_I x1, pf_I v4_2, pf_I v4_3] [] M4 := by
    intro n
    induction n with
    | zero =>
      intro v4_2 v4_3 M4 h
      rw [lX12_figures_4] at h
      cases h
    | succ n ih4 =>
        intro v4_2 v4_3 M4 h
        rw [lX12_figures_4] at h
        refine r_iload_n R 5 dX12_figures_4 rfl rfl ?_
        refine r_iload_n R 6 dX12_figures_5 rfl rfl ?_
        refine r_icmp_ge R 9 66 dX12_figures_6 rfl (by decide) (fun hc => ?_) (fun hc => ?_)
        · have h := pf_ifp hc h
          refine r_iload_n R 67 dX12_figures_66 rfl rfl ?_
          obtain rfl := Option.some.inj h
          exact r_ireturn R dX12_figures_67 rfl rfl rfl rfl
        · have h := pf_ifn hc h
          refine r_aload_n R 10 dX12_figures_9 rfl rfl ?_
          refine r_aload_n R 11 dX12_figures_10 rfl rfl ?_
          refine r_getfield R 14 dX12_figures_11 rfl fl_X12_152 rfl (show _ = pf_I (M4 40 0 2) from rfl) ?_
          obtain ⟨r3, hr3, h⟩ := pf_bd h
          refine r_cvI1 R 17 dX12_figures_14 rfl lk_X12_155 rfl (c_X12_letterAt G (M4 40 0 2) M4 _ hr3) rfl rfl rfl ?_
          refine r_i2l R 18 dX12_figures_17 rfl ?_
          refine r_ldc2_w R 21 dX12_figures_18 rfl kc_X12_159 ?_
          refine r_ldc2_w R 24 dX12_figures_21 rfl kc_X12_161 ?_
          refine r_csI3 R 27 dX12_figures_24 rfl lk_X12_145 (c_X12_in G r3.toInt64 (48 : Int64) (57 : Int64) _ rfl) rfl rfl rfl ?_
          refine r_if_ne R 30 33 dX12_figures_27 rfl (by decide) (fun hc => ?_) (fun hc => ?_)
          · have h := pf_ifp hc h
            refine r_bipush R 32 dX12_figures_30 rfl ic_bipush_m4 ?_
            obtain rfl := Option.some.inj h
            exact r_ireturn R dX12_figures_32 rfl rfl rfl rfl
          · have h := pf_ifn hc h
            refine r_bipush R 35 dX12_figures_33 rfl ic_bipush_10 ?_
            refine r_iload_n R 36 dX12_figures_35 rfl rfl ?_
            refine r_imul R 37 dX12_figures_36 rfl ?_
            refine r_aload_n R 38 dX12_figures_37 rfl rfl ?_
            refine r_aload_n R 39 dX12_figures_38 rfl rfl ?_
            refine r_getfield R 42 dX12_figures_39 rfl fl_X12_152 rfl (show _ = pf_I (M4 40 0 2) from rfl) ?_
            obtain ⟨r4, hr4, h⟩ := pf_bd h
            refine r_cvI1 R 45 dX12_figures_42 rfl lk_X12_155 rfl (c_X12_letterAt G (M4 40 0 2) M4 _ hr4) rfl rfl rfl ?_
            refine r_iadd R 46 dX12_figures_45 rfl ?_
            refine r_bipush R 48 dX12_figures_46 rfl ic_bipush_48 ?_
            refine r_isub R 49 dX12_figures_48 rfl ?_
            refine r_istore_n R 50 dX12_figures_49 rfl rfl (show _ = [pf_R 40 0, pf_I x1, pf_I ((((10 : Int32) * v4_2) + r4) - (48 : Int32)), pf_I v4_3] from rfl) ?_
            refine r_aload_n R 51 dX12_figures_50 rfl rfl ?_
            refine r_dup R 52 dX12_figures_51 rfl rfl ?_
            refine r_getfield R 55 dX12_figures_52 rfl fl_X12_152 rfl (show _ = pf_I (M4 40 0 2) from rfl) ?_
            refine r_iconst R 56 dX12_figures_55 rfl ic_iconst_1 ?_
            refine r_iadd R 57 dX12_figures_56 rfl ?_
            refine r_putfield R 60 dX12_figures_57 rfl fl_X12_152 rfl rfl rfl rfl ?_
            refine r_iinc R 63 dX12_figures_60 rfl rfl ic_iconst_1 (show _ = [pf_R 40 0, pf_I x1, pf_I ((((10 : Int32) * v4_2) + r4) - (48 : Int32)), pf_I (v4_3 + (1 : Int32))] from rfl) ?_
            refine r_goto R 4 dX12_figures_63 (by decide) ?_
            exact ih4 _ _ _ h
  unfold fX12_figures at h
  refine r_iconst R 1 dX12_figures_0 rfl ic_iconst_0 ?_
  refine r_istore_n R 2 dX12_figures_1 rfl rfl (show _ = [pf_R 40 0, pf_I x1, pf_I (0 : Int32), pf_U] from rfl) ?_
  refine r_iconst R 3 dX12_figures_2 rfl ic_iconst_0 ?_
  refine r_istore_n R 4 dX12_figures_3 rfl rfl (show _ = [pf_R 40 0, pf_I x1, pf_I (0 : Int32), pf_I (0 : Int32)] from rfl) ?_
  exact hl4 pf_fu _ _ _ h
def fX12_ends (M : pf_M) : Option (Int32 × pf_M) :=
  ((fX12_letterAt (((pf_up M 40 0 2 ((M 40 0 2) + (1 : Int32))) 40 0 2) - (1 : Int32)) (pf_up M 40 0 2 ((M 40 0 2) + (1 : Int32)))).bind fun r2 => (if r2 = (59 : Int32) then some ((1 : Int32), (pf_up M 40 0 2 ((M 40 0 2) + (1 : Int32))))
  else some ((0 : Int32), (pf_up M 40 0 2 ((M 40 0 2) + (1 : Int32))))))
set_option maxRecDepth 4000 in
theorem c_X12_ends (G : pf_G) (M : pf_M) (q : Int32 × pf_M) (h : fX12_ends M = some q) : pf_Met G yX12_ends cX12_ends 1 (some .boolean) 1 21 [pf_R 40 0] M (some (pf_I q.1)) q.2 := by
  refine pf_Met.of (by decide +kernel) (Nat.le_of_ble_eq_true rfl) (fun K R => ?_)
  show K 0 [pf_R 40 0] [] M
  unfold fX12_ends at h
  refine r_aload_n R 1 dX12_ends_0 rfl rfl ?_
  refine r_dup R 2 dX12_ends_1 rfl rfl ?_
  refine r_getfield R 5 dX12_ends_2 rfl fl_X12_152 rfl (show _ = pf_I (M 40 0 2) from rfl) ?_
  refine r_iconst R 6 dX12_ends_5 rfl ic_iconst_1 ?_
  refine r_iadd R 7 dX12_ends_6 rfl ?_
  refine r_putfield R 10 dX12_ends_7 rfl fl_X12_152 rfl rfl rfl rfl ?_
  refine r_aload_n R 11 dX12_ends_10 rfl rfl ?_
  refine r_aload_n R 12 dX12_ends_11 rfl rfl ?_
  refine r_getfield R 15 dX12_ends_12 rfl fl_X12_152 rfl (show _ = pf_I ((pf_up M 40 0 2 ((M 40 0 2) + (1 : Int32))) 40 0 2) from rfl) ?_
  refine r_iconst R 16 dX12_ends_15 rfl ic_iconst_1 ?_
  refine r_isub R 17 dX12_ends_16 rfl ?_
  obtain ⟨r2, hr2, h⟩ := pf_bd h
  refine r_cvI1 R 20 dX12_ends_17 rfl lk_X12_155 rfl (c_X12_letterAt G (((pf_up M 40 0 2 ((M 40 0 2) + (1 : Int32))) 40 0 2) - (1 : Int32)) (pf_up M 40 0 2 ((M 40 0 2) + (1 : Int32))) _ hr2) rfl rfl rfl ?_
  refine r_bipush R 22 dX12_ends_20 rfl ic_bipush_59 ?_
  refine r_icmp_ne R 25 29 dX12_ends_22 rfl (by decide) (fun hc => ?_) (fun hc => ?_)
  · have h := pf_ifp hc h
    refine r_iconst R 26 dX12_ends_25 rfl ic_iconst_1 ?_
    refine r_goto R 30 dX12_ends_26 (by decide) ?_
    obtain rfl := Option.some.inj h
    exact r_ireturn R dX12_ends_30 rfl rfl rfl rfl
  · have h := pf_ifn hc h
    refine r_iconst R 30 dX12_ends_29 rfl ic_iconst_0 ?_
    obtain rfl := Option.some.inj h
    exact r_ireturn R dX12_ends_30 rfl rfl rfl rfl
def lX12_deviceItem_94 (f94_1 : Int32) (kx94 : pf_M → Option (Int32 × pf_M)) : Nat → Int32 → pf_M → Option (Int32 × pf_M)
  | 0, _, _ => none
  | n + 1, v94_5, M94 =>
  (if (M94 40 0 3) ≤ v94_5 then kx94 M94
  else (if pf_in v94_5 8 = true then (if (M94 42 0 v94_5.toNatClampNeg) = f94_1 then some ((0 : Int32), M94)
  else (lX12_deviceItem_94 f94_1 kx94 n) (v94_5 + (1 : Int32)) M94)
  else none))
def jX12_deviceItem_56 (w56_1 : Int32) (w56_2 : Int32) (w56_3 : Int32) (s56_0 : Int32) (M56 : pf_M) : Option (Int32 × pf_M) :=
  (if s56_0 = (-4 : Int32) then some ((0 : Int32), M56)
  else (if (M56 40 0 3) = (8 : Int32) then some ((0 : Int32), M56)
  else (if w56_1 = (0 : Int32) then some ((0 : Int32), M56)
  else (if w56_2 = (0 : Int32) then some ((0 : Int32), M56)
  else (if s56_0 ≤ (8 : Int32) then lX12_deviceItem_94 w56_1 (fun u8_Me94 => ((fX12_deviceIs w56_1 w56_2 w56_3 s56_0 u8_Me94).bind fun q9 => ((fX12_ends q9).bind fun q10 => if pf_b q10.1 = true then some (q10.1, q10.2) else none))) pf_fu (0 : Int32) M56
  else some ((0 : Int32), M56))))))
def jX12_deviceItem_39 (w39_1 : Int32) (w39_2 : Int32) (s39_0 : Int32) (M39 : pf_M) : Option (Int32 × pf_M) :=
  (if s39_0 = (-4 : Int32) then jX12_deviceItem_56 w39_1 w39_2 s39_0 (-4 : Int32) M39
  else ((fX12_figures (1 : Int32) M39).bind fun q12 => jX12_deviceItem_56 w39_1 w39_2 s39_0 q12.1 q12.2))
def jX12_deviceItem_22 (w22_1 : Int32) (s22_0 : Int32) (M22 : pf_M) : Option (Int32 × pf_M) :=
  (if s22_0 = (-4 : Int32) then jX12_deviceItem_39 w22_1 s22_0 (-4 : Int32) M22
  else ((fX12_figures (3 : Int32) M22).bind fun q13 => jX12_deviceItem_39 w22_1 s22_0 q13.1 q13.2))
def fX12_deviceItem (M : pf_M) : Option (Int32 × pf_M) :=
  ((fX12_figures (2 : Int32) M).bind fun q14 => (if q14.1 = (-4 : Int32) then jX12_deviceItem_22 q14.1 (-4 : Int32) q14.2
  else ((fX12_figures (1 : Int32) q14.2).bind fun q15 => jX12_deviceItem_22 q14.1 q15.1 q15.2)))
set_option maxRecDepth 4000 in
theorem c_X12_deviceItem (G : pf_G) (M : pf_M) (q : Int32 × pf_M) (h : fX12_deviceItem M = some q) : pf_Met G yX12_deviceItem cX12_deviceItem 6 (some .boolean) 2 48 [pf_R 40 0] M (some (pf_I q.1)) q.2 := by
  refine pf_Met.of (by decide +kernel) (Nat.le_of_ble_eq_true rfl) (fun K R => ?_)
  show K 0 [pf_R 40 0, pf_U, pf_U, pf_U, pf_U, pf_U] [] M
  have hl94 : ∀ (f94_1 : Int32) (f94_2 : Int32) (f94_3 : Int32) (f94_4 : Int32), ∀ (kx94 : pf_M → Option (Int32 × pf_M)), (∀ (Me94 : pf_M), kx94 Me94 = some q → K 122 [pf_R 40 0, pf_I f94_1, pf_I f94_2, pf_I f94_3, pf_I f94_4, pf_U] [] Me94) → ∀ (n : Nat) (v94_5 : Int32) (M94 : pf_M), lX12_deviceItem_94 f94_1 kx94 n v94_5 M94 = some q → K 94 [pf_R 40 0, pf_I f94_1, pf_I f94_2, pf_I f94_3, pf_I f94_4, pf_I v94_5] [] M94 := by
    intro f94_1 f94_2 f94_3 f94_4 kx94 hkx94 n
    induction n with
    | zero =>
      intro v94_5 M94 h
      rw [lX12_deviceItem_94] at h
      cases h
    | succ n ih94 =>
        intro v94_5 M94 h
        rw [lX12_deviceItem_94] at h
        refine r_iload R 96 dX12_deviceItem_94 rfl rfl ?_
        refine r_aload_n R 97 dX12_deviceItem_96 rfl rfl ?_
        refine r_getfield R 100 dX12_deviceItem_97 rfl fl_X12_138 rfl (show _ = pf_I (M94 40 0 3) from rfl) ?_
        refine r_icmp_ge R 103 122 dX12_deviceItem_100 rfl (by decide) (fun hc => ?_) (fun hc => ?_)
        · have h := pf_ifp hc h
          refine r_fg R [true, true, true, true, true, false] (show _ = [pf_R 40 0, pf_I f94_1, pf_I f94_2, pf_I f94_3, pf_I f94_4, pf_U] from rfl) ?_
          exact hkx94 _ h
        · have h := pf_ifn hc h
          refine r_aload_n R 104 dX12_deviceItem_103 rfl rfl ?_
          refine r_getfield R 107 dX12_deviceItem_104 rfl fl_X12_13 rfl (show _ = pf_R 42 0 from rfl) ?_
          refine r_iload R 109 dX12_deviceItem_107 rfl rfl ?_
          obtain ⟨hi7, h⟩ := pf_gd h
          refine r_iaload R 110 dX12_deviceItem_109 rfl ⟨rfl, rfl⟩ (pf_in_iff.mp hi7) ?_
          refine r_iload_n R 111 dX12_deviceItem_110 rfl rfl ?_
          refine r_icmp_ne R 114 116 dX12_deviceItem_111 rfl (by decide) (fun hc => ?_) (fun hc => ?_)
          · have h := pf_ifp hc h
            refine r_iconst R 115 dX12_deviceItem_114 rfl ic_iconst_0 ?_
            obtain rfl := Option.some.inj h
            exact r_ireturn R dX12_deviceItem_115 rfl rfl rfl rfl
          · have h := pf_ifn hc h
            refine r_iinc R 119 dX12_deviceItem_116 rfl rfl ic_iconst_1 (show _ = [pf_R 40 0, pf_I f94_1, pf_I f94_2, pf_I f94_3, pf_I f94_4, pf_I (v94_5 + (1 : Int32))] from rfl) ?_
            refine r_goto R 94 dX12_deviceItem_119 (by decide) ?_
            exact ih94 _ _ h
  have hj56 : ∀ (w56_1 : Int32) (w56_2 : Int32) (w56_3 : Int32) (s56_0 : Int32) (M56 : pf_M), jX12_deviceItem_56 w56_1 w56_2 w56_3 s56_0 M56 = some q → K 56 [pf_R 40 0, pf_I w56_1, pf_I w56_2, pf_I w56_3, pf_U, pf_U] [pf_I s56_0] M56 := by
    intro w56_1 w56_2 w56_3 s56_0 M56 h
    unfold jX12_deviceItem_56 at h
    refine r_istore R 58 dX12_deviceItem_56 rfl rfl (show _ = [pf_R 40 0, pf_I w56_1, pf_I w56_2, pf_I w56_3, pf_I s56_0, pf_U] from rfl) ?_
    refine r_iload R 60 dX12_deviceItem_58 rfl rfl ?_
    refine r_bipush R 62 dX12_deviceItem_60 rfl ic_bipush_m4 ?_
    refine r_icmp_eq R 65 89 dX12_deviceItem_62 rfl (by decide) (fun hc => ?_) (fun hc => ?_)
    · have h := pf_ifp hc h
      refine r_iconst R 90 dX12_deviceItem_89 rfl ic_iconst_0 ?_
      obtain rfl := Option.some.inj h
      exact r_ireturn R dX12_deviceItem_90 rfl rfl rfl rfl
    · have h := pf_ifn hc h
      refine r_aload_n R 66 dX12_deviceItem_65 rfl rfl ?_
      refine r_getfield R 69 dX12_deviceItem_66 rfl fl_X12_138 rfl (show _ = pf_I (M56 40 0 3) from rfl) ?_
      refine r_bipush R 71 dX12_deviceItem_69 rfl ic_bipush_8 ?_
      refine r_icmp_eq R 74 89 dX12_deviceItem_71 rfl (by decide) (fun hc => ?_) (fun hc => ?_)
      · have h := pf_ifp hc h
        refine r_iconst R 90 dX12_deviceItem_89 rfl ic_iconst_0 ?_
        obtain rfl := Option.some.inj h
        exact r_ireturn R dX12_deviceItem_90 rfl rfl rfl rfl
      · have h := pf_ifn hc h
        refine r_iload_n R 75 dX12_deviceItem_74 rfl rfl ?_
        refine r_if_eq R 78 89 dX12_deviceItem_75 rfl (by decide) (fun hc => ?_) (fun hc => ?_)
        · have h := pf_ifp hc h
          refine r_iconst R 90 dX12_deviceItem_89 rfl ic_iconst_0 ?_
          obtain rfl := Option.some.inj h
          exact r_ireturn R dX12_deviceItem_90 rfl rfl rfl rfl
        · have h := pf_ifn hc h
          refine r_iload_n R 79 dX12_deviceItem_78 rfl rfl ?_
          refine r_if_eq R 82 89 dX12_deviceItem_79 rfl (by decide) (fun hc => ?_) (fun hc => ?_)
          · have h := pf_ifp hc h
            refine r_iconst R 90 dX12_deviceItem_89 rfl ic_iconst_0 ?_
            obtain rfl := Option.some.inj h
            exact r_ireturn R dX12_deviceItem_90 rfl rfl rfl rfl
          · have h := pf_ifn hc h
            refine r_iload R 84 dX12_deviceItem_82 rfl rfl ?_
            refine r_bipush R 86 dX12_deviceItem_84 rfl ic_bipush_8 ?_
            refine r_icmp_le R 89 91 dX12_deviceItem_86 rfl (by decide) (fun hc => ?_) (fun hc => ?_)
            · have h := pf_ifp hc h
              refine r_iconst R 92 dX12_deviceItem_91 rfl ic_iconst_0 ?_
              refine r_istore R 94 dX12_deviceItem_92 rfl rfl (show _ = [pf_R 40 0, pf_I w56_1, pf_I w56_2, pf_I w56_3, pf_I s56_0, pf_I (0 : Int32)] from rfl) ?_
              refine hl94 _ _ _ _ _ (fun u8_Me94 h => ?_) pf_fu _ _ h
              refine r_aload_n R 123 dX12_deviceItem_122 rfl rfl ?_
              refine r_iload_n R 124 dX12_deviceItem_123 rfl rfl ?_
              refine r_iload_n R 125 dX12_deviceItem_124 rfl rfl ?_
              refine r_iload_n R 126 dX12_deviceItem_125 rfl rfl ?_
              refine r_iload R 128 dX12_deviceItem_126 rfl rfl ?_
              obtain ⟨q9, hq9, h⟩ := pf_bd h
              refine r_cvV4 R 131 dX12_deviceItem_128 rfl lk_X12_124 rfl (c_X12_deviceIs G w56_1 w56_2 w56_3 s56_0 u8_Me94 _ hq9) rfl rfl rfl ?_
              refine r_aload_n R 132 dX12_deviceItem_131 rfl rfl ?_
              obtain ⟨q10, hq10, h⟩ := pf_bd h
              refine r_cvI0 R 135 dX12_deviceItem_132 rfl lk_X12_166 rfl (c_X12_ends G q9 _ hq10) rfl rfl rfl ?_
              obtain ⟨hb11, h⟩ := pf_gd h
              obtain rfl := Option.some.inj h
              exact r_ireturn R dX12_deviceItem_135 rfl (pf_bool (pf_b_iff.mp hb11)) rfl rfl
            · have h := pf_ifn hc h
              refine r_iconst R 90 dX12_deviceItem_89 rfl ic_iconst_0 ?_
              obtain rfl := Option.some.inj h
              exact r_ireturn R dX12_deviceItem_90 rfl rfl rfl rfl
  have hj39 : ∀ (w39_1 : Int32) (w39_2 : Int32) (s39_0 : Int32) (M39 : pf_M), jX12_deviceItem_39 w39_1 w39_2 s39_0 M39 = some q → K 39 [pf_R 40 0, pf_I w39_1, pf_I w39_2, pf_U, pf_U, pf_U] [pf_I s39_0] M39 := by
    intro w39_1 w39_2 s39_0 M39 h
    unfold jX12_deviceItem_39 at h
    refine r_istore_n R 40 dX12_deviceItem_39 rfl rfl (show _ = [pf_R 40 0, pf_I w39_1, pf_I w39_2, pf_I s39_0, pf_U, pf_U] from rfl) ?_
    refine r_iload_n R 41 dX12_deviceItem_40 rfl rfl ?_
    refine r_bipush R 43 dX12_deviceItem_41 rfl ic_bipush_m4 ?_
    refine r_icmp_ne R 46 51 dX12_deviceItem_43 rfl (by decide) (fun hc => ?_) (fun hc => ?_)
    · have h := pf_ifp hc h
      refine r_bipush R 48 dX12_deviceItem_46 rfl ic_bipush_m4 ?_
      refine r_goto R 56 dX12_deviceItem_48 (by decide) ?_
      exact hj56 _ _ _ _ _ h
    · have h := pf_ifn hc h
      refine r_aload_n R 52 dX12_deviceItem_51 rfl rfl ?_
      refine r_iconst R 53 dX12_deviceItem_52 rfl ic_iconst_1 ?_
      obtain ⟨q12, hq12, h⟩ := pf_bd h
      refine r_cvI1 R 56 dX12_deviceItem_53 rfl lk_X12_163 rfl (c_X12_figures G (1 : Int32) M39 _ hq12) rfl rfl rfl ?_
      exact hj56 _ _ _ _ _ h
  have hj22 : ∀ (w22_1 : Int32) (s22_0 : Int32) (M22 : pf_M), jX12_deviceItem_22 w22_1 s22_0 M22 = some q → K 22 [pf_R 40 0, pf_I w22_1, pf_U, pf_U, pf_U, pf_U] [pf_I s22_0] M22 := by
    intro w22_1 s22_0 M22 h
    unfold jX12_deviceItem_22 at h
    refine r_istore_n R 23 dX12_deviceItem_22 rfl rfl (show _ = [pf_R 40 0, pf_I w22_1, pf_I s22_0, pf_U, pf_U, pf_U] from rfl) ?_
    refine r_iload_n R 24 dX12_deviceItem_23 rfl rfl ?_
    refine r_bipush R 26 dX12_deviceItem_24 rfl ic_bipush_m4 ?_
    refine r_icmp_ne R 29 34 dX12_deviceItem_26 rfl (by decide) (fun hc => ?_) (fun hc => ?_)
    · have h := pf_ifp hc h
      refine r_bipush R 31 dX12_deviceItem_29 rfl ic_bipush_m4 ?_
      refine r_goto R 39 dX12_deviceItem_31 (by decide) ?_
      exact hj39 _ _ _ _ h
    · have h := pf_ifn hc h
      refine r_aload_n R 35 dX12_deviceItem_34 rfl rfl ?_
      refine r_iconst R 36 dX12_deviceItem_35 rfl ic_iconst_3 ?_
      obtain ⟨q13, hq13, h⟩ := pf_bd h
      refine r_cvI1 R 39 dX12_deviceItem_36 rfl lk_X12_163 rfl (c_X12_figures G (3 : Int32) M22 _ hq13) rfl rfl rfl ?_
      exact hj39 _ _ _ _ h
  unfold fX12_deviceItem at h
  refine r_aload_n R 1 dX12_deviceItem_0 rfl rfl ?_
  refine r_iconst R 2 dX12_deviceItem_1 rfl ic_iconst_2 ?_
  obtain ⟨q14, hq14, h⟩ := pf_bd h
  refine r_cvI1 R 5 dX12_deviceItem_2 rfl lk_X12_163 rfl (c_X12_figures G (2 : Int32) M _ hq14) rfl rfl rfl ?_
  refine r_istore_n R 6 dX12_deviceItem_5 rfl rfl (show _ = [pf_R 40 0, pf_I q14.1, pf_U, pf_U, pf_U, pf_U] from rfl) ?_
  refine r_iload_n R 7 dX12_deviceItem_6 rfl rfl ?_
  refine r_bipush R 9 dX12_deviceItem_7 rfl ic_bipush_m4 ?_
  refine r_icmp_ne R 12 17 dX12_deviceItem_9 rfl (by decide) (fun hc => ?_) (fun hc => ?_)
  · have h := pf_ifp hc h
    refine r_bipush R 14 dX12_deviceItem_12 rfl ic_bipush_m4 ?_
    refine r_goto R 22 dX12_deviceItem_14 (by decide) ?_
    exact hj22 _ _ _ h
  · have h := pf_ifn hc h
    refine r_aload_n R 18 dX12_deviceItem_17 rfl rfl ?_
    refine r_iconst R 19 dX12_deviceItem_18 rfl ic_iconst_1 ?_
    obtain ⟨q15, hq15, h⟩ := pf_bd h
    refine r_cvI1 R 22 dX12_deviceItem_19 rfl lk_X12_163 rfl (c_X12_figures G (1 : Int32) q14.2 _ hq15) rfl rfl rfl ?_
    exact hj22 _ _ _ h
