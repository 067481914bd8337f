def fX12_home (x1 : Int32) (x2 : Int32) (M : pf_M) : Option (Int32) :=
  (if (fX12_in x1.toInt64 (0 : Int64) (3 : Int64)) = (0 : Int32) then some (-1 : Int32)
  else (if (fX12_in x2.toInt64 (-1 : Int64) (7 : Int64)) = (0 : Int32) then some (-1 : Int32)
  else (if (M 40 0 40) = (0 : Int32) then some (-4 : Int32)
  else (if pf_in x1 4 = true then (if (M 71 0 x1.toNatClampNeg) = (0 : Int32) then some (-4 : Int32)
  else (if pf_in x1 4 = true then (if x2 < (M 71 0 x1.toNatClampNeg) then (if (0 : Int32) ≤ x2 then (if pf_in (((8 : Int32) * x1) + x2) 32 = true then some (M 73 0 (((8 : Int32) * x1) + x2).toNatClampNeg)
  else none)
  else (if pf_in x1 4 = true then some (M 72 0 x1.toNatClampNeg)
  else none))
  else some (-4 : Int32))
  else none))
  else none))))
set_option maxRecDepth 4000 in
theorem c_X12_home (G : pf_G) (x1 : Int32) (x2 : Int32) (M : pf_M) (q : Int32) (h : fX12_home x1 x2 M = some q) : pf_Met G yX12_home cX12_home 3 (some .int) 1 25 [pf_R 40 0, pf_I x1, pf_I x2] M (some (pf_I q)) M := by
  refine pf_Met.of (by decide +kernel) (Nat.le_of_ble_eq_true rfl) (fun K R => ?_)
  show K 0 [pf_R 40 0, pf_I x1, pf_I x2] [] M
  unfold fX12_home at h
  refine r_iload_n R 1 dX12_home_0 rfl rfl ?_
  refine r_i2l R 2 dX12_home_1 rfl ?_
  refine r_lconst R 3 dX12_home_2 rfl lc_0 ?_
  refine r_ldc2_w R 6 dX12_home_3 rfl kc_X12_260 ?_
  refine r_csI3 R 9 dX12_home_6 rfl lk_X12_145 (c_X12_in G x1.toInt64 (0 : Int64) (3 : Int64) _ rfl) rfl rfl rfl ?_
  refine r_if_eq R 12 26 dX12_home_9 rfl (by decide) (fun hc => ?_) (fun hc => ?_)
  · have h := pf_ifp hc h
    refine r_iconst R 27 dX12_home_26 rfl ic_iconst_m1 ?_
    obtain rfl := Option.some.inj h
    exact r_ireturn R dX12_home_27 rfl rfl rfl rfl
  · have h := pf_ifn hc h
    refine r_iload_n R 13 dX12_home_12 rfl rfl ?_
    refine r_i2l R 14 dX12_home_13 rfl ?_
    refine r_ldc2_w R 17 dX12_home_14 rfl kc_X12_316 ?_
    refine r_ldc2_w R 20 dX12_home_17 rfl kc_X12_270 ?_
    refine r_csI3 R 23 dX12_home_20 rfl lk_X12_145 (c_X12_in G x2.toInt64 (-1 : Int64) (7 : Int64) _ rfl) rfl rfl rfl ?_
    refine r_if_ne R 26 28 dX12_home_23 rfl (by decide) (fun hc => ?_) (fun hc => ?_)
    · have h := pf_ifp hc h
      refine r_iconst R 27 dX12_home_26 rfl ic_iconst_m1 ?_
      obtain rfl := Option.some.inj h
      exact r_ireturn R dX12_home_27 rfl rfl rfl rfl
    · have h := pf_ifn hc h
      refine r_aload_n R 29 dX12_home_28 rfl rfl ?_
      refine r_getfield R 32 dX12_home_29 rfl fl_X12_199 rfl (show _ = pf_I (M 40 0 40) from rfl) ?_
      refine r_if_eq R 35 54 dX12_home_32 rfl (by decide) (fun hc => ?_) (fun hc => ?_)
      · have h := pf_ifp hc h
        refine r_bipush R 56 dX12_home_54 rfl ic_bipush_m4 ?_
        obtain rfl := Option.some.inj h
        exact r_ireturn R dX12_home_56 rfl rfl rfl rfl
      · have h := pf_ifn hc h
        refine r_aload_n R 36 dX12_home_35 rfl rfl ?_
        refine r_getfield R 39 dX12_home_36 rfl fl_X12_100 rfl (show _ = pf_R 71 0 from rfl) ?_
        refine r_iload_n R 40 dX12_home_39 rfl rfl ?_
        obtain ⟨hi5, h⟩ := pf_gd h
        refine r_iaload R 41 dX12_home_40 rfl ⟨rfl, rfl⟩ (pf_in_iff.mp hi5) ?_
        refine r_if_eq R 44 54 dX12_home_41 rfl (by decide) (fun hc => ?_) (fun hc => ?_)
        · have h := pf_ifp hc h
          refine r_bipush R 56 dX12_home_54 rfl ic_bipush_m4 ?_
          obtain rfl := Option.some.inj h
          exact r_ireturn R dX12_home_56 rfl rfl rfl rfl
        · have h := pf_ifn hc h
          refine r_iload_n R 45 dX12_home_44 rfl rfl ?_
          refine r_aload_n R 46 dX12_home_45 rfl rfl ?_
          refine r_getfield R 49 dX12_home_46 rfl fl_X12_100 rfl (show _ = pf_R 71 0 from rfl) ?_
          refine r_iload_n R 50 dX12_home_49 rfl rfl ?_
          obtain ⟨hi6, h⟩ := pf_gd h
          refine r_iaload R 51 dX12_home_50 rfl ⟨rfl, rfl⟩ (pf_in_iff.mp hi6) ?_
          refine r_icmp_lt R 54 57 dX12_home_51 rfl (by decide) (fun hc => ?_) (fun hc => ?_)
          · have h := pf_ifp hc h
            refine r_iload_n R 58 dX12_home_57 rfl rfl ?_
            refine r_if_ge R 61 70 dX12_home_58 rfl (by decide) (fun hc => ?_) (fun hc => ?_)
            · have h := pf_ifp hc h
              refine r_aload_n R 71 dX12_home_70 rfl rfl ?_
              refine r_getfield R 74 dX12_home_71 rfl fl_X12_106 rfl (show _ = pf_R 73 0 from rfl) ?_
              refine r_bipush R 76 dX12_home_74 rfl ic_bipush_8 ?_
              refine r_iload_n R 77 dX12_home_76 rfl rfl ?_
              refine r_imul R 78 dX12_home_77 rfl ?_
              refine r_iload_n R 79 dX12_home_78 rfl rfl ?_
              refine r_iadd R 80 dX12_home_79 rfl ?_
              obtain ⟨hi7, h⟩ := pf_gd h
              refine r_iaload R 81 dX12_home_80 rfl ⟨rfl, rfl⟩ (pf_in_iff.mp hi7) ?_
              obtain rfl := Option.some.inj h
              exact r_ireturn R dX12_home_81 rfl rfl rfl rfl
            · have h := pf_ifn hc h
              refine r_aload_n R 62 dX12_home_61 rfl rfl ?_
              refine r_getfield R 65 dX12_home_62 rfl fl_X12_103 rfl (show _ = pf_R 72 0 from rfl) ?_
              refine r_iload_n R 66 dX12_home_65 rfl rfl ?_
              obtain ⟨hi8, h⟩ := pf_gd h
              refine r_iaload R 67 dX12_home_66 rfl ⟨rfl, rfl⟩ (pf_in_iff.mp hi8) ?_
              refine r_goto R 81 dX12_home_67 (by decide) ?_
              obtain rfl := Option.some.inj h
              exact r_ireturn R dX12_home_81 rfl rfl rfl rfl
          · have h := pf_ifn hc h
            refine r_bipush R 56 dX12_home_54 rfl ic_bipush_m4 ?_
            obtain rfl := Option.some.inj h
            exact r_ireturn R dX12_home_56 rfl rfl rfl rfl
def jX12_joins_161 (rec55 : Int32 → pf_M → Option (pf_M)) (w161_2 : Int32) (s161_1 : Int32) (s161_2 : Int32) (M161 : pf_M) : Option (pf_M) :=
  (if pf_in s161_1 32 = true then rec55 (w161_2 + (1 : Int32)) (pf_up M161 73 0 s161_1.toNatClampNeg s161_2)
  else none)
def jX12_joins_116 (f55_1 : Int32) (rec55 : Int32 → pf_M → Option (pf_M)) (w116_2 : Int32) (w116_3 : Int32) (w116_4 : Int32) (s116_0 : Int32) (M116 : pf_M) : Option (pf_M) :=
  (if s116_0 = (0 : Int32) then (if pf_in (((8 : Int32) * f55_1) + w116_2) 32 = true then (if w116_3 = (M116 68 0 (((8 : Int32) * f55_1) + w116_2).toNatClampNeg) then jX12_joins_161 rec55 w116_2 (((8 : Int32) * f55_1) + w116_2) w116_4 M116
  else jX12_joins_161 rec55 w116_2 (((8 : Int32) * f55_1) + w116_2) w116_3 M116)
  else none)
  else jX12_joins_161 rec55 w116_2 (((8 : Int32) * f55_1) + w116_2) (w116_3 ||| w116_4) M116)
def jX12_joins_111 (f55_1 : Int32) (rec55 : Int32 → pf_M → Option (pf_M)) (w111_2 : Int32) (w111_3 : Int32) (w111_4 : Int32) (M111 : pf_M) : Option (pf_M) :=
  jX12_joins_116 f55_1 rec55 w111_2 w111_3 w111_4 (1 : Int32) M111
def lX12_joins_55 (f55_1 : Int32) (kx55 : pf_M → Option (pf_M)) : Nat → Int32 → pf_M → Option (pf_M)
  | 0, _, _ => none
  | n + 1, v55_2, M55 =>
  (if (8 : Int32) ≤ v55_2 then kx55 M55
  else (if pf_in (((8 : Int32) * f55_1) + v55_2) 64 = true then (if pf_in (((32 : Int32) + ((8 : Int32) * f55_1)) + v55_2) 64 = true then (if pf_in f55_1 4 = true then (if (M55 64 0 f55_1.toNatClampNeg) = (7 : Int32) then jX12_joins_111 f55_1 (lX12_joins_55 f55_1 kx55 n) v55_2 (M55 69 0 (((8 : Int32) * f55_1) + v55_2).toNatClampNeg) (M55 69 0 (((32 : Int32) + ((8 : Int32) * f55_1)) + v55_2).toNatClampNeg) M55
  else (if pf_in f55_1 4 = true then (if (M55 64 0 f55_1.toNatClampNeg) = (9 : Int32) then jX12_joins_111 f55_1 (lX12_joins_55 f55_1 kx55 n) v55_2 (M55 69 0 (((8 : Int32) * f55_1) + v55_2).toNatClampNeg) (M55 69 0 (((32 : Int32) + ((8 : Int32) * f55_1)) + v55_2).toNatClampNeg) M55
  else jX12_joins_116 f55_1 (lX12_joins_55 f55_1 kx55 n) v55_2 (M55 69 0 (((8 : Int32) * f55_1) + v55_2).toNatClampNeg) (M55 69 0 (((32 : Int32) + ((8 : Int32) * f55_1)) + v55_2).toNatClampNeg) (0 : Int32) M55)
  else none))
  else none)
  else none)
  else none))
def jX12_joins_31 (rec2 : Int32 → pf_M → Option (pf_M)) (w31_1 : Int32) (s31_1 : Int32) (s31_2 : Int32) (M31 : pf_M) : Option (pf_M) :=
  (if pf_in s31_1 4 = true then (if pf_in w31_1 8 = true then (if pf_in ((4 : Int32) + w31_1) 8 = true then (if pf_in w31_1 4 = true then lX12_joins_55 w31_1 (fun u16_Me55 => rec2 (w31_1 + (1 : Int32)) u16_Me55) pf_fu (0 : Int32) (pf_up (pf_up M31 71 0 s31_1.toNatClampNeg s31_2) 72 0 w31_1.toNatClampNeg (((pf_up M31 71 0 s31_1.toNatClampNeg s31_2) 70 0 w31_1.toNatClampNeg) + ((pf_up M31 71 0 s31_1.toNatClampNeg s31_2) 70 0 ((4 : Int32) + w31_1).toNatClampNeg)))
  else none)
  else none)
  else none)
  else none)
def lX12_joins_2 (kx2 : pf_M → Option (pf_M)) : Nat → Int32 → pf_M → Option (pf_M)
  | 0, _, _ => none
  | n + 1, v2_1, M2 =>
  (if (4 : Int32) ≤ v2_1 then kx2 M2
  else (if pf_in v2_1 4 = true then (if (M2 64 0 v2_1.toNatClampNeg) = (0 : Int32) then jX12_joins_31 (lX12_joins_2 kx2 n) v2_1 v2_1 (0 : Int32) M2
  else (if pf_in v2_1 4 = true then jX12_joins_31 (lX12_joins_2 kx2 n) v2_1 v2_1 (M2 67 0 v2_1.toNatClampNeg) M2
  else none))
  else none))
def fX12_joins (M : pf_M) : Option (pf_M) :=
  lX12_joins_2 (fun u19_Me2 => some (pf_up u19_Me2 40 0 40 (1 : Int32))) pf_fu (0 : Int32) M
set_option maxRecDepth 4000 in
theorem c_X12_joins (G : pf_G) (M : pf_M) (q : pf_M) (h : fX12_joins M = some q) : pf_Met G yX12_joins cX12_joins 6 (none) 0 0 [pf_R 40 0] M none q := by
  refine pf_Met.of (by decide +kernel) (Nat.le_of_ble_eq_true rfl) (fun K R => ?_)
  show K 0 [pf_R 40 0, pf_U, pf_U, pf_U, pf_U, pf_U] [] M
  have hl2 : ∀ (kx2 : pf_M → Option (pf_M)), (∀ (Me2 : pf_M), kx2 Me2 = some q → K 174 [pf_R 40 0, pf_U, pf_U, pf_U, pf_U, pf_U] [] Me2) → ∀ (n : Nat) (v2_1 : Int32) (M2 : pf_M), lX12_joins_2 kx2 n v2_1 M2 = some q → K 2 [pf_R 40 0, pf_I v2_1, pf_U, pf_U, pf_U, pf_U] [] M2 := by
    intro kx2 hkx2 n
    induction n with
    | zero =>
      intro v2_1 M2 h
      rw [lX12_joins_2] at h
      cases h
    | succ n ih2 =>
        have hl55 : ∀ (f55_1 : Int32), ∀ (kx55 : pf_M → Option (pf_M)), (∀ (Me55 : pf_M), kx55 Me55 = some q → K 168 [pf_R 40 0, pf_I f55_1, pf_U, pf_U, pf_U, pf_U] [] Me55) → ∀ (n : Nat) (v55_2 : Int32) (M55 : pf_M), lX12_joins_55 f55_1 kx55 n v55_2 M55 = some q → K 55 [pf_R 40 0, pf_I f55_1, pf_I v55_2, pf_U, pf_U, pf_U] [] M55 := by
          intro f55_1 kx55 hkx55 n
          induction n with
          | zero =>
            intro v55_2 M55 h
            rw [lX12_joins_55] at h
            cases h
          | succ n ih55 =>
              have hj161 : ∀ (w161_2 : Int32) (s161_1 : Int32) (s161_2 : Int32) (M161 : pf_M), jX12_joins_161 (lX12_joins_55 f55_1 kx55 n) w161_2 s161_1 s161_2 M161 = some q → K 161 [pf_R 40 0, pf_I f55_1, pf_I w161_2, pf_U, pf_U, pf_U] [pf_I s161_2, pf_I s161_1, pf_R 73 0] M161 := by
                intro w161_2 s161_1 s161_2 M161 h
                unfold jX12_joins_161 at h
                obtain ⟨hi6, h⟩ := pf_gd h
                refine r_iastore R 162 dX12_joins_161 rfl ⟨rfl, rfl⟩ (pf_in_iff.mp hi6) ?_
                refine r_iinc R 165 dX12_joins_162 rfl rfl ic_iconst_1 (show _ = [pf_R 40 0, pf_I f55_1, pf_I (w161_2 + (1 : Int32)), pf_U, pf_U, pf_U] from rfl) ?_
                refine r_goto R 55 dX12_joins_165 (by decide) ?_
                exact ih55 _ _ h
              have hj116 : ∀ (w116_2 : Int32) (w116_3 : Int32) (w116_4 : Int32) (s116_0 : Int32) (M116 : pf_M), jX12_joins_116 f55_1 (lX12_joins_55 f55_1 kx55 n) w116_2 w116_3 w116_4 s116_0 M116 = some q → K 116 [pf_R 40 0, pf_I f55_1, pf_I w116_2, pf_I w116_3, pf_I w116_4, pf_U] [pf_I s116_0] M116 := by
                intro w116_2 w116_3 w116_4 s116_0 M116 h
                unfold jX12_joins_116 at h
                refine r_istore R 118 dX12_joins_116 rfl rfl (show _ = [pf_R 40 0, pf_I f55_1, pf_I w116_2, pf_I w116_3, pf_I w116_4, pf_I s116_0] from rfl) ?_
                refine r_aload_n R 119 dX12_joins_118 rfl rfl ?_
                refine r_getfield R 122 dX12_joins_119 rfl fl_X12_106 rfl (show _ = pf_R 73 0 from rfl) ?_
                refine r_bipush R 124 dX12_joins_122 rfl ic_bipush_8 ?_
                refine r_iload_n R 125 dX12_joins_124 rfl rfl ?_
                refine r_imul R 126 dX12_joins_125 rfl ?_
                refine r_iload_n R 127 dX12_joins_126 rfl rfl ?_
                refine r_iadd R 128 dX12_joins_127 rfl ?_
                refine r_iload R 130 dX12_joins_128 rfl rfl ?_
                refine r_if_eq R 133 140 dX12_joins_130 rfl (by decide) (fun hc => ?_) (fun hc => ?_)
                · have h := pf_ifp hc h
                  refine r_iload_n R 141 dX12_joins_140 rfl rfl ?_
                  refine r_aload_n R 142 dX12_joins_141 rfl rfl ?_
                  refine r_getfield R 145 dX12_joins_142 rfl fl_X12_91 rfl (show _ = pf_R 68 0 from rfl) ?_
                  refine r_bipush R 147 dX12_joins_145 rfl ic_bipush_8 ?_
                  refine r_iload_n R 148 dX12_joins_147 rfl rfl ?_
                  refine r_imul R 149 dX12_joins_148 rfl ?_
                  refine r_iload_n R 150 dX12_joins_149 rfl rfl ?_
                  refine r_iadd R 151 dX12_joins_150 rfl ?_
                  obtain ⟨hi7, h⟩ := pf_gd h
                  refine r_iaload R 152 dX12_joins_151 rfl ⟨rfl, rfl⟩ (pf_in_iff.mp hi7) ?_
                  refine r_icmp_eq R 155 159 dX12_joins_152 rfl (by decide) (fun hc => ?_) (fun hc => ?_)
                  · have h := pf_ifp hc h
                    refine r_iload R 161 dX12_joins_159 rfl rfl ?_
                    refine r_fg R [true, true, true, false, false, false] (show _ = [pf_R 40 0, pf_I f55_1, pf_I w116_2, pf_U, pf_U, pf_U] from rfl) ?_
                    exact hj161 _ _ _ _ h
                  · have h := pf_ifn hc h
                    refine r_iload_n R 156 dX12_joins_155 rfl rfl ?_
                    refine r_goto R 161 dX12_joins_156 (by decide) ?_
                    refine r_fg R [true, true, true, false, false, false] (show _ = [pf_R 40 0, pf_I f55_1, pf_I w116_2, pf_U, pf_U, pf_U] from rfl) ?_
                    exact hj161 _ _ _ _ h
                · have h := pf_ifn hc h
                  refine r_iload_n R 134 dX12_joins_133 rfl rfl ?_
                  refine r_iload R 136 dX12_joins_134 rfl rfl ?_
                  refine r_ior R 137 dX12_joins_136 rfl ?_
                  refine r_goto R 161 dX12_joins_137 (by decide) ?_
                  refine r_fg R [true, true, true, false, false, false] (show _ = [pf_R 40 0, pf_I f55_1, pf_I w116_2, pf_U, pf_U, pf_U] from rfl) ?_
                  exact hj161 _ _ _ _ h
              have hj111 : ∀ (w111_2 : Int32) (w111_3 : Int32) (w111_4 : Int32) (M111 : pf_M), jX12_joins_111 f55_1 (lX12_joins_55 f55_1 kx55 n) w111_2 w111_3 w111_4 M111 = some q → K 111 [pf_R 40 0, pf_I f55_1, pf_I w111_2, pf_I w111_3, pf_I w111_4, pf_U] [] M111 := by
                intro w111_2 w111_3 w111_4 M111 h
                unfold jX12_joins_111 at h
                refine r_iconst R 112 dX12_joins_111 rfl ic_iconst_1 ?_
                refine r_goto R 116 dX12_joins_112 (by decide) ?_
                exact hj116 _ _ _ _ _ h
              intro v55_2 M55 h
              rw [lX12_joins_55] at h
              refine r_iload_n R 56 dX12_joins_55 rfl rfl ?_
              refine r_bipush R 58 dX12_joins_56 rfl ic_bipush_8 ?_
              refine r_icmp_ge R 61 168 dX12_joins_58 rfl (by decide) (fun hc => ?_) (fun hc => ?_)
              · have h := pf_ifp hc h
                refine r_fg R [true, true, false, true, true, true] (show _ = [pf_R 40 0, pf_I f55_1, pf_U, pf_U, pf_U, pf_U] from rfl) ?_
                exact hkx55 _ h
              · have h := pf_ifn hc h
                refine r_aload_n R 62 dX12_joins_61 rfl rfl ?_
                refine r_getfield R 65 dX12_joins_62 rfl fl_X12_94 rfl (show _ = pf_R 69 0 from rfl) ?_
                refine r_bipush R 67 dX12_joins_65 rfl ic_bipush_8 ?_
                refine r_iload_n R 68 dX12_joins_67 rfl rfl ?_
                refine r_imul R 69 dX12_joins_68 rfl ?_
                refine r_iload_n R 70 dX12_joins_69 rfl rfl ?_
                refine r_iadd R 71 dX12_joins_70 rfl ?_
                obtain ⟨hi8, h⟩ := pf_gd h
                refine r_iaload R 72 dX12_joins_71 rfl ⟨rfl, rfl⟩ (pf_in_iff.mp hi8) ?_
                refine r_istore_n R 73 dX12_joins_72 rfl rfl (show _ = [pf_R 40 0, pf_I f55_1, pf_I v55_2, pf_I (M55 69 0 (((8 : Int32) * f55_1) + v55_2).toNatClampNeg), pf_U, pf_U] from rfl) ?_
                refine r_aload_n R 74 dX12_joins_73 rfl rfl ?_
                refine r_getfield R 77 dX12_joins_74 rfl fl_X12_94 rfl (show _ = pf_R 69 0 from rfl) ?_
                refine r_bipush R 79 dX12_joins_77 rfl ic_bipush_32 ?_
                refine r_bipush R 81 dX12_joins_79 rfl ic_bipush_8 ?_
                refine r_iload_n R 82 dX12_joins_81 rfl rfl ?_
                refine r_imul R 83 dX12_joins_82 rfl ?_
                refine r_iadd R 84 dX12_joins_83 rfl ?_
                refine r_iload_n R 85 dX12_joins_84 rfl rfl ?_
                refine r_iadd R 86 dX12_joins_85 rfl ?_
                obtain ⟨hi9, h⟩ := pf_gd h
                refine r_iaload R 87 dX12_joins_86 rfl ⟨rfl, rfl⟩ (pf_in_iff.mp hi9) ?_
                refine r_istore R 89 dX12_joins_87 rfl rfl (show _ = [pf_R 40 0, pf_I f55_1, pf_I v55_2, pf_I (M55 69 0 (((8 : Int32) * f55_1) + v55_2).toNatClampNeg), pf_I (M55 69 0 (((32 : Int32) + ((8 : Int32) * f55_1)) + v55_2).toNatClampNeg), pf_U] from rfl) ?_
                refine r_aload_n R 90 dX12_joins_89 rfl rfl ?_
                refine r_getfield R 93 dX12_joins_90 rfl fl_X12_79 rfl (show _ = pf_R 64 0 from rfl) ?_
                refine r_iload_n R 94 dX12_joins_93 rfl rfl ?_
                obtain ⟨hi10, h⟩ := pf_gd h
                refine r_iaload R 95 dX12_joins_94 rfl ⟨rfl, rfl⟩ (pf_in_iff.mp hi10) ?_
                refine r_bipush R 97 dX12_joins_95 rfl ic_bipush_7 ?_
                refine r_icmp_eq R 100 111 dX12_joins_97 rfl (by decide) (fun hc => ?_) (fun hc => ?_)
                · have h := pf_ifp hc h
                  exact hj111 _ _ _ _ h
                · have h := pf_ifn hc h
                  refine r_aload_n R 101 dX12_joins_100 rfl rfl ?_
                  refine r_getfield R 104 dX12_joins_101 rfl fl_X12_79 rfl (show _ = pf_R 64 0 from rfl) ?_
                  refine r_iload_n R 105 dX12_joins_104 rfl rfl ?_
                  obtain ⟨hi11, h⟩ := pf_gd h
                  refine r_iaload R 106 dX12_joins_105 rfl ⟨rfl, rfl⟩ (pf_in_iff.mp hi11) ?_
                  refine r_bipush R 108 dX12_joins_106 rfl ic_bipush_9 ?_
                  refine r_icmp_ne R 111 115 dX12_joins_108 rfl (by decide) (fun hc => ?_) (fun hc => ?_)
                  · have h := pf_ifp hc h
                    exact hj111 _ _ _ _ h
                  · have h := pf_ifn hc h
                    refine r_iconst R 116 dX12_joins_115 rfl ic_iconst_0 ?_
                    exact hj116 _ _ _ _ _ h
        have hj31 : ∀ (w31_1 : Int32) (s31_1 : Int32) (s31_2 : Int32) (M31 : pf_M), jX12_joins_31 (lX12_joins_2 kx2 n) w31_1 s31_1 s31_2 M31 = some q → K 31 [pf_R 40 0, pf_I w31_1, pf_U, pf_U, pf_U, pf_U] [pf_I s31_2, pf_I s31_1, pf_R 71 0] M31 := by
          intro w31_1 s31_1 s31_2 M31 h
          unfold jX12_joins_31 at h
          obtain ⟨hi12, h⟩ := pf_gd h
          refine r_iastore R 32 dX12_joins_31 rfl ⟨rfl, rfl⟩ (pf_in_iff.mp hi12) ?_
          refine r_aload_n R 33 dX12_joins_32 rfl rfl ?_
          refine r_getfield R 36 dX12_joins_33 rfl fl_X12_103 rfl (show _ = pf_R 72 0 from rfl) ?_
          refine r_iload_n R 37 dX12_joins_36 rfl rfl ?_
          refine r_aload_n R 38 dX12_joins_37 rfl rfl ?_
          refine r_getfield R 41 dX12_joins_38 rfl fl_X12_97 rfl (show _ = pf_R 70 0 from rfl) ?_
          refine r_iload_n R 42 dX12_joins_41 rfl rfl ?_
          obtain ⟨hi13, h⟩ := pf_gd h
          refine r_iaload R 43 dX12_joins_42 rfl ⟨rfl, rfl⟩ (pf_in_iff.mp hi13) ?_
          refine r_aload_n R 44 dX12_joins_43 rfl rfl ?_
          refine r_getfield R 47 dX12_joins_44 rfl fl_X12_97 rfl (show _ = pf_R 70 0 from rfl) ?_
          refine r_iconst R 48 dX12_joins_47 rfl ic_iconst_4 ?_
          refine r_iload_n R 49 dX12_joins_48 rfl rfl ?_
          refine r_iadd R 50 dX12_joins_49 rfl ?_
          obtain ⟨hi14, h⟩ := pf_gd h
          refine r_iaload R 51 dX12_joins_50 rfl ⟨rfl, rfl⟩ (pf_in_iff.mp hi14) ?_
          refine r_iadd R 52 dX12_joins_51 rfl ?_
          obtain ⟨hi15, h⟩ := pf_gd h
          refine r_iastore R 53 dX12_joins_52 rfl ⟨rfl, rfl⟩ (pf_in_iff.mp hi15) ?_
          refine r_iconst R 54 dX12_joins_53 rfl ic_iconst_0 ?_
          refine r_istore_n R 55 dX12_joins_54 rfl rfl (show _ = [pf_R 40 0, pf_I w31_1, pf_I (0 : Int32), pf_U, pf_U, pf_U] from rfl) ?_
          refine hl55 _ _ (fun u16_Me55 h => ?_) pf_fu _ _ h
          refine r_iinc R 171 dX12_joins_168 rfl rfl ic_iconst_1 (show _ = [pf_R 40 0, pf_I (w31_1 + (1 : Int32)), pf_U, pf_U, pf_U, pf_U] from rfl) ?_
          refine r_goto R 2 dX12_joins_171 (by decide) ?_
          exact ih2 _ _ h
        intro v2_1 M2 h
        rw [lX12_joins_2] at h
        refine r_iload_n R 3 dX12_joins_2 rfl rfl ?_
        refine r_iconst R 4 dX12_joins_3 rfl ic_iconst_4 ?_
        refine r_icmp_ge R 7 174 dX12_joins_4 rfl (by decide) (fun hc => ?_) (fun hc => ?_)
        · have h := pf_ifp hc h
          refine r_fg R [true, false, true, true, true, true] (show _ = [pf_R 40 0, pf_U, pf_U, pf_U, pf_U, pf_U] from rfl) ?_
          exact hkx2 _ h
        · have h := pf_ifn hc h
          refine r_aload_n R 8 dX12_joins_7 rfl rfl ?_
          refine r_getfield R 11 dX12_joins_8 rfl fl_X12_100 rfl (show _ = pf_R 71 0 from rfl) ?_
          refine r_iload_n R 12 dX12_joins_11 rfl rfl ?_
          refine r_aload_n R 13 dX12_joins_12 rfl rfl ?_
          refine r_getfield R 16 dX12_joins_13 rfl fl_X12_79 rfl (show _ = pf_R 64 0 from rfl) ?_
          refine r_iload_n R 17 dX12_joins_16 rfl rfl ?_
          obtain ⟨hi17, h⟩ := pf_gd h
          refine r_iaload R 18 dX12_joins_17 rfl ⟨rfl, rfl⟩ (pf_in_iff.mp hi17) ?_
          refine r_if_ne R 21 25 dX12_joins_18 rfl (by decide) (fun hc => ?_) (fun hc => ?_)
          · have h := pf_ifp hc h
            refine r_iconst R 22 dX12_joins_21 rfl ic_iconst_0 ?_
            refine r_goto R 31 dX12_joins_22 (by decide) ?_
            exact hj31 _ _ _ _ h
          · have h := pf_ifn hc h
            refine r_aload_n R 26 dX12_joins_25 rfl rfl ?_
            refine r_getfield R 29 dX12_joins_26 rfl fl_X12_88 rfl (show _ = pf_R 67 0 from rfl) ?_
            refine r_iload_n R 30 dX12_joins_29 rfl rfl ?_
            obtain ⟨hi18, h⟩ := pf_gd h
            refine r_iaload R 31 dX12_joins_30 rfl ⟨rfl, rfl⟩ (pf_in_iff.mp hi18) ?_
            exact hj31 _ _ _ _ h
  unfold fX12_joins at h
  refine r_iconst R 1 dX12_joins_0 rfl ic_iconst_0 ?_
  refine r_istore_n R 2 dX12_joins_1 rfl rfl (show _ = [pf_R 40 0, pf_I (0 : Int32), pf_U, pf_U, pf_U, pf_U] from rfl) ?_
  refine hl2 _ (fun u19_Me2 h => ?_) pf_fu _ _ h
  refine r_aload_n R 175 dX12_joins_174 rfl rfl ?_
  refine r_iconst R 176 dX12_joins_175 rfl ic_iconst_1 ?_
  refine r_putfield R 179 dX12_joins_176 rfl fl_X12_199 rfl rfl rfl rfl ?_
  obtain rfl := Option.some.inj h
  exact r_return_ R dX12_joins_179 rfl rfl rfl
def jX12_keeps_141 (x1 : Int32) (M141 : pf_M) : Option (pf_M) :=
  (if pf_in x1 4 = true then (if pf_in ((5 : Int32) * (M141 40 0 44)) 30 = true then (if pf_in x1 4 = true then (if pf_in (((5 : Int32) * ((pf_up M141 74 0 ((5 : Int32) * (M141 40 0 44)).toNatClampNeg (M141 64 0 x1.toNatClampNeg)) 40 0 44)) + (1 : Int32)) 30 = true then (if pf_in x1 4 = true then (if pf_in (((5 : Int32) * ((pf_up (pf_up M141 74 0 ((5 : Int32) * (M141 40 0 44)).toNatClampNeg (M141 64 0 x1.toNatClampNeg)) 74 0 (((5 : Int32) * ((pf_up M141 74 0 ((5 : Int32) * (M141 40 0 44)).toNatClampNeg (M141 64 0 x1.toNatClampNeg)) 40 0 44)) + (1 : Int32)).toNatClampNeg ((pf_up M141 74 0 ((5 : Int32) * (M141 40 0 44)).toNatClampNeg (M141 64 0 x1.toNatClampNeg)) 65 0 x1.toNatClampNeg)) 40 0 44)) + (2 : Int32)) 30 = true then (if pf_in x1 4 = true then (if pf_in (((5 : Int32) * ((pf_up (pf_up (pf_up M141 74 0 ((5 : Int32) * (M141 40 0 44)).toNatClampNeg (M141 64 0 x1.toNatClampNeg)) 74 0 (((5 : Int32) * ((pf_up M141 74 0 ((5 : Int32) * (M141 40 0 44)).toNatClampNeg (M141 64 0 x1.toNatClampNeg)) 40 0 44)) + (1 : Int32)).toNatClampNeg ((pf_up M141 74 0 ((5 : Int32) * (M141 40 0 44)).toNatClampNeg (M141 64 0 x1.toNatClampNeg)) 65 0 x1.toNatClampNeg)) 74 0 (((5 : Int32) * ((pf_up (pf_up M141 74 0 ((5 : Int32) * (M141 40 0 44)).toNatClampNeg (M141 64 0 x1.toNatClampNeg)) 74 0 (((5 : Int32) * ((pf_up M141 74 0 ((5 : Int32) * (M141 40 0 44)).toNatClampNeg (M141 64 0 x1.toNatClampNeg)) 40 0 44)) + (1 : Int32)).toNatClampNeg ((pf_up M141 74 0 ((5 : Int32) * (M141 40 0 44)).toNatClampNeg (M141 64 0 x1.toNatClampNeg)) 65 0 x1.toNatClampNeg)) 40 0 44)) + (2 : Int32)).toNatClampNeg ((pf_up (pf_up M141 74 0 ((5 : Int32) * (M141 40 0 44)).toNatClampNeg (M141 64 0 x1.toNatClampNeg)) 74 0 (((5 : Int32) * ((pf_up M141 74 0 ((5 : Int32) * (M141 40 0 44)).toNatClampNeg (M141 64 0 x1.toNatClampNeg)) 40 0 44)) + (1 : Int32)).toNatClampNeg ((pf_up M141 74 0 ((5 : Int32) * (M141 40 0 44)).toNatClampNeg (M141 64 0 x1.toNatClampNeg)) 65 0 x1.toNatClampNeg)) 66 0 x1.toNatClampNeg)) 40 0 44)) + (3 : Int32)) 30 = true then (if pf_in x1 4 = true then (if pf_in (((5 : Int32) * ((pf_up (pf_up (pf_up (pf_up M141 74 0 ((5 : Int32) * (M141 40 0 44)).toNatClampNeg (M141 64 0 x1.toNatClampNeg)) 74 0 (((5 : Int32) * ((pf_up M141 74 0 ((5 : Int32) * (M141 40 0 44)).toNatClampNeg (M141 64 0 x1.toNatClampNeg)) 40 0 44)) + (1 : Int32)).toNatClampNeg ((pf_up M141 74 0 ((5 : Int32) * (M141 40 0 44)).toNatClampNeg (M141 64 0 x1.toNatClampNeg)) 65 0 x1.toNatClampNeg)) 74 0 (((5 : Int32) * ((pf_up (pf_up M141 74 0 ((5 : Int32) * (M141 40 0 44)).toNatClampNeg (M141 64 0 x1.toNatClampNeg)) 74 0 (((5 : Int32) * ((pf_up M141 74 0 ((5 : Int32) * (M141 40 0 44)).toNatClampNeg (M141 64 0 x1.toNatClampNeg)) 40 0 44)) + (1 : Int32)).toNatClampNeg ((pf_up M141 74 0 ((5 : Int32) * (M141 40 0 44)).toNatClampNeg (M141 64 0 x1.toNatClampNeg)) 65 0 x1.toNatClampNeg)) 40 0 44)) + (2 : Int32)).toNatClampNeg ((pf_up (pf_up M141 74 0 ((5 : Int32) * (M141 40 0 44)).toNatClampNeg (M141 64 0 x1.toNatClampNeg)) 74 0 (((5 : Int32) * ((pf_up M141 74 0 ((5 : Int32) * (M141 40 0 44)).toNatClampNeg (M141 64 0 x1.toNatClampNeg)) 40 0 44)) + (1 : Int32)).toNatClampNeg ((pf_up M141 74 0 ((5 : Int32) * (M141 40 0 44)).toNatClampNeg (M141 64 0 x1.toNatClampNeg)) 65 0 x1.toNatClampNeg)) 66 0 x1.toNatClampNeg)) 74 0 (((5 : Int32) * ((pf_up (pf_up (pf_up M141 74 0 ((5 : Int32) * (M141 40 0 44)).toNatClampNeg (M141 64 0 x1.toNatClampNeg)) 74 0 (((5 : Int32) * ((pf_up M141 74 0 ((5 : Int32) * (M141 40 0 44)).toNatClampNeg (M141 64 0 x1.toNatClampNeg)) 40 0 44)) + (1 : Int32)).toNatClampNeg ((pf_up M141 74 0 ((5 : Int32) * (M141 40 0 44)).toNatClampNeg (M141 64 0 x1.toNatClampNeg)) 65 0 x1.toNatClampNeg)) 74 0 (((5 : Int32) * ((pf_up (pf_up M141 74 0 ((5 : Int32) * (M141 40 0 44)).toNatClampNeg (M141 64 0 x1.toNatClampNeg)) 74 0 (((5 : Int32) * ((pf_up M141 74 0 ((5 : Int32) * (M141 40 0 44)).toNatClampNeg (M141 64 0 x1.toNatClampNeg)) 40 0 44)) + (1 : Int32)).toNatClampNeg ((pf_up M141 74 0 ((5 : Int32) * (M141 40 0 44)).toNatClampNeg (M141 64 0 x1.toNatClampNeg)) 65 0 x1.toNatClampNeg)) 40 0 44)) + (2 : Int32)).toNatClampNeg ((pf_up (pf_up M141 74 0 ((5 : Int32) * (M141 40 0 44)).toNatClampNeg (M141 64 0 x1.toNatClampNeg)) 74 0 (((5 : Int32) * ((pf_up M141 74 0 ((5 : Int32) * (M141 40 0 44)).toNatClampNeg (M141 64 0 x1.toNatClampNeg)) 40 0 44)) + (1 : Int32)).toNatClampNeg ((pf_up M141 74 0 ((5 : Int32) * (M141 40 0 44)).toNatClampNeg (M141 64 0 x1.toNatClampNeg)) 65 0 x1.toNatClampNeg)) 66 0 x1.toNatClampNeg)) 40 0 44)) + (3 : Int32)).toNatClampNeg ((pf_up (pf_up (pf_up M141 74 0 ((5 : Int32) * (M141 40 0 44)).toNatClampNeg (M141 64 0 x1.toNatClampNeg)) 74 0 (((5 : Int32) * ((pf_up M141 74 0 ((5 : Int32) * (M141 40 0 44)).toNatClampNeg (M141 64 0 x1.toNatClampNeg)) 40 0 44)) + (1 : Int32)).toNatClampNeg ((pf_up M141 74 0 ((5 : Int32) * (M141 40 0 44)).toNatClampNeg (M141 64 0 x1.toNatClampNeg)) 65 0 x1.toNatClampNeg)) 74 0 (((5 : Int32) * ((pf_up (pf_up M141 74 0 ((5 : Int32) * (M141 40 0 44)).toNatClampNeg (M141 64 0 x1.toNatClampNeg)) 74 0 (((5 : Int32) * ((pf_up M141 74 0 ((5 : Int32) * (M141 40 0 44)).toNatClampNeg (M141 64 0 x1.toNatClampNeg)) 40 0 44)) + (1 : Int32)).toNatClampNeg ((pf_up M141 74 0 ((5 : Int32) * (M141 40 0 44)).toNatClampNeg (M141 64 0 x1.toNatClampNeg)) 65 0 x1.toNatClampNeg)) 40 0 44)) + (2 : Int32)).toNatClampNeg ((pf_up (pf_up M141 74 0 ((5 : Int32) * (M141 40 0 44)).toNatClampNeg (M141 64 0 x1.toNatClampNeg)) 74 0 (((5 : Int32) * ((pf_up M141 74 0 ((5 : Int32) * (M141 40 0 44)).toNatClampNeg (M141 64 0 x1.toNatClampNeg)) 40 0 44)) + (1 : Int32)).toNatClampNeg ((pf_up M141 74 0 ((5 : Int32) * (M141 40 0 44)).toNatClampNeg (M141 64 0 x1.toNatClampNeg)) 65 0 x1.toNatClampNeg)) 66 0 x1.toNatClampNeg)) 67 0 x1.toNatClampNeg)) 40 0 44)) + (4 : Int32)) 30 = true then some (pf_up (pf_up (pf_up (pf_up (pf_up (pf_up M141 74 0 ((5 : Int32) * (M141 40 0 44)).toNatClampNeg (M141 64 0 x1.toNatClampNeg)) 74 0 (((5 : Int32) * ((pf_up M141 74 0 ((5 : Int32) * (M141 40 0 44)).toNatClampNeg (M141 64 0 x1.toNatClampNeg)) 40 0 44)) + (1 : Int32)).toNatClampNeg ((pf_up M141 74 0 ((5 : Int32) * (M141 40 0 44)).toNatClampNeg (M141 64 0 x1.toNatClampNeg)) 65 0 x1.toNatClampNeg)) 74 0 (((5 : Int32) * ((pf_up (pf_up M141 74 0 ((5 : Int32) * (M141 40 0 44)).toNatClampNeg (M141 64 0 x1.toNatClampNeg)) 74 0 (((5 : Int32) * ((pf_up M141 74 0 ((5 : Int32) * (M141 40 0 44)).toNatClampNeg (M141 64 0 x1.toNatClampNeg)) 40 0 44)) + (1 : Int32)).toNatClampNeg ((pf_up M141 74 0 ((5 : Int32) * (M141 40 0 44)).toNatClampNeg (M141 64 0 x1.toNatClampNeg)) 65 0 x1.toNatClampNeg)) 40 0 44)) + (2 : Int32)).toNatClampNeg ((pf_up (pf_up M141 74 0 ((5 : Int32) * (M141 40 0 44)).toNatClampNeg (M141 64 0 x1.toNatClampNeg)) 74 0 (((5 : Int32) * ((pf_up M141 74 0 ((5 : Int32) * (M141 40 0 44)).toNatClampNeg (M141 64 0 x1.toNatClampNeg)) 40 0 44)) + (1 : Int32)).toNatClampNeg ((pf_up M141 74 0 ((5 : Int32) * (M141 40 0 44)).toNatClampNeg (M141 64 0 x1.toNatClampNeg)) 65 0 x1.toNatClampNeg)) 66 0 x1.toNatClampNeg)) 74 0 (((5 : Int32) * ((pf_up (pf_up (pf_up M141 74 0 ((5 : Int32) * (M141 40 0 44)).toNatClampNeg (M141 64 0 x1.toNatClampNeg)) 74 0 (((5 : Int32) * ((pf_up M141 74 0 ((5 : Int32) * (M141 40 0 44)).toNatClampNeg (M141 64 0 x1.toNatClampNeg)) 40 0 44)) + (1 : Int32)).toNatClampNeg ((pf_up M141 74 0 ((5 : Int32) * (M141 40 0 44)).toNatClampNeg (M141 64 0 x1.toNatClampNeg)) 65 0 x1.toNatClampNeg)) 74 0 (((5 : Int32) * ((pf_up (pf_up M141 74 0 ((5 : Int32) * (M141 40 0 44)).toNatClampNeg (M141 64 0 x1.toNatClampNeg)) 74 0 (((5 : Int32) * ((pf_up M141 74 0 ((5 : Int32) * (M141 40 0 44)).toNatClampNeg (M141 64 0 x1.toNatClampNeg)) 40 0 44)) + (1 : Int32)).toNatClampNeg ((pf_up M141 74 0 ((5 : Int32) * (M141 40 0 44)).toNatClampNeg (M141 64 0 x1.toNatClampNeg)) 65 0 x1.toNatClampNeg)) 40 0 44)) + (2 : Int32)).toNatClampNeg ((pf_up (pf_up M141 74 0 ((5 : Int32) * (M141 40 0 44)).toNatClampNeg (M141 64 0 x1.toNatClampNeg)) 74 0 (((5 : Int32) * ((pf_up M141 74 0 ((5 : Int32) * (M141 40 0 44)).toNatClampNeg (M141 64 0 x1.toNatClampNeg)) 40 0 44)) + (1 : Int32)).toNatClampNeg ((pf_up M141 74 0 ((5 : Int32) * (M141 40 0 44)).toNatClampNeg (M141 64 0 x1.toNatClampNeg)) 65 0 x1.toNatClampNeg)) 66 0 x1.toNatClampNeg)) 40 0 44)) + (3 : Int32)).toNatClampNeg ((pf_up (pf_up (pf_up M141 74 0 ((5 : Int32) * (M141 40 0 44)).toNatClampNeg (M141 64 0 x1.toNatClampNeg)) 74 0 (((5 : Int32) * ((pf_up M141 74 0 ((5 : Int32) * (M141 40 0 44)).toNatClampNeg (M141 64 0 x1.toNatClampNeg)) 40 0 44)) + (1 : Int32)).toNatClampNeg ((pf_up M141 74 0 ((5 : Int32) * (M141 40 0 44)).toNatClampNeg (M141 64 0 x1.toNatClampNeg)) 65 0 x1.toNatClampNeg)) 74 0 (((5 : Int32) * ((pf_up (pf_up M141 74 0 ((5 : Int32) * (M141 40 0 44)).toNatClampNeg (M141 64 0 x1.toNatClampNeg)) 74 0 (((5 : Int32) * ((pf_up M141 74 0 ((5 : Int32) * (M141 40 0 44)).toNatClampNeg (M141 64 0 x1.toNatClampNeg)) 40 0 44)) + (1 : Int32)).toNatClampNeg ((pf_up M141 74 0 ((5 : Int32) * (M141 40 0 44)).toNatClampNeg (M141 64 0 x1.toNatClampNeg)) 65 0 x1.toNatClampNeg)) 40 0 44)) + (2 : Int32)).toNatClampNeg ((pf_up (pf_up M141 74 0 ((5 : Int32) * (M141 40 0 44)).toNatClampNeg (M141 64 0 x1.toNatClampNeg)) 74 0 (((5 : Int32) * ((pf_up M141 74 0 ((5 : Int32) * (M141 40 0 44)).toNatClampNeg (M141 64 0 x1.toNatClampNeg)) 40 0 44)) + (1 : Int32)).toNatClampNeg ((pf_up M141 74 0 ((5 : Int32) * (M141 40 0 44)).toNatClampNeg (M141 64 0 x1.toNatClampNeg)) 65 0 x1.toNatClampNeg)) 66 0 x1.toNatClampNeg)) 67 0 x1.toNatClampNeg)) 74 0 (((5 : Int32) * ((pf_up (pf_up (pf_up (pf_up M141 74 0 ((5 : Int32) * (M141 40 0 44)).toNatClampNeg (M141 64 0 x1.toNatClampNeg)) 74 0 (((5 : Int32) * ((pf_up M141 74 0 ((5 : Int32) * (M141 40 0 44)).toNatClampNeg (M141 64 0 x1.toNatClampNeg)) 40 0 44)) + (1 : Int32)).toNatClampNeg ((pf_up M141 74 0 ((5 : Int32) * (M141 40 0 44)).toNatClampNeg (M141 64 0 x1.toNatClampNeg)) 65 0 x1.toNatClampNeg)) 74 0 (((5 : Int32) * ((pf_up (pf_up M141 74 0 ((5 : Int32) * (M141 40 0 44)).toNatClampNeg (M141 64 0 x1.toNatClampNeg)) 74 0 (((5 : Int32) * ((pf_up M141 74 0 ((5 : Int32) * (M141 40 0 44)).toNatClampNeg (M141 64 0 x1.toNatClampNeg)) 40 0 44)) + (1 : Int32)).toNatClampNeg ((pf_up M141 74 0 ((5 : Int32) * (M141 40 0 44)).toNatClampNeg (M141 64 0 x1.toNatClampNeg)) 65 0 x1.toNatClampNeg)) 40 0 44)) + (2 : Int32)).toNatClampNeg ((pf_up (pf_up M141 74 0 ((5 : Int32) * (M141 40 0 44)).toNatClampNeg (M141 64 0 x1.toNatClampNeg)) 74 0 (((5 : Int32) * ((pf_up M141 74 0 ((5 : Int32) * (M141 40 0 44)).toNatClampNeg (M141 64 0 x1.toNatClampNeg)) 40 0 44)) + (1 : Int32)).toNatClampNeg ((pf_up M141 74 0 ((5 : Int32) * (M141 40 0 44)).toNatClampNeg (M141 64 0 x1.toNatClampNeg)) 65 0 x1.toNatClampNeg)) 66 0 x1.toNatClampNeg)) 74 0 (((5 : Int32) * ((pf_up (pf_up (pf_up M141 74 0 ((5 : Int32) * (M141 40 0 44)).toNatClampNeg (M141 64 0 x1.toNatClampNeg)) 74 0 (((5 : Int32) * ((pf_up M141 74 0 ((5 : Int32) * (M141 40 0 44)).toNatClampNeg (M141 64 0 x1.toNatClampNeg)) 40 0 44)) + (1 : Int32)).toNatClampNeg ((pf_up M141 74 0 ((5 : Int32) * (M141 40 0 44)).toNatClampNeg (M141 64 0 x1.toNatClampNeg)) 65 0 x1.toNatClampNeg)) 74 0 (((5 : Int32) * ((pf_up (pf_up M141 74 0 ((5 : Int32) * (M141 40 0 44)).toNatClampNeg (M141 64 0 x1.toNatClampNeg)) 74 0 (((5 : Int32) * ((pf_up M141 74 0 ((5 : Int32) * (M141 40 0 44)).toNatClampNeg (M141 64 0 x1.toNatClampNeg)) 40 0 44)) + (1 : Int32)).toNatClampNeg ((pf_up M141 74 0 ((5 : Int32) * (M141 40 0 44)).toNatClampNeg (M141 64 0 x1.toNatClampNeg)) 65 0 x1.toNatClampNeg)) 40 0 44)) + (2 : Int32)).toNatClampNeg ((pf_up (pf_up M141 74 0 ((5 : Int32) * (M141 40 0 44)).toNatClampNeg (M141 64 0 x1.toNatClampNeg)) 74 0 (((5 : Int32) * ((pf_up M141 74 0 ((5 : Int32) * (M141 40 0 44)).toNatClampNeg (M141 64 0 x1.toNatClampNeg)) 40 0 44)) + (1 : Int32)).toNatClampNeg ((pf_up M141 74 0 ((5 : Int32) * (M141 40 0 44)).toNatClampNeg (M141 64 0 x1.toNatClampNeg)) 65 0 x1.toNatClampNeg)) 66 0 x1.toNatClampNeg)) 40 0 44)) + (3 : Int32)).toNatClampNeg ((pf_up (pf_up (pf_up M141 74 0 ((5 : Int32) * (M141 40 0 44)).toNatClampNeg (M141 64 0 x1.toNatClampNeg)) 74 0 (((5 : Int32) * ((pf_up M141 74 0 ((5 : Int32) * (M141 40 0 44)).toNatClampNeg (M141 64 0 x1.toNatClampNeg)) 40 0 44)) + (1 : Int32)).toNatClampNeg ((pf_up M141 74 0 ((5 : Int32) * (M141 40 0 44)).toNatClampNeg (M141 64 0 x1.toNatClampNeg)) 65 0 x1.toNatClampNeg)) 74 0 (((5 : Int32) * ((pf_up (pf_up M141 74 0 ((5 : Int32) * (M141 40 0 44)).toNatClampNeg (M141 64 0 x1.toNatClampNeg)) 74 0 (((5 : Int32) * ((pf_up M141 74 0 ((5 : Int32) * (M141 40 0 44)).toNatClampNeg (M141 64 0 x1.toNatClampNeg)) 40 0 44)) + (1 : Int32)).toNatClampNeg ((pf_up M141 74 0 ((5 : Int32) * (M141 40 0 44)).toNatClampNeg (M141 64 0 x1.toNatClampNeg)) 65 0 x1.toNatClampNeg)) 40 0 44)) + (2 : Int32)).toNatClampNeg ((pf_up (pf_up M141 74 0 ((5 : Int32) * (M141 40 0 44)).toNatClampNeg (M141 64 0 x1.toNatClampNeg)) 74 0 (((5 : Int32) * ((pf_up M141 74 0 ((5 : Int32) * (M141 40 0 44)).toNatClampNeg (M141 64 0 x1.toNatClampNeg)) 40 0 44)) + (1 : Int32)).toNatClampNeg ((pf_up M141 74 0 ((5 : Int32) * (M141 40 0 44)).toNatClampNeg (M141 64 0 x1.toNatClampNeg)) 65 0 x1.toNatClampNeg)) 66 0 x1.toNatClampNeg)) 67 0 x1.toNatClampNeg)) 40 0 44)) + (4 : Int32)).toNatClampNeg ((pf_up (pf_up (pf_up (pf_up M141 74 0 ((5 : Int32) * (M141 40 0 44)).toNatClampNeg (M141 64 0 x1.toNatClampNeg)) 74 0 (((5 : Int32) * ((pf_up M141 74 0 ((5 : Int32) * (M141 40 0 44)).toNatClampNeg (M141 64 0 x1.toNatClampNeg)) 40 0 44)) + (1 : Int32)).toNatClampNeg ((pf_up M141 74 0 ((5 : Int32) * (M141 40 0 44)).toNatClampNeg (M141 64 0 x1.toNatClampNeg)) 65 0 x1.toNatClampNeg)) 74 0 (((5 : Int32) * ((pf_up (pf_up M141 74 0 ((5 : Int32) * (M141 40 0 44)).toNatClampNeg (M141 64 0 x1.toNatClampNeg)) 74 0 (((5 : Int32) * ((pf_up M141 74 0 ((5 : Int32) * (M141 40 0 44)).toNatClampNeg (M141 64 0 x1.toNatClampNeg)) 40 0 44)) + (1 : Int32)).toNatClampNeg ((pf_up M141 74 0 ((5 : Int32) * (M141 40 0 44)).toNatClampNeg (M141 64 0 x1.toNatClampNeg)) 65 0 x1.toNatClampNeg)) 40 0 44)) + (2 : Int32)).toNatClampNeg ((pf_up (pf_up M141 74 0 ((5 : Int32) * (M141 40 0 44)).toNatClampNeg (M141 64 0 x1.toNatClampNeg)) 74 0 (((5 : Int32) * ((pf_up M141 74 0 ((5 : Int32) * (M141 40 0 44)).toNatClampNeg (M141 64 0 x1.toNatClampNeg)) 40 0 44)) + (1 : Int32)).toNatClampNeg ((pf_up M141 74 0 ((5 : Int32) * (M141 40 0 44)).toNatClampNeg (M141 64 0 x1.toNatClampNeg)) 65 0 x1.toNatClampNeg)) 66 0 x1.toNatClampNeg)) 74 0 (((5 : Int32) * ((pf_up (pf_up (pf_up M141 74 0 ((5 : Int32) * (M141 40 0 44)).toNatClampNeg (M141 64 0 x1.toNatClampNeg)) 74 0 (((5 : Int32) * ((pf_up M141 74 0 ((5 : Int32) * (M141 40 0 44)).toNatClampNeg (M141 64 0 x1.toNatClampNeg)) 40 0 44)) + (1 : Int32)).toNatClampNeg ((pf_up M141 74 0 ((5 : Int32) * (M141 40 0 44)).toNatClampNeg (M141 64 0 x1.toNatClampNeg)) 65 0 x1.toNatClampNeg)) 74 0 (((5 : Int32) * ((pf_up (pf_up M141 74 0 ((5 : Int32) * (M141 40 0 44)).toNatClampNeg (M141 64 0 x1.toNatClampNeg)) 74 0 (((5 : Int32) * ((pf_up M141 74 0 ((5 : Int32) * (M141 40 0 44)).toNatClampNeg (M141 64 0 x1.toNatClampNeg)) 40 0 44)) + (1 : Int32)).toNatClampNeg ((pf_up M141 74 0 ((5 : Int32) * (M141 40 0 44)).toNatClampNeg (M141 64 0 x1.toNatClampNeg)) 65 0 x1.toNatClampNeg)) 40 0 44)) + (2 : Int32)).toNatClampNeg ((pf_up (pf_up M141 74 0 ((5 : Int32) * (M141 40 0 44)).toNatClampNeg (M141 64 0 x1.toNatClampNeg)) 74 0 (((5 : Int32) * ((pf_up M141 74 0 ((5 : Int32) * (M141 40 0 44)).toNatClampNeg (M141 64 0 x1.toNatClampNeg)) 40 0 44)) + (1 : Int32)).toNatClampNeg ((pf_up M141 74 0 ((5 : Int32) * (M141 40 0 44)).toNatClampNeg (M141 64 0 x1.toNatClampNeg)) 65 0 x1.toNatClampNeg)) 66 0 x1.toNatClampNeg)) 40 0 44)) + (3 : Int32)).toNatClampNeg ((pf_up (pf_up (pf_up M141 74 0 ((5 : Int32) * (M141 40 0 44)).toNatClampNeg (M141 64 0 x1.toNatClampNeg)) 74 0 (((5 : Int32) * ((pf_up M141 74 0 ((5 : Int32) * (M141 40 0 44)).toNatClampNeg (M141 64 0 x1.toNatClampNeg)) 40 0 44)) + (1 : Int32)).toNatClampNeg ((pf_up M141 74 0 ((5 : Int32) * (M141 40 0 44)).toNatClampNeg (M141 64 0 x1.toNatClampNeg)) 65 0 x1.toNatClampNeg)) 74 0 (((5 : Int32) * ((pf_up (pf_up M141 74 0 ((5 : Int32) * (M141 40 0 44)).toNatClampNeg (M141 64 0 x1.toNatClampNeg)) 74 0 (((5 : Int32) * ((pf_up M141 74 0 ((5 : Int32) * (M141 40 0 44)).toNatClampNeg (M141 64 0 x1.toNatClampNeg)) 40 0 44)) + (1 : Int32)).toNatClampNeg ((pf_up M141 74 0 ((5 : Int32) * (M141 40 0 44)).toNatClampNeg (M141 64 0 x1.toNatClampNeg)) 65 0 x1.toNatClampNeg)) 40 0 44)) + (2 : Int32)).toNatClampNeg ((pf_up (pf_up M141 74 0 ((5 : Int32) * (M141 40 0 44)).toNatClampNeg (M141 64 0 x1.toNatClampNeg)) 74 0 (((5 : Int32) * ((pf_up M141 74 0 ((5 : Int32) * (M141 40 0 44)).toNatClampNeg (M141 64 0 x1.toNatClampNeg)) 40 0 44)) + (1 : Int32)).toNatClampNeg ((pf_up M141 74 0 ((5 : Int32) * (M141 40 0 44)).toNatClampNeg (M141 64 0 x1.toNatClampNeg)) 65 0 x1.toNatClampNeg)) 66 0 x1.toNatClampNeg)) 67 0 x1.toNatClampNeg)) 72 0 x1.toNatClampNeg)) 40 0 44 (((pf_up (pf_up (pf_up (pf_up (pf_up M141 74 0 ((5 : Int32) * (M141 40 0 44)).toNatClampNeg (M141 64 0 x1.toNatClampNeg)) 74 0 (((5 : Int32) * ((pf_up M141 74 0 ((5 : Int32) * (M141 40 0 44)).toNatClampNeg (M141 64 0 x1.toNatClampNeg)) 40 0 44)) + (1 : Int32)).toNatClampNeg ((pf_up M141 74 0 ((5 : Int32) * (M141 40 0 44)).toNatClampNeg (M141 64 0 x1.toNatClampNeg)) 65 0 x1.toNatClampNeg)) 74 0 (((5 : Int32) * ((pf_up (pf_up M141 74 0 ((5 : Int32) * (M141 40 0 44)).toNatClampNeg (M141 64 0 x1.toNatClampNeg)) 74 0 (((5 : Int32) * ((pf_up M141 74 0 ((5 : Int32) * (M141 40 0 44)).toNatClampNeg (M141 64 0 x1.toNatClampNeg)) 40 0 44)) + (1 : Int32)).toNatClampNeg ((pf_up M141 74 0 ((5 : Int32) * (M141 40 0 44)).toNatClampNeg (M141 64 0 x1.toNatClampNeg)) 65 0 x1.toNatClampNeg)) 40 0 44)) + (2 : Int32)).toNatClampNeg ((pf_up (pf_up M141 74 0 ((5 : Int32) * (M141 40 0 44)).toNatClampNeg (M141 64 0 x1.toNatClampNeg)) 74 0 (((5 : Int32) * ((pf_up M141 74 0 ((5 : Int32) * (M141 40 0 44)).toNatClampNeg (M141 64 0 x1.toNatClampNeg)) 40 0 44)) + (1 : Int32)).toNatClampNeg ((pf_up M141 74 0 ((5 : Int32) * (M141 40 0 44)).toNatClampNeg (M141 64 0 x1.toNatClampNeg)) 65 0 x1.toNatClampNeg)) 66 0 x1.toNatClampNeg)) 74 0 (((5 : Int32) * ((pf_up (pf_up (pf_up M141 74 0 ((5 : Int32) * (M141 40 0 44)).toNatClampNeg (M141 64 0 x1.toNatClampNeg)) 74 0 (((5 : Int32) * ((pf_up M141 74 0 ((5 : Int32) * (M141 40 0 44)).toNatClampNeg (M141 64 0 x1.toNatClampNeg)) 40 0 44)) + (1 : Int32)).toNatClampNeg ((pf_up M141 74 0 ((5 : Int32) * (M141 40 0 44)).toNatClampNeg (M141 64 0 x1.toNatClampNeg)) 65 0 x1.toNatClampNeg)) 74 0 (((5 : Int32) * ((pf_up (pf_up M141 74 0 ((5 : Int32) * (M141 40 0 44)).toNatClampNeg (M141 64 0 x1.toNatClampNeg)) 74 0 (((5 : Int32) * ((pf_up M141 74 0 ((5 : Int32) * (M141 40 0 44)).toNatClampNeg (M141 64 0 x1.toNatClampNeg)) 40 0 44)) + (1 : Int32)).toNatClampNeg ((pf_up M141 74 0 ((5 : Int32) * (M141 40 0 44)).toNatClampNeg (M141 64 0 x1.toNatClampNeg)) 65 0 x1.toNatClampNeg)) 40 0 44)) + (2 : Int32)).toNatClampNeg ((pf_up (pf_up M141 74 0 ((5 : Int32) * (M141 40 0 44)).toNatClampNeg (M141 64 0 x1.toNatClampNeg)) 74 0 (((5 : Int32) * ((pf_up M141 74 0 ((5 : Int32) * (M141 40 0 44)).toNatClampNeg (M141 64 0 x1.toNatClampNeg)) 40 0 44)) + (1 : Int32)).toNatClampNeg ((pf_up M141 74 0 ((5 : Int32) * (M141 40 0 44)).toNatClampNeg (M141 64 0 x1.toNatClampNeg)) 65 0 x1.toNatClampNeg)) 66 0 x1.toNatClampNeg)) 40 0 44)) + (3 : Int32)).toNatClampNeg ((pf_up (pf_up (pf_up M141 74 0 ((5 : Int32) * (M141 40 0 44)).toNatClampNeg (M141 64 0 x1.toNatClampNeg)) 74 0 (((5 : Int32) * ((pf_up M141 74 0 ((5 : Int32) * (M141 40 0 44)).toNatClampNeg (M141 64 0 x1.toNatClampNeg)) 40 0 44)) + (1 : Int32)).toNatClampNeg ((pf_up M141 74 0 ((5 : Int32) * (M141 40 0 44)).toNatClampNeg (M141 64 0 x1.toNatClampNeg)) 65 0 x1.toNatClampNeg)) 74 0 (((5 : Int32) * ((pf_up (pf_up M141 74 0 ((5 : Int32) * (M141 40 0 44)).toNatClampNeg (M141 64 0 x1.toNatClampNeg)) 74 0 (((5 : Int32) * ((pf_up M141 74 0 ((5 : Int32) * (M141 40 0 44)).toNatClampNeg (M141 64 0 x1.toNatClampNeg)) 40 0 44)) + (1 : Int32)).toNatClampNeg ((pf_up M141 74 0 ((5 : Int32) * (M141 40 0 44)).toNatClampNeg (M141 64 0 x1.toNatClampNeg)) 65 0 x1.toNatClampNeg)) 40 0 44)) + (2 : Int32)).toNatClampNeg ((pf_up (pf_up M141 74 0 ((5 : Int32) * (M141 40 0 44)).toNatClampNeg (M141 64 0 x1.toNatClampNeg)) 74 0 (((5 : Int32) * ((pf_up M141 74 0 ((5 : Int32) * (M141 40 0 44)).toNatClampNeg (M141 64 0 x1.toNatClampNeg)) 40 0 44)) + (1 : Int32)).toNatClampNeg ((pf_up M141 74 0 ((5 : Int32) * (M141 40 0 44)).toNatClampNeg (M141 64 0 x1.toNatClampNeg)) 65 0 x1.toNatClampNeg)) 66 0 x1.toNatClampNeg)) 67 0 x1.toNatClampNeg)) 74 0 (((5 : Int32) * ((pf_up (pf_up (pf_up (pf_up M141 74 0 ((5 : Int32) * (M141 40 0 44)).toNatClampNeg (M141 64 0 x1.toNatClampNeg)) 74 0 (((5 : Int32) * ((pf_up M141 74 0 ((5 : Int32) * (M141 40 0 44)).toNatClampNeg (M141 64 0 x1.toNatClampNeg)) 40 0 44)) + (1 : Int32)).toNatClampNeg ((pf_up M141 74 0 ((5 : Int32) * (M141 40 0 44)).toNatClampNeg (M141 64 0 x1.toNatClampNeg)) 65 0 x1.toNatClampNeg)) 74 0 (((5 : Int32) * ((pf_up (pf_up M141 74 0 ((5 : Int32) * (M141 40 0 44)).toNatClampNeg (M141 64 0 x1.toNatClampNeg)) 74 0 (((5 : Int32) * ((pf_up M141 74 0 ((5 : Int32) * (M141 40 0 44)).toNatClampNeg (M141 64 0 x1.toNatClampNeg)) 40 0 44)) + (1 : Int32)).toNatClampNeg ((pf_up M141 74 0 ((5 : Int32) * (M141 40 0 44)).toNatClampNeg (M141 64 0 x1.toNatClampNeg)) 65 0 x1.toNatClampNeg)) 40 0 44)) + (2 : Int32)).toNatClampNeg ((pf_up (pf_up M141 74 0 ((5 : Int32) * (M141 40 0 44)).toNatClampNeg (M141 64 0 x1.toNatClampNeg)) 74 0 (((5 : Int32) * ((pf_up M141 74 0 ((5 : Int32) * (M141 40 0 44)).toNatClampNeg (M141 64 0 x1.toNatClampNeg)) 40 0 44)) + (1 : Int32)).toNatClampNeg ((pf_up M141 74 0 ((5 : Int32) * (M141 40 0 44)).toNatClampNeg (M141 64 0 x1.toNatClampNeg)) 65 0 x1.toNatClampNeg)) 66 0 x1.toNatClampNeg)) 74 0 (((5 : Int32) * ((pf_up (pf_up (pf_up M141 74 0 ((5 : Int32) * (M141 40 0 44)).toNatClampNeg (M141 64 0 x1.toNatClampNeg)) 74 0 (((5 : Int32) * ((pf_up M141 74 0 ((5 : Int32) * (M141 40 0 44)).toNatClampNeg (M141 64 0 x1.toNatClampNeg)) 40 0 44)) + (1 : Int32)).toNatClampNeg ((pf_up M141 74 0 ((5 : Int32) * (M141 40 0 44)).toNatClampNeg (M141 64 0 x1.toNatClampNeg)) 65 0 x1.toNatClampNeg)) 74 0 (((5 : Int32) * ((pf_up (pf_up M141 74 0 ((5 : Int32) * (M141 40 0 44)).toNatClampNeg (M141 64 0 x1.toNatClampNeg)) 74 0 (((5 : Int32) * ((pf_up M141 74 0 ((5 : Int32) * (M141 40 0 44)).toNatClampNeg (M141 64 0 x1.toNatClampNeg)) 40 0 44)) + (1 : Int32)).toNatClampNeg ((pf_up M141 74 0 ((5 : Int32) * (M141 40 0 44)).toNatClampNeg (M141 64 0 x1.toNatClampNeg)) 65 0 x1.toNatClampNeg)) 40 0 44)) + (2 : Int32)).toNatClampNeg ((pf_up (pf_up M141 74 0 ((5 : Int32) * (M141 40 0 44)).toNatClampNeg (M141 64 0 x1.toNatClampNeg)) 74 0 (((5 : Int32) * ((pf_up M141 74 0 ((5 : Int32) * (M141 40 0 44)).toNatClampNeg (M141 64 0 x1.toNatClampNeg)) 40 0 44)) + (1 : Int32)).toNatClampNeg ((pf_up M141 74 0 ((5 : Int32) * (M141 40 0 44)).toNatClampNeg (M141 64 0 x1.toNatClampNeg)) 65 0 x1.toNatClampNeg)) 66 0 x1.toNatClampNeg)) 40 0 44)) + (3 : Int32)).toNatClampNeg ((pf_up (pf_up (pf_up M141 74 0 ((5 : Int32) * (M141 40 0 44)).toNatClampNeg (M141 64 0 x1.toNatClampNeg)) 74 0 (((5 : Int32) * ((pf_up M141 74 0 ((5 : Int32) * (M141 40 0 44)).toNatClampNeg (M141 64 0 x1.toNatClampNeg)) 40 0 44)) + (1 : Int32)).toNatClampNeg ((pf_up M141 74 0 ((5 : Int32) * (M141 40 0 44)).toNatClampNeg (M141 64 0 x1.toNatClampNeg)) 65 0 x1.toNatClampNeg)) 74 0 (((5 : Int32) * ((pf_up (pf_up M141 74 0 ((5 : Int32) * (M141 40 0 44)).toNatClampNeg (M141 64 0 x1.toNatClampNeg)) 74 0 (((5 : Int32) * ((pf_up M141 74 0 ((5 : Int32) * (M141 40 0 44)).toNatClampNeg (M141 64 0 x1.toNatClampNeg)) 40 0 44)) + (1 : Int32)).toNatClampNeg ((pf_up M141 74 0 ((5 : Int32) * (M141 40 0 44)).toNatClampNeg (M141 64 0 x1.toNatClampNeg)) 65 0 x1.toNatClampNeg)) 40 0 44)) + (2 : Int32)).toNatClampNeg ((pf_up (pf_up M141 74 0 ((5 : Int32) * (M141 40 0 44)).toNatClampNeg (M141 64 0 x1.toNatClampNeg)) 74 0 (((5 : Int32) * ((pf_up M141 74 0 ((5 : Int32) * (M141 40 0 44)).toNatClampNeg (M141 64 0 x1.toNatClampNeg)) 40 0 44)) + (1 : Int32)).toNatClampNeg ((pf_up M141 74 0 ((5 : Int32) * (M141 40 0 44)).toNatClampNeg (M141 64 0 x1.toNatClampNeg)) 65 0 x1.toNatClampNeg)) 66 0 x1.toNatClampNeg)) 67 0 x1.toNatClampNeg)) 40 0 44)) + (4 : Int32)).toNatClampNeg ((pf_up (pf_up (pf_up (pf_up M141 74 0 ((5 : Int32) * (M141 40 0 44)).toNatClampNeg (M141 64 0 x1.toNatClampNeg)) 74 0 (((5 : Int32) * ((pf_up M141 74 0 ((5 : Int32) * (M141 40 0 44)).toNatClampNeg (M141 64 0 x1.toNatClampNeg)) 40 0 44)) + (1 : Int32)).toNatClampNeg ((pf_up M141 74 0 ((5 : Int32) * (M141 40 0 44)).toNatClampNeg (M141 64 0 x1.toNatClampNeg)) 65 0 x1.toNatClampNeg)) 74 0 (((5 : Int32) * ((pf_up (pf_up M141 74 0 ((5 : Int32) * (M141 40 0 44)).toNatClampNeg (M141 64 0 x1.toNatClampNeg)) 74 0 (((5 : Int32) * ((pf_up M141 74 0 ((5 : Int32) * (M141 40 0 44)).toNatClampNeg (M141 64 0 x1.toNatClampNeg)) 40 0 44)) + (1 : Int32)).toNatClampNeg ((pf_up M141 74 0 ((5 : Int32) * (M141 40 0 44)).toNatClampNeg (M141 64 0 x1.toNatClampNeg)) 65 0 x1.toNatClampNeg)) 40 0 44)) + (2 : Int32)).toNatClampNeg ((pf_up (pf_up M141 74 0 ((5 : Int32) * (M141 40 0 44)).toNatClampNeg (M141 64 0 x1.toNatClampNeg)) 74 0 (((5 : Int32) * ((pf_up M141 74 0 ((5 : Int32) * (M141 40 0 44)).toNatClampNeg (M141 64 0 x1.toNatClampNeg)) 40 0 44)) + (1 : Int32)).toNatClampNeg ((pf_up M141 74 0 ((5 : Int32) * (M141 40 0 44)).toNatClampNeg (M141 64 0 x1.toNatClampNeg)) 65 0 x1.toNatClampNeg)) 66 0 x1.toNatClampNeg)) 74 0 (((5 : Int32) * ((pf_up (pf_up (pf_up M141 74 0 ((5 : Int32) * (M141 40 0 44)).toNatClampNeg (M141 64 0 x1.toNatClampNeg)) 74 0 (((5 : Int32) * ((pf_up M141 74 0 ((5 : Int32) * (M141 40 0 44)).toNatClampNeg (M141 64 0 x1.toNatClampNeg)) 40 0 44)) + (1 : Int32)).toNatClampNeg ((pf_up M141 74 0 ((5 : Int32) * (M141 40 0 44)).toNatClampNeg (M141 64 0 x1.toNatClampNeg)) 65 0 x1.toNatClampNeg)) 74 0 (((5 : Int32) * ((pf_up (pf_up M141 74 0 ((5 : Int32) * (M141 40 0 44)).toNatClampNeg (M141 64 0 x1.toNatClampNeg)) 74 0 (((5 : Int32) * ((pf_up M141 74 0 ((5 : Int32) * (M141 40 0 44)).toNatClampNeg (M141 64 0 x1.toNatClampNeg)) 40 0 44)) + (1 : Int32)).toNatClampNeg ((pf_up M141 74 0 ((5 : Int32) * (M141 40 0 44)).toNatClampNeg (M141 64 0 x1.toNatClampNeg)) 65 0 x1.toNatClampNeg)) 40 0 44)) + (2 : Int32)).toNatClampNeg ((pf_up (pf_up M141 74 0 ((5 : Int32) * (M141 40 0 44)).toNatClampNeg (M141 64 0 x1.toNatClampNeg)) 74 0 (((5 : Int32) * ((pf_up M141 74 0 ((5 : Int32) * (M141 40 0 44)).toNatClampNeg (M141 64 0 x1.toNatClampNeg)) 40 0 44)) + (1 : Int32)).toNatClampNeg ((pf_up M141 74 0 ((5 : Int32) * (M141 40 0 44)).toNatClampNeg (M141 64 0 x1.toNatClampNeg)) 65 0 x1.toNatClampNeg)) 66 0 x1.toNatClampNeg)) 40 0 44)) + (3 : Int32)).toNatClampNeg ((pf_up (pf_up (pf_up M141 74 0 ((5 : Int32) * (M141 40 0 44)).toNatClampNeg (M141 64 0 x1.toNatClampNeg)) 74 0 (((5 : Int32) * ((pf_up M141 74 0 ((5 : Int32) * (M141 40 0 44)).toNatClampNeg (M141 64 0 x1.toNatClampNeg)) 40 0 44)) + (1 : Int32)).toNatClampNeg ((pf_up M141 74 0 ((5 : Int32) * (M141 40 0 44)).toNatClampNeg (M141 64 0 x1.toNatClampNeg)) 65 0 x1.toNatClampNeg)) 74 0 (((5 : Int32) * ((pf_up (pf_up M141 74 0 ((5 : Int32) * (M141 40 0 44)).toNatClampNeg (M141 64 0 x1.toNatClampNeg)) 74 0 (((5 : Int32) * ((pf_up M141 74 0 ((5 : Int32) * (M141 40 0 44)).toNatClampNeg (M141 64 0 x1.toNatClampNeg)) 40 0 44)) + (1 : Int32)).toNatClampNeg ((pf_up M141 74 0 ((5 : Int32) * (M141 40 0 44)).toNatClampNeg (M141 64 0 x1.toNatClampNeg)) 65 0 x1.toNatClampNeg)) 40 0 44)) + (2 : Int32)).toNatClampNeg ((pf_up (pf_up M141 74 0 ((5 : Int32) * (M141 40 0 44)).toNatClampNeg (M141 64 0 x1.toNatClampNeg)) 74 0 (((5 : Int32) * ((pf_up M141 74 0 ((5 : Int32) * (M141 40 0 44)).toNatClampNeg (M141 64 0 x1.toNatClampNeg)) 40 0 44)) + (1 : Int32)).toNatClampNeg ((pf_up M141 74 0 ((5 : Int32) * (M141 40 0 44)).toNatClampNeg (M141 64 0 x1.toNatClampNeg)) 65 0 x1.toNatClampNeg)) 66 0 x1.toNatClampNeg)) 67 0 x1.toNatClampNeg)) 72 0 x1.toNatClampNeg)) 40 0 44) + (1 : Int32)))
  else none)
  else none)
  else none)
  else none)
  else none)
  else none)
  else none)
  else none)
  else none)
  else none)
def lX12_keeps_105 (kx105 : pf_M → Option (pf_M)) : Nat → Int32 → pf_M → Option (pf_M)
  | 0, _, _ => none
  | n + 1, v105_3, M105 =>
  (if (25 : Int32) ≤ v105_3 then kx105 M105
  else (if pf_in (v105_3 + (5 : Int32)) 30 = true then (if pf_in v105_3 30 = true then (lX12_keeps_105 kx105 n) (v105_3 + (1 : Int32)) (pf_up M105 74 0 v105_3.toNatClampNeg (M105 74 0 (v105_3 + (5 : Int32)).toNatClampNeg))
  else none)
  else none))
def jX12_keeps_92 (s92_1 : Int32) (s92_2 : Int32) (M92 : pf_M) : Option (pf_M) :=
  (if pf_in s92_1 30 = true then some (pf_up M92 74 0 s92_1.toNatClampNeg s92_2)
  else none)
def jX12_keeps_41 (x1 : Int32) (w41_2 : Int32) (s41_1 : Int32) (s41_2 : Int32) (M41 : pf_M) : Option (pf_M) :=
  (if pf_in x1 4 = true then (if pf_in (((5 : Int32) * w41_2) + (4 : Int32)) 30 = true then (if ((pf_up M41 40 0 46 (s41_1 + s41_2)) 72 0 x1.toNatClampNeg) ≤ ((pf_up M41 40 0 46 (s41_1 + s41_2)) 74 0 (((5 : Int32) * w41_2) + (4 : Int32)).toNatClampNeg) then (if pf_in (((5 : Int32) * w41_2) + (4 : Int32)) 30 = true then jX12_keeps_92 (((5 : Int32) * w41_2) + (4 : Int32)) ((pf_up M41 40 0 46 (s41_1 + s41_2)) 74 0 (((5 : Int32) * w41_2) + (4 : Int32)).toNatClampNeg) (pf_up M41 40 0 46 (s41_1 + s41_2))
  else none)
  else (if pf_in x1 4 = true then jX12_keeps_92 (((5 : Int32) * w41_2) + (4 : Int32)) ((pf_up M41 40 0 46 (s41_1 + s41_2)) 72 0 x1.toNatClampNeg) (pf_up M41 40 0 46 (s41_1 + s41_2))
  else none))
  else none)
  else none)
def fX12_keeps (x1 : Int32) (M : pf_M) : Option (pf_M) :=
  ((fX12_keptAt x1 M).bind fun r37 => (if r37 = (-4 : Int32) then (if (M 40 0 44) = (6 : Int32) then lX12_keeps_105 (fun u38_Me105 => jX12_keeps_141 x1 (pf_up u38_Me105 40 0 44 ((u38_Me105 40 0 44) - (1 : Int32)))) pf_fu (0 : Int32) M
  else jX12_keeps_141 x1 M)
  else (if pf_in x1 4 = true then (if pf_in (((5 : Int32) * r37) + (4 : Int32)) 30 = true then (if (M 74 0 (((5 : Int32) * r37) + (4 : Int32)).toNatClampNeg) ≤ (M 72 0 x1.toNatClampNeg) then jX12_keeps_41 x1 r37 (M 40 0 46) (0 : Int32) M
  else jX12_keeps_41 x1 r37 (M 40 0 46) (1 : Int32) M)
  else none)
  else none)))
set_option maxRecDepth 4000 in
theorem c_X12_keeps (G : pf_G) (x1 : Int32) (M : pf_M) (q : pf_M) (h : fX12_keeps x1 M = some q) : pf_Met G yX12_keeps cX12_keeps 4 (none) 1 22 [pf_R 40 0, pf_I x1] M none q := by
  refine pf_Met.of (by decide +kernel) (Nat.le_of_ble_eq_true rfl) (fun K R => ?_)
  show K 0 [pf_R 40 0, pf_I x1, pf_U, pf_U] [] M
  have hj141 : ∀ (M141 : pf_M), jX12_keeps_141 x1 M141 = some q → K 141 [pf_R 40 0, pf_I x1, pf_U, pf_U] [] M141 := by
    intro M141 h
    unfold jX12_keeps_141 at h
    refine r_aload_n R 142 dX12_keeps_141 rfl rfl ?_
    refine r_getfield R 145 dX12_keeps_142 rfl fl_X12_109 rfl (show _ = pf_R 74 0 from rfl) ?_
    refine r_iconst R 146 dX12_keeps_145 rfl ic_iconst_5 ?_
    refine r_aload_n R 147 dX12_keeps_146 rfl rfl ?_
    refine r_getfield R 150 dX12_keeps_147 rfl fl_X12_203 rfl (show _ = pf_I (M141 40 0 44) from rfl) ?_
    refine r_imul R 151 dX12_keeps_150 rfl ?_
    refine r_aload_n R 152 dX12_keeps_151 rfl rfl ?_
    refine r_getfield R 155 dX12_keeps_152 rfl fl_X12_79 rfl (show _ = pf_R 64 0 from rfl) ?_
    refine r_iload_n R 156 dX12_keeps_155 rfl rfl ?_
    obtain ⟨hi20, h⟩ := pf_gd h
    refine r_iaload R 157 dX12_keeps_156 rfl ⟨rfl, rfl⟩ (pf_in_iff.mp hi20) ?_
    obtain ⟨hi21, h⟩ := pf_gd h
    refine r_iastore R 158 dX12_keeps_157 rfl ⟨rfl, rfl⟩ (pf_in_iff.mp hi21) ?_
    refine r_aload_n R 159 dX12_keeps_158 rfl rfl ?_
    refine r_getfield R 162 dX12_keeps_159 rfl fl_X12_109 rfl (show _ = pf_R 74 0 from rfl) ?_
    refine r_iconst R 163 dX12_keeps_162 rfl ic_iconst_5 ?_
    refine r_aload_n R 164 dX12_keeps_163 rfl rfl ?_
    refine r_getfield R 167 dX12_keeps_164 rfl fl_X12_203 rfl (show _ = pf_I ((pf_up M141 74 0 ((5 : Int32) * (M141 40 0 44)).toNatClampNeg (M141 64 0 x1.toNatClampNeg)) 40 0 44) from rfl) ?_
    refine r_imul R 168 dX12_keeps_167 rfl ?_
    refine r_iconst R 169 dX12_keeps_168 rfl ic_iconst_1 ?_
    refine r_iadd R 170 dX12_keeps_169 rfl ?_
    refine r_aload_n R 171 dX12_keeps_170 rfl rfl ?_
    refine r_getfield R 174 dX12_keeps_171 rfl fl_X12_82 rfl (show _ = pf_R 65 0 from rfl) ?_
    refine r_iload_n R 175 dX12_keeps_174 rfl rfl ?_
    obtain ⟨hi22, h⟩ := pf_gd h
    refine r_iaload R 176 dX12_keeps_175 rfl ⟨rfl, rfl⟩ (pf_in_iff.mp hi22) ?_
    obtain ⟨hi23, h⟩ := pf_gd h
    refine r_iastore R 177 dX12_keeps_176 rfl ⟨rfl, rfl⟩ (pf_in_iff.mp hi23) ?_
    refine r_aload_n R 178 dX12_keeps_177 rfl rfl ?_
    refine r_getfield R 181 dX12_keeps_178 rfl fl_X12_109 rfl (show _ = pf_R 74 0 from rfl) ?_
    refine r_iconst R 182 dX12_keeps_181 rfl ic_iconst_5 ?_
    refine r_aload_n R 183 dX12_keeps_182 rfl rfl ?_
    refine r_getfield R 186 dX12_keeps_183 rfl fl_X12_203 rfl (show _ = pf_I ((pf_up (pf_up M141 74 0 ((5 : Int32) * (M141 40 0 44)).toNatClampNeg (M141 64 0 x1.toNatClampNeg)) 74 0 (((5 : Int32) * ((pf_up M141 74 0 ((5 : Int32) * (M141 40 0 44)).toNatClampNeg (M141 64 0 x1.toNatClampNeg)) 40 0 44)) + (1 : Int32)).toNatClampNeg ((pf_up M141 74 0 ((5 : Int32) * (M141 40 0 44)).toNatClampNeg (M141 64 0 x1.toNatClampNeg)) 65 0 x1.toNatClampNeg)) 40 0 44) from rfl) ?_
    refine r_imul R 187 dX12_keeps_186 rfl ?_
    refine r_iconst R 188 dX12_keeps_187 rfl ic_iconst_2 ?_
    refine r_iadd R 189 dX12_keeps_188 rfl ?_
    refine r_aload_n R 190 dX12_keeps_189 rfl rfl ?_
    refine r_getfield R 193 dX12_keeps_190 rfl fl_X12_85 rfl (show _ = pf_R 66 0 from rfl) ?_
    refine r_iload_n R 194 dX12_keeps_193 rfl rfl ?_
    obtain ⟨hi24, h⟩ := pf_gd h
    refine r_iaload R 195 dX12_keeps_194 rfl ⟨rfl, rfl⟩ (pf_in_iff.mp hi24) ?_
    obtain ⟨hi25, h⟩ := pf_gd h
    refine r_iastore R 196 dX12_keeps_195 rfl ⟨rfl, rfl⟩ (pf_in_iff.mp hi25) ?_
    refine r_aload_n R 197 dX12_keeps_196 rfl rfl ?_
    refine r_getfield R 200 dX12_keeps_197 rfl fl_X12_109 rfl (show _ = pf_R 74 0 from rfl) ?_
    refine r_iconst R 201 dX12_keeps_200 rfl ic_iconst_5 ?_
    refine r_aload_n R 202 dX12_keeps_201 rfl rfl ?_
    refine r_getfield R 205 dX12_keeps_202 rfl fl_X12_203 rfl (show _ = pf_I ((pf_up (pf_up (pf_up M141 74 0 ((5 : Int32) * (M141 40 0 44)).toNatClampNeg (M141 64 0 x1.toNatClampNeg)) 74 0 (((5 : Int32) * ((pf_up M141 74 0 ((5 : Int32) * (M141 40 0 44)).toNatClampNeg (M141 64 0 x1.toNatClampNeg)) 40 0 44)) + (1 : Int32)).toNatClampNeg ((pf_up M141 74 0 ((5 : Int32) * (M141 40 0 44)).toNatClampNeg (M141 64 0 x1.toNatClampNeg)) 65 0 x1.toNatClampNeg)) 74 0 (((5 : Int32) * ((pf_up (pf_up M141 74 0 ((5 : Int32) * (M141 40 0 44)).toNatClampNeg (M141 64 0 x1.toNatClampNeg)) 74 0 (((5 : Int32) * ((pf_up M141 74 0 ((5 : Int32) * (M141 40 0 44)).toNatClampNeg (M141 64 0 x1.toNatClampNeg)) 40 0 44)) + (1 : Int32)).toNatClampNeg ((pf_up M141 74 0 ((5 : Int32) * (M141 40 0 44)).toNatClampNeg (M141 64 0 x1.toNatClampNeg)) 65 0 x1.toNatClampNeg)) 40 0 44)) + (2 : Int32)).toNatClampNeg ((pf_up (pf_up M141 74 0 ((5 : Int32) * (M141 40 0 44)).toNatClampNeg (M141 64 0 x1.toNatClampNeg)) 74 0 (((5 : Int32) * ((pf_up M141 74 0 ((5 : Int32) * (M141 40 0 44)).toNatClampNeg (M141 64 0 x1.toNatClampNeg)) 40 0 44)) + (1 : Int32)).toNatClampNeg ((pf_up M141 74 0 ((5 : Int32) * (M141 40 0 44)).toNatClampNeg (M141 64 0 x1.toNatClampNeg)) 65 0 x1.toNatClampNeg)) 66 0 x1.toNatClampNeg)) 40 0 44) from rfl) ?_
    refine r_imul R 206 dX12_keeps_205 rfl ?_
    refine r_iconst R 207 dX12_keeps_206 rfl ic_iconst_3 ?_
    refine r_iadd R 208 dX12_keeps_207 rfl ?_
    refine r_aload_n R 209 dX12_keeps_208 rfl rfl ?_
    refine r_getfield R 212 dX12_keeps_209 rfl fl_X12_88 rfl (show _ = pf_R 67 0 from rfl) ?_
    refine r_iload_n R 213 dX12_keeps_212 rfl rfl ?_
    obtain ⟨hi26, h⟩ := pf_gd h
    refine r_iaload R 214 dX12_keeps_213 rfl ⟨rfl, rfl⟩ (pf_in_iff.mp hi26) ?_
    obtain ⟨hi27, h⟩ := pf_gd h
    refine r_iastore R 215 dX12_keeps_214 rfl ⟨rfl, rfl⟩ (pf_in_iff.mp hi27) ?_
    refine r_aload_n R 216 dX12_keeps_215 rfl rfl ?_
    refine r_getfield R 219 dX12_keeps_216 rfl fl_X12_109 rfl (show _ = pf_R 74 0 from rfl) ?_
    refine r_iconst R 220 dX12_keeps_219 rfl ic_iconst_5 ?_
    refine r_aload_n R 221 dX12_keeps_220 rfl rfl ?_
    refine r_getfield R 224 dX12_keeps_221 rfl fl_X12_203 rfl (show _ = pf_I ((pf_up (pf_up (pf_up (pf_up M141 74 0 ((5 : Int32) * (M141 40 0 44)).toNatClampNeg (M141 64 0 x1.toNatClampNeg)) 74 0 (((5 : Int32) * ((pf_up M141 74 0 ((5 : Int32) * (M141 40 0 44)).toNatClampNeg (M141 64 0 x1.toNatClampNeg)) 40 0 44)) + (1 : Int32)).toNatClampNeg ((pf_up M141 74 0 ((5 : Int32) * (M141 40 0 44)).toNatClampNeg (M141 64 0 x1.toNatClampNeg)) 65 0 x1.toNatClampNeg)) 74 0 (((5 : Int32) * ((pf_up (pf_up M141 74 0 ((5 : Int32) * (M141 40 0 44)).toNatClampNeg (M141 64 0 x1.toNatClampNeg)) 74 0 (((5 : Int32) * ((pf_up M141 74 0 ((5 : Int32) * (M141 40 0 44)).toNatClampNeg (M141 64 0 x1.toNatClampNeg)) 40 0 44)) + (1 : Int32)).toNatClampNeg ((pf_up M141 74 0 ((5 : Int32) * (M141 40 0 44)).toNatClampNeg (M141 64 0 x1.toNatClampNeg)) 65 0 x1.toNatClampNeg)) 40 0 44)) + (2 : Int32)).toNatClampNeg ((pf_up (pf_up M141 74 0 ((5 : Int32) * (M141 40 0 44)).toNatClampNeg (M141 64 0 x1.toNatClampNeg)) 74 0 (((5 : Int32) * ((pf_up M141 74 0 ((5 : Int32) * (M141 40 0 44)).toNatClampNeg (M141 64 0 x1.toNatClampNeg)) 40 0 44)) + (1 : Int32)).toNatClampNeg ((pf_up M141 74 0 ((5 : Int32) * (M141 40 0 44)).toNatClampNeg (M141 64 0 x1.toNatClampNeg)) 65 0 x1.toNatClampNeg)) 66 0 x1.toNatClampNeg)) 74 0 (((5 : Int32) * ((pf_up (pf_up (pf_up M141 74 0 ((5 : Int32) * (M141 40 0 44)).toNatClampNeg (M141 64 0 x1.toNatClampNeg)) 74 0 (((5 : Int32) * ((pf_up M141 74 0 ((5 : Int32) * (M141 40 0 44)).toNatClampNeg (M141 64 0 x1.toNatClampNeg)) 40 0 44)) + (1 : Int32)).toNatClampNeg ((pf_up M141 74 0 ((5 : Int32) * (M141 40 0 44)).toNatClampNeg (M141 64 0 x1.toNatClampNeg)) 65 0 x1.toNatClampNeg)) 74 0 (((5 : Int32) * ((pf_up (pf_up M141 74 0 ((5 : Int32) * (M141 40 0 44)).toNatClampNeg (M141 64 0 x1.toNatClampNeg)) 74 0 (((5 : Int32) * ((pf_up M141 74 0 ((5 : Int32) * (M141 40 0 44)).toNatClampNeg (M141 64 0 x1.toNatClampNeg)) 40 0 44)) + (1 : Int32)).toNatClampNeg ((pf_up M141 74 0 ((5 : Int32) * (M141 40 0 44)).toNatClampNeg (M141 64 0 x1.toNatClampNeg)) 65 0 x1.toNatClampNeg)) 40 0 44)) + (2 : Int32)).toNatClampNeg ((pf_up (pf_up M141 74 0 ((5 : Int32) * (M141 40 0 44)).toNatClampNeg (M141 64 0 x1.toNatClampNeg)) 74 0 (((5 : Int32) * ((pf_up M141 74 0 ((5 : Int32) * (M141 40 0 44)).toNatClampNeg (M141 64 0 x1.toNatClampNeg)) 40 0 44)) + (1 : Int32)).toNatClampNeg ((pf_up M141 74 0 ((5 : Int32) * (M141 40 0 44)).toNatClampNeg (M141 64 0 x1.toNatClampNeg)) 65 0 x1.toNatClampNeg)) 66 0 x1.toNatClampNeg)) 40 0 44)) + (3 : Int32)).toNatClampNeg ((pf_up (pf_up (pf_up M141 74 0 ((5 : Int32) * (M141 40 0 44)).toNatClampNeg (M141 64 0 x1.toNatClampNeg)) 74 0 (((5 : Int32) * ((pf_up M141 74 0 ((5 : Int32) * (M141 40 0 44)).toNatClampNeg (M141 64 0 x1.toNatClampNeg)) 40 0 44)) + (1 : Int32)).toNatClampNeg ((pf_up M141 74 0 ((5 : Int32) * (M141 40 0 44)).toNatClampNeg (M141 64 0 x1.toNatClampNeg)) 65 0 x1.toNatClampNeg)) 74 0 (((5 : Int32) * ((pf_up (pf_up M141 74 0 ((5 : Int32) * (M141 40 0 44)).toNatClampNeg (M141 64 0 x1.toNatClampNeg)) 74 0 (((5 : Int32) * ((pf_up M141 74 0 ((5 : Int32) * (M141 40 0 44)).toNatClampNeg (M141 64 0 x1.toNatClampNeg)) 40 0 44)) + (1 : Int32)).toNatClampNeg ((pf_up M141 74 0 ((5 : Int32) * (M141 40 0 44)).toNatClampNeg (M141 64 0 x1.toNatClampNeg)) 65 0 x1.toNatClampNeg)) 40 0 44)) + (2 : Int32)).toNatClampNeg ((pf_up (pf_up M141 74 0 ((5 : Int32) * (M141 40 0 44)).toNatClampNeg (M141 64 0 x1.toNatClampNeg)) 74 0 (((5 : Int32) * ((pf_up M141 74 0 ((5 : Int32) * (M141 40 0 44)).toNatClampNeg (M141 64 0 x1.toNatClampNeg)) 40 0 44)) + (1 : Int32)).toNatClampNeg ((pf_up M141 74 0 ((5 : Int32) * (M141 40 0 44)).toNatClampNeg (M141 64 0 x1.toNatClampNeg)) 65 0 x1.toNatClampNeg)) 66 0 x1.toNatClampNeg)) 67 0 x1.toNatClampNeg)) 40 0 44) from rfl) ?_
    refine r_imul R 225 dX12_keeps_224 rfl ?_
    refine r_iconst R 226 dX12_keeps_225 rfl ic_iconst_4 ?_
    refine r_iadd R 227 dX12_keeps_226 rfl ?_
    refine r_aload_n R 228 dX12_keeps_227 rfl rfl ?_
    refine r_getfield R 231 dX12_keeps_228 rfl fl_X12_103 rfl (show _ = pf_R 72 0 from rfl) ?_
    refine r_iload_n R 232 dX12_keeps_231 rfl rfl ?_
    obtain ⟨hi28, h⟩ := pf_gd h
    refine r_iaload R 233 dX12_keeps_232 rfl ⟨rfl, rfl⟩ (pf_in_iff.mp hi28) ?_
    obtain ⟨hi29, h⟩ := pf_gd h
    refine r_iastore R 234 dX12_keeps_233 rfl ⟨rfl, rfl⟩ (pf_in_iff.mp hi29) ?_
    refine r_aload_n R 235 dX12_keeps_234 rfl rfl ?_
    refine r_dup R 236 dX12_keeps_235 rfl rfl ?_
    refine r_getfield R 239 dX12_keeps_236 rfl fl_X12_203 rfl (show _ = pf_I ((pf_up (pf_up (pf_up (pf_up (pf_up M141 74 0 ((5 : Int32) * (M141 40 0 44)).toNatClampNeg (M141 64 0 x1.toNatClampNeg)) 74 0 (((5 : Int32) * ((pf_up M141 74 0 ((5 : Int32) * (M141 40 0 44)).toNatClampNeg (M141 64 0 x1.toNatClampNeg)) 40 0 44)) + (1 : Int32)).toNatClampNeg ((pf_up M141 74 0 ((5 : Int32) * (M141 40 0 44)).toNatClampNeg (M141 64 0 x1.toNatClampNeg)) 65 0 x1.toNatClampNeg)) 74 0 (((5 : Int32) * ((pf_up (pf_up M141 74 0 ((5 : Int32) * (M141 40 0 44)).toNatClampNeg (M141 64 0 x1.toNatClampNeg)) 74 0 (((5 : Int32) * ((pf_up M141 74 0 ((5 : Int32) * (M141 40 0 44)).toNatClampNeg (M141 64 0 x1.toNatClampNeg)) 40 0 44)) + (1 : Int32)).toNatClampNeg ((pf_up M141 74 0 ((5 : Int32) * (M141 40 0 44)).toNatClampNeg (M141 64 0 x1.toNatClampNeg)) 65 0 x1.toNatClampNeg)) 40 0 44)) + (2 : Int32)).toNatClampNeg ((pf_up (pf_up M141 74 0 ((5 : Int32) * (M141 40 0 44)).toNatClampNeg (M141 64 0 x1.toNatClampNeg)) 74 0 (((5 : Int32) * ((pf_up M141 74 0 ((5 : Int32) * (M141 40 0 44)).toNatClampNeg (M141 64 0 x1.toNatClampNeg)) 40 0 44)) + (1 : Int32)).toNatClampNeg ((pf_up M141 74 0 ((5 : Int32) * (M141 40 0 44)).toNatClampNeg (M141 64 0 x1.toNatClampNeg)) 65 0 x1.toNatClampNeg)) 66 0 x1.toNatClampNeg)) 74 0 (((5 : Int32) * ((pf_up (pf_up (pf_up M141 74 0 ((5 : Int32) * (M141 40 0 44)).toNatClampNeg (M141 64 0 x1.toNatClampNeg)) 74 0 (((5 : Int32) * ((pf_up M141 74 0 ((5 : Int32) * (M141 40 0 44)).toNatClampNeg (M141 64 0 x1.toNatClampNeg)) 40 0 44)) + (1 : Int32)).toNatClampNeg ((pf_up M141 74 0 ((5 : Int32) * (M141 40 0 44)).toNatClampNeg (M141 64 0 x1.toNatClampNeg)) 65 0 x1.toNatClampNeg)) 74 0 (((5 : Int32) * ((pf_up (pf_up M141 74 0 ((5 : Int32) * (M141 40 0 44)).toNatClampNeg (M141 64 0 x1.toNatClampNeg)) 74 0 (((5 : Int32) * ((pf_up M141 74 0 ((5 : Int32) * (M141 40 0 44)).toNatClampNeg (M141 64 0 x1.toNatClampNeg)) 40 0 44)) + (1 : Int32)).toNatClampNeg ((pf_up M141 74 0 ((5 : Int32) * (M141 40 0 44)).toNatClampNeg (M141 64 0 x1.toNatClampNeg)) 65 0 x1.toNatClampNeg)) 40 0 44)) + (2 : Int32)).toNatClampNeg ((pf_up (pf_up M141 74 0 ((5 : Int32) * (M141 40 0 44)).toNatClampNeg (M141 64 0 x1.toNatClampNeg)) 74 0 (((5 : Int32) * ((pf_up M141 74 0 ((5 : Int32) * (M141 40 0 44)).toNatClampNeg (M141 64 0 x1.toNatClampNeg)) 40 0 44)) + (1 : Int32)).toNatClampNeg ((pf_up M141 74 0 ((5 : Int32) * (M141 40 0 44)).toNatClampNeg (M141 64 0 x1.toNatClampNeg)) 65 0 x1.toNatClampNeg)) 66 0 x1.toNatClampNeg)) 40 0 44)) + (3 : Int32)).toNatClampNeg ((pf_up (pf_up (pf_up M141 74 0 ((5 : Int32) * (M141 40 0 44)).toNatClampNeg (M141 64 0 x1.toNatClampNeg)) 74 0 (((5 : Int32) * ((pf_up M141 74 0 ((5 : Int32) * (M141 40 0 44)).toNatClampNeg (M141 64 0 x1.toNatClampNeg)) 40 0 44)) + (1 : Int32)).toNatClampNeg ((pf_up M141 74 0 ((5 : Int32) * (M141 40 0 44)).toNatClampNeg (M141 64 0 x1.toNatClampNeg)) 65 0 x1.toNatClampNeg)) 74 0 (((5 : Int32) * ((pf_up (pf_up M141 74 0 ((5 : Int32) * (M141 40 0 44)).toNatClampNeg (M141 64 0 x1.toNatClampNeg)) 74 0 (((5 : Int32) * ((pf_up M141 74 0 ((5 : Int32) * (M141 40 0 44)).toNatClampNeg (M141 64 0 x1.toNatClampNeg)) 40 0 44)) + (1 : Int32)).toNatClampNeg ((pf_up M141 74 0 ((5 : Int32) * (M141 40 0 44)).toNatClampNeg (M141 64 0 x1.toNatClampNeg)) 65 0 x1.toNatClampNeg)) 40 0 44)) + (2 : Int32)).toNatClampNeg ((pf_up (pf_up M141 74 0 ((5 : Int32) * (M141 40 0 44)).toNatClampNeg (M141 64 0 x1.toNatClampNeg)) 74 0 (((5 : Int32) * ((pf_up M141 74 0 ((5 : Int32) * (M141 40 0 44)).toNatClampNeg (M141 64 0 x1.toNatClampNeg)) 40 0 44)) + (1 : Int32)).toNatClampNeg ((pf_up M141 74 0 ((5 : Int32) * (M141 40 0 44)).toNatClampNeg (M141 64 0 x1.toNatClampNeg)) 65 0 x1.toNatClampNeg)) 66 0 x1.toNatClampNeg)) 67 0 x1.toNatClampNeg)) 74 0 (((5 : Int32) * ((pf_up (pf_up (pf_up (pf_up M141 74 0 ((5 : Int32) * (M141 40 0 44)).toNatClampNeg (M141 64 0 x1.toNatClampNeg)) 74 0 (((5 : Int32) * ((pf_up M141 74 0 ((5 : Int32) * (M141 40 0 44)).toNatClampNeg (M141 64 0 x1.toNatClampNeg)) 40 0 44)) + (1 : Int32)).toNatClampNeg ((pf_up M141 74 0 ((5 : Int32) * (M141 40 0 44)).toNatClampNeg (M141 64 0 x1.toNatClampNeg)) 65 0 x1.toNatClampNeg)) 74 0 (((5 : Int32) * ((pf_up (pf_up M141 74 0 ((5 : Int32) * (M141 40 0 44)).toNatClampNeg (M141 64 0 x1.toNatClampNeg)) 74 0 (((5 : Int32) * ((pf_up M141 74 0 ((5 : Int32) * (M141 40 0 44)).toNatClampNeg (M141 64 0 x1.toNatClampNeg)) 40 0 44)) + (1 : Int32)).toNatClampNeg ((pf_up M141 74 0 ((5 : Int32) * (M141 40 0 44)).toNatClampNeg (M141 64 0 x1.toNatClampNeg)) 65 0 x1.toNatClampNeg)) 40 0 44)) + (2 : Int32)).toNatClampNeg ((pf_up (pf_up M141 74 0 ((5 : Int32) * (M141 40 0 44)).toNatClampNeg (M141 64 0 x1.toNatClampNeg)) 74 0 (((5 : Int32) * ((pf_up M141 74 0 ((5 : Int32) * (M141 40 0 44)).toNatClampNeg (M141 64 0 x1.toNatClampNeg)) 40 0 44)) + (1 : Int32)).toNatClampNeg ((pf_up M141 74 0 ((5 : Int32) * (M141 40 0 44)).toNatClampNeg (M141 64 0 x1.toNatClampNeg)) 65 0 x1.toNatClampNeg)) 66 0 x1.toNatClampNeg)) 74 0 (((5 : Int32) * ((pf_up (pf_up (pf_up M141 74 0 ((5 : Int32) * (M141 40 0 44)).toNatClampNeg (M141 64 0 x1.toNatClampNeg)) 74 0 (((5 : Int32) * ((pf_up M141 74 0 ((5 : Int32) * (M141 40 0 44)).toNatClampNeg (M141 64 0 x1.toNatClampNeg)) 40 0 44)) + (1 : Int32)).toNatClampNeg ((pf_up M141 74 0 ((5 : Int32) * (M141 40 0 44)).toNatClampNeg (M141 64 0 x1.toNatClampNeg)) 65 0 x1.toNatClampNeg)) 74 0 (((5 : Int32) * ((pf_up (pf_up M141 74 0 ((5 : Int32) * (M141 40 0 44)).toNatClampNeg (M141 64 0 x1.toNatClampNeg)) 74 0 (((5 : Int32) * ((pf_up M141 74 0 ((5 : Int32) * (M141 40 0 44)).toNatClampNeg (M141 64 0 x1.toNatClampNeg)) 40 0 44)) + (1 : Int32)).toNatClampNeg ((pf_up M141 74 0 ((5 : Int32) * (M141 40 0 44)).toNatClampNeg (M141 64 0 x1.toNatClampNeg)) 65 0 x1.toNatClampNeg)) 40 0 44)) + (2 : Int32)).toNatClampNeg ((pf_up (pf_up M141 74 0 ((5 : Int32) * (M141 40 0 44)).toNatClampNeg (M141 64 0 x1.toNatClampNeg)) 74 0 (((5 : Int32) * ((pf_up M141 74 0 ((5 : Int32) * (M141 40 0 44)).toNatClampNeg (M141 64 0 x1.toNatClampNeg)) 40 0 44)) + (1 : Int32)).toNatClampNeg ((pf_up M141 74 0 ((5 : Int32) * (M141 40 0 44)).toNatClampNeg (M141 64 0 x1.toNatClampNeg)) 65 0 x1.toNatClampNeg)) 66 0 x1.toNatClampNeg)) 40 0 44)) + (3 : Int32)).toNatClampNeg ((pf_up (pf_up (pf_up M141 74 0 ((5 : Int32) * (M141 40 0 44)).toNatClampNeg (M141 64 0 x1.toNatClampNeg)) 74 0 (((5 : Int32) * ((pf_up M141 74 0 ((5 : Int32) * (M141 40 0 44)).toNatClampNeg (M141 64 0 x1.toNatClampNeg)) 40 0 44)) + (1 : Int32)).toNatClampNeg ((pf_up M141 74 0 ((5 : Int32) * (M141 40 0 44)).toNatClampNeg (M141 64 0 x1.toNatClampNeg)) 65 0 x1.toNatClampNeg)) 74 0 (((5 : Int32) * ((pf_up (pf_up M141 74 0 ((5 : Int32) * (M141 40 0 44)).toNatClampNeg (M141 64 0 x1.toNatClampNeg)) 74 0 (((5 : Int32) * ((pf_up M141 74 0 ((5 : Int32) * (M141 40 0 44)).toNatClampNeg (M141 64 0 x1.toNatClampNeg)) 40 0 44)) + (1 : Int32)).toNatClampNeg ((pf_up M141 74 0 ((5 : Int32) * (M141 40 0 44)).toNatClampNeg (M141 64 0 x1.toNatClampNeg)) 65 0 x1.toNatClampNeg)) 40 0 44)) + (2 : Int32)).toNatClampNeg ((pf_up (pf_up M141 74 0 ((5 : Int32) * (M141 40 0 44)).toNatClampNeg (M141 64 0 x1.toNatClampNeg)) 74 0 (((5 : Int32) * ((pf_up M141 74 0 ((5 : Int32) * (M141 40 0 44)).toNatClampNeg (M141 64 0 x1.toNatClampNeg)) 40 0 44)) + (1 : Int32)).toNatClampNeg ((pf_up M141 74 0 ((5 : Int32) * (M141 40 0 44)).toNatClampNeg (M141 64 0 x1.toNatClampNeg)) 65 0 x1.toNatClampNeg)) 66 0 x1.toNatClampNeg)) 67 0 x1.toNatClampNeg)) 40 0 44)) + (4 : Int32)).toNatClampNeg ((pf_up (pf_up (pf_up (pf_up M141 74 0 ((5 : Int32) * (M141 40 0 44)).toNatClampNeg (M141 64 0 x1.toNatClampNeg)) 74 0 (((5 : Int32) * ((pf_up M141 74 0 ((5 : Int32) * (M141 40 0 44)).toNatClampNeg (M141 64 0 x1.toNatClampNeg)) 40 0 44)) + (1 : Int32)).toNatClampNeg ((pf_up M141 74 0 ((5 : Int32) * (M141 40 0 44)).toNatClampNeg (M141 64 0 x1.toNatClampNeg)) 65 0 x1.toNatClampNeg)) 74 0 (((5 : Int32) * ((pf_up (pf_up M141 74 0 ((5 : Int32) * (M141 40 0 44)).toNatClampNeg (M141 64 0 x1.toNatClampNeg)) 74 0 (((5 : Int32) * ((pf_up M141 74 0 ((5 : Int32) * (M141 40 0 44)).toNatClampNeg (M141 64 0 x1.toNatClampNeg)) 40 0 44)) + (1 : Int32)).toNatClampNeg ((pf_up M141 74 0 ((5 : Int32) * (M141 40 0 44)).toNatClampNeg (M141 64 0 x1.toNatClampNeg)) 65 0 x1.toNatClampNeg)) 40 0 44)) + (2 : Int32)).toNatClampNeg ((pf_up (pf_up M141 74 0 ((5 : Int32) * (M141 40 0 44)).toNatClampNeg (M141 64 0 x1.toNatClampNeg)) 74 0 (((5 : Int32) * ((pf_up M141 74 0 ((5 : Int32) * (M141 40 0 44)).toNatClampNeg (M141 64 0 x1.toNatClampNeg)) 40 0 44)) + (1 : Int32)).toNatClampNeg ((pf_up M141 74 0 ((5 : Int32) * (M141 40 0 44)).toNatClampNeg (M141 64 0 x1.toNatClampNeg)) 65 0 x1.toNatClampNeg)) 66 0 x1.toNatClampNeg)) 74 0 (((5 : Int32) * ((pf_up (pf_up (pf_up M141 74 0 ((5 : Int32) * (M141 40 0 44)).toNatClampNeg (M141 64 0 x1.toNatClampNeg)) 74 0 (((5 : Int32) * ((pf_up M141 74 0 ((5 : Int32) * (M141 40 0 44)).toNatClampNeg (M141 64 0 x1.toNatClampNeg)) 40 0 44)) + (1 : Int32)).toNatClampNeg ((pf_up M141 74 0 ((5 : Int32) * (M141 40 0 44)).toNatClampNeg (M141 64 0 x1.toNatClampNeg)) 65 0 x1.toNatClampNeg)) 74 0 (((5 : Int32) * ((pf_up (pf_up M141 74 0 ((5 : Int32) * (M141 40 0 44)).toNatClampNeg (M141 64 0 x1.toNatClampNeg)) 74 0 (((5 : Int32) * ((pf_up M141 74 0 ((5 : Int32) * (M141 40 0 44)).toNatClampNeg (M141 64 0 x1.toNatClampNeg)) 40 0 44)) + (1 : Int32)).toNatClampNeg ((pf_up M141 74 0 ((5 : Int32) * (M141 40 0 44)).toNatClampNeg (M141 64 0 x1.toNatClampNeg)) 65 0 x1.toNatClampNeg)) 40 0 44)) + (2 : Int32)).toNatClampNeg ((pf_up (pf_up M141 74 0 ((5 : Int32) * (M141 40 0 44)).toNatClampNeg (M141 64 0 x1.toNatClampNeg)) 74 0 (((5 : Int32) * ((pf_up M141 74 0 ((5 : Int32) * (M141 40 0 44)).toNatClampNeg (M141 64 0 x1.toNatClampNeg)) 40 0 44)) + (1 : Int32)).toNatClampNeg ((pf_up M141 74 0 ((5 : Int32) * (M141 40 0 44)).toNatClampNeg (M141 64 0 x1.toNatClampNeg)) 65 0 x1.toNatClampNeg)) 66 0 x1.toNatClampNeg)) 40 0 44)) + (3 : Int32)).toNatClampNeg ((pf_up (pf_up (pf_up M141 74 0 ((5 : Int32) * (M141 40 0 44)).toNatClampNeg (M141 64 0 x1.toNatClampNeg)) 74 0 (((5 : Int32) * ((pf_up M141 74 0 ((5 : Int32) * (M141 40 0 44)).toNatClampNeg (M141 64 0 x1.toNatClampNeg)) 40 0 44)) + (1 : Int32)).toNatClampNeg ((pf_up M141 74 0 ((5 : Int32) * (M141 40 0 44)).toNatClampNeg (M141 64 0 x1.toNatClampNeg)) 65 0 x1.toNatClampNeg)) 74 0 (((5 : Int32) * ((pf_up (pf_up M141 74 0 ((5 : Int32) * (M141 40 0 44)).toNatClampNeg (M141 64 0 x1.toNatClampNeg)) 74 0 (((5 : Int32) * ((pf_up M141 74 0 ((5 : Int32) * (M141 40 0 44)).toNatClampNeg (M141 64 0 x1.toNatClampNeg)) 40 0 44)) + (1 : Int32)).toNatClampNeg ((pf_up M141 74 0 ((5 : Int32) * (M141 40 0 44)).toNatClampNeg (M141 64 0 x1.toNatClampNeg)) 65 0 x1.toNatClampNeg)) 40 0 44)) + (2 : Int32)).toNatClampNeg ((pf_up (pf_up M141 74 0 ((5 : Int32) * (M141 40 0 44)).toNatClampNeg (M141 64 0 x1.toNatClampNeg)) 74 0 (((5 : Int32) * ((pf_up M141 74 0 ((5 : Int32) * (M141 40 0 44)).toNatClampNeg (M141 64 0 x1.toNatClampNeg)) 40 0 44)) + (1 : Int32)).toNatClampNeg ((pf_up M141 74 0 ((5 : Int32) * (M141 40 0 44)).toNatClampNeg (M141 64 0 x1.toNatClampNeg)) 65 0 x1.toNatClampNeg)) 66 0 x1.toNatClampNeg)) 67 0 x1.toNatClampNeg)) 72 0 x1.toNatClampNeg)) 40 0 44) from rfl) ?_
    refine r_iconst R 240 dX12_keeps_239 rfl ic_iconst_1 ?_
    refine r_iadd R 241 dX12_keeps_240 rfl ?_
    refine r_putfield R 244 dX12_keeps_241 rfl fl_X12_203 rfl rfl rfl rfl ?_
    obtain rfl := Option.some.inj h
    exact r_return_ R dX12_keeps_244 rfl rfl rfl
  have hl105 : ∀ (kx105 : pf_M → Option (pf_M)), (∀ (Me105 : pf_M), kx105 Me105 = some q → K 131 [pf_R 40 0, pf_I x1, pf_U, pf_U] [] Me105) → ∀ (n : Nat) (v105_3 : Int32) (M105 : pf_M), lX12_keeps_105 kx105 n v105_3 M105 = some q → K 105 [pf_R 40 0, pf_I x1, pf_U, pf_I v105_3] [] M105 := by
    intro kx105 hkx105 n
    induction n with
    | zero =>
      intro v105_3 M105 h
      rw [lX12_keeps_105] at h
      cases h
    | succ n ih105 =>
        intro v105_3 M105 h
        rw [lX12_keeps_105] at h
        refine r_iload_n R 106 dX12_keeps_105 rfl rfl ?_
        refine r_bipush R 108 dX12_keeps_106 rfl ic_bipush_25 ?_
        refine r_icmp_ge R 111 131 dX12_keeps_108 rfl (by decide) (fun hc => ?_) (fun hc => ?_)
        · have h := pf_ifp hc h
          refine r_fg R [true, true, true, false] (show _ = [pf_R 40 0, pf_I x1, pf_U, pf_U] from rfl) ?_
          exact hkx105 _ h
        · have h := pf_ifn hc h
          refine r_aload_n R 112 dX12_keeps_111 rfl rfl ?_
          refine r_getfield R 115 dX12_keeps_112 rfl fl_X12_109 rfl (show _ = pf_R 74 0 from rfl) ?_
          refine r_iload_n R 116 dX12_keeps_115 rfl rfl ?_
          refine r_aload_n R 117 dX12_keeps_116 rfl rfl ?_
          refine r_getfield R 120 dX12_keeps_117 rfl fl_X12_109 rfl (show _ = pf_R 74 0 from rfl) ?_
          refine r_iload_n R 121 dX12_keeps_120 rfl rfl ?_
          refine r_iconst R 122 dX12_keeps_121 rfl ic_iconst_5 ?_
          refine r_iadd R 123 dX12_keeps_122 rfl ?_
          obtain ⟨hi30, h⟩ := pf_gd h
          refine r_iaload R 124 dX12_keeps_123 rfl ⟨rfl, rfl⟩ (pf_in_iff.mp hi30) ?_
          obtain ⟨hi31, h⟩ := pf_gd h
          refine r_iastore R 125 dX12_keeps_124 rfl ⟨rfl, rfl⟩ (pf_in_iff.mp hi31) ?_
          refine r_iinc R 128 dX12_keeps_125 rfl rfl ic_iconst_1 (show _ = [pf_R 40 0, pf_I x1, pf_U, pf_I (v105_3 + (1 : Int32))] from rfl) ?_
          refine r_goto R 105 dX12_keeps_128 (by decide) ?_
          exact ih105 _ _ h
  have hj92 : ∀ (s92_1 : Int32) (s92_2 : Int32) (M92 : pf_M), jX12_keeps_92 s92_1 s92_2 M92 = some q → K 92 [pf_U, pf_U, pf_U, pf_U] [pf_I s92_2, pf_I s92_1, pf_R 74 0] M92 := by
    intro s92_1 s92_2 M92 h
    unfold jX12_keeps_92 at h
    obtain ⟨hi32, h⟩ := pf_gd h
    refine r_iastore R 93 dX12_keeps_92 rfl ⟨rfl, rfl⟩ (pf_in_iff.mp hi32) ?_
    obtain rfl := Option.some.inj h
    exact r_return_ R dX12_keeps_93 rfl rfl rfl
  have hj41 : ∀ (w41_2 : Int32) (s41_1 : Int32) (s41_2 : Int32) (M41 : pf_M), jX12_keeps_41 x1 w41_2 s41_1 s41_2 M41 = some q → K 41 [pf_R 40 0, pf_I x1, pf_I w41_2, pf_U] [pf_I s41_2, pf_I s41_1, pf_R 40 0] M41 := by
    intro w41_2 s41_1 s41_2 M41 h
    unfold jX12_keeps_41 at h
    refine r_iadd R 42 dX12_keeps_41 rfl ?_
    refine r_putfield R 45 dX12_keeps_42 rfl fl_X12_206 rfl rfl rfl rfl ?_
    refine r_aload_n R 46 dX12_keeps_45 rfl rfl ?_
    refine r_getfield R 49 dX12_keeps_46 rfl fl_X12_109 rfl (show _ = pf_R 74 0 from rfl) ?_
    refine r_iconst R 50 dX12_keeps_49 rfl ic_iconst_5 ?_
    refine r_iload_n R 51 dX12_keeps_50 rfl rfl ?_
    refine r_imul R 52 dX12_keeps_51 rfl ?_
    refine r_iconst R 53 dX12_keeps_52 rfl ic_iconst_4 ?_
    refine r_iadd R 54 dX12_keeps_53 rfl ?_
    refine r_aload_n R 55 dX12_keeps_54 rfl rfl ?_
    refine r_getfield R 58 dX12_keeps_55 rfl fl_X12_103 rfl (show _ = pf_R 72 0 from rfl) ?_
    refine r_iload_n R 59 dX12_keeps_58 rfl rfl ?_
    obtain ⟨hi33, h⟩ := pf_gd h
    refine r_iaload R 60 dX12_keeps_59 rfl ⟨rfl, rfl⟩ (pf_in_iff.mp hi33) ?_
    refine r_aload_n R 61 dX12_keeps_60 rfl rfl ?_
    refine r_getfield R 64 dX12_keeps_61 rfl fl_X12_109 rfl (show _ = pf_R 74 0 from rfl) ?_
    refine r_iconst R 65 dX12_keeps_64 rfl ic_iconst_5 ?_
    refine r_iload_n R 66 dX12_keeps_65 rfl rfl ?_
    refine r_imul R 67 dX12_keeps_66 rfl ?_
    refine r_iconst R 68 dX12_keeps_67 rfl ic_iconst_4 ?_
    refine r_iadd R 69 dX12_keeps_68 rfl ?_
    obtain ⟨hi34, h⟩ := pf_gd h
    refine r_iaload R 70 dX12_keeps_69 rfl ⟨rfl, rfl⟩ (pf_in_iff.mp hi34) ?_
    refine r_icmp_le R 73 82 dX12_keeps_70 rfl (by decide) (fun hc => ?_) (fun hc => ?_)
    · have h := pf_ifp hc h
      refine r_aload_n R 83 dX12_keeps_82 rfl rfl ?_
      refine r_getfield R 86 dX12_keeps_83 rfl fl_X12_109 rfl (show _ = pf_R 74 0 from rfl) ?_
      refine r_iconst R 87 dX12_keeps_86 rfl ic_iconst_5 ?_
      refine r_iload_n R 88 dX12_keeps_87 rfl rfl ?_
      refine r_imul R 89 dX12_keeps_88 rfl ?_
      refine r_iconst R 90 dX12_keeps_89 rfl ic_iconst_4 ?_
      refine r_iadd R 91 dX12_keeps_90 rfl ?_
      obtain ⟨hi35, h⟩ := pf_gd h
      refine r_iaload R 92 dX12_keeps_91 rfl ⟨rfl, rfl⟩ (pf_in_iff.mp hi35) ?_
      refine r_fg R [false, false, false, true] (show _ = [pf_U, pf_U, pf_U, pf_U] from rfl) ?_
      exact hj92 _ _ _ h
    · have h := pf_ifn hc h
      refine r_aload_n R 74 dX12_keeps_73 rfl rfl ?_
      refine r_getfield R 77 dX12_keeps_74 rfl fl_X12_103 rfl (show _ = pf_R 72 0 from rfl) ?_
      refine r_iload_n R 78 dX12_keeps_77 rfl rfl ?_
      obtain ⟨hi36, h⟩ := pf_gd h
      refine r_iaload R 79 dX12_keeps_78 rfl ⟨rfl, rfl⟩ (pf_in_iff.mp hi36) ?_
      refine r_goto R 92 dX12_keeps_79 (by decide) ?_
      refine r_fg R [false, false, false, true] (show _ = [pf_U, pf_U, pf_U, pf_U] from rfl) ?_
      exact hj92 _ _ _ h
  unfold fX12_keeps at h
  refine r_aload_n R 1 dX12_keeps_0 rfl rfl ?_
  refine r_iload_n R 2 dX12_keeps_1 rfl rfl ?_
  obtain ⟨r37, hr37, h⟩ := pf_bd h
  refine r_cvI1 R 5 dX12_keeps_2 rfl lk_X12_298 rfl (c_X12_keptAt G x1 M _ hr37) rfl rfl rfl ?_
  refine r_istore_n R 6 dX12_keeps_5 rfl rfl (show _ = [pf_R 40 0, pf_I x1, pf_I r37, pf_U] from rfl) ?_
  refine r_iload_n R 7 dX12_keeps_6 rfl rfl ?_
  refine r_bipush R 9 dX12_keeps_7 rfl ic_bipush_m4 ?_
  refine r_icmp_eq R 12 94 dX12_keeps_9 rfl (by decide) (fun hc => ?_) (fun hc => ?_)
  · have h := pf_ifp hc h
    refine r_aload_n R 95 dX12_keeps_94 rfl rfl ?_
    refine r_getfield R 98 dX12_keeps_95 rfl fl_X12_203 rfl (show _ = pf_I (M 40 0 44) from rfl) ?_
    refine r_bipush R 100 dX12_keeps_98 rfl ic_bipush_6 ?_
    refine r_icmp_ne R 103 141 dX12_keeps_100 rfl (by decide) (fun hc => ?_) (fun hc => ?_)
    · have h := pf_ifp hc h
      refine r_iconst R 104 dX12_keeps_103 rfl ic_iconst_0 ?_
      refine r_istore_n R 105 dX12_keeps_104 rfl rfl (show _ = [pf_R 40 0, pf_I x1, pf_I r37, pf_I (0 : Int32)] from rfl) ?_
      refine r_fg R [true, true, false, true] (show _ = [pf_R 40 0, pf_I x1, pf_U, pf_I (0 : Int32)] from rfl) ?_
      refine hl105 _ (fun u38_Me105 h => ?_) pf_fu _ _ h
      refine r_aload_n R 132 dX12_keeps_131 rfl rfl ?_
      refine r_dup R 133 dX12_keeps_132 rfl rfl ?_
      refine r_getfield R 136 dX12_keeps_133 rfl fl_X12_203 rfl (show _ = pf_I (u38_Me105 40 0 44) from rfl) ?_
      refine r_iconst R 137 dX12_keeps_136 rfl ic_iconst_1 ?_
      refine r_isub R 138 dX12_keeps_137 rfl ?_
      refine r_putfield R 141 dX12_keeps_138 rfl fl_X12_203 rfl rfl rfl rfl ?_
      exact hj141 _ h
    · have h := pf_ifn hc h
      refine r_fg R [true, true, false, true] (show _ = [pf_R 40 0, pf_I x1, pf_U, pf_U] from rfl) ?_
      exact hj141 _ h
  · have h := pf_ifn hc h
    refine r_aload_n R 13 dX12_keeps_12 rfl rfl ?_
    refine r_dup R 14 dX12_keeps_13 rfl rfl ?_
    refine r_getfield R 17 dX12_keeps_14 rfl fl_X12_206 rfl (show _ = pf_I (M 40 0 46) from rfl) ?_
    refine r_aload_n R 18 dX12_keeps_17 rfl rfl ?_
    refine r_getfield R 21 dX12_keeps_18 rfl fl_X12_103 rfl (show _ = pf_R 72 0 from rfl) ?_
    refine r_iload_n R 22 dX12_keeps_21 rfl rfl ?_
    obtain ⟨hi39, h⟩ := pf_gd h
    refine r_iaload R 23 dX12_keeps_22 rfl ⟨rfl, rfl⟩ (pf_in_iff.mp hi39) ?_
    refine r_aload_n R 24 dX12_keeps_23 rfl rfl ?_
    refine r_getfield R 27 dX12_keeps_24 rfl fl_X12_109 rfl (show _ = pf_R 74 0 from rfl) ?_
    refine r_iconst R 28 dX12_keeps_27 rfl ic_iconst_5 ?_
    refine r_iload_n R 29 dX12_keeps_28 rfl rfl ?_
    refine r_imul R 30 dX12_keeps_29 rfl ?_
    refine r_iconst R 31 dX12_keeps_30 rfl ic_iconst_4 ?_
    refine r_iadd R 32 dX12_keeps_31 rfl ?_
    obtain ⟨hi40, h⟩ := pf_gd h
    refine r_iaload R 33 dX12_keeps_32 rfl ⟨rfl, rfl⟩ (pf_in_iff.mp hi40) ?_
    refine r_icmp_ge R 36 40 dX12_keeps_33 rfl (by decide) (fun hc => ?_) (fun hc => ?_)
    · have h := pf_ifp hc h
      refine r_iconst R 41 dX12_keeps_40 rfl ic_iconst_0 ?_
      exact hj41 _ _ _ _ h
    · have h := pf_ifn hc h
      refine r_iconst R 37 dX12_keeps_36 rfl ic_iconst_1 ?_
      refine r_goto R 41 dX12_keeps_37 (by decide) ?_
      exact hj41 _ _ _ _ h
