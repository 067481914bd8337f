def fX12_empty (M : pf_M) : pf_M :=
  (pf_up (pf_up (pf_up (pf_up M 40 0 3 (0 : Int32)) 43 0 (8 : Int32).toNatClampNeg (1 : Int32)) 40 0 8 (2 : Int32)) 40 0 9 (1 : Int32))
set_option maxRecDepth 4000 in
theorem c_X12_empty (G : pf_G) (M : pf_M) (q : pf_M) (h : fX12_empty M = q) : pf_Met G yX12_empty cX12_empty 1 (none) 0 0 [pf_R 40 0] M none q := by
  refine pf_Met.of (by decide +kernel) (Nat.le_of_ble_eq_true rfl) (fun K R => ?_)
  show K 0 [pf_R 40 0] [] M
  unfold fX12_empty at h
  refine r_aload_n R 1 dX12_empty_0 rfl rfl ?_
  refine r_iconst R 2 dX12_empty_1 rfl ic_iconst_0 ?_
  refine r_putfield R 5 dX12_empty_2 rfl fl_X12_138 rfl rfl rfl rfl ?_
  refine r_aload_n R 6 dX12_empty_5 rfl rfl ?_
  refine r_getfield R 9 dX12_empty_6 rfl fl_X12_16 rfl (show _ = pf_R 43 0 from rfl) ?_
  refine r_bipush R 11 dX12_empty_9 rfl ic_bipush_8 ?_
  refine r_iconst R 12 dX12_empty_11 rfl ic_iconst_1 ?_
  refine r_iastore R 13 dX12_empty_12 rfl ⟨rfl, rfl⟩ (pf_in_iff.mp (by decide)) ?_
  refine r_aload_n R 14 dX12_empty_13 rfl rfl ?_
  refine r_iconst R 15 dX12_empty_14 rfl ic_iconst_2 ?_
  refine r_putfield R 18 dX12_empty_15 rfl fl_X12_128 rfl rfl rfl rfl ?_
  refine r_aload_n R 19 dX12_empty_18 rfl rfl ?_
  refine r_iconst R 20 dX12_empty_19 rfl ic_iconst_1 ?_
  refine r_putfield R 23 dX12_empty_20 rfl fl_X12_132 rfl rfl rfl rfl ?_
  subst h
  exact r_return_ R dX12_empty_23 rfl rfl rfl
def jX12_endItem_39 (w39_1 : Int32) (w39_2 : Int32) (s39_0 : Int32) (M39 : pf_M) : Option (Int32 × pf_M) :=
  (if s39_0 = (-4 : Int32) then some ((0 : Int32), M39)
  else (if w39_1 = (0 : Int32) then some ((0 : Int32), M39)
  else ((fX12_ends (pf_up (pf_up (pf_up M39 43 0 (8 : Int32).toNatClampNeg w39_1) 40 0 8 w39_2) 40 0 9 s39_0)).bind fun q5 => if pf_b q5.1 = true then some (q5.1, q5.2) else none)))
def jX12_endItem_22 (w22_1 : Int32) (s22_0 : Int32) (M22 : pf_M) : Option (Int32 × pf_M) :=
  (if s22_0 = (-4 : Int32) then jX12_endItem_39 w22_1 s22_0 (-4 : Int32) M22
  else ((fX12_figures (1 : Int32) M22).bind fun q7 => jX12_endItem_39 w22_1 s22_0 q7.1 q7.2))
def fX12_endItem (M : pf_M) : Option (Int32 × pf_M) :=
  ((fX12_figures (1 : Int32) M).bind fun q8 => (if q8.1 = (-4 : Int32) then jX12_endItem_22 q8.1 (-4 : Int32) q8.2
  else ((fX12_figures (1 : Int32) q8.2).bind fun q9 => jX12_endItem_22 q8.1 q9.1 q9.2)))
set_option maxRecDepth 4000 in
theorem c_X12_endItem (G : pf_G) (M : pf_M) (q : Int32 × pf_M) (h : fX12_endItem M = some q) : pf_Met G yX12_endItem cX12_endItem 4 (some .boolean) 2 48 [pf_R 40 0] M (some (pf_I q.1)) q.2 := by
  refine pf_Met.of (by decide +kernel) (Nat.le_of_ble_eq_true rfl) (fun K R => ?_)
  show K 0 [pf_R 40 0, pf_U, pf_U, pf_U] [] M
  have hj39 : ∀ (w39_1 : Int32) (w39_2 : Int32) (s39_0 : Int32) (M39 : pf_M), jX12_endItem_39 w39_1 w39_2 s39_0 M39 = some q → K 39 [pf_R 40 0, pf_I w39_1, pf_I w39_2, pf_U] [pf_I s39_0] M39 := by
    intro w39_1 w39_2 s39_0 M39 h
    unfold jX12_endItem_39 at h
    refine r_istore_n R 40 dX12_endItem_39 rfl rfl (show _ = [pf_R 40 0, pf_I w39_1, pf_I w39_2, pf_I s39_0] from rfl) ?_
    refine r_iload_n R 41 dX12_endItem_40 rfl rfl ?_
    refine r_bipush R 43 dX12_endItem_41 rfl ic_bipush_m4 ?_
    refine r_icmp_eq R 46 50 dX12_endItem_43 rfl (by decide) (fun hc => ?_) (fun hc => ?_)
    · have h := pf_ifp hc h
      refine r_iconst R 51 dX12_endItem_50 rfl ic_iconst_0 ?_
      obtain rfl := Option.some.inj h
      exact r_ireturn R dX12_endItem_51 rfl rfl rfl rfl
    · have h := pf_ifn hc h
      refine r_iload_n R 47 dX12_endItem_46 rfl rfl ?_
      refine r_if_ne R 50 52 dX12_endItem_47 rfl (by decide) (fun hc => ?_) (fun hc => ?_)
      · have h := pf_ifp hc h
        refine r_iconst R 51 dX12_endItem_50 rfl ic_iconst_0 ?_
        obtain rfl := Option.some.inj h
        exact r_ireturn R dX12_endItem_51 rfl rfl rfl rfl
      · have h := pf_ifn hc h
        refine r_aload_n R 53 dX12_endItem_52 rfl rfl ?_
        refine r_getfield R 56 dX12_endItem_53 rfl fl_X12_16 rfl (show _ = pf_R 43 0 from rfl) ?_
        refine r_bipush R 58 dX12_endItem_56 rfl ic_bipush_8 ?_
        refine r_iload_n R 59 dX12_endItem_58 rfl rfl ?_
        refine r_iastore R 60 dX12_endItem_59 rfl ⟨rfl, rfl⟩ (pf_in_iff.mp (by decide)) ?_
        refine r_aload_n R 61 dX12_endItem_60 rfl rfl ?_
        refine r_iload_n R 62 dX12_endItem_61 rfl rfl ?_
        refine r_putfield R 65 dX12_endItem_62 rfl fl_X12_128 rfl rfl rfl rfl ?_
        refine r_aload_n R 66 dX12_endItem_65 rfl rfl ?_
        refine r_iload_n R 67 dX12_endItem_66 rfl rfl ?_
        refine r_putfield R 70 dX12_endItem_67 rfl fl_X12_132 rfl rfl rfl rfl ?_
        refine r_aload_n R 71 dX12_endItem_70 rfl rfl ?_
        obtain ⟨q5, hq5, h⟩ := pf_bd h
        refine r_cvI0 R 74 dX12_endItem_71 rfl lk_X12_166 rfl (c_X12_ends G (pf_up (pf_up (pf_up M39 43 0 (8 : Int32).toNatClampNeg w39_1) 40 0 8 w39_2) 40 0 9 s39_0) _ hq5) rfl rfl rfl ?_
        obtain ⟨hb6, h⟩ := pf_gd h
        obtain rfl := Option.some.inj h
        exact r_ireturn R dX12_endItem_74 rfl (pf_bool (pf_b_iff.mp hb6)) rfl rfl
  have hj22 : ∀ (w22_1 : Int32) (s22_0 : Int32) (M22 : pf_M), jX12_endItem_22 w22_1 s22_0 M22 = some q → K 22 [pf_R 40 0, pf_I w22_1, pf_U, pf_U] [pf_I s22_0] M22 := by
    intro w22_1 s22_0 M22 h
    unfold jX12_endItem_22 at h
    refine r_istore_n R 23 dX12_endItem_22 rfl rfl (show _ = [pf_R 40 0, pf_I w22_1, pf_I s22_0, pf_U] from rfl) ?_
    refine r_iload_n R 24 dX12_endItem_23 rfl rfl ?_
    refine r_bipush R 26 dX12_endItem_24 rfl ic_bipush_m4 ?_
    refine r_icmp_ne R 29 34 dX12_endItem_26 rfl (by decide) (fun hc => ?_) (fun hc => ?_)
    · have h := pf_ifp hc h
      refine r_bipush R 31 dX12_endItem_29 rfl ic_bipush_m4 ?_
      refine r_goto R 39 dX12_endItem_31 (by decide) ?_
      exact hj39 _ _ _ _ h
    · have h := pf_ifn hc h
      refine r_aload_n R 35 dX12_endItem_34 rfl rfl ?_
      refine r_iconst R 36 dX12_endItem_35 rfl ic_iconst_1 ?_
      obtain ⟨q7, hq7, h⟩ := pf_bd h
      refine r_cvI1 R 39 dX12_endItem_36 rfl lk_X12_163 rfl (c_X12_figures G (1 : Int32) M22 _ hq7) rfl rfl rfl ?_
      exact hj39 _ _ _ _ h
  unfold fX12_endItem at h
  refine r_aload_n R 1 dX12_endItem_0 rfl rfl ?_
  refine r_iconst R 2 dX12_endItem_1 rfl ic_iconst_1 ?_
  obtain ⟨q8, hq8, h⟩ := pf_bd h
  refine r_cvI1 R 5 dX12_endItem_2 rfl lk_X12_163 rfl (c_X12_figures G (1 : Int32) M _ hq8) rfl rfl rfl ?_
  refine r_istore_n R 6 dX12_endItem_5 rfl rfl (show _ = [pf_R 40 0, pf_I q8.1, pf_U, pf_U] from rfl) ?_
  refine r_iload_n R 7 dX12_endItem_6 rfl rfl ?_
  refine r_bipush R 9 dX12_endItem_7 rfl ic_bipush_m4 ?_
  refine r_icmp_ne R 12 17 dX12_endItem_9 rfl (by decide) (fun hc => ?_) (fun hc => ?_)
  · have h := pf_ifp hc h
    refine r_bipush R 14 dX12_endItem_12 rfl ic_bipush_m4 ?_
    refine r_goto R 22 dX12_endItem_14 (by decide) ?_
    exact hj22 _ _ _ h
  · have h := pf_ifn hc h
    refine r_aload_n R 18 dX12_endItem_17 rfl rfl ?_
    refine r_iconst R 19 dX12_endItem_18 rfl ic_iconst_1 ?_
    obtain ⟨q9, hq9, h⟩ := pf_bd h
    refine r_cvI1 R 22 dX12_endItem_19 rfl lk_X12_163 rfl (c_X12_figures G (1 : Int32) q8.2 _ hq9) rfl rfl rfl ?_
    exact hj22 _ _ _ h
def jX12_keptAt_86 (rec2 : Int32 → Option (Int32)) (w86_2 : Int32) : Option (Int32) :=
  rec2 (w86_2 + (1 : Int32))
def lX12_keptAt_2 (x1 : Int32) (M : pf_M) : Nat → Int32 → Option (Int32)
  | 0, _ => none
  | n + 1, v2_2 =>
  (if (M 40 0 44) ≤ v2_2 then some (-4 : Int32)
  else (if pf_in ((5 : Int32) * v2_2) 30 = true then (if pf_in x1 4 = true then (if (M 74 0 ((5 : Int32) * v2_2).toNatClampNeg) = (M 64 0 x1.toNatClampNeg) then (if pf_in (((5 : Int32) * v2_2) + (1 : Int32)) 30 = true then (if pf_in x1 4 = true then (if (M 74 0 (((5 : Int32) * v2_2) + (1 : Int32)).toNatClampNeg) = (M 65 0 x1.toNatClampNeg) then (if pf_in (((5 : Int32) * v2_2) + (2 : Int32)) 30 = true then (if pf_in x1 4 = true then (if (M 74 0 (((5 : Int32) * v2_2) + (2 : Int32)).toNatClampNeg) = (M 66 0 x1.toNatClampNeg) then (if pf_in (((5 : Int32) * v2_2) + (3 : Int32)) 30 = true then (if pf_in x1 4 = true then (if (M 74 0 (((5 : Int32) * v2_2) + (3 : Int32)).toNatClampNeg) = (M 67 0 x1.toNatClampNeg) then some v2_2
  else jX12_keptAt_86 (lX12_keptAt_2 x1 M n) v2_2)
  else none)
  else none)
  else jX12_keptAt_86 (lX12_keptAt_2 x1 M n) v2_2)
  else none)
  else none)
  else jX12_keptAt_86 (lX12_keptAt_2 x1 M n) v2_2)
  else none)
  else none)
  else jX12_keptAt_86 (lX12_keptAt_2 x1 M n) v2_2)
  else none)
  else none))
def fX12_keptAt (x1 : Int32) (M : pf_M) : Option (Int32) :=
  lX12_keptAt_2 x1 M pf_fu (0 : Int32)
set_option maxRecDepth 4000 in
theorem c_X12_keptAt (G : pf_G) (x1 : Int32) (M : pf_M) (q : Int32) (h : fX12_keptAt x1 M = some q) : pf_Met G yX12_keptAt cX12_keptAt 3 (some .int) 0 0 [pf_R 40 0, pf_I x1] M (some (pf_I q)) M := by
  refine pf_Met.of (by decide +kernel) (Nat.le_of_ble_eq_true rfl) (fun K R => ?_)
  show K 0 [pf_R 40 0, pf_I x1, pf_U] [] M
  have hl2 : ∀ (n : Nat) (v2_2 : Int32), lX12_keptAt_2 x1 M n v2_2 = some q → K 2 [pf_R 40 0, pf_I x1, pf_I v2_2] [] M := by
    intro n
    induction n with
    | zero =>
      intro v2_2 h
      rw [lX12_keptAt_2] at h
      cases h
    | succ n ih2 =>
        have hj86 : ∀ (w86_2 : Int32), jX12_keptAt_86 (lX12_keptAt_2 x1 M n) w86_2 = some q → K 86 [pf_R 40 0, pf_I x1, pf_I w86_2] [] M := by
          intro w86_2 h
          unfold jX12_keptAt_86 at h
          refine r_iinc R 89 dX12_keptAt_86 rfl rfl ic_iconst_1 (show _ = [pf_R 40 0, pf_I x1, pf_I (w86_2 + (1 : Int32))] from rfl) ?_
          refine r_goto R 2 dX12_keptAt_89 (by decide) ?_
          exact ih2 _ h
        intro v2_2 h
        rw [lX12_keptAt_2] at h
        refine r_iload_n R 3 dX12_keptAt_2 rfl rfl ?_
        refine r_aload_n R 4 dX12_keptAt_3 rfl rfl ?_
        refine r_getfield R 7 dX12_keptAt_4 rfl fl_X12_203 rfl (show _ = pf_I (M 40 0 44) from rfl) ?_
        refine r_icmp_ge R 10 92 dX12_keptAt_7 rfl (by decide) (fun hc => ?_) (fun hc => ?_)
        · have h := pf_ifp hc h
          refine r_bipush R 94 dX12_keptAt_92 rfl ic_bipush_m4 ?_
          obtain rfl := Option.some.inj h
          exact r_ireturn R dX12_keptAt_94 rfl rfl rfl rfl
        · have h := pf_ifn hc h
          refine r_aload_n R 11 dX12_keptAt_10 rfl rfl ?_
          refine r_getfield R 14 dX12_keptAt_11 rfl fl_X12_109 rfl (show _ = pf_R 74 0 from rfl) ?_
          refine r_iconst R 15 dX12_keptAt_14 rfl ic_iconst_5 ?_
          refine r_iload_n R 16 dX12_keptAt_15 rfl rfl ?_
          refine r_imul R 17 dX12_keptAt_16 rfl ?_
          obtain ⟨hi9, h⟩ := pf_gd h
          refine r_iaload R 18 dX12_keptAt_17 rfl ⟨rfl, rfl⟩ (pf_in_iff.mp hi9) ?_
          refine r_aload_n R 19 dX12_keptAt_18 rfl rfl ?_
          refine r_getfield R 22 dX12_keptAt_19 rfl fl_X12_79 rfl (show _ = pf_R 64 0 from rfl) ?_
          refine r_iload_n R 23 dX12_keptAt_22 rfl rfl ?_
          obtain ⟨hi10, h⟩ := pf_gd h
          refine r_iaload R 24 dX12_keptAt_23 rfl ⟨rfl, rfl⟩ (pf_in_iff.mp hi10) ?_
          refine r_icmp_ne R 27 86 dX12_keptAt_24 rfl (by decide) (fun hc => ?_) (fun hc => ?_)
          · have h := pf_ifp hc h
            refine r_aload_n R 28 dX12_keptAt_27 rfl rfl ?_
            refine r_getfield R 31 dX12_keptAt_28 rfl fl_X12_109 rfl (show _ = pf_R 74 0 from rfl) ?_
            refine r_iconst R 32 dX12_keptAt_31 rfl ic_iconst_5 ?_
            refine r_iload_n R 33 dX12_keptAt_32 rfl rfl ?_
            refine r_imul R 34 dX12_keptAt_33 rfl ?_
            refine r_iconst R 35 dX12_keptAt_34 rfl ic_iconst_1 ?_
            refine r_iadd R 36 dX12_keptAt_35 rfl ?_
            obtain ⟨hi11, h⟩ := pf_gd h
            refine r_iaload R 37 dX12_keptAt_36 rfl ⟨rfl, rfl⟩ (pf_in_iff.mp hi11) ?_
            refine r_aload_n R 38 dX12_keptAt_37 rfl rfl ?_
            refine r_getfield R 41 dX12_keptAt_38 rfl fl_X12_82 rfl (show _ = pf_R 65 0 from rfl) ?_
            refine r_iload_n R 42 dX12_keptAt_41 rfl rfl ?_
            obtain ⟨hi12, h⟩ := pf_gd h
            refine r_iaload R 43 dX12_keptAt_42 rfl ⟨rfl, rfl⟩ (pf_in_iff.mp hi12) ?_
            refine r_icmp_ne R 46 86 dX12_keptAt_43 rfl (by decide) (fun hc => ?_) (fun hc => ?_)
            · have h := pf_ifp hc h
              refine r_aload_n R 47 dX12_keptAt_46 rfl rfl ?_
              refine r_getfield R 50 dX12_keptAt_47 rfl fl_X12_109 rfl (show _ = pf_R 74 0 from rfl) ?_
              refine r_iconst R 51 dX12_keptAt_50 rfl ic_iconst_5 ?_
              refine r_iload_n R 52 dX12_keptAt_51 rfl rfl ?_
              refine r_imul R 53 dX12_keptAt_52 rfl ?_
              refine r_iconst R 54 dX12_keptAt_53 rfl ic_iconst_2 ?_
              refine r_iadd R 55 dX12_keptAt_54 rfl ?_
              obtain ⟨hi13, h⟩ := pf_gd h
              refine r_iaload R 56 dX12_keptAt_55 rfl ⟨rfl, rfl⟩ (pf_in_iff.mp hi13) ?_
              refine r_aload_n R 57 dX12_keptAt_56 rfl rfl ?_
              refine r_getfield R 60 dX12_keptAt_57 rfl fl_X12_85 rfl (show _ = pf_R 66 0 from rfl) ?_
              refine r_iload_n R 61 dX12_keptAt_60 rfl rfl ?_
              obtain ⟨hi14, h⟩ := pf_gd h
              refine r_iaload R 62 dX12_keptAt_61 rfl ⟨rfl, rfl⟩ (pf_in_iff.mp hi14) ?_
              refine r_icmp_ne R 65 86 dX12_keptAt_62 rfl (by decide) (fun hc => ?_) (fun hc => ?_)
              · have h := pf_ifp hc h
                refine r_aload_n R 66 dX12_keptAt_65 rfl rfl ?_
                refine r_getfield R 69 dX12_keptAt_66 rfl fl_X12_109 rfl (show _ = pf_R 74 0 from rfl) ?_
                refine r_iconst R 70 dX12_keptAt_69 rfl ic_iconst_5 ?_
                refine r_iload_n R 71 dX12_keptAt_70 rfl rfl ?_
                refine r_imul R 72 dX12_keptAt_71 rfl ?_
                refine r_iconst R 73 dX12_keptAt_72 rfl ic_iconst_3 ?_
                refine r_iadd R 74 dX12_keptAt_73 rfl ?_
                obtain ⟨hi15, h⟩ := pf_gd h
                refine r_iaload R 75 dX12_keptAt_74 rfl ⟨rfl, rfl⟩ (pf_in_iff.mp hi15) ?_
                refine r_aload_n R 76 dX12_keptAt_75 rfl rfl ?_
                refine r_getfield R 79 dX12_keptAt_76 rfl fl_X12_88 rfl (show _ = pf_R 67 0 from rfl) ?_
                refine r_iload_n R 80 dX12_keptAt_79 rfl rfl ?_
                obtain ⟨hi16, h⟩ := pf_gd h
                refine r_iaload R 81 dX12_keptAt_80 rfl ⟨rfl, rfl⟩ (pf_in_iff.mp hi16) ?_
                refine r_icmp_ne R 84 86 dX12_keptAt_81 rfl (by decide) (fun hc => ?_) (fun hc => ?_)
                · have h := pf_ifp hc h
                  refine r_iload_n R 85 dX12_keptAt_84 rfl rfl ?_
                  obtain rfl := Option.some.inj h
                  exact r_ireturn R dX12_keptAt_85 rfl rfl rfl rfl
                · have h := pf_ifn hc h
                  exact hj86 _ h
              · have h := pf_ifn hc h
                exact hj86 _ h
            · have h := pf_ifn hc h
              exact hj86 _ h
          · have h := pf_ifn hc h
            exact hj86 _ h
  unfold fX12_keptAt at h
  refine r_iconst R 1 dX12_keptAt_0 rfl ic_iconst_0 ?_
  refine r_istore_n R 2 dX12_keptAt_1 rfl rfl (show _ = [pf_R 40 0, pf_I x1, pf_I (0 : Int32)] from rfl) ?_
  exact hl2 pf_fu _ h
def jX12_expected_33 (M : pf_M) (s33_0 : Int32) : Option (Int32) :=
  (if s33_0 = (-4 : Int32) then some (-4 : Int32)
  else (if pf_in (((5 : Int32) * s33_0) + (4 : Int32)) 30 = true then some (M 74 0 (((5 : Int32) * s33_0) + (4 : Int32)).toNatClampNeg)
  else none))
def fX12_expected (x1 : Int32) (M : pf_M) : Option (Int32) :=
  (if (fX12_in x1.toInt64 (0 : Int64) (3 : Int64)) = (0 : Int32) then some (-1 : Int32)
  else (if pf_in x1 4 = true then (if (M 64 0 x1.toNatClampNeg) = (0 : Int32) then jX12_expected_33 M (-4 : Int32)
  else ((fX12_keptAt x1 M).bind fun r6 => jX12_expected_33 M r6))
  else none))
set_option maxRecDepth 4000 in
theorem c_X12_expected (G : pf_G) (x1 : Int32) (M : pf_M) (q : Int32) (h : fX12_expected x1 M = some q) : pf_Met G yX12_expected cX12_expected 3 (some .int) 1 25 [pf_R 40 0, pf_I x1] M (some (pf_I q)) M := by
  refine pf_Met.of (by decide +kernel) (Nat.le_of_ble_eq_true rfl) (fun K R => ?_)
  show K 0 [pf_R 40 0, pf_I x1, pf_U] [] M
  have hj33 : ∀ (s33_0 : Int32), jX12_expected_33 M s33_0 = some q → K 33 [pf_R 40 0, pf_U, pf_U] [pf_I s33_0] M := by
    intro s33_0 h
    unfold jX12_expected_33 at h
    refine r_istore_n R 34 dX12_expected_33 rfl rfl (show _ = [pf_R 40 0, pf_U, pf_I s33_0] from rfl) ?_
    refine r_iload_n R 35 dX12_expected_34 rfl rfl ?_
    refine r_bipush R 37 dX12_expected_35 rfl ic_bipush_m4 ?_
    refine r_icmp_ne R 40 45 dX12_expected_37 rfl (by decide) (fun hc => ?_) (fun hc => ?_)
    · have h := pf_ifp hc h
      refine r_bipush R 42 dX12_expected_40 rfl ic_bipush_m4 ?_
      refine r_goto R 55 dX12_expected_42 (by decide) ?_
      obtain rfl := Option.some.inj h
      exact r_ireturn R dX12_expected_55 rfl rfl rfl rfl
    · have h := pf_ifn hc h
      refine r_aload_n R 46 dX12_expected_45 rfl rfl ?_
      refine r_getfield R 49 dX12_expected_46 rfl fl_X12_109 rfl (show _ = pf_R 74 0 from rfl) ?_
      refine r_iconst R 50 dX12_expected_49 rfl ic_iconst_5 ?_
      refine r_iload_n R 51 dX12_expected_50 rfl rfl ?_
      refine r_imul R 52 dX12_expected_51 rfl ?_
      refine r_iconst R 53 dX12_expected_52 rfl ic_iconst_4 ?_
      refine r_iadd R 54 dX12_expected_53 rfl ?_
      obtain ⟨hi4, h⟩ := pf_gd h
      refine r_iaload R 55 dX12_expected_54 rfl ⟨rfl, rfl⟩ (pf_in_iff.mp hi4) ?_
      obtain rfl := Option.some.inj h
      exact r_ireturn R dX12_expected_55 rfl rfl rfl rfl
  unfold fX12_expected at h
  refine r_iload_n R 1 dX12_expected_0 rfl rfl ?_
  refine r_i2l R 2 dX12_expected_1 rfl ?_
  refine r_lconst R 3 dX12_expected_2 rfl lc_0 ?_
  refine r_ldc2_w R 6 dX12_expected_3 rfl kc_X12_260 ?_
  refine r_csI3 R 9 dX12_expected_6 rfl lk_X12_145 (c_X12_in G x1.toInt64 (0 : Int64) (3 : Int64) _ rfl) rfl rfl rfl ?_
  refine r_if_ne R 12 14 dX12_expected_9 rfl (by decide) (fun hc => ?_) (fun hc => ?_)
  · have h := pf_ifp hc h
    refine r_iconst R 13 dX12_expected_12 rfl ic_iconst_m1 ?_
    obtain rfl := Option.some.inj h
    exact r_ireturn R dX12_expected_13 rfl rfl rfl rfl
  · have h := pf_ifn hc h
    refine r_aload_n R 15 dX12_expected_14 rfl rfl ?_
    refine r_getfield R 18 dX12_expected_15 rfl fl_X12_79 rfl (show _ = pf_R 64 0 from rfl) ?_
    refine r_iload_n R 19 dX12_expected_18 rfl rfl ?_
    obtain ⟨hi5, h⟩ := pf_gd h
    refine r_iaload R 20 dX12_expected_19 rfl ⟨rfl, rfl⟩ (pf_in_iff.mp hi5) ?_
    refine r_if_ne R 23 28 dX12_expected_20 rfl (by decide) (fun hc => ?_) (fun hc => ?_)
    · have h := pf_ifp hc h
      refine r_bipush R 25 dX12_expected_23 rfl ic_bipush_m4 ?_
      refine r_goto R 33 dX12_expected_25 (by decide) ?_
      refine r_fg R [true, false, true] (show _ = [pf_R 40 0, pf_U, pf_U] from rfl) ?_
      exact hj33 _ h
    · have h := pf_ifn hc h
      refine r_aload_n R 29 dX12_expected_28 rfl rfl ?_
      refine r_iload_n R 30 dX12_expected_29 rfl rfl ?_
      obtain ⟨r6, hr6, h⟩ := pf_bd h
      refine r_cvI1 R 33 dX12_expected_30 rfl lk_X12_298 rfl (c_X12_keptAt G x1 M _ hr6) rfl rfl rfl ?_
      refine r_fg R [true, false, true] (show _ = [pf_R 40 0, pf_U, pf_U] from rfl) ?_
      exact hj33 _ h
def jX12_readAll_75 (rec9 : pf_M → Option (Int32 × pf_M)) (w75_1 : Int32) (s75_0 : Int32) (M75 : pf_M) : Option (Int32 × pf_M) :=
  (if s75_0 = (0 : Int32) then some (w75_1, M75)
  else rec9 M75)
def jX12_readAll_74 (rec9 : pf_M → Option (Int32 × pf_M)) (w74_1 : Int32) (M74 : pf_M) : Option (Int32 × pf_M) :=
  jX12_readAll_75 rec9 w74_1 (0 : Int32) M74
def lX12_readAll_9  : Nat → pf_M → Option (Int32 × pf_M)
  | 0, _ => none
  | n + 1, M9 =>
  (if (M9 40 0 0) ≤ (M9 40 0 2) then some ((-4 : Int32), M9)
  else ((fX12_letterAt (M9 40 0 2) M9).bind fun r4 => (if r4 = (100 : Int32) then ((fX12_deviceItem (pf_up M9 40 0 2 ((M9 40 0 2) + (1 : Int32)))).bind fun q6 => jX12_readAll_75 (lX12_readAll_9 n) (M9 40 0 2) q6.1 q6.2)
  else (if r4 = (101 : Int32) then ((fX12_endItem (pf_up M9 40 0 2 ((M9 40 0 2) + (1 : Int32)))).bind fun q5 => (if q5.1 = (0 : Int32) then jX12_readAll_74 (lX12_readAll_9 n) (M9 40 0 2) q5.2
  else jX12_readAll_75 (lX12_readAll_9 n) (M9 40 0 2) (1 : Int32) q5.2))
  else jX12_readAll_74 (lX12_readAll_9 n) (M9 40 0 2) (pf_up M9 40 0 2 ((M9 40 0 2) + (1 : Int32)))))))
def fX12_readAll (M : pf_M) : Option (Int32 × pf_M) :=
  lX12_readAll_9 pf_fu (pf_up (fX12_empty M) 40 0 2 (0 : Int32))
set_option maxRecDepth 4000 in
theorem c_X12_readAll (G : pf_G) (M : pf_M) (q : Int32 × pf_M) (h : fX12_readAll M = some q) : pf_Met G yX12_readAll cX12_readAll 4 (some .int) 3 73 [pf_R 40 0] M (some (pf_I q.1)) q.2 := by
  refine pf_Met.of (by decide +kernel) (Nat.le_of_ble_eq_true rfl) (fun K R => ?_)
  show K 0 [pf_R 40 0, pf_U, pf_U, pf_U] [] M
  have hl9 : ∀ (n : Nat) (M9 : pf_M), lX12_readAll_9 n M9 = some q → K 9 [pf_R 40 0, pf_U, pf_U, pf_U] [] M9 := by
    intro n
    induction n with
    | zero =>
      intro M9 h
      rw [lX12_readAll_9] at h
      cases h
    | succ n ih9 =>
        have hj75 : ∀ (w75_1 : Int32) (s75_0 : Int32) (M75 : pf_M), jX12_readAll_75 (lX12_readAll_9 n) w75_1 s75_0 M75 = some q → K 75 [pf_R 40 0, pf_I w75_1, pf_U, pf_U] [pf_I s75_0] M75 := by
          intro w75_1 s75_0 M75 h
          unfold jX12_readAll_75 at h
          refine r_istore_n R 76 dX12_readAll_75 rfl rfl (show _ = [pf_R 40 0, pf_I w75_1, pf_U, pf_I s75_0] from rfl) ?_
          refine r_iload_n R 77 dX12_readAll_76 rfl rfl ?_
          refine r_if_ne R 80 82 dX12_readAll_77 rfl (by decide) (fun hc => ?_) (fun hc => ?_)
          · have h := pf_ifp hc h
            refine r_iload_n R 81 dX12_readAll_80 rfl rfl ?_
            obtain rfl := Option.some.inj h
            exact r_ireturn R dX12_readAll_81 rfl rfl rfl rfl
          · have h := pf_ifn hc h
            refine r_goto R 9 dX12_readAll_82 (by decide) ?_
            refine r_fg R [true, false, true, false] (show _ = [pf_R 40 0, pf_U, pf_U, pf_U] from rfl) ?_
            exact ih9 _ h
        have hj74 : ∀ (w74_1 : Int32) (M74 : pf_M), jX12_readAll_74 (lX12_readAll_9 n) w74_1 M74 = some q → K 74 [pf_R 40 0, pf_I w74_1, pf_U, pf_U] [] M74 := by
          intro w74_1 M74 h
          unfold jX12_readAll_74 at h
          refine r_iconst R 75 dX12_readAll_74 rfl ic_iconst_0 ?_
          exact hj75 _ _ _ h
        intro M9 h
        rw [lX12_readAll_9] at h
        refine r_aload_n R 10 dX12_readAll_9 rfl rfl ?_
        refine r_getfield R 13 dX12_readAll_10 rfl fl_X12_152 rfl (show _ = pf_I (M9 40 0 2) from rfl) ?_
        refine r_aload_n R 14 dX12_readAll_13 rfl rfl ?_
        refine r_getfield R 17 dX12_readAll_14 rfl fl_X12_149 rfl (show _ = pf_I (M9 40 0 0) from rfl) ?_
        refine r_icmp_ge R 20 85 dX12_readAll_17 rfl (by decide) (fun hc => ?_) (fun hc => ?_)
        · have h := pf_ifp hc h
          refine r_bipush R 87 dX12_readAll_85 rfl ic_bipush_m4 ?_
          obtain rfl := Option.some.inj h
          exact r_ireturn R dX12_readAll_87 rfl rfl rfl rfl
        · have h := pf_ifn hc h
          refine r_aload_n R 21 dX12_readAll_20 rfl rfl ?_
          refine r_getfield R 24 dX12_readAll_21 rfl fl_X12_152 rfl (show _ = pf_I (M9 40 0 2) from rfl) ?_
          refine r_istore_n R 25 dX12_readAll_24 rfl rfl (show _ = [pf_R 40 0, pf_I (M9 40 0 2), pf_U, pf_U] from rfl) ?_
          refine r_aload_n R 26 dX12_readAll_25 rfl rfl ?_
          refine r_aload_n R 27 dX12_readAll_26 rfl rfl ?_
          refine r_getfield R 30 dX12_readAll_27 rfl fl_X12_152 rfl (show _ = pf_I (M9 40 0 2) from rfl) ?_
          obtain ⟨r4, hr4, h⟩ := pf_bd h
          refine r_cvI1 R 33 dX12_readAll_30 rfl lk_X12_155 rfl (c_X12_letterAt G (M9 40 0 2) M9 _ hr4) rfl rfl rfl ?_
          refine r_istore_n R 34 dX12_readAll_33 rfl rfl (show _ = [pf_R 40 0, pf_I (M9 40 0 2), pf_I r4, pf_U] from rfl) ?_
          refine r_aload_n R 35 dX12_readAll_34 rfl rfl ?_
          refine r_dup R 36 dX12_readAll_35 rfl rfl ?_
          refine r_getfield R 39 dX12_readAll_36 rfl fl_X12_152 rfl (show _ = pf_I (M9 40 0 2) from rfl) ?_
          refine r_iconst R 40 dX12_readAll_39 rfl ic_iconst_1 ?_
          refine r_iadd R 41 dX12_readAll_40 rfl ?_
          refine r_putfield R 44 dX12_readAll_41 rfl fl_X12_152 rfl rfl rfl rfl ?_
          refine r_iload_n R 45 dX12_readAll_44 rfl rfl ?_
          refine r_bipush R 47 dX12_readAll_45 rfl ic_bipush_100 ?_
          refine r_icmp_ne R 50 57 dX12_readAll_47 rfl (by decide) (fun hc => ?_) (fun hc => ?_)
          · have h := pf_ifp hc h
            refine r_aload_n R 51 dX12_readAll_50 rfl rfl ?_
            obtain ⟨q6, hq6, h⟩ := pf_bd h
            refine r_cvI0 R 54 dX12_readAll_51 rfl lk_X12_170 rfl (c_X12_deviceItem G (pf_up M9 40 0 2 ((M9 40 0 2) + (1 : Int32))) _ hq6) rfl rfl rfl ?_
            refine r_goto R 75 dX12_readAll_54 (by decide) ?_
            refine r_fg R [true, true, false, true] (show _ = [pf_R 40 0, pf_I (M9 40 0 2), pf_U, pf_U] from rfl) ?_
            exact hj75 _ _ _ h
          · have h := pf_ifn hc h
            refine r_iload_n R 58 dX12_readAll_57 rfl rfl ?_
            refine r_bipush R 60 dX12_readAll_58 rfl ic_bipush_101 ?_
            refine r_icmp_ne R 63 74 dX12_readAll_60 rfl (by decide) (fun hc => ?_) (fun hc => ?_)
            · have h := pf_ifp hc h
              refine r_aload_n R 64 dX12_readAll_63 rfl rfl ?_
              obtain ⟨q5, hq5, h⟩ := pf_bd h
              refine r_cvI0 R 67 dX12_readAll_64 rfl lk_X12_173 rfl (c_X12_endItem G (pf_up M9 40 0 2 ((M9 40 0 2) + (1 : Int32))) _ hq5) rfl rfl rfl ?_
              refine r_if_eq R 70 74 dX12_readAll_67 rfl (by decide) (fun hc => ?_) (fun hc => ?_)
              · have h := pf_ifp hc h
                refine r_fg R [true, true, false, true] (show _ = [pf_R 40 0, pf_I (M9 40 0 2), pf_U, pf_U] from rfl) ?_
                exact hj74 _ _ h
              · have h := pf_ifn hc h
                refine r_iconst R 71 dX12_readAll_70 rfl ic_iconst_1 ?_
                refine r_goto R 75 dX12_readAll_71 (by decide) ?_
                refine r_fg R [true, true, false, true] (show _ = [pf_R 40 0, pf_I (M9 40 0 2), pf_U, pf_U] from rfl) ?_
                exact hj75 _ _ _ h
            · have h := pf_ifn hc h
              refine r_fg R [true, true, false, true] (show _ = [pf_R 40 0, pf_I (M9 40 0 2), pf_U, pf_U] from rfl) ?_
              exact hj74 _ _ h
  unfold fX12_readAll at h
  refine r_aload_n R 1 dX12_readAll_0 rfl rfl ?_
  refine r_cvV0 R 4 dX12_readAll_1 rfl lk_X12_121 rfl (c_X12_empty G M _ rfl) rfl rfl rfl ?_
  refine r_aload_n R 5 dX12_readAll_4 rfl rfl ?_
  refine r_iconst R 6 dX12_readAll_5 rfl ic_iconst_0 ?_
  refine r_putfield R 9 dX12_readAll_6 rfl fl_X12_152 rfl rfl rfl rfl ?_
  exact hl9 pf_fu _ h
def fX12_fault (M : pf_M) : Option (Int32 × pf_M) :=
  ((fX12_readAll M).bind fun q2 => some (q2.1, q2.2))
set_option maxRecDepth 4000 in
theorem c_X12_fault (G : pf_G) (M : pf_M) (q : Int32 × pf_M) (h : fX12_fault M = some q) : pf_Met G yX12_fault cX12_fault 1 (some .int) 4 96 [pf_R 40 0] M (some (pf_I q.1)) q.2 := by
  refine pf_Met.of (by decide +kernel) (Nat.le_of_ble_eq_true rfl) (fun K R => ?_)
  show K 0 [pf_R 40 0] [] M
  unfold fX12_fault at h
  refine r_aload_n R 1 dX12_fault_0 rfl rfl ?_
  obtain ⟨q2, hq2, h⟩ := pf_bd h
  refine r_cvI0 R 4 dX12_fault_1 rfl lk_X12_176 rfl (c_X12_readAll G M _ hq2) rfl rfl rfl ?_
  obtain rfl := Option.some.inj h
  exact r_ireturn R dX12_fault_4 rfl rfl rfl rfl
def lX12_takesOff_21 (x1 : Int32) (f21_2 : Int32) : Nat → Int32 → pf_M → Option (Int32 × pf_M)
  | 0, _, _ => none
  | n + 1, v21_3, M21 =>
  (if pf_in x1 16 = true then (if (M21 59 0 x1.toNatClampNeg) ≤ v21_3 then some (f21_2, M21)
  else (if pf_in ((((4 : Int32) * x1) + v21_3) + (1 : Int32)) 64 = true then (if pf_in (((4 : Int32) * x1) + v21_3) 64 = true then (lX12_takesOff_21 x1 f21_2 n) (v21_3 + (1 : Int32)) (pf_up M21 58 0 (((4 : Int32) * x1) + v21_3).toNatClampNeg (M21 58 0 ((((4 : Int32) * x1) + v21_3) + (1 : Int32)).toNatClampNeg))
  else none)
  else none))
  else none)
def fX12_takesOff (x1 : Int32) (M : pf_M) : Option (Int32 × pf_M) :=
  (if pf_in ((4 : Int32) * x1) 64 = true then (if pf_in x1 16 = true then (if pf_in x1 16 = true then lX12_takesOff_21 x1 (M 58 0 ((4 : Int32) * x1).toNatClampNeg) pf_fu (0 : Int32) (pf_up M 59 0 x1.toNatClampNeg ((M 59 0 x1.toNatClampNeg) - (1 : Int32)))
  else none)
  else none)
  else none)
set_option maxRecDepth 4000 in
theorem c_X12_takesOff (G : pf_G) (x1 : Int32) (M : pf_M) (q : Int32 × pf_M) (h : fX12_takesOff x1 M = some q) : pf_Met G yX12_takesOff cX12_takesOff 4 (some .int) 0 0 [pf_R 40 0, pf_I x1] M (some (pf_I q.1)) q.2 := by
  refine pf_Met.of (by decide +kernel) (Nat.le_of_ble_eq_true rfl) (fun K R => ?_)
  show K 0 [pf_R 40 0, pf_I x1, pf_U, pf_U] [] M
  have hl21 : ∀ (f21_2 : Int32), ∀ (n : Nat) (v21_3 : Int32) (M21 : pf_M), lX12_takesOff_21 x1 f21_2 n v21_3 M21 = some q → K 21 [pf_R 40 0, pf_I x1, pf_I f21_2, pf_I v21_3] [] M21 := by
    intro f21_2 n
    induction n with
    | zero =>
      intro v21_3 M21 h
      rw [lX12_takesOff_21] at h
      cases h
    | succ n ih21 =>
        intro v21_3 M21 h
        rw [lX12_takesOff_21] at h
        refine r_iload_n R 22 dX12_takesOff_21 rfl rfl ?_
        refine r_aload_n R 23 dX12_takesOff_22 rfl rfl ?_
        refine r_getfield R 26 dX12_takesOff_23 rfl fl_X12_64 rfl (show _ = pf_R 59 0 from rfl) ?_
        refine r_iload_n R 27 dX12_takesOff_26 rfl rfl ?_
        obtain ⟨hi7, h⟩ := pf_gd h
        refine r_iaload R 28 dX12_takesOff_27 rfl ⟨rfl, rfl⟩ (pf_in_iff.mp hi7) ?_
        refine r_icmp_ge R 31 59 dX12_takesOff_28 rfl (by decide) (fun hc => ?_) (fun hc => ?_)
        · have h := pf_ifp hc h
          refine r_iload_n R 60 dX12_takesOff_59 rfl rfl ?_
          obtain rfl := Option.some.inj h
          exact r_ireturn R dX12_takesOff_60 rfl rfl rfl rfl
        · have h := pf_ifn hc h
          refine r_aload_n R 32 dX12_takesOff_31 rfl rfl ?_
          refine r_getfield R 35 dX12_takesOff_32 rfl fl_X12_61 rfl (show _ = pf_R 58 0 from rfl) ?_
          refine r_iconst R 36 dX12_takesOff_35 rfl ic_iconst_4 ?_
          refine r_iload_n R 37 dX12_takesOff_36 rfl rfl ?_
          refine r_imul R 38 dX12_takesOff_37 rfl ?_
          refine r_iload_n R 39 dX12_takesOff_38 rfl rfl ?_
          refine r_iadd R 40 dX12_takesOff_39 rfl ?_
          refine r_aload_n R 41 dX12_takesOff_40 rfl rfl ?_
          refine r_getfield R 44 dX12_takesOff_41 rfl fl_X12_61 rfl (show _ = pf_R 58 0 from rfl) ?_
          refine r_iconst R 45 dX12_takesOff_44 rfl ic_iconst_4 ?_
          refine r_iload_n R 46 dX12_takesOff_45 rfl rfl ?_
          refine r_imul R 47 dX12_takesOff_46 rfl ?_
          refine r_iload_n R 48 dX12_takesOff_47 rfl rfl ?_
          refine r_iadd R 49 dX12_takesOff_48 rfl ?_
          refine r_iconst R 50 dX12_takesOff_49 rfl ic_iconst_1 ?_
          refine r_iadd R 51 dX12_takesOff_50 rfl ?_
          obtain ⟨hi8, h⟩ := pf_gd h
          refine r_iaload R 52 dX12_takesOff_51 rfl ⟨rfl, rfl⟩ (pf_in_iff.mp hi8) ?_
          obtain ⟨hi9, h⟩ := pf_gd h
          refine r_iastore R 53 dX12_takesOff_52 rfl ⟨rfl, rfl⟩ (pf_in_iff.mp hi9) ?_
          refine r_iinc R 56 dX12_takesOff_53 rfl rfl ic_iconst_1 (show _ = [pf_R 40 0, pf_I x1, pf_I f21_2, pf_I (v21_3 + (1 : Int32))] from rfl) ?_
          refine r_goto R 21 dX12_takesOff_56 (by decide) ?_
          exact ih21 _ _ h
  unfold fX12_takesOff at h
  refine r_aload_n R 1 dX12_takesOff_0 rfl rfl ?_
  refine r_getfield R 4 dX12_takesOff_1 rfl fl_X12_61 rfl (show _ = pf_R 58 0 from rfl) ?_
  refine r_iconst R 5 dX12_takesOff_4 rfl ic_iconst_4 ?_
  refine r_iload_n R 6 dX12_takesOff_5 rfl rfl ?_
  refine r_imul R 7 dX12_takesOff_6 rfl ?_
  obtain ⟨hi10, h⟩ := pf_gd h
  refine r_iaload R 8 dX12_takesOff_7 rfl ⟨rfl, rfl⟩ (pf_in_iff.mp hi10) ?_
  refine r_istore_n R 9 dX12_takesOff_8 rfl rfl (show _ = [pf_R 40 0, pf_I x1, pf_I (M 58 0 ((4 : Int32) * x1).toNatClampNeg), pf_U] from rfl) ?_
  refine r_aload_n R 10 dX12_takesOff_9 rfl rfl ?_
  refine r_getfield R 13 dX12_takesOff_10 rfl fl_X12_64 rfl (show _ = pf_R 59 0 from rfl) ?_
  refine r_iload_n R 14 dX12_takesOff_13 rfl rfl ?_
  refine r_dup2 R 15 dX12_takesOff_14 rfl rfl rfl ?_
  obtain ⟨hi11, h⟩ := pf_gd h
  refine r_iaload R 16 dX12_takesOff_15 rfl ⟨rfl, rfl⟩ (pf_in_iff.mp hi11) ?_
  refine r_iconst R 17 dX12_takesOff_16 rfl ic_iconst_1 ?_
  refine r_isub R 18 dX12_takesOff_17 rfl ?_
  obtain ⟨hi12, h⟩ := pf_gd h
  refine r_iastore R 19 dX12_takesOff_18 rfl ⟨rfl, rfl⟩ (pf_in_iff.mp hi12) ?_
  refine r_iconst R 20 dX12_takesOff_19 rfl ic_iconst_0 ?_
  refine r_istore_n R 21 dX12_takesOff_20 rfl rfl (show _ = [pf_R 40 0, pf_I x1, pf_I (M 58 0 ((4 : Int32) * x1).toNatClampNeg), pf_I (0 : Int32)] from rfl) ?_
  exact hl21 _ pf_fu _ _ h
def jX12_fetch_135 (w135_3 : Int32) (s135_1 : Int32) (s135_2 : Int32) (M135 : pf_M) : Option (Int32 × pf_M) :=
  (if pf_in s135_1 16 = true then some (w135_3, (pf_up M135 61 0 s135_1.toNatClampNeg s135_2))
  else none)
def jX12_fetch_84 (w84_2 : Int32) (w84_3 : Int32) (M84 : pf_M) : Option (Int32 × pf_M) :=
  ((fX12_trip M84).bind fun r15 => (if ((fX12_isLost (pf_up M84 40 0 22 ((M84 40 0 22) + r15))).1) = (0 : Int32) then (if w84_3 = (-4 : Int32) then (if pf_in w84_2 16 = true then jX12_fetch_135 w84_3 w84_2 (((fX12_isLost (pf_up M84 40 0 22 ((M84 40 0 22) + r15))).2) 61 0 w84_2.toNatClampNeg) ((fX12_isLost (pf_up M84 40 0 22 ((M84 40 0 22) + r15))).2)
  else none)
  else (if pf_in w84_2 16 = true then jX12_fetch_135 w84_3 w84_2 ((1 : Int32) - (((fX12_isLost (pf_up M84 40 0 22 ((M84 40 0 22) + r15))).2) 61 0 w84_2.toNatClampNeg)) ((fX12_isLost (pf_up M84 40 0 22 ((M84 40 0 22) + r15))).2)
  else none))
  else some ((-5 : Int32), (fX12_isLost (pf_up M84 40 0 22 ((M84 40 0 22) + r15))).2)))
def fX12_fetch (x1 : Int32) (M : pf_M) : Option (Int32 × pf_M) :=
  (if (fX12_isDevice x1 M) = (0 : Int32) then some ((-1 : Int32), M)
  else ((fX12_isTalkedTo x1 M).bind fun r18 => (if r18 = (0 : Int32) then some ((-2 : Int32), M)
  else (if pf_in x1 8 = true then (if pf_in ((2 : Int32) * x1) 16 = true then (if pf_in ((2 : Int32) * x1) 16 = true then (if (M 61 0 ((2 : Int32) * x1).toNatClampNeg) = (M 60 0 ((2 : Int32) * x1).toNatClampNeg) then jX12_fetch_84 ((2 : Int32) * x1) (M 62 0 x1.toNatClampNeg) M
  else (if pf_in ((2 : Int32) * x1) 16 = true then (if (M 59 0 ((2 : Int32) * x1).toNatClampNeg) ≤ (0 : Int32) then jX12_fetch_84 ((2 : Int32) * x1) (-4 : Int32) M
  else ((fX12_takesOff ((2 : Int32) * x1) M).bind fun q23 => (if pf_in x1 8 = true then (if pf_in ((2 : Int32) * x1) 16 = true then (if pf_in ((2 : Int32) * x1) 16 = true then jX12_fetch_84 ((2 : Int32) * x1) q23.1 (pf_up (pf_up q23.2 62 0 x1.toNatClampNeg q23.1) 60 0 ((2 : Int32) * x1).toNatClampNeg ((pf_up q23.2 62 0 x1.toNatClampNeg q23.1) 61 0 ((2 : Int32) * x1).toNatClampNeg))
  else none)
  else none)
  else none)))
  else none))
  else none)
  else none)
  else none))))
set_option maxRecDepth 4000 in
theorem c_X12_fetch (G : pf_G) (x1 : Int32) (M : pf_M) (q : Int32 × pf_M) (h : fX12_fetch x1 M = some q) : pf_Met G yX12_fetch cX12_fetch 4 (some .int) 3 63 [pf_R 40 0, pf_I x1] M (some (pf_I q.1)) q.2 := by
  refine pf_Met.of (by decide +kernel) (Nat.le_of_ble_eq_true rfl) (fun K R => ?_)
  show K 0 [pf_R 40 0, pf_I x1, pf_U, pf_U] [] M
  have hj135 : ∀ (w135_3 : Int32) (s135_1 : Int32) (s135_2 : Int32) (M135 : pf_M), jX12_fetch_135 w135_3 s135_1 s135_2 M135 = some q → K 135 [pf_U, pf_U, pf_U, pf_I w135_3] [pf_I s135_2, pf_I s135_1, pf_R 61 0] M135 := by
    intro w135_3 s135_1 s135_2 M135 h
    unfold jX12_fetch_135 at h
    obtain ⟨hi14, h⟩ := pf_gd h
    refine r_iastore R 136 dX12_fetch_135 rfl ⟨rfl, rfl⟩ (pf_in_iff.mp hi14) ?_
    refine r_iload_n R 137 dX12_fetch_136 rfl rfl ?_
    obtain rfl := Option.some.inj h
    exact r_ireturn R dX12_fetch_137 rfl rfl rfl rfl
  have hj84 : ∀ (w84_2 : Int32) (w84_3 : Int32) (M84 : pf_M), jX12_fetch_84 w84_2 w84_3 M84 = some q → K 84 [pf_R 40 0, pf_U, pf_I w84_2, pf_I w84_3] [] M84 := by
    intro w84_2 w84_3 M84 h
    unfold jX12_fetch_84 at h
    refine r_aload_n R 85 dX12_fetch_84 rfl rfl ?_
    refine r_dup R 86 dX12_fetch_85 rfl rfl ?_
    refine r_getfield R 89 dX12_fetch_86 rfl fl_X12_193 rfl (show _ = pf_I (M84 40 0 22) from rfl) ?_
    refine r_aload_n R 90 dX12_fetch_89 rfl rfl ?_
    obtain ⟨r15, hr15, h⟩ := pf_bd h
    refine r_cvI0 R 93 dX12_fetch_90 rfl lk_X12_304 rfl (c_X12_trip G M84 _ hr15) rfl rfl rfl ?_
    refine r_iadd R 94 dX12_fetch_93 rfl ?_
    refine r_putfield R 97 dX12_fetch_94 rfl fl_X12_193 rfl rfl rfl rfl ?_
    refine r_aload_n R 98 dX12_fetch_97 rfl rfl ?_
    refine r_cvI0 R 101 dX12_fetch_98 rfl lk_X12_307 rfl (c_X12_isLost G (pf_up M84 40 0 22 ((M84 40 0 22) + r15)) _ rfl) rfl rfl rfl ?_
    refine r_if_eq R 104 107 dX12_fetch_101 rfl (by decide) (fun hc => ?_) (fun hc => ?_)
    · have h := pf_ifp hc h
      refine r_aload_n R 108 dX12_fetch_107 rfl rfl ?_
      refine r_getfield R 111 dX12_fetch_108 rfl fl_X12_70 rfl (show _ = pf_R 61 0 from rfl) ?_
      refine r_iload_n R 112 dX12_fetch_111 rfl rfl ?_
      refine r_iload_n R 113 dX12_fetch_112 rfl rfl ?_
      refine r_bipush R 115 dX12_fetch_113 rfl ic_bipush_m4 ?_
      refine r_icmp_ne R 118 127 dX12_fetch_115 rfl (by decide) (fun hc => ?_) (fun hc => ?_)
      · have h := pf_ifp hc h
        refine r_aload_n R 119 dX12_fetch_118 rfl rfl ?_
        refine r_getfield R 122 dX12_fetch_119 rfl fl_X12_70 rfl (show _ = pf_R 61 0 from rfl) ?_
        refine r_iload_n R 123 dX12_fetch_122 rfl rfl ?_
        obtain ⟨hi17, h⟩ := pf_gd h
        refine r_iaload R 124 dX12_fetch_123 rfl ⟨rfl, rfl⟩ (pf_in_iff.mp hi17) ?_
        refine r_goto R 135 dX12_fetch_124 (by decide) ?_
        refine r_fg R [false, true, false, true] (show _ = [pf_U, pf_U, pf_U, pf_I w84_3] from rfl) ?_
        exact hj135 _ _ _ _ h
      · have h := pf_ifn hc h
        refine r_iconst R 128 dX12_fetch_127 rfl ic_iconst_1 ?_
        refine r_aload_n R 129 dX12_fetch_128 rfl rfl ?_
        refine r_getfield R 132 dX12_fetch_129 rfl fl_X12_70 rfl (show _ = pf_R 61 0 from rfl) ?_
        refine r_iload_n R 133 dX12_fetch_132 rfl rfl ?_
        obtain ⟨hi16, h⟩ := pf_gd h
        refine r_iaload R 134 dX12_fetch_133 rfl ⟨rfl, rfl⟩ (pf_in_iff.mp hi16) ?_
        refine r_isub R 135 dX12_fetch_134 rfl ?_
        refine r_fg R [false, true, false, true] (show _ = [pf_U, pf_U, pf_U, pf_I w84_3] from rfl) ?_
        exact hj135 _ _ _ _ h
    · have h := pf_ifn hc h
      refine r_bipush R 106 dX12_fetch_104 rfl ic_bipush_m5 ?_
      obtain rfl := Option.some.inj h
      exact r_ireturn R dX12_fetch_106 rfl rfl rfl rfl
  unfold fX12_fetch at h
  refine r_aload_n R 1 dX12_fetch_0 rfl rfl ?_
  refine r_iload_n R 2 dX12_fetch_1 rfl rfl ?_
  refine r_cvI1 R 5 dX12_fetch_2 rfl lk_X12_236 rfl (c_X12_isDevice G x1 M _ rfl) rfl rfl rfl ?_
  refine r_if_ne R 8 10 dX12_fetch_5 rfl (by decide) (fun hc => ?_) (fun hc => ?_)
  · have h := pf_ifp hc h
    refine r_iconst R 9 dX12_fetch_8 rfl ic_iconst_m1 ?_
    obtain rfl := Option.some.inj h
    exact r_ireturn R dX12_fetch_9 rfl rfl rfl rfl
  · have h := pf_ifn hc h
    refine r_aload_n R 11 dX12_fetch_10 rfl rfl ?_
    refine r_iload_n R 12 dX12_fetch_11 rfl rfl ?_
    obtain ⟨r18, hr18, h⟩ := pf_bd h
    refine r_cvI1 R 15 dX12_fetch_12 rfl lk_X12_321 rfl (c_X12_isTalkedTo G x1 M _ hr18) rfl rfl rfl ?_
    refine r_if_ne R 18 21 dX12_fetch_15 rfl (by decide) (fun hc => ?_) (fun hc => ?_)
    · have h := pf_ifp hc h
      refine r_bipush R 20 dX12_fetch_18 rfl ic_bipush_m2 ?_
      obtain rfl := Option.some.inj h
      exact r_ireturn R dX12_fetch_20 rfl rfl rfl rfl
    · have h := pf_ifn hc h
      refine r_iconst R 22 dX12_fetch_21 rfl ic_iconst_2 ?_
      refine r_iload_n R 23 dX12_fetch_22 rfl rfl ?_
      refine r_imul R 24 dX12_fetch_23 rfl ?_
      refine r_istore_n R 25 dX12_fetch_24 rfl rfl (show _ = [pf_R 40 0, pf_I x1, pf_I ((2 : Int32) * x1), pf_U] from rfl) ?_
      refine r_aload_n R 26 dX12_fetch_25 rfl rfl ?_
      refine r_getfield R 29 dX12_fetch_26 rfl fl_X12_73 rfl (show _ = pf_R 62 0 from rfl) ?_
      refine r_iload_n R 30 dX12_fetch_29 rfl rfl ?_
      obtain ⟨hi19, h⟩ := pf_gd h
      refine r_iaload R 31 dX12_fetch_30 rfl ⟨rfl, rfl⟩ (pf_in_iff.mp hi19) ?_
      refine r_istore_n R 32 dX12_fetch_31 rfl rfl (show _ = [pf_R 40 0, pf_I x1, pf_I ((2 : Int32) * x1), pf_I (M 62 0 x1.toNatClampNeg)] from rfl) ?_
      refine r_aload_n R 33 dX12_fetch_32 rfl rfl ?_
      refine r_getfield R 36 dX12_fetch_33 rfl fl_X12_70 rfl (show _ = pf_R 61 0 from rfl) ?_
      refine r_iload_n R 37 dX12_fetch_36 rfl rfl ?_
      obtain ⟨hi20, h⟩ := pf_gd h
      refine r_iaload R 38 dX12_fetch_37 rfl ⟨rfl, rfl⟩ (pf_in_iff.mp hi20) ?_
      refine r_aload_n R 39 dX12_fetch_38 rfl rfl ?_
      refine r_getfield R 42 dX12_fetch_39 rfl fl_X12_67 rfl (show _ = pf_R 60 0 from rfl) ?_
      refine r_iload_n R 43 dX12_fetch_42 rfl rfl ?_
      obtain ⟨hi21, h⟩ := pf_gd h
      refine r_iaload R 44 dX12_fetch_43 rfl ⟨rfl, rfl⟩ (pf_in_iff.mp hi21) ?_
      refine r_icmp_eq R 47 84 dX12_fetch_44 rfl (by decide) (fun hc => ?_) (fun hc => ?_)
      · have h := pf_ifp hc h
        refine r_fg R [true, false, true, true] (show _ = [pf_R 40 0, pf_U, pf_I ((2 : Int32) * x1), pf_I (M 62 0 x1.toNatClampNeg)] from rfl) ?_
        exact hj84 _ _ _ h
      · have h := pf_ifn hc h
        refine r_bipush R 49 dX12_fetch_47 rfl ic_bipush_m4 ?_
        refine r_istore_n R 50 dX12_fetch_49 rfl rfl (show _ = [pf_R 40 0, pf_I x1, pf_I ((2 : Int32) * x1), pf_I (-4 : Int32)] from rfl) ?_
        refine r_aload_n R 51 dX12_fetch_50 rfl rfl ?_
        refine r_getfield R 54 dX12_fetch_51 rfl fl_X12_64 rfl (show _ = pf_R 59 0 from rfl) ?_
        refine r_iload_n R 55 dX12_fetch_54 rfl rfl ?_
        obtain ⟨hi22, h⟩ := pf_gd h
        refine r_iaload R 56 dX12_fetch_55 rfl ⟨rfl, rfl⟩ (pf_in_iff.mp hi22) ?_
        refine r_if_le R 59 84 dX12_fetch_56 rfl (by decide) (fun hc => ?_) (fun hc => ?_)
        · have h := pf_ifp hc h
          refine r_fg R [true, false, true, true] (show _ = [pf_R 40 0, pf_U, pf_I ((2 : Int32) * x1), pf_I (-4 : Int32)] from rfl) ?_
          exact hj84 _ _ _ h
        · have h := pf_ifn hc h
          refine r_aload_n R 60 dX12_fetch_59 rfl rfl ?_
          refine r_iload_n R 61 dX12_fetch_60 rfl rfl ?_
          obtain ⟨q23, hq23, h⟩ := pf_bd h
          refine r_cvI1 R 64 dX12_fetch_61 rfl lk_X12_318 rfl (c_X12_takesOff G ((2 : Int32) * x1) M _ hq23) rfl rfl rfl ?_
          refine r_istore_n R 65 dX12_fetch_64 rfl rfl (show _ = [pf_R 40 0, pf_I x1, pf_I ((2 : Int32) * x1), pf_I q23.1] from rfl) ?_
          refine r_aload_n R 66 dX12_fetch_65 rfl rfl ?_
          refine r_getfield R 69 dX12_fetch_66 rfl fl_X12_73 rfl (show _ = pf_R 62 0 from rfl) ?_
          refine r_iload_n R 70 dX12_fetch_69 rfl rfl ?_
          refine r_iload_n R 71 dX12_fetch_70 rfl rfl ?_
          obtain ⟨hi24, h⟩ := pf_gd h
          refine r_iastore R 72 dX12_fetch_71 rfl ⟨rfl, rfl⟩ (pf_in_iff.mp hi24) ?_
          refine r_aload_n R 73 dX12_fetch_72 rfl rfl ?_
          refine r_getfield R 76 dX12_fetch_73 rfl fl_X12_67 rfl (show _ = pf_R 60 0 from rfl) ?_
          refine r_iload_n R 77 dX12_fetch_76 rfl rfl ?_
          refine r_aload_n R 78 dX12_fetch_77 rfl rfl ?_
          refine r_getfield R 81 dX12_fetch_78 rfl fl_X12_70 rfl (show _ = pf_R 61 0 from rfl) ?_
          refine r_iload_n R 82 dX12_fetch_81 rfl rfl ?_
          obtain ⟨hi25, h⟩ := pf_gd h
          refine r_iaload R 83 dX12_fetch_82 rfl ⟨rfl, rfl⟩ (pf_in_iff.mp hi25) ?_
          obtain ⟨hi26, h⟩ := pf_gd h
          refine r_iastore R 84 dX12_fetch_83 rfl ⟨rfl, rfl⟩ (pf_in_iff.mp hi26) ?_
          refine r_fg R [true, false, true, true] (show _ = [pf_R 40 0, pf_U, pf_I ((2 : Int32) * x1), pf_I q23.1] from rfl) ?_
          exact hj84 _ _ _ h
def lX12_goesOut_33 (x1 : Int32) : Nat → Int32 → pf_M → Option (pf_M)
  | 0, _, _ => none
  | n + 1, v33_2, M33 =>
  (if (4 : Int32) ≤ v33_2 then some M33
  else (if pf_in (((4 : Int32) * x1) + v33_2) 8 = true then (lX12_goesOut_33 x1 n) (v33_2 + (1 : Int32)) (pf_up M33 70 0 (((4 : Int32) * x1) + v33_2).toNatClampNeg (0 : Int32))
  else none))
def lX12_goesOut_2 (x1 : Int32) (kx2 : pf_M → Option (pf_M)) : Nat → Int32 → pf_M → Option (pf_M)
  | 0, _, _ => none
  | n + 1, v2_2, M2 =>
  (if (32 : Int32) ≤ v2_2 then kx2 M2
  else (if pf_in v2_2 32 = true then (if pf_in (((32 : Int32) * x1) + v2_2) 64 = true then (lX12_goesOut_2 x1 kx2 n) (v2_2 + (1 : Int32)) (pf_up M2 69 0 (((32 : Int32) * x1) + v2_2).toNatClampNeg (M2 68 0 v2_2.toNatClampNeg))
  else none)
  else none))
def fX12_goesOut (x1 : Int32) (M : pf_M) : Option (pf_M) :=
  lX12_goesOut_2 x1 (fun u6_Me2 => lX12_goesOut_33 x1 pf_fu (0 : Int32) u6_Me2) pf_fu (0 : Int32) M
set_option maxRecDepth 4000 in
theorem c_X12_goesOut (G : pf_G) (x1 : Int32) (M : pf_M) (q : pf_M) (h : fX12_goesOut x1 M = some q) : pf_Met G yX12_goesOut cX12_goesOut 3 (none) 0 0 [pf_R 40 0, pf_I x1] M none q := by
  refine pf_Met.of (by decide +kernel) (Nat.le_of_ble_eq_true rfl) (fun K R => ?_)
  show K 0 [pf_R 40 0, pf_I x1, pf_U] [] M
  have hl33 : ∀ (n : Nat) (v33_2 : Int32) (M33 : pf_M), lX12_goesOut_33 x1 n v33_2 M33 = some q → K 33 [pf_R 40 0, pf_I x1, pf_I v33_2] [] M33 := by
    intro n
    induction n with
    | zero =>
      intro v33_2 M33 h
      rw [lX12_goesOut_33] at h
      cases h
    | succ n ih33 =>
        intro v33_2 M33 h
        rw [lX12_goesOut_33] at h
        refine r_iload_n R 34 dX12_goesOut_33 rfl rfl ?_
        refine r_iconst R 35 dX12_goesOut_34 rfl ic_iconst_4 ?_
        refine r_icmp_ge R 38 55 dX12_goesOut_35 rfl (by decide) (fun hc => ?_) (fun hc => ?_)
        · have h := pf_ifp hc h
          obtain rfl := Option.some.inj h
          exact r_return_ R dX12_goesOut_55 rfl rfl rfl
        · have h := pf_ifn hc h
          refine r_aload_n R 39 dX12_goesOut_38 rfl rfl ?_
          refine r_getfield R 42 dX12_goesOut_39 rfl fl_X12_97 rfl (show _ = pf_R 70 0 from rfl) ?_
          refine r_iconst R 43 dX12_goesOut_42 rfl ic_iconst_4 ?_
          refine r_iload_n R 44 dX12_goesOut_43 rfl rfl ?_
          refine r_imul R 45 dX12_goesOut_44 rfl ?_
          refine r_iload_n R 46 dX12_goesOut_45 rfl rfl ?_
          refine r_iadd R 47 dX12_goesOut_46 rfl ?_
          refine r_iconst R 48 dX12_goesOut_47 rfl ic_iconst_0 ?_
          obtain ⟨hi3, h⟩ := pf_gd h
          refine r_iastore R 49 dX12_goesOut_48 rfl ⟨rfl, rfl⟩ (pf_in_iff.mp hi3) ?_
          refine r_iinc R 52 dX12_goesOut_49 rfl rfl ic_iconst_1 (show _ = [pf_R 40 0, pf_I x1, pf_I (v33_2 + (1 : Int32))] from rfl) ?_
          refine r_goto R 33 dX12_goesOut_52 (by decide) ?_
          exact ih33 _ _ h
  have hl2 : ∀ (kx2 : pf_M → Option (pf_M)), (∀ (Me2 : pf_M), kx2 Me2 = some q → K 31 [pf_R 40 0, pf_I x1, pf_U] [] Me2) → ∀ (n : Nat) (v2_2 : Int32) (M2 : pf_M), lX12_goesOut_2 x1 kx2 n v2_2 M2 = some q → K 2 [pf_R 40 0, pf_I x1, pf_I v2_2] [] M2 := by
    intro kx2 hkx2 n
    induction n with
    | zero =>
      intro v2_2 M2 h
      rw [lX12_goesOut_2] at h
      cases h
    | succ n ih2 =>
        intro v2_2 M2 h
        rw [lX12_goesOut_2] at h
        refine r_iload_n R 3 dX12_goesOut_2 rfl rfl ?_
        refine r_bipush R 5 dX12_goesOut_3 rfl ic_bipush_32 ?_
        refine r_icmp_ge R 8 31 dX12_goesOut_5 rfl (by decide) (fun hc => ?_) (fun hc => ?_)
        · have h := pf_ifp hc h
          refine r_fg R [true, true, false] (show _ = [pf_R 40 0, pf_I x1, pf_U] from rfl) ?_
          exact hkx2 _ h
        · have h := pf_ifn hc h
          refine r_aload_n R 9 dX12_goesOut_8 rfl rfl ?_
          refine r_getfield R 12 dX12_goesOut_9 rfl fl_X12_94 rfl (show _ = pf_R 69 0 from rfl) ?_
          refine r_bipush R 14 dX12_goesOut_12 rfl ic_bipush_32 ?_
          refine r_iload_n R 15 dX12_goesOut_14 rfl rfl ?_
          refine r_imul R 16 dX12_goesOut_15 rfl ?_
          refine r_iload_n R 17 dX12_goesOut_16 rfl rfl ?_
          refine r_iadd R 18 dX12_goesOut_17 rfl ?_
          refine r_aload_n R 19 dX12_goesOut_18 rfl rfl ?_
          refine r_getfield R 22 dX12_goesOut_19 rfl fl_X12_91 rfl (show _ = pf_R 68 0 from rfl) ?_
          refine r_iload_n R 23 dX12_goesOut_22 rfl rfl ?_
          obtain ⟨hi4, h⟩ := pf_gd h
          refine r_iaload R 24 dX12_goesOut_23 rfl ⟨rfl, rfl⟩ (pf_in_iff.mp hi4) ?_
          obtain ⟨hi5, h⟩ := pf_gd h
          refine r_iastore R 25 dX12_goesOut_24 rfl ⟨rfl, rfl⟩ (pf_in_iff.mp hi5) ?_
          refine r_iinc R 28 dX12_goesOut_25 rfl rfl ic_iconst_1 (show _ = [pf_R 40 0, pf_I x1, pf_I (v2_2 + (1 : Int32))] from rfl) ?_
          refine r_goto R 2 dX12_goesOut_28 (by decide) ?_
          exact ih2 _ _ h
  unfold fX12_goesOut at h
  refine r_iconst R 1 dX12_goesOut_0 rfl ic_iconst_0 ?_
  refine r_istore_n R 2 dX12_goesOut_1 rfl rfl (show _ = [pf_R 40 0, pf_I x1, pf_I (0 : Int32)] from rfl) ?_
  refine hl2 _ (fun u6_Me2 h => ?_) pf_fu _ _ h
  refine r_iconst R 32 dX12_goesOut_31 rfl ic_iconst_0 ?_
  refine r_istore_n R 33 dX12_goesOut_32 rfl rfl (show _ = [pf_R 40 0, pf_I x1, pf_I (0 : Int32)] from rfl) ?_
  exact hl33 pf_fu _ _ h
def fX12_whenBy (x1 : Int32) (M : pf_M) : Option (Int32) :=
  ((fX12_sideA M).bind fun r6 => (if r6 ≤ x1 then ((fX12_firstB M).bind fun r7 => ((fX12_wires (r7 + (1 : Int32)) (M 40 0 10) M).bind fun r8 => ((fX12_wires (r7 + (1 : Int32)) x1 M).bind fun r9 => some (((((M 40 0 22) + r8) + ((((M 40 0 10) - r7) - (1 : Int32)) * (M 40 0 16))) + r9) + ((x1 - r7) * (M 40 0 15))))))
  else ((fX12_wires (0 : Int32) x1 M).bind fun r10 => some (((M 40 0 22) + r10) + (x1 * (M 40 0 15))))))
set_option maxRecDepth 4000 in
theorem c_X12_whenBy (G : pf_G) (x1 : Int32) (M : pf_M) (q : Int32) (h : fX12_whenBy x1 M = some q) : pf_Met G yX12_whenBy cX12_whenBy 3 (some .int) 1 24 [pf_R 40 0, pf_I x1] M (some (pf_I q)) M := by
  refine pf_Met.of (by decide +kernel) (Nat.le_of_ble_eq_true rfl) (fun K R => ?_)
  show K 0 [pf_R 40 0, pf_I x1, pf_U] [] M
  unfold fX12_whenBy at h
  refine r_iload_n R 1 dX12_whenBy_0 rfl rfl ?_
  refine r_aload_n R 2 dX12_whenBy_1 rfl rfl ?_
  obtain ⟨r6, hr6, h⟩ := pf_bd h
  refine r_cvI0 R 5 dX12_whenBy_2 rfl lk_X12_209 rfl (c_X12_sideA G M _ hr6) rfl rfl rfl ?_
  refine r_icmp_ge R 8 27 dX12_whenBy_5 rfl (by decide) (fun hc => ?_) (fun hc => ?_)
  · have h := pf_ifp hc h
    refine r_aload_n R 28 dX12_whenBy_27 rfl rfl ?_
    obtain ⟨r7, hr7, h⟩ := pf_bd h
    refine r_cvI0 R 31 dX12_whenBy_28 rfl lk_X12_212 rfl (c_X12_firstB G M _ hr7) rfl rfl rfl ?_
    refine r_istore_n R 32 dX12_whenBy_31 rfl rfl (show _ = [pf_R 40 0, pf_I x1, pf_I r7] from rfl) ?_
    refine r_aload_n R 33 dX12_whenBy_32 rfl rfl ?_
    refine r_getfield R 36 dX12_whenBy_33 rfl fl_X12_193 rfl (show _ = pf_I (M 40 0 22) from rfl) ?_
    refine r_aload_n R 37 dX12_whenBy_36 rfl rfl ?_
    refine r_iload_n R 38 dX12_whenBy_37 rfl rfl ?_
    refine r_iconst R 39 dX12_whenBy_38 rfl ic_iconst_1 ?_
    refine r_iadd R 40 dX12_whenBy_39 rfl ?_
    refine r_aload_n R 41 dX12_whenBy_40 rfl rfl ?_
    refine r_getfield R 44 dX12_whenBy_41 rfl fl_X12_180 rfl (show _ = pf_I (M 40 0 10) from rfl) ?_
    obtain ⟨r8, hr8, h⟩ := pf_bd h
    refine r_cvI2 R 47 dX12_whenBy_44 rfl lk_X12_215 rfl (c_X12_wires G (r7 + (1 : Int32)) (M 40 0 10) M _ hr8) rfl rfl rfl ?_
    refine r_iadd R 48 dX12_whenBy_47 rfl ?_
    refine r_aload_n R 49 dX12_whenBy_48 rfl rfl ?_
    refine r_getfield R 52 dX12_whenBy_49 rfl fl_X12_180 rfl (show _ = pf_I (M 40 0 10) from rfl) ?_
    refine r_iload_n R 53 dX12_whenBy_52 rfl rfl ?_
    refine r_isub R 54 dX12_whenBy_53 rfl ?_
    refine r_iconst R 55 dX12_whenBy_54 rfl ic_iconst_1 ?_
    refine r_isub R 56 dX12_whenBy_55 rfl ?_
    refine r_aload_n R 57 dX12_whenBy_56 rfl rfl ?_
    refine r_getfield R 60 dX12_whenBy_57 rfl fl_X12_186 rfl (show _ = pf_I (M 40 0 16) from rfl) ?_
    refine r_imul R 61 dX12_whenBy_60 rfl ?_
    refine r_iadd R 62 dX12_whenBy_61 rfl ?_
    refine r_aload_n R 63 dX12_whenBy_62 rfl rfl ?_
    refine r_iload_n R 64 dX12_whenBy_63 rfl rfl ?_
    refine r_iconst R 65 dX12_whenBy_64 rfl ic_iconst_1 ?_
    refine r_iadd R 66 dX12_whenBy_65 rfl ?_
    refine r_iload_n R 67 dX12_whenBy_66 rfl rfl ?_
    obtain ⟨r9, hr9, h⟩ := pf_bd h
    refine r_cvI2 R 70 dX12_whenBy_67 rfl lk_X12_215 rfl (c_X12_wires G (r7 + (1 : Int32)) x1 M _ hr9) rfl rfl rfl ?_
    refine r_iadd R 71 dX12_whenBy_70 rfl ?_
    refine r_iload_n R 72 dX12_whenBy_71 rfl rfl ?_
    refine r_iload_n R 73 dX12_whenBy_72 rfl rfl ?_
    refine r_isub R 74 dX12_whenBy_73 rfl ?_
    refine r_aload_n R 75 dX12_whenBy_74 rfl rfl ?_
    refine r_getfield R 78 dX12_whenBy_75 rfl fl_X12_183 rfl (show _ = pf_I (M 40 0 15) from rfl) ?_
    refine r_imul R 79 dX12_whenBy_78 rfl ?_
    refine r_iadd R 80 dX12_whenBy_79 rfl ?_
    obtain rfl := Option.some.inj h
    exact r_ireturn R dX12_whenBy_80 rfl rfl rfl rfl
  · have h := pf_ifn hc h
    refine r_aload_n R 9 dX12_whenBy_8 rfl rfl ?_
    refine r_getfield R 12 dX12_whenBy_9 rfl fl_X12_193 rfl (show _ = pf_I (M 40 0 22) from rfl) ?_
    refine r_aload_n R 13 dX12_whenBy_12 rfl rfl ?_
    refine r_iconst R 14 dX12_whenBy_13 rfl ic_iconst_0 ?_
    refine r_iload_n R 15 dX12_whenBy_14 rfl rfl ?_
    obtain ⟨r10, hr10, h⟩ := pf_bd h
    refine r_cvI2 R 18 dX12_whenBy_15 rfl lk_X12_215 rfl (c_X12_wires G (0 : Int32) x1 M _ hr10) rfl rfl rfl ?_
    refine r_iadd R 19 dX12_whenBy_18 rfl ?_
    refine r_iload_n R 20 dX12_whenBy_19 rfl rfl ?_
    refine r_aload_n R 21 dX12_whenBy_20 rfl rfl ?_
    refine r_getfield R 24 dX12_whenBy_21 rfl fl_X12_183 rfl (show _ = pf_I (M 40 0 15) from rfl) ?_
    refine r_imul R 25 dX12_whenBy_24 rfl ?_
    refine r_iadd R 26 dX12_whenBy_25 rfl ?_
    obtain rfl := Option.some.inj h
    exact r_ireturn R dX12_whenBy_26 rfl rfl rfl rfl
def jX12_goes_58 (rec12 : Int32 → pf_M → Option (pf_M)) (w58_1 : Int32) (M58 : pf_M) : Option (pf_M) :=
  rec12 (w58_1 + (1 : Int32)) M58
def jX12_goes_50 (rec12 : Int32 → pf_M → Option (pf_M)) (w50_1 : Int32) (s50_1 : Int32) (s50_2 : Int32) (s50_3 : Int32) (M50 : pf_M) : Option (pf_M) :=
  ((fX12_whenBy w50_1 M50).bind fun r7 => ((fX12_edit s50_1 s50_2 s50_3 r7 M50).bind fun q8 => jX12_goes_58 rec12 w50_1 q8))
def lX12_goes_12  : Nat → Int32 → pf_M → Option (pf_M)
  | 0, _, _ => none
  | n + 1, v12_1, M12 =>
  (if (M12 40 0 10) ≤ v12_1 then some M12
  else ((fX12_sideOf v12_1 M12).bind fun r9 => (if r9 ≤ (0 : Int32) then jX12_goes_58 (lX12_goes_12 n) v12_1 M12
  else (if r9 = (1 : Int32) then jX12_goes_50 (lX12_goes_12 n) v12_1 (r9 - (1 : Int32)) v12_1 v12_1 M12
  else ((fX12_firstB M12).bind fun r10 => jX12_goes_50 (lX12_goes_12 n) v12_1 (r9 - (1 : Int32)) v12_1 (v12_1 - r10) M12)))))
def fX12_goes (M : pf_M) : Option (pf_M) :=
  ((fX12_goesOut (0 : Int32) M).bind fun q11 => ((fX12_goesOut (1 : Int32) q11).bind fun q12 => lX12_goes_12 pf_fu (0 : Int32) q12))
set_option maxRecDepth 4000 in
theorem c_X12_goes (G : pf_G) (M : pf_M) (q : pf_M) (h : fX12_goes M = some q) : pf_Met G yX12_goes cX12_goes 3 (none) 5 133 [pf_R 40 0] M none q := by
  refine pf_Met.of (by decide +kernel) (Nat.le_of_ble_eq_true rfl) (fun K R => ?_)
  show K 0 [pf_R 40 0, pf_U, pf_U] [] M
  have hl12 : ∀ (n : Nat) (v12_1 : Int32) (M12 : pf_M), lX12_goes_12 n v12_1 M12 = some q → K 12 [pf_R 40 0, pf_I v12_1, pf_U] [] M12 := by
    intro n
    induction n with
    | zero =>
      intro v12_1 M12 h
      rw [lX12_goes_12] at h
      cases h
    | succ n ih12 =>
        have hj58 : ∀ (w58_1 : Int32) (M58 : pf_M), jX12_goes_58 (lX12_goes_12 n) w58_1 M58 = some q → K 58 [pf_R 40 0, pf_I w58_1, pf_U] [] M58 := by
          intro w58_1 M58 h
          unfold jX12_goes_58 at h
          refine r_iinc R 61 dX12_goes_58 rfl rfl ic_iconst_1 (show _ = [pf_R 40 0, pf_I (w58_1 + (1 : Int32)), pf_U] from rfl) ?_
          refine r_goto R 12 dX12_goes_61 (by decide) ?_
          exact ih12 _ _ h
        have hj50 : ∀ (w50_1 : Int32) (s50_1 : Int32) (s50_2 : Int32) (s50_3 : Int32) (M50 : pf_M), jX12_goes_50 (lX12_goes_12 n) w50_1 s50_1 s50_2 s50_3 M50 = some q → K 50 [pf_R 40 0, pf_I w50_1, pf_U] [pf_I s50_3, pf_I s50_2, pf_I s50_1, pf_R 40 0] M50 := by
          intro w50_1 s50_1 s50_2 s50_3 M50 h
          unfold jX12_goes_50 at h
          refine r_aload_n R 51 dX12_goes_50 rfl rfl ?_
          refine r_iload_n R 52 dX12_goes_51 rfl rfl ?_
          obtain ⟨r7, hr7, h⟩ := pf_bd h
          refine r_cvI1 R 55 dX12_goes_52 rfl lk_X12_292 rfl (c_X12_whenBy G w50_1 M50 _ hr7) rfl rfl rfl ?_
          obtain ⟨q8, hq8, h⟩ := pf_bd h
          refine r_cvV4 R 58 dX12_goes_55 rfl lk_X12_295 rfl (c_X12_edit G s50_1 s50_2 s50_3 r7 M50 _ hq8) rfl rfl rfl ?_
          exact hj58 _ _ h
        intro v12_1 M12 h
        rw [lX12_goes_12] at h
        refine r_iload_n R 13 dX12_goes_12 rfl rfl ?_
        refine r_aload_n R 14 dX12_goes_13 rfl rfl ?_
        refine r_getfield R 17 dX12_goes_14 rfl fl_X12_180 rfl (show _ = pf_I (M12 40 0 10) from rfl) ?_
        refine r_icmp_ge R 20 64 dX12_goes_17 rfl (by decide) (fun hc => ?_) (fun hc => ?_)
        · have h := pf_ifp hc h
          obtain rfl := Option.some.inj h
          exact r_return_ R dX12_goes_64 rfl rfl rfl
        · have h := pf_ifn hc h
          refine r_aload_n R 21 dX12_goes_20 rfl rfl ?_
          refine r_iload_n R 22 dX12_goes_21 rfl rfl ?_
          obtain ⟨r9, hr9, h⟩ := pf_bd h
          refine r_cvI1 R 25 dX12_goes_22 rfl lk_X12_242 rfl (c_X12_sideOf G v12_1 M12 _ hr9) rfl rfl rfl ?_
          refine r_istore_n R 26 dX12_goes_25 rfl rfl (show _ = [pf_R 40 0, pf_I v12_1, pf_I r9] from rfl) ?_
          refine r_iload_n R 27 dX12_goes_26 rfl rfl ?_
          refine r_if_le R 30 58 dX12_goes_27 rfl (by decide) (fun hc => ?_) (fun hc => ?_)
          · have h := pf_ifp hc h
            refine r_fg R [true, true, false] (show _ = [pf_R 40 0, pf_I v12_1, pf_U] from rfl) ?_
            exact hj58 _ _ h
          · have h := pf_ifn hc h
            refine r_aload_n R 31 dX12_goes_30 rfl rfl ?_
            refine r_iload_n R 32 dX12_goes_31 rfl rfl ?_
            refine r_iconst R 33 dX12_goes_32 rfl ic_iconst_1 ?_
            refine r_isub R 34 dX12_goes_33 rfl ?_
            refine r_iload_n R 35 dX12_goes_34 rfl rfl ?_
            refine r_iload_n R 36 dX12_goes_35 rfl rfl ?_
            refine r_iconst R 37 dX12_goes_36 rfl ic_iconst_1 ?_
            refine r_icmp_ne R 40 44 dX12_goes_37 rfl (by decide) (fun hc => ?_) (fun hc => ?_)
            · have h := pf_ifp hc h
              refine r_iload_n R 41 dX12_goes_40 rfl rfl ?_
              refine r_goto R 50 dX12_goes_41 (by decide) ?_
              refine r_fg R [true, true, false] (show _ = [pf_R 40 0, pf_I v12_1, pf_U] from rfl) ?_
              exact hj50 _ _ _ _ _ h
            · have h := pf_ifn hc h
              refine r_iload_n R 45 dX12_goes_44 rfl rfl ?_
              refine r_aload_n R 46 dX12_goes_45 rfl rfl ?_
              obtain ⟨r10, hr10, h⟩ := pf_bd h
              refine r_cvI0 R 49 dX12_goes_46 rfl lk_X12_212 rfl (c_X12_firstB G M12 _ hr10) rfl rfl rfl ?_
              refine r_isub R 50 dX12_goes_49 rfl ?_
              refine r_fg R [true, true, false] (show _ = [pf_R 40 0, pf_I v12_1, pf_U] from rfl) ?_
              exact hj50 _ _ _ _ _ h
  unfold fX12_goes at h
  refine r_aload_n R 1 dX12_goes_0 rfl rfl ?_
  refine r_iconst R 2 dX12_goes_1 rfl ic_iconst_0 ?_
  obtain ⟨q11, hq11, h⟩ := pf_bd h
  refine r_cvV1 R 5 dX12_goes_2 rfl lk_X12_289 rfl (c_X12_goesOut G (0 : Int32) M _ hq11) rfl rfl rfl ?_
  refine r_aload_n R 6 dX12_goes_5 rfl rfl ?_
  refine r_iconst R 7 dX12_goes_6 rfl ic_iconst_1 ?_
  obtain ⟨q12, hq12, h⟩ := pf_bd h
  refine r_cvV1 R 10 dX12_goes_7 rfl lk_X12_289 rfl (c_X12_goesOut G (1 : Int32) q11 _ hq12) rfl rfl rfl ?_
  refine r_iconst R 11 dX12_goes_10 rfl ic_iconst_0 ?_
  refine r_istore_n R 12 dX12_goes_11 rfl rfl (show _ = [pf_R 40 0, pf_I (0 : Int32), pf_U] from rfl) ?_
  exact hl12 pf_fu _ _ h
def fX12_gone (x1 : Int32) (M : pf_M) : Option (Int64) :=
  (if pf_in x1 8 = true then ((fX12_ownAt x1 (M 77 0 x1.toNatClampNeg) M).bind fun r6 => (if pf_in x1 8 = true then ((fX12_ownAt x1 (M 76 0 x1.toNatClampNeg) M).bind fun r8 => some (r6 - r8))
  else none))
  else none)
set_option maxRecDepth 4000 in
theorem c_X12_gone (G : pf_G) (x1 : Int32) (M : pf_M) (q : Int64) (h : fX12_gone x1 M = some q) : pf_Met G yX12_gone cX12_gone 2 (some .long) 1 26 [pf_R 40 0, pf_I x1] M (some (pf_L q)) M := by
  refine pf_Met.of (by decide +kernel) (Nat.le_of_ble_eq_true rfl) (fun K R => ?_)
  show K 0 [pf_R 40 0, pf_I x1] [] M
  unfold fX12_gone at h
  refine r_aload_n R 1 dX12_gone_0 rfl rfl ?_
  refine r_iload_n R 2 dX12_gone_1 rfl rfl ?_
  refine r_aload_n R 3 dX12_gone_2 rfl rfl ?_
  refine r_getfield R 6 dX12_gone_3 rfl fl_X12_118 rfl (show _ = pf_R 77 0 from rfl) ?_
  refine r_iload_n R 7 dX12_gone_6 rfl rfl ?_
  obtain ⟨hi5, h⟩ := pf_gd h
  refine r_iaload R 8 dX12_gone_7 rfl ⟨rfl, rfl⟩ (pf_in_iff.mp hi5) ?_
  obtain ⟨r6, hr6, h⟩ := pf_bd h
  refine r_cvL2 R 11 dX12_gone_8 rfl lk_X12_227 rfl (c_X12_ownAt G x1 (M 77 0 x1.toNatClampNeg) M _ hr6) rfl rfl rfl ?_
  refine r_aload_n R 12 dX12_gone_11 rfl rfl ?_
  refine r_iload_n R 13 dX12_gone_12 rfl rfl ?_
  refine r_aload_n R 14 dX12_gone_13 rfl rfl ?_
  refine r_getfield R 17 dX12_gone_14 rfl fl_X12_115 rfl (show _ = pf_R 76 0 from rfl) ?_
  refine r_iload_n R 18 dX12_gone_17 rfl rfl ?_
  obtain ⟨hi7, h⟩ := pf_gd h
  refine r_iaload R 19 dX12_gone_18 rfl ⟨rfl, rfl⟩ (pf_in_iff.mp hi7) ?_
  obtain ⟨r8, hr8, h⟩ := pf_bd h
  refine r_cvL2 R 22 dX12_gone_19 rfl lk_X12_227 rfl (c_X12_ownAt G x1 (M 76 0 x1.toNatClampNeg) M _ hr8) rfl rfl rfl ?_
  refine r_lsub R 23 dX12_gone_22 rfl ?_
  obtain rfl := Option.some.inj h
  exact r_lreturn R dX12_gone_23 rfl rfl rfl
def fX12_isGram (x1 : Int32) (x2 : Int32) (x3 : Int32) (x4 : Int32) : Int32 :=
  (if (fX12_in x4.toInt64 (1 : Int64) (8 : Int64)) = (0 : Int32) then (0 : Int32)
  else (if (fX12_in x1.toInt64 (10 : Int64) (12 : Int64)) = (0 : Int32) then (if (fX12_in x1.toInt64 (1 : Int64) (9 : Int64)) = (0 : Int32) then (0 : Int32)
  else (if (fX12_in x3.toInt64 (0 : Int64) (15 : Int64)) = (0 : Int32) then (0 : Int32)
  else (if (4 : Int32) ≤ x1 then (if (7 : Int32) ≤ x1 then (if x2 = (0 : Int32) then (1 : Int32)
  else (0 : Int32))
  else fX12_in x2.toInt64 (1 : Int64) (99 : Int64))
  else fX12_in x2.toInt64 (0 : Int64) (7 : Int64))))
  else (if x3 = (0 : Int32) then (if (fX12_in x2.toInt64 (0 : Int64) (((32 : Int32) - x4).toInt64)) = (0 : Int32) then (0 : Int32)
  else (1 : Int32))
  else (0 : Int32))))
set_option maxRecDepth 4000 in
theorem c_X12_isGram (G : pf_G) (x1 : Int32) (x2 : Int32) (x3 : Int32) (x4 : Int32) {M : pf_M} (q : Int32) (h : fX12_isGram x1 x2 x3 x4 = q) : pf_Met G yX12_isGram cX12_isGram 5 (some .boolean) 1 25 [pf_R 40 0, pf_I x1, pf_I x2, pf_I x3, pf_I x4] M (some (pf_I q)) M := by
  refine pf_Met.of (by decide +kernel) (Nat.le_of_ble_eq_true rfl) (fun K R => ?_)
  show K 0 [pf_R 40 0, pf_I x1, pf_I x2, pf_I x3, pf_I x4] [] M
  unfold fX12_isGram at h
  refine r_iload R 2 dX12_isGram_0 rfl rfl ?_
  refine r_i2l R 3 dX12_isGram_2 rfl ?_
  refine r_lconst R 4 dX12_isGram_3 rfl lc_1 ?_
  refine r_ldc2_w R 7 dX12_isGram_4 rfl kc_X12_262 ?_
  refine r_csI3 R 10 dX12_isGram_7 rfl lk_X12_145 (c_X12_in G x4.toInt64 (1 : Int64) (8 : Int64) _ rfl) rfl rfl rfl ?_
  refine r_if_ne R 13 15 dX12_isGram_10 rfl (by decide) (fun hc => ?_) (fun hc => ?_)
  · have h := pf_ifp hc h
    refine r_iconst R 14 dX12_isGram_13 rfl ic_iconst_0 ?_
    subst h
    exact r_ireturn R dX12_isGram_14 rfl rfl rfl rfl
  · have h := pf_ifn hc h
    refine r_iload_n R 16 dX12_isGram_15 rfl rfl ?_
    refine r_i2l R 17 dX12_isGram_16 rfl ?_
    refine r_ldc2_w R 20 dX12_isGram_17 rfl kc_X12_266 ?_
    refine r_ldc2_w R 23 dX12_isGram_20 rfl kc_X12_268 ?_
    refine r_csI3 R 26 dX12_isGram_23 rfl lk_X12_145 (c_X12_in G x1.toInt64 (10 : Int64) (12 : Int64) _ rfl) rfl rfl rfl ?_
    refine r_if_eq R 29 54 dX12_isGram_26 rfl (by decide) (fun hc => ?_) (fun hc => ?_)
    · have h := pf_ifp hc h
      refine r_iload_n R 55 dX12_isGram_54 rfl rfl ?_
      refine r_i2l R 56 dX12_isGram_55 rfl ?_
      refine r_lconst R 57 dX12_isGram_56 rfl lc_1 ?_
      refine r_ldc2_w R 60 dX12_isGram_57 rfl kc_X12_258 ?_
      refine r_csI3 R 63 dX12_isGram_60 rfl lk_X12_145 (c_X12_in G x1.toInt64 (1 : Int64) (9 : Int64) _ rfl) rfl rfl rfl ?_
      refine r_if_eq R 66 78 dX12_isGram_63 rfl (by decide) (fun hc => ?_) (fun hc => ?_)
      · have h := pf_ifp hc h
        refine r_iconst R 79 dX12_isGram_78 rfl ic_iconst_0 ?_
        subst h
        exact r_ireturn R dX12_isGram_79 rfl rfl rfl rfl
      · have h := pf_ifn hc h
        refine r_iload_n R 67 dX12_isGram_66 rfl rfl ?_
        refine r_i2l R 68 dX12_isGram_67 rfl ?_
        refine r_lconst R 69 dX12_isGram_68 rfl lc_0 ?_
        refine r_ldc2_w R 72 dX12_isGram_69 rfl kc_X12_245 ?_
        refine r_csI3 R 75 dX12_isGram_72 rfl lk_X12_145 (c_X12_in G x3.toInt64 (0 : Int64) (15 : Int64) _ rfl) rfl rfl rfl ?_
        refine r_if_ne R 78 80 dX12_isGram_75 rfl (by decide) (fun hc => ?_) (fun hc => ?_)
        · have h := pf_ifp hc h
          refine r_iconst R 79 dX12_isGram_78 rfl ic_iconst_0 ?_
          subst h
          exact r_ireturn R dX12_isGram_79 rfl rfl rfl rfl
        · have h := pf_ifn hc h
          refine r_iload_n R 81 dX12_isGram_80 rfl rfl ?_
          refine r_iconst R 82 dX12_isGram_81 rfl ic_iconst_4 ?_
          refine r_icmp_ge R 85 97 dX12_isGram_82 rfl (by decide) (fun hc => ?_) (fun hc => ?_)
          · have h := pf_ifp hc h
            refine r_iload_n R 98 dX12_isGram_97 rfl rfl ?_
            refine r_bipush R 100 dX12_isGram_98 rfl ic_bipush_7 ?_
            refine r_icmp_ge R 103 115 dX12_isGram_100 rfl (by decide) (fun hc => ?_) (fun hc => ?_)
            · have h := pf_ifp hc h
              refine r_iload_n R 116 dX12_isGram_115 rfl rfl ?_
              refine r_if_ne R 119 123 dX12_isGram_116 rfl (by decide) (fun hc => ?_) (fun hc => ?_)
              · have h := pf_ifp hc h
                refine r_iconst R 120 dX12_isGram_119 rfl ic_iconst_1 ?_
                refine r_goto R 124 dX12_isGram_120 (by decide) ?_
                subst h
                exact r_ireturn R dX12_isGram_124 rfl rfl rfl rfl
              · have h := pf_ifn hc h
                refine r_iconst R 124 dX12_isGram_123 rfl ic_iconst_0 ?_
                subst h
                exact r_ireturn R dX12_isGram_124 rfl rfl rfl rfl
            · have h := pf_ifn hc h
              refine r_iload_n R 104 dX12_isGram_103 rfl rfl ?_
              refine r_i2l R 105 dX12_isGram_104 rfl ?_
              refine r_lconst R 106 dX12_isGram_105 rfl lc_1 ?_
              refine r_ldc2_w R 109 dX12_isGram_106 rfl kc_X12_272 ?_
              refine r_csI3 R 112 dX12_isGram_109 rfl lk_X12_145 (c_X12_in G x2.toInt64 (1 : Int64) (99 : Int64) _ rfl) rfl rfl rfl ?_
              refine r_goto R 124 dX12_isGram_112 (by decide) ?_
              subst h
              exact r_ireturn R dX12_isGram_124 rfl (pf_bool (fb_X12_in _ _ _)) rfl rfl
          · have h := pf_ifn hc h
            refine r_iload_n R 86 dX12_isGram_85 rfl rfl ?_
            refine r_i2l R 87 dX12_isGram_86 rfl ?_
            refine r_lconst R 88 dX12_isGram_87 rfl lc_0 ?_
            refine r_ldc2_w R 91 dX12_isGram_88 rfl kc_X12_270 ?_
            refine r_csI3 R 94 dX12_isGram_91 rfl lk_X12_145 (c_X12_in G x2.toInt64 (0 : Int64) (7 : Int64) _ rfl) rfl rfl rfl ?_
            refine r_goto R 124 dX12_isGram_94 (by decide) ?_
            subst h
            exact r_ireturn R dX12_isGram_124 rfl (pf_bool (fb_X12_in _ _ _)) rfl rfl
    · have h := pf_ifn hc h
      refine r_iload_n R 30 dX12_isGram_29 rfl rfl ?_
      refine r_if_ne R 33 52 dX12_isGram_30 rfl (by decide) (fun hc => ?_) (fun hc => ?_)
      · have h := pf_ifp hc h
        refine r_iload_n R 34 dX12_isGram_33 rfl rfl ?_
        refine r_i2l R 35 dX12_isGram_34 rfl ?_
        refine r_lconst R 36 dX12_isGram_35 rfl lc_0 ?_
        refine r_bipush R 38 dX12_isGram_36 rfl ic_bipush_32 ?_
        refine r_iload R 40 dX12_isGram_38 rfl rfl ?_
        refine r_isub R 41 dX12_isGram_40 rfl ?_
        refine r_i2l R 42 dX12_isGram_41 rfl ?_
        refine r_csI3 R 45 dX12_isGram_42 rfl lk_X12_145 (c_X12_in G x2.toInt64 (0 : Int64) (((32 : Int32) - x4).toInt64) _ rfl) rfl rfl rfl ?_
        refine r_if_eq R 48 52 dX12_isGram_45 rfl (by decide) (fun hc => ?_) (fun hc => ?_)
        · have h := pf_ifp hc h
          refine r_iconst R 53 dX12_isGram_52 rfl ic_iconst_0 ?_
          subst h
          exact r_ireturn R dX12_isGram_53 rfl rfl rfl rfl
        · have h := pf_ifn hc h
          refine r_iconst R 49 dX12_isGram_48 rfl ic_iconst_1 ?_
          refine r_goto R 53 dX12_isGram_49 (by decide) ?_
          subst h
          exact r_ireturn R dX12_isGram_53 rfl rfl rfl rfl
      · have h := pf_ifn hc h
        refine r_iconst R 53 dX12_isGram_52 rfl ic_iconst_0 ?_
        subst h
        exact r_ireturn R dX12_isGram_53 rfl rfl rfl rfl
theorem fb_X12_isGram (x1 : Int32) (x2 : Int32) (x3 : Int32) (x4 : Int32) : fX12_isGram x1 x2 x3 x4 = 0 ∨ fX12_isGram x1 x2 x3 x4 = 1 := by
  unfold fX12_isGram
  repeat' split
  all_goals first | exact Or.inl rfl | exact Or.inr rfl | exact fb_X12_in _ _ _ | exact fb_X12_in _ _ _ | exact fb_X12_in _ _ _ | exact fb_X12_in _ _ _ | exact fb_X12_in _ _ _ | exact fb_X12_in _ _ _ | exact fb_X12_in _ _ _
def fX12_gram (x1 : Int32) (x2 : Int32) (x3 : Int32) (x4 : Int32) (x5 : Int32) (M : pf_M) : Option (Int32 × pf_M) :=
  (if (fX12_in x1.toInt64 (0 : Int64) (3 : Int64)) = (0 : Int32) then some ((-1 : Int32), M)
  else (if (fX12_isGram x2 x3 x4 x5) = (0 : Int32) then some ((-1 : Int32), M)
  else (if pf_in x1 4 = true then (if pf_in x1 4 = true then (if pf_in x1 4 = true then (if pf_in x1 4 = true then (if pf_in x1 4 = true then some (M 64 0 x1.toNatClampNeg, (pf_up (pf_up (pf_up (pf_up M 64 0 x1.toNatClampNeg x2) 65 0 x1.toNatClampNeg x3) 66 0 x1.toNatClampNeg x4) 67 0 x1.toNatClampNeg x5))
  else none)
  else none)
  else none)
  else none)
  else none)))
set_option maxRecDepth 4000 in
theorem c_X12_gram (G : pf_G) (x1 : Int32) (x2 : Int32) (x3 : Int32) (x4 : Int32) (x5 : Int32) (M : pf_M) (q : Int32 × pf_M) (h : fX12_gram x1 x2 x3 x4 x5 M = some q) : pf_Met G yX12_gram cX12_gram 7 (some .int) 2 49 [pf_R 40 0, pf_I x1, pf_I x2, pf_I x3, pf_I x4, pf_I x5] M (some (pf_I q.1)) q.2 := by
  refine pf_Met.of (by decide +kernel) (Nat.le_of_ble_eq_true rfl) (fun K R => ?_)
  show K 0 [pf_R 40 0, pf_I x1, pf_I x2, pf_I x3, pf_I x4, pf_I x5, pf_U] [] M
  unfold fX12_gram at h
  refine r_iload_n R 1 dX12_gram_0 rfl rfl ?_
  refine r_i2l R 2 dX12_gram_1 rfl ?_
  refine r_lconst R 3 dX12_gram_2 rfl lc_0 ?_
  refine r_ldc2_w R 6 dX12_gram_3 rfl kc_X12_260 ?_
  refine r_csI3 R 9 dX12_gram_6 rfl lk_X12_145 (c_X12_in G x1.toInt64 (0 : Int64) (3 : Int64) _ rfl) rfl rfl rfl ?_
  refine r_if_eq R 12 25 dX12_gram_9 rfl (by decide) (fun hc => ?_) (fun hc => ?_)
  · have h := pf_ifp hc h
    refine r_iconst R 26 dX12_gram_25 rfl ic_iconst_m1 ?_
    obtain rfl := Option.some.inj h
    exact r_ireturn R dX12_gram_26 rfl rfl rfl rfl
  · have h := pf_ifn hc h
    refine r_aload_n R 13 dX12_gram_12 rfl rfl ?_
    refine r_iload_n R 14 dX12_gram_13 rfl rfl ?_
    refine r_iload_n R 15 dX12_gram_14 rfl rfl ?_
    refine r_iload R 17 dX12_gram_15 rfl rfl ?_
    refine r_iload R 19 dX12_gram_17 rfl rfl ?_
    refine r_cvI4 R 22 dX12_gram_19 rfl lk_X12_274 rfl (c_X12_isGram G x2 x3 x4 x5 _ rfl) rfl rfl rfl ?_
    refine r_if_ne R 25 27 dX12_gram_22 rfl (by decide) (fun hc => ?_) (fun hc => ?_)
    · have h := pf_ifp hc h
      refine r_iconst R 26 dX12_gram_25 rfl ic_iconst_m1 ?_
      obtain rfl := Option.some.inj h
      exact r_ireturn R dX12_gram_26 rfl rfl rfl rfl
    · have h := pf_ifn hc h
      refine r_aload_n R 28 dX12_gram_27 rfl rfl ?_
      refine r_getfield R 31 dX12_gram_28 rfl fl_X12_79 rfl (show _ = pf_R 64 0 from rfl) ?_
      refine r_iload_n R 32 dX12_gram_31 rfl rfl ?_
      obtain ⟨hi6, h⟩ := pf_gd h
      refine r_iaload R 33 dX12_gram_32 rfl ⟨rfl, rfl⟩ (pf_in_iff.mp hi6) ?_
      refine r_istore R 35 dX12_gram_33 rfl rfl (show _ = [pf_R 40 0, pf_I x1, pf_I x2, pf_I x3, pf_I x4, pf_I x5, pf_I (M 64 0 x1.toNatClampNeg)] from rfl) ?_
      refine r_aload_n R 36 dX12_gram_35 rfl rfl ?_
      refine r_getfield R 39 dX12_gram_36 rfl fl_X12_79 rfl (show _ = pf_R 64 0 from rfl) ?_
      refine r_iload_n R 40 dX12_gram_39 rfl rfl ?_
      refine r_iload_n R 41 dX12_gram_40 rfl rfl ?_
      obtain ⟨hi7, h⟩ := pf_gd h
      refine r_iastore R 42 dX12_gram_41 rfl ⟨rfl, rfl⟩ (pf_in_iff.mp hi7) ?_
      refine r_aload_n R 43 dX12_gram_42 rfl rfl ?_
      refine r_getfield R 46 dX12_gram_43 rfl fl_X12_82 rfl (show _ = pf_R 65 0 from rfl) ?_
      refine r_iload_n R 47 dX12_gram_46 rfl rfl ?_
      refine r_iload_n R 48 dX12_gram_47 rfl rfl ?_
      obtain ⟨hi8, h⟩ := pf_gd h
      refine r_iastore R 49 dX12_gram_48 rfl ⟨rfl, rfl⟩ (pf_in_iff.mp hi8) ?_
      refine r_aload_n R 50 dX12_gram_49 rfl rfl ?_
      refine r_getfield R 53 dX12_gram_50 rfl fl_X12_85 rfl (show _ = pf_R 66 0 from rfl) ?_
      refine r_iload_n R 54 dX12_gram_53 rfl rfl ?_
      refine r_iload R 56 dX12_gram_54 rfl rfl ?_
      obtain ⟨hi9, h⟩ := pf_gd h
      refine r_iastore R 57 dX12_gram_56 rfl ⟨rfl, rfl⟩ (pf_in_iff.mp hi9) ?_
      refine r_aload_n R 58 dX12_gram_57 rfl rfl ?_
      refine r_getfield R 61 dX12_gram_58 rfl fl_X12_88 rfl (show _ = pf_R 67 0 from rfl) ?_
      refine r_iload_n R 62 dX12_gram_61 rfl rfl ?_
      refine r_iload R 64 dX12_gram_62 rfl rfl ?_
      obtain ⟨hi10, h⟩ := pf_gd h
      refine r_iastore R 65 dX12_gram_64 rfl ⟨rfl, rfl⟩ (pf_in_iff.mp hi10) ?_
      refine r_iload R 67 dX12_gram_65 rfl rfl ?_
      obtain rfl := Option.some.inj h
      exact r_ireturn R dX12_gram_67 rfl rfl rfl rfl
