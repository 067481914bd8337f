def fX12_later (x1 : Int32) (M : pf_M) : Int32 × pf_M :=
  (if (fX12_in x1.toInt64 (1 : Int64) (9999 : Int64)) = (0 : Int32) then ((-1 : Int32), M)
  else ((pf_up M 40 0 22 ((M 40 0 22) + x1)) 40 0 22, (pf_up M 40 0 22 ((M 40 0 22) + x1))))
set_option maxRecDepth 4000 in
theorem c_X12_later (G : pf_G) (x1 : Int32) (M : pf_M) (q : Int32 × pf_M) (h : fX12_later x1 M = q) : pf_Met G yX12_later cX12_later 2 (some .int) 1 25 [pf_R 40 0, pf_I x1] M (some (pf_I q.1)) q.2 := by
  refine pf_Met.of (by decide +kernel) (Nat.le_of_ble_eq_true rfl) (fun K R => ?_)
  show K 0 [pf_R 40 0, pf_I x1] [] M
  unfold fX12_later at h
  refine r_iload_n R 1 dX12_later_0 rfl rfl ?_
  refine r_i2l R 2 dX12_later_1 rfl ?_
  refine r_lconst R 3 dX12_later_2 rfl lc_1 ?_
  refine r_ldc2_w R 6 dX12_later_3 rfl kc_X12_327 ?_
  refine r_csI3 R 9 dX12_later_6 rfl lk_X12_145 (c_X12_in G x1.toInt64 (1 : Int64) (9999 : Int64) _ rfl) rfl rfl rfl ?_
  refine r_if_ne R 12 14 dX12_later_9 rfl (by decide) (fun hc => ?_) (fun hc => ?_)
  · have h := pf_ifp hc h
    refine r_iconst R 13 dX12_later_12 rfl ic_iconst_m1 ?_
    subst h
    exact r_ireturn R dX12_later_13 rfl rfl rfl rfl
  · have h := pf_ifn hc h
    refine r_aload_n R 15 dX12_later_14 rfl rfl ?_
    refine r_dup R 16 dX12_later_15 rfl rfl ?_
    refine r_getfield R 19 dX12_later_16 rfl fl_X12_193 rfl (show _ = pf_I (M 40 0 22) from rfl) ?_
    refine r_iload_n R 20 dX12_later_19 rfl rfl ?_
    refine r_iadd R 21 dX12_later_20 rfl ?_
    refine r_putfield R 24 dX12_later_21 rfl fl_X12_193 rfl rfl rfl rfl ?_
    refine r_aload_n R 25 dX12_later_24 rfl rfl ?_
    refine r_getfield R 28 dX12_later_25 rfl fl_X12_193 rfl (show _ = pf_I ((pf_up M 40 0 22 ((M 40 0 22) + x1)) 40 0 22) from rfl) ?_
    subst h
    exact r_ireturn R dX12_later_28 rfl rfl rfl rfl
def fX12_lay (M : pf_M) : Option (Int32 × pf_M) :=
  ((fX12_readAll M).bind fun q3 => (if q3.1 = (-4 : Int32) then (if (q3.2 40 0 3) = (0 : Int32) then some ((-2 : Int32), q3.2)
  else ((fX12_begin q3.2).bind fun q4 => some (q4 40 0 10, q4)))
  else some ((-2 : Int32), q3.2)))
set_option maxRecDepth 4000 in
theorem c_X12_lay (G : pf_G) (M : pf_M) (q : Int32 × pf_M) (h : fX12_lay M = some q) : pf_Met G yX12_lay cX12_lay 1 (some .int) 4 96 [pf_R 40 0] M (some (pf_I q.1)) q.2 := by
  refine pf_Met.of (by decide +kernel) (Nat.le_of_ble_eq_true rfl) (fun K R => ?_)
  show K 0 [pf_R 40 0] [] M
  unfold fX12_lay at h
  refine r_aload_n R 1 dX12_lay_0 rfl rfl ?_
  obtain ⟨q3, hq3, h⟩ := pf_bd h
  refine r_cvI0 R 4 dX12_lay_1 rfl lk_X12_176 rfl (c_X12_readAll G M _ hq3) rfl rfl rfl ?_
  refine r_bipush R 6 dX12_lay_4 rfl ic_bipush_m4 ?_
  refine r_icmp_ne R 9 16 dX12_lay_6 rfl (by decide) (fun hc => ?_) (fun hc => ?_)
  · have h := pf_ifp hc h
    refine r_aload_n R 10 dX12_lay_9 rfl rfl ?_
    refine r_getfield R 13 dX12_lay_10 rfl fl_X12_138 rfl (show _ = pf_I (q3.2 40 0 3) from rfl) ?_
    refine r_if_ne R 16 19 dX12_lay_13 rfl (by decide) (fun hc => ?_) (fun hc => ?_)
    · have h := pf_ifp hc h
      refine r_bipush R 18 dX12_lay_16 rfl ic_bipush_m2 ?_
      obtain rfl := Option.some.inj h
      exact r_ireturn R dX12_lay_18 rfl rfl rfl rfl
    · have h := pf_ifn hc h
      refine r_aload_n R 20 dX12_lay_19 rfl rfl ?_
      obtain ⟨q4, hq4, h⟩ := pf_bd h
      refine r_cvV0 R 23 dX12_lay_20 rfl lk_X12_135 rfl (c_X12_begin G q3.2 _ hq4) rfl rfl rfl ?_
      refine r_aload_n R 24 dX12_lay_23 rfl rfl ?_
      refine r_getfield R 27 dX12_lay_24 rfl fl_X12_180 rfl (show _ = pf_I (q4 40 0 10) from rfl) ?_
      obtain rfl := Option.some.inj h
      exact r_ireturn R dX12_lay_27 rfl rfl rfl rfl
  · have h := pf_ifn hc h
    refine r_bipush R 18 dX12_lay_16 rfl ic_bipush_m2 ?_
    obtain rfl := Option.some.inj h
    exact r_ireturn R dX12_lay_18 rfl rfl rfl rfl
def jX12_level_284 (w284_1 : Int32) (s284_1 : Int32) (s284_2 : Int32) (M284 : pf_M) : Option (Int32 × pf_M) :=
  (if pf_in (w284_1 - (1 : Int32)) 8 = true then some ((pf_up M284 40 0 22 ((s284_1 + s284_2) + (M284 47 0 (0 : Int32).toNatClampNeg))) 54 0 (w284_1 - (1 : Int32)).toNatClampNeg, (pf_up M284 40 0 22 ((s284_1 + s284_2) + (M284 47 0 (0 : Int32).toNatClampNeg))))
  else none)
def lX12_level_220 (f220_1 : Int32) (f220_2 : Int64) (kx220 : pf_M → Option (Int32 × pf_M)) : Nat → Int32 → pf_M → Option (Int32 × pf_M)
  | 0, _, _ => none
  | n + 1, v220_4, M220 =>
  (if f220_1 ≤ v220_4 then kx220 M220
  else (if pf_in v220_4 8 = true then (if pf_in v220_4 8 = true then ((fX12_ownAt v220_4 (M220 76 0 v220_4.toNatClampNeg) M220).bind fun r16 => (if pf_in v220_4 8 = true then (lX12_level_220 f220_1 f220_2 kx220 n) (v220_4 + (1 : Int32)) (pf_up M220 53 0 v220_4.toNatClampNeg (((f220_2 + ((M220 54 0 v220_4.toNatClampNeg).toInt64)) - r16).toInt32))
  else none))
  else none)
  else none))
def jX12_level_197 (rec121 : Int32 → pf_M → Option (Int32 × pf_M)) (w197_2 : Int32) (s197_1 : Int32) (s197_2 : Int32) (s197_3 : Int32) (M197 : pf_M) : Option (Int32 × pf_M) :=
  (if pf_in s197_1 8 = true then rec121 (w197_2 + (1 : Int32)) (pf_up M197 54 0 s197_1.toNatClampNeg (s197_2 + s197_3))
  else none)
def jX12_level_160 (rec121 : Int32 → pf_M → Option (Int32 × pf_M)) (w160_2 : Int32) (s160_0 : Int64) (s160_1 : Int32) (M160 : pf_M) : Option (Int32 × pf_M) :=
  (if pf_in (w160_2 - (1 : Int32)) 8 = true then (if (0 : Int32) ≤ (lg_cmp (s160_0 - s160_1.toInt64) (0 : Int64)) then jX12_level_197 rec121 w160_2 w160_2 ((M160 54 0 (w160_2 - (1 : Int32)).toNatClampNeg) + (M160 40 0 15)) (((s160_0 - s160_1.toInt64) / (2 : Int64)).toInt32) M160
  else jX12_level_197 rec121 w160_2 w160_2 ((M160 54 0 (w160_2 - (1 : Int32)).toNatClampNeg) + (M160 40 0 15)) (0 : Int32) M160)
  else none)
def lX12_level_121 (f121_1 : Int32) (kx121 : pf_M → Option (Int32 × pf_M)) : Nat → Int32 → pf_M → Option (Int32 × pf_M)
  | 0, _, _ => none
  | n + 1, v121_2, M121 =>
  (if f121_1 ≤ v121_2 then kx121 M121
  else ((fX12_gone (v121_2 - (1 : Int32)) M121).bind fun r20 => ((fX12_gone v121_2 M121).bind fun r21 => (if v121_2 = (f121_1 - (1 : Int32)) then jX12_level_160 (lX12_level_121 f121_1 kx121 n) v121_2 ((r20 - r21) - ((M121 40 0 15).toInt64)) (0 : Int32) M121
  else jX12_level_160 (lX12_level_121 f121_1 kx121 n) v121_2 ((r20 - r21) - ((M121 40 0 15).toInt64)) (M121 40 0 16) M121))))
def jX12_level_105 (rec40 : Int32 → pf_M → Option (Int32 × pf_M)) (w105_2 : Int32) (s105_1 : Int32) (s105_2 : Int32) (M105 : pf_M) : Option (Int32 × pf_M) :=
  (if pf_in s105_1 8 = true then rec40 (w105_2 + (-1 : Int32)) (pf_up M105 77 0 s105_1.toNatClampNeg s105_2)
  else none)
def jX12_level_95 (rec40 : Int32 → pf_M → Option (Int32 × pf_M)) (w95_2 : Int32) (s95_1 : Int32) (s95_2 : Int32) (s95_3 : Int32) (M95 : pf_M) : Option (Int32 × pf_M) :=
  (if pf_in (w95_2 + (1 : Int32)) 9 = true then jX12_level_105 rec40 w95_2 s95_1 ((s95_2 + s95_3) + (M95 47 0 (w95_2 + (1 : Int32)).toNatClampNeg)) M95
  else none)
def lX12_level_40 (f40_1 : Int32) (kx40 : pf_M → Option (Int32 × pf_M)) : Nat → Int32 → pf_M → Option (Int32 × pf_M)
  | 0, _, _ => none
  | n + 1, v40_2, M40 =>
  (if v40_2 < (0 : Int32) then kx40 M40
  else (if v40_2 = (f40_1 - (1 : Int32)) then (if pf_in v40_2 8 = true then jX12_level_105 (lX12_level_40 f40_1 kx40 n) v40_2 v40_2 ((M40 76 0 v40_2.toNatClampNeg) + (M40 40 0 15)) M40
  else none)
  else (if pf_in (v40_2 + (1 : Int32)) 8 = true then (if (v40_2 + (1 : Int32)) = (f40_1 - (1 : Int32)) then jX12_level_95 (lX12_level_40 f40_1 kx40 n) v40_2 v40_2 (M40 77 0 (v40_2 + (1 : Int32)).toNatClampNeg) (0 : Int32) M40
  else jX12_level_95 (lX12_level_40 f40_1 kx40 n) v40_2 v40_2 (M40 77 0 (v40_2 + (1 : Int32)).toNatClampNeg) (M40 40 0 16) M40)
  else none)))
def lX12_level_14 (f14_1 : Int32) (kx14 : pf_M → Option (Int32 × pf_M)) : Nat → Int32 → pf_M → Option (Int32 × pf_M)
  | 0, _, _ => none
  | n + 1, v14_2, M14 =>
  (if f14_1 ≤ v14_2 then kx14 M14
  else ((fX12_whenBy v14_2 M14).bind fun r26 => (if pf_in v14_2 8 = true then (lX12_level_14 f14_1 kx14 n) (v14_2 + (1 : Int32)) (pf_up M14 76 0 v14_2.toNatClampNeg r26)
  else none)))
def fX12_level (M : pf_M) : Option (Int32 × pf_M) :=
  ((fX12_sideA M).bind fun r28 => (if r28 = (0 : Int32) then some ((-2 : Int32), M)
  else lX12_level_14 r28 (fun u29_Me14 => lX12_level_40 r28 (fun u30_Me40 => lX12_level_121 r28 (fun u31_Me121 => ((fX12_ownAt (0 : Int32) (u31_Me121 76 0 (0 : Int32).toNatClampNeg) u31_Me121).bind fun r32 => lX12_level_220 r28 r32 (fun u33_Me220 => (if r28 = (1 : Int32) then jX12_level_284 r28 (u33_Me220 77 0 (0 : Int32).toNatClampNeg) (0 : Int32) u33_Me220
  else jX12_level_284 r28 (u33_Me220 77 0 (0 : Int32).toNatClampNeg) (u33_Me220 40 0 16) u33_Me220)) pf_fu (0 : Int32) u31_Me121)) pf_fu (1 : Int32) (pf_up u30_Me40 54 0 (0 : Int32).toNatClampNeg (0 : Int32))) pf_fu (r28 - (1 : Int32)) u29_Me14) pf_fu (0 : Int32) M))
set_option maxRecDepth 4000 in
theorem c_X12_level (G : pf_G) (M : pf_M) (q : Int32 × pf_M) (h : fX12_level M = some q) : pf_Met G yX12_level cX12_level 5 (some .int) 2 47 [pf_R 40 0] M (some (pf_I q.1)) q.2 := by
  refine pf_Met.of (by decide +kernel) (Nat.le_of_ble_eq_true rfl) (fun K R => ?_)
  show K 0 [pf_R 40 0, pf_U, pf_U, pf_U, pf_U] [] M
  have hj284 : ∀ (w284_1 : Int32) (s284_1 : Int32) (s284_2 : Int32) (M284 : pf_M), jX12_level_284 w284_1 s284_1 s284_2 M284 = some q → K 284 [pf_R 40 0, pf_I w284_1, pf_U, pf_U, pf_U] [pf_I s284_2, pf_I s284_1, pf_R 40 0] M284 := by
    intro w284_1 s284_1 s284_2 M284 h
    unfold jX12_level_284 at h
    refine r_iadd R 285 dX12_level_284 rfl ?_
    refine r_aload_n R 286 dX12_level_285 rfl rfl ?_
    refine r_getfield R 289 dX12_level_286 rfl fl_X12_28 rfl (show _ = pf_R 47 0 from rfl) ?_
    refine r_iconst R 290 dX12_level_289 rfl ic_iconst_0 ?_
    refine r_iaload R 291 dX12_level_290 rfl ⟨rfl, rfl⟩ (pf_in_iff.mp (by decide)) ?_
    refine r_iadd R 292 dX12_level_291 rfl ?_
    refine r_putfield R 295 dX12_level_292 rfl fl_X12_193 rfl rfl rfl rfl ?_
    refine r_aload_n R 296 dX12_level_295 rfl rfl ?_
    refine r_getfield R 299 dX12_level_296 rfl fl_X12_49 rfl (show _ = pf_R 54 0 from rfl) ?_
    refine r_iload_n R 300 dX12_level_299 rfl rfl ?_
    refine r_iconst R 301 dX12_level_300 rfl ic_iconst_1 ?_
    refine r_isub R 302 dX12_level_301 rfl ?_
    obtain ⟨hi13, h⟩ := pf_gd h
    refine r_iaload R 303 dX12_level_302 rfl ⟨rfl, rfl⟩ (pf_in_iff.mp hi13) ?_
    obtain rfl := Option.some.inj h
    exact r_ireturn R dX12_level_303 rfl rfl rfl rfl
  have hl220 : ∀ (f220_1 : Int32) (f220_2 : Int64), ∀ (kx220 : pf_M → Option (Int32 × pf_M)), (∀ (Me220 : pf_M), kx220 Me220 = some q → K 264 [pf_R 40 0, pf_I f220_1, pf_U, pf_U, pf_U] [] Me220) → ∀ (n : Nat) (v220_4 : Int32) (M220 : pf_M), lX12_level_220 f220_1 f220_2 kx220 n v220_4 M220 = some q → K 220 [pf_R 40 0, pf_I f220_1, pf_L f220_2, pf_U, pf_I v220_4] [] M220 := by
    intro f220_1 f220_2 kx220 hkx220 n
    induction n with
    | zero =>
      intro v220_4 M220 h
      rw [lX12_level_220] at h
      cases h
    | succ n ih220 =>
        intro v220_4 M220 h
        rw [lX12_level_220] at h
        refine r_iload R 222 dX12_level_220 rfl rfl ?_
        refine r_iload_n R 223 dX12_level_222 rfl rfl ?_
        refine r_icmp_ge R 226 264 dX12_level_223 rfl (by decide) (fun hc => ?_) (fun hc => ?_)
        · have h := pf_ifp hc h
          refine r_fg R [true, true, false, true, false] (show _ = [pf_R 40 0, pf_I f220_1, pf_U, pf_U, pf_U] from rfl) ?_
          exact hkx220 _ h
        · have h := pf_ifn hc h
          refine r_aload_n R 227 dX12_level_226 rfl rfl ?_
          refine r_getfield R 230 dX12_level_227 rfl fl_X12_46 rfl (show _ = pf_R 53 0 from rfl) ?_
          refine r_iload R 232 dX12_level_230 rfl rfl ?_
          refine r_lload_n R 233 dX12_level_232 rfl rfl ?_
          refine r_aload_n R 234 dX12_level_233 rfl rfl ?_
          refine r_getfield R 237 dX12_level_234 rfl fl_X12_49 rfl (show _ = pf_R 54 0 from rfl) ?_
          refine r_iload R 239 dX12_level_237 rfl rfl ?_
          obtain ⟨hi14, h⟩ := pf_gd h
          refine r_iaload R 240 dX12_level_239 rfl ⟨rfl, rfl⟩ (pf_in_iff.mp hi14) ?_
          refine r_i2l R 241 dX12_level_240 rfl ?_
          refine r_ladd R 242 dX12_level_241 rfl ?_
          refine r_aload_n R 243 dX12_level_242 rfl rfl ?_
          refine r_iload R 245 dX12_level_243 rfl rfl ?_
          refine r_aload_n R 246 dX12_level_245 rfl rfl ?_
          refine r_getfield R 249 dX12_level_246 rfl fl_X12_115 rfl (show _ = pf_R 76 0 from rfl) ?_
          refine r_iload R 251 dX12_level_249 rfl rfl ?_
          obtain ⟨hi15, h⟩ := pf_gd h
          refine r_iaload R 252 dX12_level_251 rfl ⟨rfl, rfl⟩ (pf_in_iff.mp hi15) ?_
          obtain ⟨r16, hr16, h⟩ := pf_bd h
          refine r_cvL2 R 255 dX12_level_252 rfl lk_X12_227 rfl (c_X12_ownAt G v220_4 (M220 76 0 v220_4.toNatClampNeg) M220 _ hr16) rfl rfl rfl ?_
          refine r_lsub R 256 dX12_level_255 rfl ?_
          refine r_l2i R 257 dX12_level_256 rfl ?_
          obtain ⟨hi17, h⟩ := pf_gd h
          refine r_iastore R 258 dX12_level_257 rfl ⟨rfl, rfl⟩ (pf_in_iff.mp hi17) ?_
          refine r_iinc R 261 dX12_level_258 rfl rfl ic_iconst_1 (show _ = [pf_R 40 0, pf_I f220_1, pf_L f220_2, pf_U, pf_I (v220_4 + (1 : Int32))] from rfl) ?_
          refine r_goto R 220 dX12_level_261 (by decide) ?_
          exact ih220 _ _ h
  have hl121 : ∀ (f121_1 : Int32), ∀ (kx121 : pf_M → Option (Int32 × pf_M)), (∀ (Me121 : pf_M), kx121 Me121 = some q → K 205 [pf_R 40 0, pf_I f121_1, pf_U, pf_U, pf_U] [] Me121) → ∀ (n : Nat) (v121_2 : Int32) (M121 : pf_M), lX12_level_121 f121_1 kx121 n v121_2 M121 = some q → K 121 [pf_R 40 0, pf_I f121_1, pf_I v121_2, pf_U, pf_U] [] M121 := by
    intro f121_1 kx121 hkx121 n
    induction n with
    | zero =>
      intro v121_2 M121 h
      rw [lX12_level_121] at h
      cases h
    | succ n ih121 =>
        have hj197 : ∀ (w197_2 : Int32) (s197_1 : Int32) (s197_2 : Int32) (s197_3 : Int32) (M197 : pf_M), jX12_level_197 (lX12_level_121 f121_1 kx121 n) w197_2 s197_1 s197_2 s197_3 M197 = some q → K 197 [pf_R 40 0, pf_I f121_1, pf_I w197_2, pf_U, pf_U] [pf_I s197_3, pf_I s197_2, pf_I s197_1, pf_R 54 0] M197 := by
          intro w197_2 s197_1 s197_2 s197_3 M197 h
          unfold jX12_level_197 at h
          refine r_iadd R 198 dX12_level_197 rfl ?_
          obtain ⟨hi18, h⟩ := pf_gd h
          refine r_iastore R 199 dX12_level_198 rfl ⟨rfl, rfl⟩ (pf_in_iff.mp hi18) ?_
          refine r_iinc R 202 dX12_level_199 rfl rfl ic_iconst_1 (show _ = [pf_R 40 0, pf_I f121_1, pf_I (w197_2 + (1 : Int32)), pf_U, pf_U] from rfl) ?_
          refine r_goto R 121 dX12_level_202 (by decide) ?_
          exact ih121 _ _ h
        have hj160 : ∀ (w160_2 : Int32) (s160_0 : Int64) (s160_1 : Int32) (M160 : pf_M), jX12_level_160 (lX12_level_121 f121_1 kx121 n) w160_2 s160_0 s160_1 M160 = some q → K 160 [pf_R 40 0, pf_I f121_1, pf_I w160_2, pf_U, pf_U] [pf_I s160_1, pf_L s160_0] M160 := by
          intro w160_2 s160_0 s160_1 M160 h
          unfold jX12_level_160 at h
          refine r_i2l R 161 dX12_level_160 rfl ?_
          refine r_lsub R 162 dX12_level_161 rfl ?_
          refine r_lstore_n R 163 dX12_level_162 rfl rfl (show _ = [pf_R 40 0, pf_I f121_1, pf_I w160_2, pf_L (s160_0 - s160_1.toInt64), pf_U] from rfl) ?_
          refine r_aload_n R 164 dX12_level_163 rfl rfl ?_
          refine r_getfield R 167 dX12_level_164 rfl fl_X12_49 rfl (show _ = pf_R 54 0 from rfl) ?_
          refine r_iload_n R 168 dX12_level_167 rfl rfl ?_
          refine r_aload_n R 169 dX12_level_168 rfl rfl ?_
          refine r_getfield R 172 dX12_level_169 rfl fl_X12_49 rfl (show _ = pf_R 54 0 from rfl) ?_
          refine r_iload_n R 173 dX12_level_172 rfl rfl ?_
          refine r_iconst R 174 dX12_level_173 rfl ic_iconst_1 ?_
          refine r_isub R 175 dX12_level_174 rfl ?_
          obtain ⟨hi19, h⟩ := pf_gd h
          refine r_iaload R 176 dX12_level_175 rfl ⟨rfl, rfl⟩ (pf_in_iff.mp hi19) ?_
          refine r_aload_n R 177 dX12_level_176 rfl rfl ?_
          refine r_getfield R 180 dX12_level_177 rfl fl_X12_183 rfl (show _ = pf_I (M160 40 0 15) from rfl) ?_
          refine r_iadd R 181 dX12_level_180 rfl ?_
          refine r_lload_n R 182 dX12_level_181 rfl rfl ?_
          refine r_lconst R 183 dX12_level_182 rfl lc_0 ?_
          refine r_lcmp R 184 dX12_level_183 rfl ?_
          refine r_if_ge R 187 191 dX12_level_184 rfl (by decide) (fun hc => ?_) (fun hc => ?_)
          · have h := pf_ifp hc h
            refine r_lload_n R 192 dX12_level_191 rfl rfl ?_
            refine r_ldc2_w R 195 dX12_level_192 rfl kc_X12_264 ?_
            refine r_ldiv R 196 dX12_level_195 rfl (by decide) ?_
            refine r_l2i R 197 dX12_level_196 rfl ?_
            refine r_fg R [true, true, true, false, true] (show _ = [pf_R 40 0, pf_I f121_1, pf_I w160_2, pf_U, pf_U] from rfl) ?_
            exact hj197 _ _ _ _ _ h
          · have h := pf_ifn hc h
            refine r_iconst R 188 dX12_level_187 rfl ic_iconst_0 ?_
            refine r_goto R 197 dX12_level_188 (by decide) ?_
            refine r_fg R [true, true, true, false, true] (show _ = [pf_R 40 0, pf_I f121_1, pf_I w160_2, pf_U, pf_U] from rfl) ?_
            exact hj197 _ _ _ _ _ h
        intro v121_2 M121 h
        rw [lX12_level_121] at h
        refine r_iload_n R 122 dX12_level_121 rfl rfl ?_
        refine r_iload_n R 123 dX12_level_122 rfl rfl ?_
        refine r_icmp_ge R 126 205 dX12_level_123 rfl (by decide) (fun hc => ?_) (fun hc => ?_)
        · have h := pf_ifp hc h
          refine r_fg R [true, true, false, true, true] (show _ = [pf_R 40 0, pf_I f121_1, pf_U, pf_U, pf_U] from rfl) ?_
          exact hkx121 _ h
        · have h := pf_ifn hc h
          refine r_aload_n R 127 dX12_level_126 rfl rfl ?_
          refine r_iload_n R 128 dX12_level_127 rfl rfl ?_
          refine r_iconst R 129 dX12_level_128 rfl ic_iconst_1 ?_
          refine r_isub R 130 dX12_level_129 rfl ?_
          obtain ⟨r20, hr20, h⟩ := pf_bd h
          refine r_cvL1 R 133 dX12_level_130 rfl lk_X12_329 rfl (c_X12_gone G (v121_2 - (1 : Int32)) M121 _ hr20) rfl rfl rfl ?_
          refine r_aload_n R 134 dX12_level_133 rfl rfl ?_
          refine r_iload_n R 135 dX12_level_134 rfl rfl ?_
          obtain ⟨r21, hr21, h⟩ := pf_bd h
          refine r_cvL1 R 138 dX12_level_135 rfl lk_X12_329 rfl (c_X12_gone G v121_2 M121 _ hr21) rfl rfl rfl ?_
          refine r_lsub R 139 dX12_level_138 rfl ?_
          refine r_aload_n R 140 dX12_level_139 rfl rfl ?_
          refine r_getfield R 143 dX12_level_140 rfl fl_X12_183 rfl (show _ = pf_I (M121 40 0 15) from rfl) ?_
          refine r_i2l R 144 dX12_level_143 rfl ?_
          refine r_lsub R 145 dX12_level_144 rfl ?_
          refine r_iload_n R 146 dX12_level_145 rfl rfl ?_
          refine r_iload_n R 147 dX12_level_146 rfl rfl ?_
          refine r_iconst R 148 dX12_level_147 rfl ic_iconst_1 ?_
          refine r_isub R 149 dX12_level_148 rfl ?_
          refine r_icmp_ne R 152 156 dX12_level_149 rfl (by decide) (fun hc => ?_) (fun hc => ?_)
          · have h := pf_ifp hc h
            refine r_iconst R 153 dX12_level_152 rfl ic_iconst_0 ?_
            refine r_goto R 160 dX12_level_153 (by decide) ?_
            exact hj160 _ _ _ _ h
          · have h := pf_ifn hc h
            refine r_aload_n R 157 dX12_level_156 rfl rfl ?_
            refine r_getfield R 160 dX12_level_157 rfl fl_X12_186 rfl (show _ = pf_I (M121 40 0 16) from rfl) ?_
            exact hj160 _ _ _ _ h
  have hl40 : ∀ (f40_1 : Int32), ∀ (kx40 : pf_M → Option (Int32 × pf_M)), (∀ (Me40 : pf_M), kx40 Me40 = some q → K 112 [pf_R 40 0, pf_I f40_1, pf_U, pf_U, pf_U] [] Me40) → ∀ (n : Nat) (v40_2 : Int32) (M40 : pf_M), lX12_level_40 f40_1 kx40 n v40_2 M40 = some q → K 40 [pf_R 40 0, pf_I f40_1, pf_I v40_2, pf_U, pf_U] [] M40 := by
    intro f40_1 kx40 hkx40 n
    induction n with
    | zero =>
      intro v40_2 M40 h
      rw [lX12_level_40] at h
      cases h
    | succ n ih40 =>
        have hj105 : ∀ (w105_2 : Int32) (s105_1 : Int32) (s105_2 : Int32) (M105 : pf_M), jX12_level_105 (lX12_level_40 f40_1 kx40 n) w105_2 s105_1 s105_2 M105 = some q → K 105 [pf_R 40 0, pf_I f40_1, pf_I w105_2, pf_U, pf_U] [pf_I s105_2, pf_I s105_1, pf_R 77 0] M105 := by
          intro w105_2 s105_1 s105_2 M105 h
          unfold jX12_level_105 at h
          obtain ⟨hi22, h⟩ := pf_gd h
          refine r_iastore R 106 dX12_level_105 rfl ⟨rfl, rfl⟩ (pf_in_iff.mp hi22) ?_
          refine r_iinc R 109 dX12_level_106 rfl rfl ic_iconst_m1 (show _ = [pf_R 40 0, pf_I f40_1, pf_I (w105_2 + (-1 : Int32)), pf_U, pf_U] from rfl) ?_
          refine r_goto R 40 dX12_level_109 (by decide) ?_
          exact ih40 _ _ h
        have hj95 : ∀ (w95_2 : Int32) (s95_1 : Int32) (s95_2 : Int32) (s95_3 : Int32) (M95 : pf_M), jX12_level_95 (lX12_level_40 f40_1 kx40 n) w95_2 s95_1 s95_2 s95_3 M95 = some q → K 95 [pf_R 40 0, pf_I f40_1, pf_I w95_2, pf_U, pf_U] [pf_I s95_3, pf_I s95_2, pf_I s95_1, pf_R 77 0] M95 := by
          intro w95_2 s95_1 s95_2 s95_3 M95 h
          unfold jX12_level_95 at h
          refine r_iadd R 96 dX12_level_95 rfl ?_
          refine r_aload_n R 97 dX12_level_96 rfl rfl ?_
          refine r_getfield R 100 dX12_level_97 rfl fl_X12_28 rfl (show _ = pf_R 47 0 from rfl) ?_
          refine r_iload_n R 101 dX12_level_100 rfl rfl ?_
          refine r_iconst R 102 dX12_level_101 rfl ic_iconst_1 ?_
          refine r_iadd R 103 dX12_level_102 rfl ?_
          obtain ⟨hi23, h⟩ := pf_gd h
          refine r_iaload R 104 dX12_level_103 rfl ⟨rfl, rfl⟩ (pf_in_iff.mp hi23) ?_
          refine r_iadd R 105 dX12_level_104 rfl ?_
          exact hj105 _ _ _ _ h
        intro v40_2 M40 h
        rw [lX12_level_40] at h
        refine r_iload_n R 41 dX12_level_40 rfl rfl ?_
        refine r_if_lt R 44 112 dX12_level_41 rfl (by decide) (fun hc => ?_) (fun hc => ?_)
        · have h := pf_ifp hc h
          refine r_fg R [true, true, false, true, true] (show _ = [pf_R 40 0, pf_I f40_1, pf_U, pf_U, pf_U] from rfl) ?_
          exact hkx40 _ h
        · have h := pf_ifn hc h
          refine r_aload_n R 45 dX12_level_44 rfl rfl ?_
          refine r_getfield R 48 dX12_level_45 rfl fl_X12_118 rfl (show _ = pf_R 77 0 from rfl) ?_
          refine r_iload_n R 49 dX12_level_48 rfl rfl ?_
          refine r_iload_n R 50 dX12_level_49 rfl rfl ?_
          refine r_iload_n R 51 dX12_level_50 rfl rfl ?_
          refine r_iconst R 52 dX12_level_51 rfl ic_iconst_1 ?_
          refine r_isub R 53 dX12_level_52 rfl ?_
          refine r_icmp_ne R 56 70 dX12_level_53 rfl (by decide) (fun hc => ?_) (fun hc => ?_)
          · have h := pf_ifp hc h
            refine r_aload_n R 57 dX12_level_56 rfl rfl ?_
            refine r_getfield R 60 dX12_level_57 rfl fl_X12_115 rfl (show _ = pf_R 76 0 from rfl) ?_
            refine r_iload_n R 61 dX12_level_60 rfl rfl ?_
            obtain ⟨hi25, h⟩ := pf_gd h
            refine r_iaload R 62 dX12_level_61 rfl ⟨rfl, rfl⟩ (pf_in_iff.mp hi25) ?_
            refine r_aload_n R 63 dX12_level_62 rfl rfl ?_
            refine r_getfield R 66 dX12_level_63 rfl fl_X12_183 rfl (show _ = pf_I (M40 40 0 15) from rfl) ?_
            refine r_iadd R 67 dX12_level_66 rfl ?_
            refine r_goto R 105 dX12_level_67 (by decide) ?_
            exact hj105 _ _ _ _ h
          · have h := pf_ifn hc h
            refine r_aload_n R 71 dX12_level_70 rfl rfl ?_
            refine r_getfield R 74 dX12_level_71 rfl fl_X12_118 rfl (show _ = pf_R 77 0 from rfl) ?_
            refine r_iload_n R 75 dX12_level_74 rfl rfl ?_
            refine r_iconst R 76 dX12_level_75 rfl ic_iconst_1 ?_
            refine r_iadd R 77 dX12_level_76 rfl ?_
            obtain ⟨hi24, h⟩ := pf_gd h
            refine r_iaload R 78 dX12_level_77 rfl ⟨rfl, rfl⟩ (pf_in_iff.mp hi24) ?_
            refine r_iload_n R 79 dX12_level_78 rfl rfl ?_
            refine r_iconst R 80 dX12_level_79 rfl ic_iconst_1 ?_
            refine r_iadd R 81 dX12_level_80 rfl ?_
            refine r_iload_n R 82 dX12_level_81 rfl rfl ?_
            refine r_iconst R 83 dX12_level_82 rfl ic_iconst_1 ?_
            refine r_isub R 84 dX12_level_83 rfl ?_
            refine r_icmp_ne R 87 91 dX12_level_84 rfl (by decide) (fun hc => ?_) (fun hc => ?_)
            · have h := pf_ifp hc h
              refine r_iconst R 88 dX12_level_87 rfl ic_iconst_0 ?_
              refine r_goto R 95 dX12_level_88 (by decide) ?_
              exact hj95 _ _ _ _ _ h
            · have h := pf_ifn hc h
              refine r_aload_n R 92 dX12_level_91 rfl rfl ?_
              refine r_getfield R 95 dX12_level_92 rfl fl_X12_186 rfl (show _ = pf_I (M40 40 0 16) from rfl) ?_
              exact hj95 _ _ _ _ _ h
  have hl14 : ∀ (f14_1 : Int32), ∀ (kx14 : pf_M → Option (Int32 × pf_M)), (∀ (Me14 : pf_M), kx14 Me14 = some q → K 36 [pf_R 40 0, pf_I f14_1, pf_U, pf_U, pf_U] [] Me14) → ∀ (n : Nat) (v14_2 : Int32) (M14 : pf_M), lX12_level_14 f14_1 kx14 n v14_2 M14 = some q → K 14 [pf_R 40 0, pf_I f14_1, pf_I v14_2, pf_U, pf_U] [] M14 := by
    intro f14_1 kx14 hkx14 n
    induction n with
    | zero =>
      intro v14_2 M14 h
      rw [lX12_level_14] at h
      cases h
    | succ n ih14 =>
        intro v14_2 M14 h
        rw [lX12_level_14] at h
        refine r_iload_n R 15 dX12_level_14 rfl rfl ?_
        refine r_iload_n R 16 dX12_level_15 rfl rfl ?_
        refine r_icmp_ge R 19 36 dX12_level_16 rfl (by decide) (fun hc => ?_) (fun hc => ?_)
        · have h := pf_ifp hc h
          refine r_fg R [true, true, false, true, true] (show _ = [pf_R 40 0, pf_I f14_1, pf_U, pf_U, pf_U] from rfl) ?_
          exact hkx14 _ h
        · have h := pf_ifn hc h
          refine r_aload_n R 20 dX12_level_19 rfl rfl ?_
          refine r_getfield R 23 dX12_level_20 rfl fl_X12_115 rfl (show _ = pf_R 76 0 from rfl) ?_
          refine r_iload_n R 24 dX12_level_23 rfl rfl ?_
          refine r_aload_n R 25 dX12_level_24 rfl rfl ?_
          refine r_iload_n R 26 dX12_level_25 rfl rfl ?_
          obtain ⟨r26, hr26, h⟩ := pf_bd h
          refine r_cvI1 R 29 dX12_level_26 rfl lk_X12_292 rfl (c_X12_whenBy G v14_2 M14 _ hr26) rfl rfl rfl ?_
          obtain ⟨hi27, h⟩ := pf_gd h
          refine r_iastore R 30 dX12_level_29 rfl ⟨rfl, rfl⟩ (pf_in_iff.mp hi27) ?_
          refine r_iinc R 33 dX12_level_30 rfl rfl ic_iconst_1 (show _ = [pf_R 40 0, pf_I f14_1, pf_I (v14_2 + (1 : Int32)), pf_U, pf_U] from rfl) ?_
          refine r_goto R 14 dX12_level_33 (by decide) ?_
          exact ih14 _ _ h
  unfold fX12_level at h
  refine r_aload_n R 1 dX12_level_0 rfl rfl ?_
  obtain ⟨r28, hr28, h⟩ := pf_bd h
  refine r_cvI0 R 4 dX12_level_1 rfl lk_X12_209 rfl (c_X12_sideA G M _ hr28) rfl rfl rfl ?_
  refine r_istore_n R 5 dX12_level_4 rfl rfl (show _ = [pf_R 40 0, pf_I r28, pf_U, pf_U, pf_U] from rfl) ?_
  refine r_iload_n R 6 dX12_level_5 rfl rfl ?_
  refine r_if_ne R 9 12 dX12_level_6 rfl (by decide) (fun hc => ?_) (fun hc => ?_)
  · have h := pf_ifp hc h
    refine r_bipush R 11 dX12_level_9 rfl ic_bipush_m2 ?_
    obtain rfl := Option.some.inj h
    exact r_ireturn R dX12_level_11 rfl rfl rfl rfl
  · have h := pf_ifn hc h
    refine r_iconst R 13 dX12_level_12 rfl ic_iconst_0 ?_
    refine r_istore_n R 14 dX12_level_13 rfl rfl (show _ = [pf_R 40 0, pf_I r28, pf_I (0 : Int32), pf_U, pf_U] from rfl) ?_
    refine hl14 _ _ (fun u29_Me14 h => ?_) pf_fu _ _ h
    refine r_iload_n R 37 dX12_level_36 rfl rfl ?_
    refine r_iconst R 38 dX12_level_37 rfl ic_iconst_1 ?_
    refine r_isub R 39 dX12_level_38 rfl ?_
    refine r_istore_n R 40 dX12_level_39 rfl rfl (show _ = [pf_R 40 0, pf_I r28, pf_I (r28 - (1 : Int32)), pf_U, pf_U] from rfl) ?_
    refine hl40 _ _ (fun u30_Me40 h => ?_) pf_fu _ _ h
    refine r_aload_n R 113 dX12_level_112 rfl rfl ?_
    refine r_getfield R 116 dX12_level_113 rfl fl_X12_49 rfl (show _ = pf_R 54 0 from rfl) ?_
    refine r_iconst R 117 dX12_level_116 rfl ic_iconst_0 ?_
    refine r_iconst R 118 dX12_level_117 rfl ic_iconst_0 ?_
    refine r_iastore R 119 dX12_level_118 rfl ⟨rfl, rfl⟩ (pf_in_iff.mp (by decide)) ?_
    refine r_iconst R 120 dX12_level_119 rfl ic_iconst_1 ?_
    refine r_istore_n R 121 dX12_level_120 rfl rfl (show _ = [pf_R 40 0, pf_I r28, pf_I (1 : Int32), pf_U, pf_U] from rfl) ?_
    refine hl121 _ _ (fun u31_Me121 h => ?_) pf_fu _ _ h
    refine r_aload_n R 206 dX12_level_205 rfl rfl ?_
    refine r_iconst R 207 dX12_level_206 rfl ic_iconst_0 ?_
    refine r_aload_n R 208 dX12_level_207 rfl rfl ?_
    refine r_getfield R 211 dX12_level_208 rfl fl_X12_115 rfl (show _ = pf_R 76 0 from rfl) ?_
    refine r_iconst R 212 dX12_level_211 rfl ic_iconst_0 ?_
    refine r_iaload R 213 dX12_level_212 rfl ⟨rfl, rfl⟩ (pf_in_iff.mp (by decide)) ?_
    obtain ⟨r32, hr32, h⟩ := pf_bd h
    refine r_cvL2 R 216 dX12_level_213 rfl lk_X12_227 rfl (c_X12_ownAt G (0 : Int32) (u31_Me121 76 0 (0 : Int32).toNatClampNeg) u31_Me121 _ hr32) rfl rfl rfl ?_
    refine r_lstore_n R 217 dX12_level_216 rfl rfl (show _ = [pf_R 40 0, pf_I r28, pf_L r32, pf_U, pf_U] from rfl) ?_
    refine r_iconst R 218 dX12_level_217 rfl ic_iconst_0 ?_
    refine r_istore R 220 dX12_level_218 rfl rfl (show _ = [pf_R 40 0, pf_I r28, pf_L r32, pf_U, pf_I (0 : Int32)] from rfl) ?_
    refine hl220 _ _ _ (fun u33_Me220 h => ?_) pf_fu _ _ h
    refine r_aload_n R 265 dX12_level_264 rfl rfl ?_
    refine r_aload_n R 266 dX12_level_265 rfl rfl ?_
    refine r_getfield R 269 dX12_level_266 rfl fl_X12_118 rfl (show _ = pf_R 77 0 from rfl) ?_
    refine r_iconst R 270 dX12_level_269 rfl ic_iconst_0 ?_
    refine r_iaload R 271 dX12_level_270 rfl ⟨rfl, rfl⟩ (pf_in_iff.mp (by decide)) ?_
    refine r_iload_n R 272 dX12_level_271 rfl rfl ?_
    refine r_iconst R 273 dX12_level_272 rfl ic_iconst_1 ?_
    refine r_icmp_ne R 276 280 dX12_level_273 rfl (by decide) (fun hc => ?_) (fun hc => ?_)
    · have h := pf_ifp hc h
      refine r_iconst R 277 dX12_level_276 rfl ic_iconst_0 ?_
      refine r_goto R 284 dX12_level_277 (by decide) ?_
      exact hj284 _ _ _ _ h
    · have h := pf_ifn hc h
      refine r_aload_n R 281 dX12_level_280 rfl rfl ?_
      refine r_getfield R 284 dX12_level_281 rfl fl_X12_186 rfl (show _ = pf_I (u33_Me220 40 0 16) from rfl) ?_
      exact hj284 _ _ _ _ h
def fX12_lose (x1 : Int32) (M : pf_M) : Int32 × pf_M :=
  (if (fX12_in x1.toInt64 (0 : Int64) (9 : Int64)) = (0 : Int32) then ((-1 : Int32), M)
  else (M 40 0 23, (pf_up M 40 0 23 x1)))
set_option maxRecDepth 4000 in
theorem c_X12_lose (G : pf_G) (x1 : Int32) (M : pf_M) (q : Int32 × pf_M) (h : fX12_lose x1 M = q) : pf_Met G yX12_lose cX12_lose 3 (some .int) 1 25 [pf_R 40 0, pf_I x1] M (some (pf_I q.1)) q.2 := by
  refine pf_Met.of (by decide +kernel) (Nat.le_of_ble_eq_true rfl) (fun K R => ?_)
  show K 0 [pf_R 40 0, pf_I x1, pf_U] [] M
  unfold fX12_lose at h
  refine r_iload_n R 1 dX12_lose_0 rfl rfl ?_
  refine r_i2l R 2 dX12_lose_1 rfl ?_
  refine r_lconst R 3 dX12_lose_2 rfl lc_0 ?_
  refine r_ldc2_w R 6 dX12_lose_3 rfl kc_X12_258 ?_
  refine r_csI3 R 9 dX12_lose_6 rfl lk_X12_145 (c_X12_in G x1.toInt64 (0 : Int64) (9 : Int64) _ rfl) rfl rfl rfl ?_
  refine r_if_ne R 12 14 dX12_lose_9 rfl (by decide) (fun hc => ?_) (fun hc => ?_)
  · have h := pf_ifp hc h
    refine r_iconst R 13 dX12_lose_12 rfl ic_iconst_m1 ?_
    subst h
    exact r_ireturn R dX12_lose_13 rfl rfl rfl rfl
  · have h := pf_ifn hc h
    refine r_aload_n R 15 dX12_lose_14 rfl rfl ?_
    refine r_getfield R 18 dX12_lose_15 rfl fl_X12_196 rfl (show _ = pf_I (M 40 0 23) from rfl) ?_
    refine r_istore_n R 19 dX12_lose_18 rfl rfl (show _ = [pf_R 40 0, pf_I x1, pf_I (M 40 0 23)] from rfl) ?_
    refine r_aload_n R 20 dX12_lose_19 rfl rfl ?_
    refine r_iload_n R 21 dX12_lose_20 rfl rfl ?_
    refine r_putfield R 24 dX12_lose_21 rfl fl_X12_196 rfl rfl rfl rfl ?_
    refine r_iload_n R 25 dX12_lose_24 rfl rfl ?_
    subst h
    exact r_ireturn R dX12_lose_25 rfl rfl rfl rfl
def jX12_map_182 (x1 : Int32) (x2 : Int32) (x3 : Int32) (x4 : Int32) (x5 : Int32) (s182_0 : Int32) (M182 : pf_M) : Option (Int32 × pf_M) :=
  (if pf_in (((2 : Int32) * x1) + x2) 16 = true then (if pf_in (((2 : Int32) * x1) + x2) 16 = true then (if pf_in (((2 : Int32) * x1) + x2) 16 = true then some (s182_0, (pf_up (pf_up (pf_up M182 55 0 (((2 : Int32) * x1) + x2).toNatClampNeg x3) 56 0 (((2 : Int32) * x1) + x2).toNatClampNeg x4) 57 0 (((2 : Int32) * x1) + x2).toNatClampNeg x5))
  else none)
  else none)
  else none)
def jX12_map_158 (rec89 : Int32 → pf_M → Option (Int32 × pf_M)) (w158_7 : Int32) (M158 : pf_M) : Option (Int32 × pf_M) :=
  rec89 (w158_7 + (1 : Int32)) M158
def lX12_map_89 (x1 : Int32) (x2 : Int32) (x3 : Int32) (x4 : Int32) (kx89 : pf_M → Option (Int32 × pf_M)) : Nat → Int32 → pf_M → Option (Int32 × pf_M)
  | 0, _, _ => none
  | n + 1, v89_7, M89 =>
  (if (M89 40 0 10) ≤ v89_7 then kx89 M89
  else (if v89_7 = x1 then jX12_map_158 (lX12_map_89 x1 x2 x3 x4 kx89 n) v89_7 M89
  else (if pf_in (((2 : Int32) * v89_7) + x2) 16 = true then (if (M89 56 0 (((2 : Int32) * v89_7) + x2).toNatClampNeg) ≤ (0 : Int32) then jX12_map_158 (lX12_map_89 x1 x2 x3 x4 kx89 n) v89_7 M89
  else (if pf_in (((2 : Int32) * v89_7) + x2) 16 = true then (if pf_in (((2 : Int32) * v89_7) + x2) 16 = true then (if ((M89 55 0 (((2 : Int32) * v89_7) + x2).toNatClampNeg) + (M89 56 0 (((2 : Int32) * v89_7) + x2).toNatClampNeg)) ≤ x3 then jX12_map_158 (lX12_map_89 x1 x2 x3 x4 kx89 n) v89_7 M89
  else (if pf_in (((2 : Int32) * v89_7) + x2) 16 = true then (if (x3 + x4) ≤ (M89 55 0 (((2 : Int32) * v89_7) + x2).toNatClampNeg) then jX12_map_158 (lX12_map_89 x1 x2 x3 x4 kx89 n) v89_7 M89
  else some ((-2 : Int32), M89))
  else none))
  else none)
  else none))
  else none)))
def jX12_map_77 (x1 : Int32) (x2 : Int32) (x3 : Int32) (x4 : Int32) (x5 : Int32) (s77_0 : Int32) (M77 : pf_M) : Option (Int32 × pf_M) :=
  (if s77_0 = (0 : Int32) then some ((-1 : Int32), M77)
  else lX12_map_89 x1 x2 x3 x4 (fun u16_Me89 => (if pf_in (((2 : Int32) * x1) + x2) 16 = true then (if (u16_Me89 56 0 (((2 : Int32) * x1) + x2).toNatClampNeg) ≤ (0 : Int32) then jX12_map_182 x1 x2 x3 x4 x5 (0 : Int32) u16_Me89
  else jX12_map_182 x1 x2 x3 x4 x5 (1 : Int32) u16_Me89)
  else none)) pf_fu (0 : Int32) M77)
def jX12_map_76 (x1 : Int32) (x2 : Int32) (x3 : Int32) (x4 : Int32) (x5 : Int32) (M76 : pf_M) : Option (Int32 × pf_M) :=
  jX12_map_77 x1 x2 x3 x4 x5 (0 : Int32) M76
def jX12_map_60 (x1 : Int32) (x2 : Int32) (x3 : Int32) (x4 : Int32) (x5 : Int32) (s60_0 : Int64) (s60_1 : Int64) (M60 : pf_M) : Option (Int32 × pf_M) :=
  (if (fX12_in s60_0 s60_1 (((16 : Int32) - x4).toInt64)) = (0 : Int32) then jX12_map_76 x1 x2 x3 x4 x5 M60
  else jX12_map_77 x1 x2 x3 x4 x5 (1 : Int32) M60)
def fX12_map (x1 : Int32) (x2 : Int32) (x3 : Int32) (x4 : Int32) (x5 : Int32) (M : pf_M) : Option (Int32 × pf_M) :=
  (if (fX12_isDevice x1 M) = (0 : Int32) then jX12_map_76 x1 x2 x3 x4 x5 M
  else (if (fX12_in x2.toInt64 (0 : Int64) (1 : Int64)) = (0 : Int32) then jX12_map_76 x1 x2 x3 x4 x5 M
  else (if (fX12_in x4.toInt64 (1 : Int64) (8 : Int64)) = (0 : Int32) then jX12_map_76 x1 x2 x3 x4 x5 M
  else (if (fX12_in x3.toInt64 (0 : Int64) (((32 : Int32) - x4).toInt64)) = (0 : Int32) then jX12_map_76 x1 x2 x3 x4 x5 M
  else (if x2 = (0 : Int32) then jX12_map_60 x1 x2 x3 x4 x5 x5.toInt64 (0 : Int64) M
  else jX12_map_60 x1 x2 x3 x4 x5 x5.toInt64 (4 : Int64) M)))))
set_option maxRecDepth 4000 in
theorem c_X12_map (G : pf_G) (x1 : Int32) (x2 : Int32) (x3 : Int32) (x4 : Int32) (x5 : Int32) (M : pf_M) (q : Int32 × pf_M) (h : fX12_map x1 x2 x3 x4 x5 M = some q) : pf_Met G yX12_map cX12_map 9 (some .int) 2 46 [pf_R 40 0, pf_I x1, pf_I x2, pf_I x3, pf_I x4, pf_I x5] M (some (pf_I q.1)) q.2 := by
  refine pf_Met.of (by decide +kernel) (Nat.le_of_ble_eq_true rfl) (fun K R => ?_)
  show K 0 [pf_R 40 0, pf_I x1, pf_I x2, pf_I x3, pf_I x4, pf_I x5, pf_U, pf_U, pf_U] [] M
  have hj182 : ∀ (s182_0 : Int32) (M182 : pf_M), jX12_map_182 x1 x2 x3 x4 x5 s182_0 M182 = some q → K 182 [pf_R 40 0, pf_I x1, pf_I x2, pf_I x3, pf_I x4, pf_I x5, pf_U, pf_U, pf_U] [pf_I s182_0] M182 := by
    intro s182_0 M182 h
    unfold jX12_map_182 at h
    refine r_istore R 184 dX12_map_182 rfl rfl (show _ = [pf_R 40 0, pf_I x1, pf_I x2, pf_I x3, pf_I x4, pf_I x5, pf_U, pf_I s182_0, pf_U] from rfl) ?_
    refine r_aload_n R 185 dX12_map_184 rfl rfl ?_
    refine r_getfield R 188 dX12_map_185 rfl fl_X12_52 rfl (show _ = pf_R 55 0 from rfl) ?_
    refine r_iconst R 189 dX12_map_188 rfl ic_iconst_2 ?_
    refine r_iload_n R 190 dX12_map_189 rfl rfl ?_
    refine r_imul R 191 dX12_map_190 rfl ?_
    refine r_iload_n R 192 dX12_map_191 rfl rfl ?_
    refine r_iadd R 193 dX12_map_192 rfl ?_
    refine r_iload_n R 194 dX12_map_193 rfl rfl ?_
    obtain ⟨hi9, h⟩ := pf_gd h
    refine r_iastore R 195 dX12_map_194 rfl ⟨rfl, rfl⟩ (pf_in_iff.mp hi9) ?_
    refine r_aload_n R 196 dX12_map_195 rfl rfl ?_
    refine r_getfield R 199 dX12_map_196 rfl fl_X12_55 rfl (show _ = pf_R 56 0 from rfl) ?_
    refine r_iconst R 200 dX12_map_199 rfl ic_iconst_2 ?_
    refine r_iload_n R 201 dX12_map_200 rfl rfl ?_
    refine r_imul R 202 dX12_map_201 rfl ?_
    refine r_iload_n R 203 dX12_map_202 rfl rfl ?_
    refine r_iadd R 204 dX12_map_203 rfl ?_
    refine r_iload R 206 dX12_map_204 rfl rfl ?_
    obtain ⟨hi10, h⟩ := pf_gd h
    refine r_iastore R 207 dX12_map_206 rfl ⟨rfl, rfl⟩ (pf_in_iff.mp hi10) ?_
    refine r_aload_n R 208 dX12_map_207 rfl rfl ?_
    refine r_getfield R 211 dX12_map_208 rfl fl_X12_58 rfl (show _ = pf_R 57 0 from rfl) ?_
    refine r_iconst R 212 dX12_map_211 rfl ic_iconst_2 ?_
    refine r_iload_n R 213 dX12_map_212 rfl rfl ?_
    refine r_imul R 214 dX12_map_213 rfl ?_
    refine r_iload_n R 215 dX12_map_214 rfl rfl ?_
    refine r_iadd R 216 dX12_map_215 rfl ?_
    refine r_iload R 218 dX12_map_216 rfl rfl ?_
    obtain ⟨hi11, h⟩ := pf_gd h
    refine r_iastore R 219 dX12_map_218 rfl ⟨rfl, rfl⟩ (pf_in_iff.mp hi11) ?_
    refine r_iload R 221 dX12_map_219 rfl rfl ?_
    obtain rfl := Option.some.inj h
    exact r_ireturn R dX12_map_221 rfl rfl rfl rfl
  have hl89 : ∀ (kx89 : pf_M → Option (Int32 × pf_M)), (∀ (Me89 : pf_M), kx89 Me89 = some q → K 164 [pf_R 40 0, pf_I x1, pf_I x2, pf_I x3, pf_I x4, pf_I x5, pf_U, pf_U, pf_U] [] Me89) → ∀ (n : Nat) (v89_7 : Int32) (M89 : pf_M), lX12_map_89 x1 x2 x3 x4 kx89 n v89_7 M89 = some q → K 89 [pf_R 40 0, pf_I x1, pf_I x2, pf_I x3, pf_I x4, pf_I x5, pf_U, pf_I v89_7, pf_U] [] M89 := by
    intro kx89 hkx89 n
    induction n with
    | zero =>
      intro v89_7 M89 h
      rw [lX12_map_89] at h
      cases h
    | succ n ih89 =>
        have hj158 : ∀ (w158_7 : Int32) (M158 : pf_M), jX12_map_158 (lX12_map_89 x1 x2 x3 x4 kx89 n) w158_7 M158 = some q → K 158 [pf_R 40 0, pf_I x1, pf_I x2, pf_I x3, pf_I x4, pf_I x5, pf_U, pf_I w158_7, pf_U] [] M158 := by
          intro w158_7 M158 h
          unfold jX12_map_158 at h
          refine r_iinc R 161 dX12_map_158 rfl rfl ic_iconst_1 (show _ = [pf_R 40 0, pf_I x1, pf_I x2, pf_I x3, pf_I x4, pf_I x5, pf_U, pf_I (w158_7 + (1 : Int32)), pf_U] from rfl) ?_
          refine r_goto R 89 dX12_map_161 (by decide) ?_
          exact ih89 _ _ h
        intro v89_7 M89 h
        rw [lX12_map_89] at h
        refine r_iload R 91 dX12_map_89 rfl rfl ?_
        refine r_aload_n R 92 dX12_map_91 rfl rfl ?_
        refine r_getfield R 95 dX12_map_92 rfl fl_X12_180 rfl (show _ = pf_I (M89 40 0 10) from rfl) ?_
        refine r_icmp_ge R 98 164 dX12_map_95 rfl (by decide) (fun hc => ?_) (fun hc => ?_)
        · have h := pf_ifp hc h
          refine r_fg R [true, true, true, true, true, true, true, false, true] (show _ = [pf_R 40 0, pf_I x1, pf_I x2, pf_I x3, pf_I x4, pf_I x5, pf_U, pf_U, pf_U] from rfl) ?_
          exact hkx89 _ h
        · have h := pf_ifn hc h
          refine r_iconst R 99 dX12_map_98 rfl ic_iconst_2 ?_
          refine r_iload R 101 dX12_map_99 rfl rfl ?_
          refine r_imul R 102 dX12_map_101 rfl ?_
          refine r_iload_n R 103 dX12_map_102 rfl rfl ?_
          refine r_iadd R 104 dX12_map_103 rfl ?_
          refine r_istore R 106 dX12_map_104 rfl rfl (show _ = [pf_R 40 0, pf_I x1, pf_I x2, pf_I x3, pf_I x4, pf_I x5, pf_U, pf_I v89_7, pf_I (((2 : Int32) * v89_7) + x2)] from rfl) ?_
          refine r_iload R 108 dX12_map_106 rfl rfl ?_
          refine r_iload_n R 109 dX12_map_108 rfl rfl ?_
          refine r_icmp_eq R 112 158 dX12_map_109 rfl (by decide) (fun hc => ?_) (fun hc => ?_)
          · have h := pf_ifp hc h
            refine r_fg R [true, true, true, true, true, true, true, true, false] (show _ = [pf_R 40 0, pf_I x1, pf_I x2, pf_I x3, pf_I x4, pf_I x5, pf_U, pf_I v89_7, pf_U] from rfl) ?_
            exact hj158 _ _ h
          · have h := pf_ifn hc h
            refine r_aload_n R 113 dX12_map_112 rfl rfl ?_
            refine r_getfield R 116 dX12_map_113 rfl fl_X12_55 rfl (show _ = pf_R 56 0 from rfl) ?_
            refine r_iload R 118 dX12_map_116 rfl rfl ?_
            obtain ⟨hi12, h⟩ := pf_gd h
            refine r_iaload R 119 dX12_map_118 rfl ⟨rfl, rfl⟩ (pf_in_iff.mp hi12) ?_
            refine r_if_le R 122 158 dX12_map_119 rfl (by decide) (fun hc => ?_) (fun hc => ?_)
            · have h := pf_ifp hc h
              refine r_fg R [true, true, true, true, true, true, true, true, false] (show _ = [pf_R 40 0, pf_I x1, pf_I x2, pf_I x3, pf_I x4, pf_I x5, pf_U, pf_I v89_7, pf_U] from rfl) ?_
              exact hj158 _ _ h
            · have h := pf_ifn hc h
              refine r_iload_n R 123 dX12_map_122 rfl rfl ?_
              refine r_aload_n R 124 dX12_map_123 rfl rfl ?_
              refine r_getfield R 127 dX12_map_124 rfl fl_X12_52 rfl (show _ = pf_R 55 0 from rfl) ?_
              refine r_iload R 129 dX12_map_127 rfl rfl ?_
              obtain ⟨hi13, h⟩ := pf_gd h
              refine r_iaload R 130 dX12_map_129 rfl ⟨rfl, rfl⟩ (pf_in_iff.mp hi13) ?_
              refine r_aload_n R 131 dX12_map_130 rfl rfl ?_
              refine r_getfield R 134 dX12_map_131 rfl fl_X12_55 rfl (show _ = pf_R 56 0 from rfl) ?_
              refine r_iload R 136 dX12_map_134 rfl rfl ?_
              obtain ⟨hi14, h⟩ := pf_gd h
              refine r_iaload R 137 dX12_map_136 rfl ⟨rfl, rfl⟩ (pf_in_iff.mp hi14) ?_
              refine r_iadd R 138 dX12_map_137 rfl ?_
              refine r_icmp_ge R 141 158 dX12_map_138 rfl (by decide) (fun hc => ?_) (fun hc => ?_)
              · have h := pf_ifp hc h
                refine r_fg R [true, true, true, true, true, true, true, true, false] (show _ = [pf_R 40 0, pf_I x1, pf_I x2, pf_I x3, pf_I x4, pf_I x5, pf_U, pf_I v89_7, pf_U] from rfl) ?_
                exact hj158 _ _ h
              · have h := pf_ifn hc h
                refine r_aload_n R 142 dX12_map_141 rfl rfl ?_
                refine r_getfield R 145 dX12_map_142 rfl fl_X12_52 rfl (show _ = pf_R 55 0 from rfl) ?_
                refine r_iload R 147 dX12_map_145 rfl rfl ?_
                obtain ⟨hi15, h⟩ := pf_gd h
                refine r_iaload R 148 dX12_map_147 rfl ⟨rfl, rfl⟩ (pf_in_iff.mp hi15) ?_
                refine r_iload_n R 149 dX12_map_148 rfl rfl ?_
                refine r_iload R 151 dX12_map_149 rfl rfl ?_
                refine r_iadd R 152 dX12_map_151 rfl ?_
                refine r_icmp_ge R 155 158 dX12_map_152 rfl (by decide) (fun hc => ?_) (fun hc => ?_)
                · have h := pf_ifp hc h
                  refine r_fg R [true, true, true, true, true, true, true, true, false] (show _ = [pf_R 40 0, pf_I x1, pf_I x2, pf_I x3, pf_I x4, pf_I x5, pf_U, pf_I v89_7, pf_U] from rfl) ?_
                  exact hj158 _ _ h
                · have h := pf_ifn hc h
                  refine r_bipush R 157 dX12_map_155 rfl ic_bipush_m2 ?_
                  obtain rfl := Option.some.inj h
                  exact r_ireturn R dX12_map_157 rfl rfl rfl rfl
  have hj77 : ∀ (s77_0 : Int32) (M77 : pf_M), jX12_map_77 x1 x2 x3 x4 x5 s77_0 M77 = some q → K 77 [pf_R 40 0, pf_I x1, pf_I x2, pf_I x3, pf_I x4, pf_I x5, pf_U, pf_U, pf_U] [pf_I s77_0] M77 := by
    intro s77_0 M77 h
    unfold jX12_map_77 at h
    refine r_istore R 79 dX12_map_77 rfl rfl (show _ = [pf_R 40 0, pf_I x1, pf_I x2, pf_I x3, pf_I x4, pf_I x5, pf_I s77_0, pf_U, pf_U] from rfl) ?_
    refine r_iload R 81 dX12_map_79 rfl rfl ?_
    refine r_if_ne R 84 86 dX12_map_81 rfl (by decide) (fun hc => ?_) (fun hc => ?_)
    · have h := pf_ifp hc h
      refine r_iconst R 85 dX12_map_84 rfl ic_iconst_m1 ?_
      obtain rfl := Option.some.inj h
      exact r_ireturn R dX12_map_85 rfl rfl rfl rfl
    · have h := pf_ifn hc h
      refine r_iconst R 87 dX12_map_86 rfl ic_iconst_0 ?_
      refine r_istore R 89 dX12_map_87 rfl rfl (show _ = [pf_R 40 0, pf_I x1, pf_I x2, pf_I x3, pf_I x4, pf_I x5, pf_I s77_0, pf_I (0 : Int32), pf_U] from rfl) ?_
      refine r_fg R [true, true, true, true, true, true, false, true, true] (show _ = [pf_R 40 0, pf_I x1, pf_I x2, pf_I x3, pf_I x4, pf_I x5, pf_U, pf_I (0 : Int32), pf_U] from rfl) ?_
      refine hl89 _ (fun u16_Me89 h => ?_) pf_fu _ _ h
      refine r_aload_n R 165 dX12_map_164 rfl rfl ?_
      refine r_getfield R 168 dX12_map_165 rfl fl_X12_55 rfl (show _ = pf_R 56 0 from rfl) ?_
      refine r_iconst R 169 dX12_map_168 rfl ic_iconst_2 ?_
      refine r_iload_n R 170 dX12_map_169 rfl rfl ?_
      refine r_imul R 171 dX12_map_170 rfl ?_
      refine r_iload_n R 172 dX12_map_171 rfl rfl ?_
      refine r_iadd R 173 dX12_map_172 rfl ?_
      obtain ⟨hi17, h⟩ := pf_gd h
      refine r_iaload R 174 dX12_map_173 rfl ⟨rfl, rfl⟩ (pf_in_iff.mp hi17) ?_
      refine r_if_le R 177 181 dX12_map_174 rfl (by decide) (fun hc => ?_) (fun hc => ?_)
      · have h := pf_ifp hc h
        refine r_iconst R 182 dX12_map_181 rfl ic_iconst_0 ?_
        exact hj182 _ _ h
      · have h := pf_ifn hc h
        refine r_iconst R 178 dX12_map_177 rfl ic_iconst_1 ?_
        refine r_goto R 182 dX12_map_178 (by decide) ?_
        exact hj182 _ _ h
  have hj76 : ∀ (M76 : pf_M), jX12_map_76 x1 x2 x3 x4 x5 M76 = some q → K 76 [pf_R 40 0, pf_I x1, pf_I x2, pf_I x3, pf_I x4, pf_I x5, pf_U, pf_U, pf_U] [] M76 := by
    intro M76 h
    unfold jX12_map_76 at h
    refine r_iconst R 77 dX12_map_76 rfl ic_iconst_0 ?_
    exact hj77 _ _ h
  have hj60 : ∀ (s60_0 : Int64) (s60_1 : Int64) (M60 : pf_M), jX12_map_60 x1 x2 x3 x4 x5 s60_0 s60_1 M60 = some q → K 60 [pf_R 40 0, pf_I x1, pf_I x2, pf_I x3, pf_I x4, pf_I x5, pf_U, pf_U, pf_U] [pf_L s60_1, pf_L s60_0] M60 := by
    intro s60_0 s60_1 M60 h
    unfold jX12_map_60 at h
    refine r_bipush R 62 dX12_map_60 rfl ic_bipush_16 ?_
    refine r_iload R 64 dX12_map_62 rfl rfl ?_
    refine r_isub R 65 dX12_map_64 rfl ?_
    refine r_i2l R 66 dX12_map_65 rfl ?_
    refine r_csI3 R 69 dX12_map_66 rfl lk_X12_145 (c_X12_in G s60_0 s60_1 (((16 : Int32) - x4).toInt64) _ rfl) rfl rfl rfl ?_
    refine r_if_eq R 72 76 dX12_map_69 rfl (by decide) (fun hc => ?_) (fun hc => ?_)
    · have h := pf_ifp hc h
      exact hj76 _ h
    · have h := pf_ifn hc h
      refine r_iconst R 73 dX12_map_72 rfl ic_iconst_1 ?_
      refine r_goto R 77 dX12_map_73 (by decide) ?_
      exact hj77 _ _ h
  unfold fX12_map at h
  refine r_aload_n R 1 dX12_map_0 rfl rfl ?_
  refine r_iload_n R 2 dX12_map_1 rfl rfl ?_
  refine r_cvI1 R 5 dX12_map_2 rfl lk_X12_236 rfl (c_X12_isDevice G x1 M _ rfl) rfl rfl rfl ?_
  refine r_if_eq R 8 76 dX12_map_5 rfl (by decide) (fun hc => ?_) (fun hc => ?_)
  · have h := pf_ifp hc h
    exact hj76 _ h
  · have h := pf_ifn hc h
    refine r_iload_n R 9 dX12_map_8 rfl rfl ?_
    refine r_i2l R 10 dX12_map_9 rfl ?_
    refine r_lconst R 11 dX12_map_10 rfl lc_0 ?_
    refine r_lconst R 12 dX12_map_11 rfl lc_1 ?_
    refine r_csI3 R 15 dX12_map_12 rfl lk_X12_145 (c_X12_in G x2.toInt64 (0 : Int64) (1 : Int64) _ rfl) rfl rfl rfl ?_
    refine r_if_eq R 18 76 dX12_map_15 rfl (by decide) (fun hc => ?_) (fun hc => ?_)
    · have h := pf_ifp hc h
      exact hj76 _ h
    · have h := pf_ifn hc h
      refine r_iload R 20 dX12_map_18 rfl rfl ?_
      refine r_i2l R 21 dX12_map_20 rfl ?_
      refine r_lconst R 22 dX12_map_21 rfl lc_1 ?_
      refine r_ldc2_w R 25 dX12_map_22 rfl kc_X12_262 ?_
      refine r_csI3 R 28 dX12_map_25 rfl lk_X12_145 (c_X12_in G x4.toInt64 (1 : Int64) (8 : Int64) _ rfl) rfl rfl rfl ?_
      refine r_if_eq R 31 76 dX12_map_28 rfl (by decide) (fun hc => ?_) (fun hc => ?_)
      · have h := pf_ifp hc h
        exact hj76 _ h
      · have h := pf_ifn hc h
        refine r_iload_n R 32 dX12_map_31 rfl rfl ?_
        refine r_i2l R 33 dX12_map_32 rfl ?_
        refine r_lconst R 34 dX12_map_33 rfl lc_0 ?_
        refine r_bipush R 36 dX12_map_34 rfl ic_bipush_32 ?_
        refine r_iload R 38 dX12_map_36 rfl rfl ?_
        refine r_isub R 39 dX12_map_38 rfl ?_
        refine r_i2l R 40 dX12_map_39 rfl ?_
        refine r_csI3 R 43 dX12_map_40 rfl lk_X12_145 (c_X12_in G x3.toInt64 (0 : Int64) (((32 : Int32) - x4).toInt64) _ rfl) rfl rfl rfl ?_
        refine r_if_eq R 46 76 dX12_map_43 rfl (by decide) (fun hc => ?_) (fun hc => ?_)
        · have h := pf_ifp hc h
          exact hj76 _ h
        · have h := pf_ifn hc h
          refine r_iload R 48 dX12_map_46 rfl rfl ?_
          refine r_i2l R 49 dX12_map_48 rfl ?_
          refine r_iload_n R 50 dX12_map_49 rfl rfl ?_
          refine r_if_ne R 53 57 dX12_map_50 rfl (by decide) (fun hc => ?_) (fun hc => ?_)
          · have h := pf_ifp hc h
            refine r_lconst R 54 dX12_map_53 rfl lc_0 ?_
            refine r_goto R 60 dX12_map_54 (by decide) ?_
            exact hj60 _ _ _ h
          · have h := pf_ifn hc h
            refine r_ldc2_w R 60 dX12_map_57 rfl kc_X12_251 ?_
            exact hj60 _ _ _ h
def fX12_mapped (x1 : Int32) (x2 : Int32) (x3 : Int32) (M : pf_M) : Option (Int32) :=
  (if (fX12_isDevice x1 M) = (0 : Int32) then some (-1 : Int32)
  else (if (fX12_in x2.toInt64 (0 : Int64) (1 : Int64)) = (0 : Int32) then some (-1 : Int32)
  else (if (fX12_in x3.toInt64 (0 : Int64) (2 : Int64)) = (0 : Int32) then some (-1 : Int32)
  else (if pf_in (((2 : Int32) * x1) + x2) 16 = true then (if (M 56 0 (((2 : Int32) * x1) + x2).toNatClampNeg) = (0 : Int32) then some (-4 : Int32)
  else (if x3 = (0 : Int32) then (if pf_in (((2 : Int32) * x1) + x2) 16 = true then some (M 55 0 (((2 : Int32) * x1) + x2).toNatClampNeg)
  else none)
  else (if x3 = (1 : Int32) then (if pf_in (((2 : Int32) * x1) + x2) 16 = true then some (M 56 0 (((2 : Int32) * x1) + x2).toNatClampNeg)
  else none)
  else (if pf_in (((2 : Int32) * x1) + x2) 16 = true then some (M 57 0 (((2 : Int32) * x1) + x2).toNatClampNeg)
  else none))))
  else none))))
set_option maxRecDepth 4000 in
theorem c_X12_mapped (G : pf_G) (x1 : Int32) (x2 : Int32) (x3 : Int32) (M : pf_M) (q : Int32) (h : fX12_mapped x1 x2 x3 M = some q) : pf_Met G yX12_mapped cX12_mapped 5 (some .int) 2 46 [pf_R 40 0, pf_I x1, pf_I x2, pf_I x3] M (some (pf_I q)) M := by
  refine pf_Met.of (by decide +kernel) (Nat.le_of_ble_eq_true rfl) (fun K R => ?_)
  show K 0 [pf_R 40 0, pf_I x1, pf_I x2, pf_I x3, pf_U] [] M
  unfold fX12_mapped at h
  refine r_aload_n R 1 dX12_mapped_0 rfl rfl ?_
  refine r_iload_n R 2 dX12_mapped_1 rfl rfl ?_
  refine r_cvI1 R 5 dX12_mapped_2 rfl lk_X12_236 rfl (c_X12_isDevice G x1 M _ rfl) rfl rfl rfl ?_
  refine r_if_eq R 8 30 dX12_mapped_5 rfl (by decide) (fun hc => ?_) (fun hc => ?_)
  · have h := pf_ifp hc h
    refine r_iconst R 31 dX12_mapped_30 rfl ic_iconst_m1 ?_
    obtain rfl := Option.some.inj h
    exact r_ireturn R dX12_mapped_31 rfl rfl rfl rfl
  · have h := pf_ifn hc h
    refine r_iload_n R 9 dX12_mapped_8 rfl rfl ?_
    refine r_i2l R 10 dX12_mapped_9 rfl ?_
    refine r_lconst R 11 dX12_mapped_10 rfl lc_0 ?_
    refine r_lconst R 12 dX12_mapped_11 rfl lc_1 ?_
    refine r_csI3 R 15 dX12_mapped_12 rfl lk_X12_145 (c_X12_in G x2.toInt64 (0 : Int64) (1 : Int64) _ rfl) rfl rfl rfl ?_
    refine r_if_eq R 18 30 dX12_mapped_15 rfl (by decide) (fun hc => ?_) (fun hc => ?_)
    · have h := pf_ifp hc h
      refine r_iconst R 31 dX12_mapped_30 rfl ic_iconst_m1 ?_
      obtain rfl := Option.some.inj h
      exact r_ireturn R dX12_mapped_31 rfl rfl rfl rfl
    · have h := pf_ifn hc h
      refine r_iload_n R 19 dX12_mapped_18 rfl rfl ?_
      refine r_i2l R 20 dX12_mapped_19 rfl ?_
      refine r_lconst R 21 dX12_mapped_20 rfl lc_0 ?_
      refine r_ldc2_w R 24 dX12_mapped_21 rfl kc_X12_264 ?_
      refine r_csI3 R 27 dX12_mapped_24 rfl lk_X12_145 (c_X12_in G x3.toInt64 (0 : Int64) (2 : Int64) _ rfl) rfl rfl rfl ?_
      refine r_if_ne R 30 32 dX12_mapped_27 rfl (by decide) (fun hc => ?_) (fun hc => ?_)
      · have h := pf_ifp hc h
        refine r_iconst R 31 dX12_mapped_30 rfl ic_iconst_m1 ?_
        obtain rfl := Option.some.inj h
        exact r_ireturn R dX12_mapped_31 rfl rfl rfl rfl
      · have h := pf_ifn hc h
        refine r_iconst R 33 dX12_mapped_32 rfl ic_iconst_2 ?_
        refine r_iload_n R 34 dX12_mapped_33 rfl rfl ?_
        refine r_imul R 35 dX12_mapped_34 rfl ?_
        refine r_iload_n R 36 dX12_mapped_35 rfl rfl ?_
        refine r_iadd R 37 dX12_mapped_36 rfl ?_
        refine r_istore R 39 dX12_mapped_37 rfl rfl (show _ = [pf_R 40 0, pf_I x1, pf_I x2, pf_I x3, pf_I (((2 : Int32) * x1) + x2)] from rfl) ?_
        refine r_aload_n R 40 dX12_mapped_39 rfl rfl ?_
        refine r_getfield R 43 dX12_mapped_40 rfl fl_X12_55 rfl (show _ = pf_R 56 0 from rfl) ?_
        refine r_iload R 45 dX12_mapped_43 rfl rfl ?_
        obtain ⟨hi5, h⟩ := pf_gd h
        refine r_iaload R 46 dX12_mapped_45 rfl ⟨rfl, rfl⟩ (pf_in_iff.mp hi5) ?_
        refine r_if_ne R 49 54 dX12_mapped_46 rfl (by decide) (fun hc => ?_) (fun hc => ?_)
        · have h := pf_ifp hc h
          refine r_bipush R 51 dX12_mapped_49 rfl ic_bipush_m4 ?_
          refine r_goto R 90 dX12_mapped_51 (by decide) ?_
          obtain rfl := Option.some.inj h
          exact r_ireturn R dX12_mapped_90 rfl rfl rfl rfl
        · have h := pf_ifn hc h
          refine r_iload_n R 55 dX12_mapped_54 rfl rfl ?_
          refine r_if_ne R 58 68 dX12_mapped_55 rfl (by decide) (fun hc => ?_) (fun hc => ?_)
          · have h := pf_ifp hc h
            refine r_aload_n R 59 dX12_mapped_58 rfl rfl ?_
            refine r_getfield R 62 dX12_mapped_59 rfl fl_X12_52 rfl (show _ = pf_R 55 0 from rfl) ?_
            refine r_iload R 64 dX12_mapped_62 rfl rfl ?_
            obtain ⟨hi8, h⟩ := pf_gd h
            refine r_iaload R 65 dX12_mapped_64 rfl ⟨rfl, rfl⟩ (pf_in_iff.mp hi8) ?_
            refine r_goto R 90 dX12_mapped_65 (by decide) ?_
            obtain rfl := Option.some.inj h
            exact r_ireturn R dX12_mapped_90 rfl rfl rfl rfl
          · have h := pf_ifn hc h
            refine r_iload_n R 69 dX12_mapped_68 rfl rfl ?_
            refine r_iconst R 70 dX12_mapped_69 rfl ic_iconst_1 ?_
            refine r_icmp_ne R 73 83 dX12_mapped_70 rfl (by decide) (fun hc => ?_) (fun hc => ?_)
            · have h := pf_ifp hc h
              refine r_aload_n R 74 dX12_mapped_73 rfl rfl ?_
              refine r_getfield R 77 dX12_mapped_74 rfl fl_X12_55 rfl (show _ = pf_R 56 0 from rfl) ?_
              refine r_iload R 79 dX12_mapped_77 rfl rfl ?_
              obtain ⟨hi7, h⟩ := pf_gd h
              refine r_iaload R 80 dX12_mapped_79 rfl ⟨rfl, rfl⟩ (pf_in_iff.mp hi7) ?_
              refine r_goto R 90 dX12_mapped_80 (by decide) ?_
              obtain rfl := Option.some.inj h
              exact r_ireturn R dX12_mapped_90 rfl rfl rfl rfl
            · have h := pf_ifn hc h
              refine r_aload_n R 84 dX12_mapped_83 rfl rfl ?_
              refine r_getfield R 87 dX12_mapped_84 rfl fl_X12_58 rfl (show _ = pf_R 57 0 from rfl) ?_
              refine r_iload R 89 dX12_mapped_87 rfl rfl ?_
              obtain ⟨hi6, h⟩ := pf_gd h
              refine r_iaload R 90 dX12_mapped_89 rfl ⟨rfl, rfl⟩ (pf_in_iff.mp hi6) ?_
              obtain rfl := Option.some.inj h
              exact r_ireturn R dX12_mapped_90 rfl rfl rfl rfl
def fX12_memory (x1 : Int32) (x2 : Int32) (M : pf_M) : Option (Int32) :=
  (if (fX12_isDevice x1 M) = (0 : Int32) then some (-1 : Int32)
  else (if (fX12_in x2.toInt64 (0 : Int64) (15 : Int64)) = (0 : Int32) then some (-1 : Int32)
  else ((fX12_byteAt x1 x2 (M 40 0 22) M).bind fun r2 => some r2)))
set_option maxRecDepth 4000 in
theorem c_X12_memory (G : pf_G) (x1 : Int32) (x2 : Int32) (M : pf_M) (q : Int32) (h : fX12_memory x1 x2 M = some q) : pf_Met G yX12_memory cX12_memory 3 (some .int) 3 74 [pf_R 40 0, pf_I x1, pf_I x2] M (some (pf_I q)) M := by
  refine pf_Met.of (by decide +kernel) (Nat.le_of_ble_eq_true rfl) (fun K R => ?_)
  show K 0 [pf_R 40 0, pf_I x1, pf_I x2] [] M
  unfold fX12_memory at h
  refine r_aload_n R 1 dX12_memory_0 rfl rfl ?_
  refine r_iload_n R 2 dX12_memory_1 rfl rfl ?_
  refine r_cvI1 R 5 dX12_memory_2 rfl lk_X12_236 rfl (c_X12_isDevice G x1 M _ rfl) rfl rfl rfl ?_
  refine r_if_eq R 8 33 dX12_memory_5 rfl (by decide) (fun hc => ?_) (fun hc => ?_)
  · have h := pf_ifp hc h
    refine r_iconst R 34 dX12_memory_33 rfl ic_iconst_m1 ?_
    obtain rfl := Option.some.inj h
    exact r_ireturn R dX12_memory_34 rfl rfl rfl rfl
  · have h := pf_ifn hc h
    refine r_iload_n R 9 dX12_memory_8 rfl rfl ?_
    refine r_i2l R 10 dX12_memory_9 rfl ?_
    refine r_lconst R 11 dX12_memory_10 rfl lc_0 ?_
    refine r_ldc2_w R 14 dX12_memory_11 rfl kc_X12_245 ?_
    refine r_csI3 R 17 dX12_memory_14 rfl lk_X12_145 (c_X12_in G x2.toInt64 (0 : Int64) (15 : Int64) _ rfl) rfl rfl rfl ?_
    refine r_if_eq R 20 33 dX12_memory_17 rfl (by decide) (fun hc => ?_) (fun hc => ?_)
    · have h := pf_ifp hc h
      refine r_iconst R 34 dX12_memory_33 rfl ic_iconst_m1 ?_
      obtain rfl := Option.some.inj h
      exact r_ireturn R dX12_memory_34 rfl rfl rfl rfl
    · have h := pf_ifn hc h
      refine r_aload_n R 21 dX12_memory_20 rfl rfl ?_
      refine r_iload_n R 22 dX12_memory_21 rfl rfl ?_
      refine r_iload_n R 23 dX12_memory_22 rfl rfl ?_
      refine r_aload_n R 24 dX12_memory_23 rfl rfl ?_
      refine r_getfield R 27 dX12_memory_24 rfl fl_X12_193 rfl (show _ = pf_I (M 40 0 22) from rfl) ?_
      obtain ⟨r2, hr2, h⟩ := pf_bd h
      refine r_cvI3 R 30 dX12_memory_27 rfl lk_X12_247 rfl (c_X12_byteAt G x1 x2 (M 40 0 22) M _ hr2) rfl rfl rfl ?_
      refine r_goto R 34 dX12_memory_30 (by decide) ?_
      obtain rfl := Option.some.inj h
      exact r_ireturn R dX12_memory_34 rfl rfl rfl rfl
def fX12_own (x1 : Int32) (x2 : Int32) (x3 : Int32) (M : pf_M) : Option (Int32 × pf_M) :=
  (if (fX12_isDevice x1 M) = (0 : Int32) then some ((-1 : Int32), M)
  else (if (fX12_in x2.toInt64 (4 : Int64) (15 : Int64)) = (0 : Int32) then some ((-1 : Int32), M)
  else (if (fX12_in x3.toInt64 (0 : Int64) (255 : Int64)) = (0 : Int32) then some ((-1 : Int32), M)
  else (if pf_in (((16 : Int32) * x1) + x2) 128 = true then (if pf_in (((16 : Int32) * x1) + x2) 128 = true then some (M 52 0 (((16 : Int32) * x1) + x2).toNatClampNeg, (pf_up M 52 0 (((16 : Int32) * x1) + x2).toNatClampNeg x3))
  else none)
  else none))))
set_option maxRecDepth 4000 in
theorem c_X12_own (G : pf_G) (x1 : Int32) (x2 : Int32) (x3 : Int32) (M : pf_M) (q : Int32 × pf_M) (h : fX12_own x1 x2 x3 M = some q) : pf_Met G yX12_own cX12_own 5 (some .int) 2 46 [pf_R 40 0, pf_I x1, pf_I x2, pf_I x3] M (some (pf_I q.1)) q.2 := by
  refine pf_Met.of (by decide +kernel) (Nat.le_of_ble_eq_true rfl) (fun K R => ?_)
  show K 0 [pf_R 40 0, pf_I x1, pf_I x2, pf_I x3, pf_U] [] M
  unfold fX12_own at h
  refine r_aload_n R 1 dX12_own_0 rfl rfl ?_
  refine r_iload_n R 2 dX12_own_1 rfl rfl ?_
  refine r_cvI1 R 5 dX12_own_2 rfl lk_X12_236 rfl (c_X12_isDevice G x1 M _ rfl) rfl rfl rfl ?_
  refine r_if_eq R 8 34 dX12_own_5 rfl (by decide) (fun hc => ?_) (fun hc => ?_)
  · have h := pf_ifp hc h
    refine r_iconst R 35 dX12_own_34 rfl ic_iconst_m1 ?_
    obtain rfl := Option.some.inj h
    exact r_ireturn R dX12_own_35 rfl rfl rfl rfl
  · have h := pf_ifn hc h
    refine r_iload_n R 9 dX12_own_8 rfl rfl ?_
    refine r_i2l R 10 dX12_own_9 rfl ?_
    refine r_ldc2_w R 13 dX12_own_10 rfl kc_X12_251 ?_
    refine r_ldc2_w R 16 dX12_own_13 rfl kc_X12_245 ?_
    refine r_csI3 R 19 dX12_own_16 rfl lk_X12_145 (c_X12_in G x2.toInt64 (4 : Int64) (15 : Int64) _ rfl) rfl rfl rfl ?_
    refine r_if_eq R 22 34 dX12_own_19 rfl (by decide) (fun hc => ?_) (fun hc => ?_)
    · have h := pf_ifp hc h
      refine r_iconst R 35 dX12_own_34 rfl ic_iconst_m1 ?_
      obtain rfl := Option.some.inj h
      exact r_ireturn R dX12_own_35 rfl rfl rfl rfl
    · have h := pf_ifn hc h
      refine r_iload_n R 23 dX12_own_22 rfl rfl ?_
      refine r_i2l R 24 dX12_own_23 rfl ?_
      refine r_lconst R 25 dX12_own_24 rfl lc_0 ?_
      refine r_ldc2_w R 28 dX12_own_25 rfl kc_X12_253 ?_
      refine r_csI3 R 31 dX12_own_28 rfl lk_X12_145 (c_X12_in G x3.toInt64 (0 : Int64) (255 : Int64) _ rfl) rfl rfl rfl ?_
      refine r_if_ne R 34 36 dX12_own_31 rfl (by decide) (fun hc => ?_) (fun hc => ?_)
      · have h := pf_ifp hc h
        refine r_iconst R 35 dX12_own_34 rfl ic_iconst_m1 ?_
        obtain rfl := Option.some.inj h
        exact r_ireturn R dX12_own_35 rfl rfl rfl rfl
      · have h := pf_ifn hc h
        refine r_aload_n R 37 dX12_own_36 rfl rfl ?_
        refine r_getfield R 40 dX12_own_37 rfl fl_X12_43 rfl (show _ = pf_R 52 0 from rfl) ?_
        refine r_bipush R 42 dX12_own_40 rfl ic_bipush_16 ?_
        refine r_iload_n R 43 dX12_own_42 rfl rfl ?_
        refine r_imul R 44 dX12_own_43 rfl ?_
        refine r_iload_n R 45 dX12_own_44 rfl rfl ?_
        refine r_iadd R 46 dX12_own_45 rfl ?_
        obtain ⟨hi3, h⟩ := pf_gd h
        refine r_iaload R 47 dX12_own_46 rfl ⟨rfl, rfl⟩ (pf_in_iff.mp hi3) ?_
        refine r_istore R 49 dX12_own_47 rfl rfl (show _ = [pf_R 40 0, pf_I x1, pf_I x2, pf_I x3, pf_I (M 52 0 (((16 : Int32) * x1) + x2).toNatClampNeg)] from rfl) ?_
        refine r_aload_n R 50 dX12_own_49 rfl rfl ?_
        refine r_getfield R 53 dX12_own_50 rfl fl_X12_43 rfl (show _ = pf_R 52 0 from rfl) ?_
        refine r_bipush R 55 dX12_own_53 rfl ic_bipush_16 ?_
        refine r_iload_n R 56 dX12_own_55 rfl rfl ?_
        refine r_imul R 57 dX12_own_56 rfl ?_
        refine r_iload_n R 58 dX12_own_57 rfl rfl ?_
        refine r_iadd R 59 dX12_own_58 rfl ?_
        refine r_iload_n R 60 dX12_own_59 rfl rfl ?_
        obtain ⟨hi4, h⟩ := pf_gd h
        refine r_iastore R 61 dX12_own_60 rfl ⟨rfl, rfl⟩ (pf_in_iff.mp hi4) ?_
        refine r_iload R 63 dX12_own_61 rfl rfl ?_
        obtain rfl := Option.some.inj h
        exact r_ireturn R dX12_own_63 rfl rfl rfl rfl
def fX12_push (x1 : Int32) (x2 : Int32) (M : pf_M) : Option (Int32 × pf_M) :=
  (if (fX12_isDevice x1 M) = (0 : Int32) then some ((-1 : Int32), M)
  else (if (fX12_in x2.toInt64 (1 : Int64) (255 : Int64)) = (0 : Int32) then some ((-1 : Int32), M)
  else ((fX12_isTalkedTo x1 M).bind fun r6 => (if r6 = (0 : Int32) then some ((-2 : Int32), M)
  else (if pf_in x1 8 = true then (if (M 63 0 x1.toNatClampNeg) = (-4 : Int32) then (if pf_in x1 8 = true then ((fX12_pushes x1 (pf_up M 63 0 x1.toNatClampNeg x2)).bind fun q9 => (if q9.1 = (-3 : Int32) then (if pf_in x1 8 = true then some (q9.1, (pf_up q9.2 63 0 x1.toNatClampNeg (-4 : Int32)))
  else none)
  else some (q9.1, q9.2)))
  else none)
  else some ((-2 : Int32), M))
  else none)))))
set_option maxRecDepth 4000 in
theorem c_X12_push (G : pf_G) (x1 : Int32) (x2 : Int32) (M : pf_M) (q : Int32 × pf_M) (h : fX12_push x1 x2 M = some q) : pf_Met G yX12_push cX12_push 4 (some .int) 3 69 [pf_R 40 0, pf_I x1, pf_I x2] M (some (pf_I q.1)) q.2 := by
  refine pf_Met.of (by decide +kernel) (Nat.le_of_ble_eq_true rfl) (fun K R => ?_)
  show K 0 [pf_R 40 0, pf_I x1, pf_I x2, pf_U] [] M
  unfold fX12_push at h
  refine r_aload_n R 1 dX12_push_0 rfl rfl ?_
  refine r_iload_n R 2 dX12_push_1 rfl rfl ?_
  refine r_cvI1 R 5 dX12_push_2 rfl lk_X12_236 rfl (c_X12_isDevice G x1 M _ rfl) rfl rfl rfl ?_
  refine r_if_eq R 8 20 dX12_push_5 rfl (by decide) (fun hc => ?_) (fun hc => ?_)
  · have h := pf_ifp hc h
    refine r_iconst R 21 dX12_push_20 rfl ic_iconst_m1 ?_
    obtain rfl := Option.some.inj h
    exact r_ireturn R dX12_push_21 rfl rfl rfl rfl
  · have h := pf_ifn hc h
    refine r_iload_n R 9 dX12_push_8 rfl rfl ?_
    refine r_i2l R 10 dX12_push_9 rfl ?_
    refine r_lconst R 11 dX12_push_10 rfl lc_1 ?_
    refine r_ldc2_w R 14 dX12_push_11 rfl kc_X12_253 ?_
    refine r_csI3 R 17 dX12_push_14 rfl lk_X12_145 (c_X12_in G x2.toInt64 (1 : Int64) (255 : Int64) _ rfl) rfl rfl rfl ?_
    refine r_if_ne R 20 22 dX12_push_17 rfl (by decide) (fun hc => ?_) (fun hc => ?_)
    · have h := pf_ifp hc h
      refine r_iconst R 21 dX12_push_20 rfl ic_iconst_m1 ?_
      obtain rfl := Option.some.inj h
      exact r_ireturn R dX12_push_21 rfl rfl rfl rfl
    · have h := pf_ifn hc h
      refine r_aload_n R 23 dX12_push_22 rfl rfl ?_
      refine r_iload_n R 24 dX12_push_23 rfl rfl ?_
      obtain ⟨r6, hr6, h⟩ := pf_bd h
      refine r_cvI1 R 27 dX12_push_24 rfl lk_X12_321 rfl (c_X12_isTalkedTo G x1 M _ hr6) rfl rfl rfl ?_
      refine r_if_eq R 30 41 dX12_push_27 rfl (by decide) (fun hc => ?_) (fun hc => ?_)
      · have h := pf_ifp hc h
        refine r_bipush R 43 dX12_push_41 rfl ic_bipush_m2 ?_
        obtain rfl := Option.some.inj h
        exact r_ireturn R dX12_push_43 rfl rfl rfl rfl
      · have h := pf_ifn hc h
        refine r_aload_n R 31 dX12_push_30 rfl rfl ?_
        refine r_getfield R 34 dX12_push_31 rfl fl_X12_76 rfl (show _ = pf_R 63 0 from rfl) ?_
        refine r_iload_n R 35 dX12_push_34 rfl rfl ?_
        obtain ⟨hi7, h⟩ := pf_gd h
        refine r_iaload R 36 dX12_push_35 rfl ⟨rfl, rfl⟩ (pf_in_iff.mp hi7) ?_
        refine r_bipush R 38 dX12_push_36 rfl ic_bipush_m4 ?_
        refine r_icmp_eq R 41 44 dX12_push_38 rfl (by decide) (fun hc => ?_) (fun hc => ?_)
        · have h := pf_ifp hc h
          refine r_aload_n R 45 dX12_push_44 rfl rfl ?_
          refine r_getfield R 48 dX12_push_45 rfl fl_X12_76 rfl (show _ = pf_R 63 0 from rfl) ?_
          refine r_iload_n R 49 dX12_push_48 rfl rfl ?_
          refine r_iload_n R 50 dX12_push_49 rfl rfl ?_
          obtain ⟨hi8, h⟩ := pf_gd h
          refine r_iastore R 51 dX12_push_50 rfl ⟨rfl, rfl⟩ (pf_in_iff.mp hi8) ?_
          refine r_aload_n R 52 dX12_push_51 rfl rfl ?_
          refine r_iload_n R 53 dX12_push_52 rfl rfl ?_
          obtain ⟨q9, hq9, h⟩ := pf_bd h
          refine r_cvI1 R 56 dX12_push_53 rfl lk_X12_324 rfl (c_X12_pushes G x1 (pf_up M 63 0 x1.toNatClampNeg x2) _ hq9) rfl rfl rfl ?_
          refine r_istore_n R 57 dX12_push_56 rfl rfl (show _ = [pf_R 40 0, pf_I x1, pf_I x2, pf_I q9.1] from rfl) ?_
          refine r_iload_n R 58 dX12_push_57 rfl rfl ?_
          refine r_bipush R 60 dX12_push_58 rfl ic_bipush_m3 ?_
          refine r_icmp_ne R 63 71 dX12_push_60 rfl (by decide) (fun hc => ?_) (fun hc => ?_)
          · have h := pf_ifp hc h
            refine r_aload_n R 64 dX12_push_63 rfl rfl ?_
            refine r_getfield R 67 dX12_push_64 rfl fl_X12_76 rfl (show _ = pf_R 63 0 from rfl) ?_
            refine r_iload_n R 68 dX12_push_67 rfl rfl ?_
            refine r_bipush R 70 dX12_push_68 rfl ic_bipush_m4 ?_
            obtain ⟨hi10, h⟩ := pf_gd h
            refine r_iastore R 71 dX12_push_70 rfl ⟨rfl, rfl⟩ (pf_in_iff.mp hi10) ?_
            refine r_iload_n R 72 dX12_push_71 rfl rfl ?_
            obtain rfl := Option.some.inj h
            exact r_ireturn R dX12_push_72 rfl rfl rfl rfl
          · have h := pf_ifn hc h
            refine r_iload_n R 72 dX12_push_71 rfl rfl ?_
            obtain rfl := Option.some.inj h
            exact r_ireturn R dX12_push_72 rfl rfl rfl rfl
        · have h := pf_ifn hc h
          refine r_bipush R 43 dX12_push_41 rfl ic_bipush_m2 ?_
          obtain rfl := Option.some.inj h
          exact r_ireturn R dX12_push_43 rfl rfl rfl rfl
def fX12_put (x1 : Int32) (x2 : Int32) (x3 : Int32) (M : pf_M) : Option (Int32 × pf_M) :=
  (if (fX12_in x1.toInt64 (0 : Int64) (3 : Int64)) = (0 : Int32) then some ((-1 : Int32), M)
  else (if (fX12_in x2.toInt64 (0 : Int64) (7 : Int64)) = (0 : Int32) then some ((-1 : Int32), M)
  else (if (fX12_in x3.toInt64 (0 : Int64) (255 : Int64)) = (0 : Int32) then some ((-1 : Int32), M)
  else (if pf_in (((8 : Int32) * x1) + x2) 32 = true then (if pf_in (((8 : Int32) * x1) + x2) 32 = true then some (M 68 0 (((8 : Int32) * x1) + x2).toNatClampNeg, (pf_up M 68 0 (((8 : Int32) * x1) + x2).toNatClampNeg x3))
  else none)
  else none))))
set_option maxRecDepth 4000 in
theorem c_X12_put (G : pf_G) (x1 : Int32) (x2 : Int32) (x3 : Int32) (M : pf_M) (q : Int32 × pf_M) (h : fX12_put x1 x2 x3 M = some q) : pf_Met G yX12_put cX12_put 5 (some .int) 1 25 [pf_R 40 0, pf_I x1, pf_I x2, pf_I x3] M (some (pf_I q.1)) q.2 := by
  refine pf_Met.of (by decide +kernel) (Nat.le_of_ble_eq_true rfl) (fun K R => ?_)
  show K 0 [pf_R 40 0, pf_I x1, pf_I x2, pf_I x3, pf_U] [] M
  unfold fX12_put at h
  refine r_iload_n R 1 dX12_put_0 rfl rfl ?_
  refine r_i2l R 2 dX12_put_1 rfl ?_
  refine r_lconst R 3 dX12_put_2 rfl lc_0 ?_
  refine r_ldc2_w R 6 dX12_put_3 rfl kc_X12_260 ?_
  refine r_csI3 R 9 dX12_put_6 rfl lk_X12_145 (c_X12_in G x1.toInt64 (0 : Int64) (3 : Int64) _ rfl) rfl rfl rfl ?_
  refine r_if_eq R 12 36 dX12_put_9 rfl (by decide) (fun hc => ?_) (fun hc => ?_)
  · have h := pf_ifp hc h
    refine r_iconst R 37 dX12_put_36 rfl ic_iconst_m1 ?_
    obtain rfl := Option.some.inj h
    exact r_ireturn R dX12_put_37 rfl rfl rfl rfl
  · have h := pf_ifn hc h
    refine r_iload_n R 13 dX12_put_12 rfl rfl ?_
    refine r_i2l R 14 dX12_put_13 rfl ?_
    refine r_lconst R 15 dX12_put_14 rfl lc_0 ?_
    refine r_ldc2_w R 18 dX12_put_15 rfl kc_X12_270 ?_
    refine r_csI3 R 21 dX12_put_18 rfl lk_X12_145 (c_X12_in G x2.toInt64 (0 : Int64) (7 : Int64) _ rfl) rfl rfl rfl ?_
    refine r_if_eq R 24 36 dX12_put_21 rfl (by decide) (fun hc => ?_) (fun hc => ?_)
    · have h := pf_ifp hc h
      refine r_iconst R 37 dX12_put_36 rfl ic_iconst_m1 ?_
      obtain rfl := Option.some.inj h
      exact r_ireturn R dX12_put_37 rfl rfl rfl rfl
    · have h := pf_ifn hc h
      refine r_iload_n R 25 dX12_put_24 rfl rfl ?_
      refine r_i2l R 26 dX12_put_25 rfl ?_
      refine r_lconst R 27 dX12_put_26 rfl lc_0 ?_
      refine r_ldc2_w R 30 dX12_put_27 rfl kc_X12_253 ?_
      refine r_csI3 R 33 dX12_put_30 rfl lk_X12_145 (c_X12_in G x3.toInt64 (0 : Int64) (255 : Int64) _ rfl) rfl rfl rfl ?_
      refine r_if_ne R 36 38 dX12_put_33 rfl (by decide) (fun hc => ?_) (fun hc => ?_)
      · have h := pf_ifp hc h
        refine r_iconst R 37 dX12_put_36 rfl ic_iconst_m1 ?_
        obtain rfl := Option.some.inj h
        exact r_ireturn R dX12_put_37 rfl rfl rfl rfl
      · have h := pf_ifn hc h
        refine r_aload_n R 39 dX12_put_38 rfl rfl ?_
        refine r_getfield R 42 dX12_put_39 rfl fl_X12_91 rfl (show _ = pf_R 68 0 from rfl) ?_
        refine r_bipush R 44 dX12_put_42 rfl ic_bipush_8 ?_
        refine r_iload_n R 45 dX12_put_44 rfl rfl ?_
        refine r_imul R 46 dX12_put_45 rfl ?_
        refine r_iload_n R 47 dX12_put_46 rfl rfl ?_
        refine r_iadd R 48 dX12_put_47 rfl ?_
        obtain ⟨hi3, h⟩ := pf_gd h
        refine r_iaload R 49 dX12_put_48 rfl ⟨rfl, rfl⟩ (pf_in_iff.mp hi3) ?_
        refine r_istore R 51 dX12_put_49 rfl rfl (show _ = [pf_R 40 0, pf_I x1, pf_I x2, pf_I x3, pf_I (M 68 0 (((8 : Int32) * x1) + x2).toNatClampNeg)] from rfl) ?_
        refine r_aload_n R 52 dX12_put_51 rfl rfl ?_
        refine r_getfield R 55 dX12_put_52 rfl fl_X12_91 rfl (show _ = pf_R 68 0 from rfl) ?_
        refine r_bipush R 57 dX12_put_55 rfl ic_bipush_8 ?_
        refine r_iload_n R 58 dX12_put_57 rfl rfl ?_
        refine r_imul R 59 dX12_put_58 rfl ?_
        refine r_iload_n R 60 dX12_put_59 rfl rfl ?_
        refine r_iadd R 61 dX12_put_60 rfl ?_
        refine r_iload_n R 62 dX12_put_61 rfl rfl ?_
        obtain ⟨hi4, h⟩ := pf_gd h
        refine r_iastore R 63 dX12_put_62 rfl ⟨rfl, rfl⟩ (pf_in_iff.mp hi4) ?_
        refine r_iload R 65 dX12_put_63 rfl rfl ?_
        obtain rfl := Option.some.inj h
        exact r_ireturn R dX12_put_65 rfl rfl rfl rfl
