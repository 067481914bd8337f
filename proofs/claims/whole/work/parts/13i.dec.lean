def jX12_editOwn_306 (s306_1 : Int32) (s306_2 : Int32) (s306_3 : Int32) (s306_4 : Int32) (M306 : pf_M) : Option (pf_M) :=
  (if pf_in s306_1 8 = true then some (pf_up M306 70 0 s306_1.toNatClampNeg (s306_2 + (s306_3 + s306_4)))
  else none)
def jX12_editOwn_286 (w286_5 : Int32) (w286_8 : Int32) (s286_1 : Int32) (s286_2 : Int32) (s286_3 : Int32) (M286 : pf_M) : Option (pf_M) :=
  (if w286_8 = (0 : Int32) then jX12_editOwn_306 s286_1 s286_2 s286_3 (0 : Int32) M286
  else (if w286_5 = (1 : Int32) then jX12_editOwn_306 s286_1 s286_2 s286_3 (1 : Int32) M286
  else jX12_editOwn_306 s286_1 s286_2 s286_3 (2 : Int32) M286))
def lX12_editOwn_217 (x2 : Int32) (x3 : Int32) (f217_8 : Int32) (kx217 : pf_M → Option (pf_M)) : Nat → Int32 → pf_M → Option (pf_M)
  | 0, _, _ => none
  | n + 1, v217_9, M217 =>
  (if pf_in x2 4 = true then (if (M217 67 0 x2.toNatClampNeg) ≤ v217_9 then kx217 M217
  else (if f217_8 = (0 : Int32) then kx217 M217
  else (if pf_in x2 4 = true then (if pf_in v217_9 8 = true then (if pf_in ((((16 : Int32) * x3) + (M217 66 0 x2.toNatClampNeg)) + v217_9) 128 = true then (lX12_editOwn_217 x2 x3 f217_8 kx217 n) (v217_9 + (1 : Int32)) (pf_up M217 52 0 ((((16 : Int32) * x3) + (M217 66 0 x2.toNatClampNeg)) + v217_9).toNatClampNeg (M217 75 0 v217_9.toNatClampNeg))
  else none)
  else none)
  else none)))
  else none)
def jX12_editOwn_207 (rec85 : Int32 → pf_M → Option (pf_M)) (w207_9 : Int32) (s207_1 : Int32) (s207_2 : Int32) (M207 : pf_M) : Option (pf_M) :=
  (if pf_in s207_1 64 = true then rec85 (w207_9 + (1 : Int32)) (pf_up M207 69 0 s207_1.toNatClampNeg s207_2)
  else none)
def jX12_editOwn_153 (x2 : Int32) (x4 : Int32) (f85_7 : Int32) (rec85 : Int32 → pf_M → Option (pf_M)) (w153_9 : Int32) (w153_10 : Int32) (s153_1 : Int32) (s153_2 : Int32) (M153 : pf_M) : Option (pf_M) :=
  ((fX12_byteAt s153_1 s153_2 x4 M153).bind fun r23 => (if f85_7 = (0 : Int32) then (if pf_in w153_9 8 = true then jX12_editOwn_207 rec85 w153_9 w153_10 (M153 75 0 w153_9.toNatClampNeg) M153
  else none)
  else (if pf_in x2 4 = true then (if (M153 64 0 x2.toNatClampNeg) < (7 : Int32) then jX12_editOwn_207 rec85 w153_9 w153_10 r23 M153
  else (if pf_in w153_9 8 = true then jX12_editOwn_207 rec85 w153_9 w153_10 (r23 ||| (M153 75 0 w153_9.toNatClampNeg)) M153
  else none))
  else none)))
def lX12_editOwn_85 (x1 : Int32) (x2 : Int32) (x3 : Int32) (x4 : Int32) (f85_7 : Int32) (kx85 : pf_M → Option (pf_M)) : Nat → Int32 → pf_M → Option (pf_M)
  | 0, _, _ => none
  | n + 1, v85_9, M85 =>
  (if pf_in x2 4 = true then (if (M85 67 0 x2.toNatClampNeg) ≤ v85_9 then kx85 M85
  else (if pf_in ((((32 : Int32) * x1) + ((8 : Int32) * x2)) + v85_9) 64 = true then (if pf_in v85_9 8 = true then (if pf_in x2 4 = true then (if (16 : Int32) ≤ (((pf_up M85 75 0 v85_9.toNatClampNeg (M85 69 0 ((((32 : Int32) * x1) + ((8 : Int32) * x2)) + v85_9).toNatClampNeg)) 66 0 x2.toNatClampNeg) + v85_9) then jX12_editOwn_153 x2 x4 f85_7 (lX12_editOwn_85 x1 x2 x3 x4 f85_7 kx85 n) v85_9 ((((32 : Int32) * x1) + ((8 : Int32) * x2)) + v85_9) x3 (0 : Int32) (pf_up M85 75 0 v85_9.toNatClampNeg (M85 69 0 ((((32 : Int32) * x1) + ((8 : Int32) * x2)) + v85_9).toNatClampNeg))
  else (if pf_in x2 4 = true then jX12_editOwn_153 x2 x4 f85_7 (lX12_editOwn_85 x1 x2 x3 x4 f85_7 kx85 n) v85_9 ((((32 : Int32) * x1) + ((8 : Int32) * x2)) + v85_9) x3 (((pf_up M85 75 0 v85_9.toNatClampNeg (M85 69 0 ((((32 : Int32) * x1) + ((8 : Int32) * x2)) + v85_9).toNatClampNeg)) 66 0 x2.toNatClampNeg) + v85_9) (pf_up M85 75 0 v85_9.toNatClampNeg (M85 69 0 ((((32 : Int32) * x1) + ((8 : Int32) * x2)) + v85_9).toNatClampNeg))
  else none))
  else none)
  else none)
  else none))
  else none)
def jX12_editOwn_80 (x1 : Int32) (x2 : Int32) (x3 : Int32) (x4 : Int32) (w80_5 : Int32) (w80_7 : Int32) (s80_0 : Int32) (M80 : pf_M) : Option (pf_M) :=
  lX12_editOwn_85 x1 x2 x3 x4 w80_7 (fun u32_Me85 => lX12_editOwn_217 x2 x3 s80_0 (fun u33_Me217 => (if pf_in (((4 : Int32) * x1) + x2) 8 = true then (if w80_7 = (0 : Int32) then jX12_editOwn_286 w80_5 s80_0 (((4 : Int32) * x1) + x2) (u33_Me217 70 0 (((4 : Int32) * x1) + x2).toNatClampNeg) (0 : Int32) u33_Me217
  else jX12_editOwn_286 w80_5 s80_0 (((4 : Int32) * x1) + x2) (u33_Me217 70 0 (((4 : Int32) * x1) + x2).toNatClampNeg) (1 : Int32) u33_Me217)
  else none)) pf_fu (0 : Int32) u32_Me85) pf_fu (0 : Int32) M80
def jX12_editOwn_79 (x1 : Int32) (x2 : Int32) (x3 : Int32) (x4 : Int32) (w79_5 : Int32) (w79_7 : Int32) (M79 : pf_M) : Option (pf_M) :=
  jX12_editOwn_80 x1 x2 x3 x4 w79_5 w79_7 (0 : Int32) M79
def jX12_editOwn_53 (x1 : Int32) (x2 : Int32) (x3 : Int32) (x4 : Int32) (w53_5 : Int32) (w53_6 : Int32) (s53_0 : Int32) (M53 : pf_M) : Option (pf_M) :=
  (if w53_5 = (0 : Int32) then jX12_editOwn_79 x1 x2 x3 x4 w53_5 s53_0 M53
  else (if w53_6 = (0 : Int32) then jX12_editOwn_79 x1 x2 x3 x4 w53_5 s53_0 M53
  else (if pf_in x2 4 = true then (if (M53 66 0 x2.toNatClampNeg) < (4 : Int32) then jX12_editOwn_79 x1 x2 x3 x4 w53_5 s53_0 M53
  else jX12_editOwn_80 x1 x2 x3 x4 w53_5 s53_0 (1 : Int32) M53)
  else none)))
def jX12_editOwn_52 (x1 : Int32) (x2 : Int32) (x3 : Int32) (x4 : Int32) (w52_5 : Int32) (w52_6 : Int32) (M52 : pf_M) : Option (pf_M) :=
  jX12_editOwn_53 x1 x2 x3 x4 w52_5 w52_6 (0 : Int32) M52
def jX12_editOwn_35 (x1 : Int32) (x2 : Int32) (x3 : Int32) (x4 : Int32) (w35_5 : Int32) (s35_0 : Int32) (M35 : pf_M) : Option (pf_M) :=
  (if w35_5 = (1 : Int32) then jX12_editOwn_52 x1 x2 x3 x4 w35_5 s35_0 M35
  else (if s35_0 = (0 : Int32) then jX12_editOwn_52 x1 x2 x3 x4 w35_5 s35_0 M35
  else jX12_editOwn_53 x1 x2 x3 x4 w35_5 s35_0 (1 : Int32) M35))
def fX12_editOwn (x1 : Int32) (x2 : Int32) (x3 : Int32) (x4 : Int32) (M : pf_M) : Option (pf_M) :=
  (if pf_in x2 4 = true then (if pf_in x2 4 = true then (if pf_in x2 4 = true then (if (16 : Int32) < ((M 66 0 x2.toNatClampNeg) + (M 67 0 x2.toNatClampNeg)) then jX12_editOwn_35 x1 x2 x3 x4 (((M 64 0 x2.toNatClampNeg) - (1 : Int32)) - ((M 64 0 x2.toNatClampNeg) - (1 : Int32)) / (3 : Int32) * (3 : Int32)) (0 : Int32) M
  else jX12_editOwn_35 x1 x2 x3 x4 (((M 64 0 x2.toNatClampNeg) - (1 : Int32)) - ((M 64 0 x2.toNatClampNeg) - (1 : Int32)) / (3 : Int32) * (3 : Int32)) (1 : Int32) M)
  else none)
  else none)
  else none)
set_option maxRecDepth 4000 in
theorem c_X12_editOwn (G : pf_G) (x1 : Int32) (x2 : Int32) (x3 : Int32) (x4 : Int32) (M : pf_M) (q : pf_M) (h : fX12_editOwn x1 x2 x3 x4 M = some q) : pf_Met G yX12_editOwn cX12_editOwn 12 (none) 3 74 [pf_R 40 0, pf_I x1, pf_I x2, pf_I x3, pf_I x4] M none q := by
  refine pf_Met.of (by decide +kernel) (Nat.le_of_ble_eq_true rfl) (fun K R => ?_)
  show K 0 [pf_R 40 0, pf_I x1, pf_I x2, pf_I x3, pf_I x4, pf_U, pf_U, pf_U, pf_U, pf_U, pf_U, pf_U] [] M
  have hj306 : ∀ (s306_1 : Int32) (s306_2 : Int32) (s306_3 : Int32) (s306_4 : Int32) (M306 : pf_M), jX12_editOwn_306 s306_1 s306_2 s306_3 s306_4 M306 = some q → K 306 [pf_U, pf_U, pf_U, pf_U, pf_U, pf_U, pf_U, pf_U, pf_U, pf_U, pf_U, pf_U] [pf_I s306_4, pf_I s306_3, pf_I s306_2, pf_I s306_1, pf_R 70 0] M306 := by
    intro s306_1 s306_2 s306_3 s306_4 M306 h
    unfold jX12_editOwn_306 at h
    refine r_iadd R 307 dX12_editOwn_306 rfl ?_
    refine r_iadd R 308 dX12_editOwn_307 rfl ?_
    obtain ⟨hi17, h⟩ := pf_gd h
    refine r_iastore R 309 dX12_editOwn_308 rfl ⟨rfl, rfl⟩ (pf_in_iff.mp hi17) ?_
    obtain rfl := Option.some.inj h
    exact r_return_ R dX12_editOwn_309 rfl rfl rfl
  have hj286 : ∀ (w286_5 : Int32) (w286_8 : Int32) (s286_1 : Int32) (s286_2 : Int32) (s286_3 : Int32) (M286 : pf_M), jX12_editOwn_286 w286_5 w286_8 s286_1 s286_2 s286_3 M286 = some q → K 286 [pf_U, pf_U, pf_U, pf_U, pf_U, pf_I w286_5, pf_U, pf_U, pf_I w286_8, pf_U, pf_U, pf_U] [pf_I s286_3, pf_I s286_2, pf_I s286_1, pf_R 70 0] M286 := by
    intro w286_5 w286_8 s286_1 s286_2 s286_3 M286 h
    unfold jX12_editOwn_286 at h
    refine r_iload R 288 dX12_editOwn_286 rfl rfl ?_
    refine r_if_ne R 291 295 dX12_editOwn_288 rfl (by decide) (fun hc => ?_) (fun hc => ?_)
    · have h := pf_ifp hc h
      refine r_iconst R 292 dX12_editOwn_291 rfl ic_iconst_0 ?_
      refine r_goto R 306 dX12_editOwn_292 (by decide) ?_
      refine r_fg R [true, true, true, true, true, false, true, true, false, true, true, true] (show _ = [pf_U, pf_U, pf_U, pf_U, pf_U, pf_U, pf_U, pf_U, pf_U, pf_U, pf_U, pf_U] from rfl) ?_
      exact hj306 _ _ _ _ _ h
    · have h := pf_ifn hc h
      refine r_iload R 297 dX12_editOwn_295 rfl rfl ?_
      refine r_iconst R 298 dX12_editOwn_297 rfl ic_iconst_1 ?_
      refine r_icmp_ne R 301 305 dX12_editOwn_298 rfl (by decide) (fun hc => ?_) (fun hc => ?_)
      · have h := pf_ifp hc h
        refine r_iconst R 302 dX12_editOwn_301 rfl ic_iconst_1 ?_
        refine r_goto R 306 dX12_editOwn_302 (by decide) ?_
        refine r_fg R [true, true, true, true, true, false, true, true, false, true, true, true] (show _ = [pf_U, pf_U, pf_U, pf_U, pf_U, pf_U, pf_U, pf_U, pf_U, pf_U, pf_U, pf_U] from rfl) ?_
        exact hj306 _ _ _ _ _ h
      · have h := pf_ifn hc h
        refine r_iconst R 306 dX12_editOwn_305 rfl ic_iconst_2 ?_
        refine r_fg R [true, true, true, true, true, false, true, true, false, true, true, true] (show _ = [pf_U, pf_U, pf_U, pf_U, pf_U, pf_U, pf_U, pf_U, pf_U, pf_U, pf_U, pf_U] from rfl) ?_
        exact hj306 _ _ _ _ _ h
  have hl217 : ∀ (f217_5 : Int32) (f217_7 : Int32) (f217_8 : Int32), ∀ (kx217 : pf_M → Option (pf_M)), (∀ (Me217 : pf_M), kx217 Me217 = some q → K 265 [pf_R 40 0, pf_I x1, pf_I x2, pf_U, pf_U, pf_I f217_5, pf_U, pf_I f217_7, pf_I f217_8, pf_U, pf_U, pf_U] [] Me217) → ∀ (n : Nat) (v217_9 : Int32) (M217 : pf_M), lX12_editOwn_217 x2 x3 f217_8 kx217 n v217_9 M217 = some q → K 217 [pf_R 40 0, pf_I x1, pf_I x2, pf_I x3, pf_U, pf_I f217_5, pf_U, pf_I f217_7, pf_I f217_8, pf_I v217_9, pf_U, pf_U] [] M217 := by
    intro f217_5 f217_7 f217_8 kx217 hkx217 n
    induction n with
    | zero =>
      intro v217_9 M217 h
      rw [lX12_editOwn_217] at h
      cases h
    | succ n ih217 =>
        intro v217_9 M217 h
        rw [lX12_editOwn_217] at h
        refine r_iload R 219 dX12_editOwn_217 rfl rfl ?_
        refine r_aload_n R 220 dX12_editOwn_219 rfl rfl ?_
        refine r_getfield R 223 dX12_editOwn_220 rfl fl_X12_88 rfl (show _ = pf_R 67 0 from rfl) ?_
        refine r_iload_n R 224 dX12_editOwn_223 rfl rfl ?_
        obtain ⟨hi18, h⟩ := pf_gd h
        refine r_iaload R 225 dX12_editOwn_224 rfl ⟨rfl, rfl⟩ (pf_in_iff.mp hi18) ?_
        refine r_icmp_ge R 228 265 dX12_editOwn_225 rfl (by decide) (fun hc => ?_) (fun hc => ?_)
        · have h := pf_ifp hc h
          refine r_fg R [true, true, true, false, true, true, true, true, true, false, true, true] (show _ = [pf_R 40 0, pf_I x1, pf_I x2, pf_U, pf_U, pf_I f217_5, pf_U, pf_I f217_7, pf_I f217_8, pf_U, pf_U, pf_U] from rfl) ?_
          exact hkx217 _ h
        · have h := pf_ifn hc h
          refine r_iload R 230 dX12_editOwn_228 rfl rfl ?_
          refine r_if_eq R 233 265 dX12_editOwn_230 rfl (by decide) (fun hc => ?_) (fun hc => ?_)
          · have h := pf_ifp hc h
            refine r_fg R [true, true, true, false, true, true, true, true, true, false, true, true] (show _ = [pf_R 40 0, pf_I x1, pf_I x2, pf_U, pf_U, pf_I f217_5, pf_U, pf_I f217_7, pf_I f217_8, pf_U, pf_U, pf_U] from rfl) ?_
            exact hkx217 _ h
          · have h := pf_ifn hc h
            refine r_aload_n R 234 dX12_editOwn_233 rfl rfl ?_
            refine r_getfield R 237 dX12_editOwn_234 rfl fl_X12_43 rfl (show _ = pf_R 52 0 from rfl) ?_
            refine r_bipush R 239 dX12_editOwn_237 rfl ic_bipush_16 ?_
            refine r_iload_n R 240 dX12_editOwn_239 rfl rfl ?_
            refine r_imul R 241 dX12_editOwn_240 rfl ?_
            refine r_aload_n R 242 dX12_editOwn_241 rfl rfl ?_
            refine r_getfield R 245 dX12_editOwn_242 rfl fl_X12_85 rfl (show _ = pf_R 66 0 from rfl) ?_
            refine r_iload_n R 246 dX12_editOwn_245 rfl rfl ?_
            obtain ⟨hi19, h⟩ := pf_gd h
            refine r_iaload R 247 dX12_editOwn_246 rfl ⟨rfl, rfl⟩ (pf_in_iff.mp hi19) ?_
            refine r_iadd R 248 dX12_editOwn_247 rfl ?_
            refine r_iload R 250 dX12_editOwn_248 rfl rfl ?_
            refine r_iadd R 251 dX12_editOwn_250 rfl ?_
            refine r_aload_n R 252 dX12_editOwn_251 rfl rfl ?_
            refine r_getfield R 255 dX12_editOwn_252 rfl fl_X12_112 rfl (show _ = pf_R 75 0 from rfl) ?_
            refine r_iload R 257 dX12_editOwn_255 rfl rfl ?_
            obtain ⟨hi20, h⟩ := pf_gd h
            refine r_iaload R 258 dX12_editOwn_257 rfl ⟨rfl, rfl⟩ (pf_in_iff.mp hi20) ?_
            obtain ⟨hi21, h⟩ := pf_gd h
            refine r_iastore R 259 dX12_editOwn_258 rfl ⟨rfl, rfl⟩ (pf_in_iff.mp hi21) ?_
            refine r_iinc R 262 dX12_editOwn_259 rfl rfl ic_iconst_1 (show _ = [pf_R 40 0, pf_I x1, pf_I x2, pf_I x3, pf_U, pf_I f217_5, pf_U, pf_I f217_7, pf_I f217_8, pf_I (v217_9 + (1 : Int32)), pf_U, pf_U] from rfl) ?_
            refine r_goto R 217 dX12_editOwn_262 (by decide) ?_
            exact ih217 _ _ h
  have hl85 : ∀ (f85_5 : Int32) (f85_7 : Int32) (f85_8 : Int32), ∀ (kx85 : pf_M → Option (pf_M)), (∀ (Me85 : pf_M), kx85 Me85 = some q → K 214 [pf_R 40 0, pf_I x1, pf_I x2, pf_I x3, pf_U, pf_I f85_5, pf_U, pf_I f85_7, pf_I f85_8, pf_U, pf_U, pf_U] [] Me85) → ∀ (n : Nat) (v85_9 : Int32) (M85 : pf_M), lX12_editOwn_85 x1 x2 x3 x4 f85_7 kx85 n v85_9 M85 = some q → K 85 [pf_R 40 0, pf_I x1, pf_I x2, pf_I x3, pf_I x4, pf_I f85_5, pf_U, pf_I f85_7, pf_I f85_8, pf_I v85_9, pf_U, pf_U] [] M85 := by
    intro f85_5 f85_7 f85_8 kx85 hkx85 n
    induction n with
    | zero =>
      intro v85_9 M85 h
      rw [lX12_editOwn_85] at h
      cases h
    | succ n ih85 =>
        have hj207 : ∀ (w207_9 : Int32) (s207_1 : Int32) (s207_2 : Int32) (M207 : pf_M), jX12_editOwn_207 (lX12_editOwn_85 x1 x2 x3 x4 f85_7 kx85 n) w207_9 s207_1 s207_2 M207 = some q → K 207 [pf_R 40 0, pf_I x1, pf_I x2, pf_I x3, pf_I x4, pf_I f85_5, pf_U, pf_I f85_7, pf_I f85_8, pf_I w207_9, pf_U, pf_U] [pf_I s207_2, pf_I s207_1, pf_R 69 0] M207 := by
          intro w207_9 s207_1 s207_2 M207 h
          unfold jX12_editOwn_207 at h
          obtain ⟨hi22, h⟩ := pf_gd h
          refine r_iastore R 208 dX12_editOwn_207 rfl ⟨rfl, rfl⟩ (pf_in_iff.mp hi22) ?_
          refine r_iinc R 211 dX12_editOwn_208 rfl rfl ic_iconst_1 (show _ = [pf_R 40 0, pf_I x1, pf_I x2, pf_I x3, pf_I x4, pf_I f85_5, pf_U, pf_I f85_7, pf_I f85_8, pf_I (w207_9 + (1 : Int32)), pf_U, pf_U] from rfl) ?_
          refine r_goto R 85 dX12_editOwn_211 (by decide) ?_
          exact ih85 _ _ h
        have hj153 : ∀ (w153_9 : Int32) (w153_10 : Int32) (s153_1 : Int32) (s153_2 : Int32) (M153 : pf_M), jX12_editOwn_153 x2 x4 f85_7 (lX12_editOwn_85 x1 x2 x3 x4 f85_7 kx85 n) w153_9 w153_10 s153_1 s153_2 M153 = some q → K 153 [pf_R 40 0, pf_I x1, pf_I x2, pf_I x3, pf_I x4, pf_I f85_5, pf_U, pf_I f85_7, pf_I f85_8, pf_I w153_9, pf_I w153_10, pf_U] [pf_I s153_2, pf_I s153_1, pf_R 40 0] M153 := by
          intro w153_9 w153_10 s153_1 s153_2 M153 h
          unfold jX12_editOwn_153 at h
          refine r_iload R 155 dX12_editOwn_153 rfl rfl ?_
          obtain ⟨r23, hr23, h⟩ := pf_bd h
          refine r_cvI3 R 158 dX12_editOwn_155 rfl lk_X12_247 rfl (c_X12_byteAt G s153_1 s153_2 x4 M153 _ hr23) rfl rfl rfl ?_
          refine r_istore R 160 dX12_editOwn_158 rfl rfl (show _ = [pf_R 40 0, pf_I x1, pf_I x2, pf_I x3, pf_I x4, pf_I f85_5, pf_U, pf_I f85_7, pf_I f85_8, pf_I w153_9, pf_I w153_10, pf_I r23] from rfl) ?_
          refine r_aload_n R 161 dX12_editOwn_160 rfl rfl ?_
          refine r_getfield R 164 dX12_editOwn_161 rfl fl_X12_94 rfl (show _ = pf_R 69 0 from rfl) ?_
          refine r_iload R 166 dX12_editOwn_164 rfl rfl ?_
          refine r_iload R 168 dX12_editOwn_166 rfl rfl ?_
          refine r_if_ne R 171 181 dX12_editOwn_168 rfl (by decide) (fun hc => ?_) (fun hc => ?_)
          · have h := pf_ifp hc h
            refine r_aload_n R 172 dX12_editOwn_171 rfl rfl ?_
            refine r_getfield R 175 dX12_editOwn_172 rfl fl_X12_112 rfl (show _ = pf_R 75 0 from rfl) ?_
            refine r_iload R 177 dX12_editOwn_175 rfl rfl ?_
            obtain ⟨hi26, h⟩ := pf_gd h
            refine r_iaload R 178 dX12_editOwn_177 rfl ⟨rfl, rfl⟩ (pf_in_iff.mp hi26) ?_
            refine r_goto R 207 dX12_editOwn_178 (by decide) ?_
            refine r_fg R [true, true, true, true, true, true, true, true, true, true, false, false] (show _ = [pf_R 40 0, pf_I x1, pf_I x2, pf_I x3, pf_I x4, pf_I f85_5, pf_U, pf_I f85_7, pf_I f85_8, pf_I w153_9, pf_U, pf_U] from rfl) ?_
            exact hj207 _ _ _ _ h
          · have h := pf_ifn hc h
            refine r_aload_n R 182 dX12_editOwn_181 rfl rfl ?_
            refine r_getfield R 185 dX12_editOwn_182 rfl fl_X12_79 rfl (show _ = pf_R 64 0 from rfl) ?_
            refine r_iload_n R 186 dX12_editOwn_185 rfl rfl ?_
            obtain ⟨hi24, h⟩ := pf_gd h
            refine r_iaload R 187 dX12_editOwn_186 rfl ⟨rfl, rfl⟩ (pf_in_iff.mp hi24) ?_
            refine r_bipush R 189 dX12_editOwn_187 rfl ic_bipush_7 ?_
            refine r_icmp_lt R 192 205 dX12_editOwn_189 rfl (by decide) (fun hc => ?_) (fun hc => ?_)
            · have h := pf_ifp hc h
              refine r_iload R 207 dX12_editOwn_205 rfl rfl ?_
              refine r_fg R [true, true, true, true, true, true, true, true, true, true, false, false] (show _ = [pf_R 40 0, pf_I x1, pf_I x2, pf_I x3, pf_I x4, pf_I f85_5, pf_U, pf_I f85_7, pf_I f85_8, pf_I w153_9, pf_U, pf_U] from rfl) ?_
              exact hj207 _ _ _ _ h
            · have h := pf_ifn hc h
              refine r_iload R 194 dX12_editOwn_192 rfl rfl ?_
              refine r_aload_n R 195 dX12_editOwn_194 rfl rfl ?_
              refine r_getfield R 198 dX12_editOwn_195 rfl fl_X12_112 rfl (show _ = pf_R 75 0 from rfl) ?_
              refine r_iload R 200 dX12_editOwn_198 rfl rfl ?_
              obtain ⟨hi25, h⟩ := pf_gd h
              refine r_iaload R 201 dX12_editOwn_200 rfl ⟨rfl, rfl⟩ (pf_in_iff.mp hi25) ?_
              refine r_ior R 202 dX12_editOwn_201 rfl ?_
              refine r_goto R 207 dX12_editOwn_202 (by decide) ?_
              refine r_fg R [true, true, true, true, true, true, true, true, true, true, false, false] (show _ = [pf_R 40 0, pf_I x1, pf_I x2, pf_I x3, pf_I x4, pf_I f85_5, pf_U, pf_I f85_7, pf_I f85_8, pf_I w153_9, pf_U, pf_U] from rfl) ?_
              exact hj207 _ _ _ _ h
        intro v85_9 M85 h
        rw [lX12_editOwn_85] at h
        refine r_iload R 87 dX12_editOwn_85 rfl rfl ?_
        refine r_aload_n R 88 dX12_editOwn_87 rfl rfl ?_
        refine r_getfield R 91 dX12_editOwn_88 rfl fl_X12_88 rfl (show _ = pf_R 67 0 from rfl) ?_
        refine r_iload_n R 92 dX12_editOwn_91 rfl rfl ?_
        obtain ⟨hi27, h⟩ := pf_gd h
        refine r_iaload R 93 dX12_editOwn_92 rfl ⟨rfl, rfl⟩ (pf_in_iff.mp hi27) ?_
        refine r_icmp_ge R 96 214 dX12_editOwn_93 rfl (by decide) (fun hc => ?_) (fun hc => ?_)
        · have h := pf_ifp hc h
          refine r_fg R [true, true, true, true, false, true, true, true, true, false, true, true] (show _ = [pf_R 40 0, pf_I x1, pf_I x2, pf_I x3, pf_U, pf_I f85_5, pf_U, pf_I f85_7, pf_I f85_8, pf_U, pf_U, pf_U] from rfl) ?_
          exact hkx85 _ h
        · have h := pf_ifn hc h
          refine r_bipush R 98 dX12_editOwn_96 rfl ic_bipush_32 ?_
          refine r_iload_n R 99 dX12_editOwn_98 rfl rfl ?_
          refine r_imul R 100 dX12_editOwn_99 rfl ?_
          refine r_bipush R 102 dX12_editOwn_100 rfl ic_bipush_8 ?_
          refine r_iload_n R 103 dX12_editOwn_102 rfl rfl ?_
          refine r_imul R 104 dX12_editOwn_103 rfl ?_
          refine r_iadd R 105 dX12_editOwn_104 rfl ?_
          refine r_iload R 107 dX12_editOwn_105 rfl rfl ?_
          refine r_iadd R 108 dX12_editOwn_107 rfl ?_
          refine r_istore R 110 dX12_editOwn_108 rfl rfl (show _ = [pf_R 40 0, pf_I x1, pf_I x2, pf_I x3, pf_I x4, pf_I f85_5, pf_U, pf_I f85_7, pf_I f85_8, pf_I v85_9, pf_I ((((32 : Int32) * x1) + ((8 : Int32) * x2)) + v85_9), pf_U] from rfl) ?_
          refine r_aload_n R 111 dX12_editOwn_110 rfl rfl ?_
          refine r_getfield R 114 dX12_editOwn_111 rfl fl_X12_112 rfl (show _ = pf_R 75 0 from rfl) ?_
          refine r_iload R 116 dX12_editOwn_114 rfl rfl ?_
          refine r_aload_n R 117 dX12_editOwn_116 rfl rfl ?_
          refine r_getfield R 120 dX12_editOwn_117 rfl fl_X12_94 rfl (show _ = pf_R 69 0 from rfl) ?_
          refine r_iload R 122 dX12_editOwn_120 rfl rfl ?_
          obtain ⟨hi28, h⟩ := pf_gd h
          refine r_iaload R 123 dX12_editOwn_122 rfl ⟨rfl, rfl⟩ (pf_in_iff.mp hi28) ?_
          obtain ⟨hi29, h⟩ := pf_gd h
          refine r_iastore R 124 dX12_editOwn_123 rfl ⟨rfl, rfl⟩ (pf_in_iff.mp hi29) ?_
          refine r_aload_n R 125 dX12_editOwn_124 rfl rfl ?_
          refine r_iload_n R 126 dX12_editOwn_125 rfl rfl ?_
          refine r_aload_n R 127 dX12_editOwn_126 rfl rfl ?_
          refine r_getfield R 130 dX12_editOwn_127 rfl fl_X12_85 rfl (show _ = pf_R 66 0 from rfl) ?_
          refine r_iload_n R 131 dX12_editOwn_130 rfl rfl ?_
          obtain ⟨hi30, h⟩ := pf_gd h
          refine r_iaload R 132 dX12_editOwn_131 rfl ⟨rfl, rfl⟩ (pf_in_iff.mp hi30) ?_
          refine r_iload R 134 dX12_editOwn_132 rfl rfl ?_
          refine r_iadd R 135 dX12_editOwn_134 rfl ?_
          refine r_bipush R 137 dX12_editOwn_135 rfl ic_bipush_16 ?_
          refine r_icmp_ge R 140 152 dX12_editOwn_137 rfl (by decide) (fun hc => ?_) (fun hc => ?_)
          · have h := pf_ifp hc h
            refine r_iconst R 153 dX12_editOwn_152 rfl ic_iconst_0 ?_
            exact hj153 _ _ _ _ _ h
          · have h := pf_ifn hc h
            refine r_aload_n R 141 dX12_editOwn_140 rfl rfl ?_
            refine r_getfield R 144 dX12_editOwn_141 rfl fl_X12_85 rfl (show _ = pf_R 66 0 from rfl) ?_
            refine r_iload_n R 145 dX12_editOwn_144 rfl rfl ?_
            obtain ⟨hi31, h⟩ := pf_gd h
            refine r_iaload R 146 dX12_editOwn_145 rfl ⟨rfl, rfl⟩ (pf_in_iff.mp hi31) ?_
            refine r_iload R 148 dX12_editOwn_146 rfl rfl ?_
            refine r_iadd R 149 dX12_editOwn_148 rfl ?_
            refine r_goto R 153 dX12_editOwn_149 (by decide) ?_
            exact hj153 _ _ _ _ _ h
  have hj80 : ∀ (w80_5 : Int32) (w80_7 : Int32) (s80_0 : Int32) (M80 : pf_M), jX12_editOwn_80 x1 x2 x3 x4 w80_5 w80_7 s80_0 M80 = some q → K 80 [pf_R 40 0, pf_I x1, pf_I x2, pf_I x3, pf_I x4, pf_I w80_5, pf_U, pf_I w80_7, pf_U, pf_U, pf_U, pf_U] [pf_I s80_0] M80 := by
    intro w80_5 w80_7 s80_0 M80 h
    unfold jX12_editOwn_80 at h
    refine r_istore R 82 dX12_editOwn_80 rfl rfl (show _ = [pf_R 40 0, pf_I x1, pf_I x2, pf_I x3, pf_I x4, pf_I w80_5, pf_U, pf_I w80_7, pf_I s80_0, pf_U, pf_U, pf_U] from rfl) ?_
    refine r_iconst R 83 dX12_editOwn_82 rfl ic_iconst_0 ?_
    refine r_istore R 85 dX12_editOwn_83 rfl rfl (show _ = [pf_R 40 0, pf_I x1, pf_I x2, pf_I x3, pf_I x4, pf_I w80_5, pf_U, pf_I w80_7, pf_I s80_0, pf_I (0 : Int32), pf_U, pf_U] from rfl) ?_
    refine hl85 _ _ _ _ (fun u32_Me85 h => ?_) pf_fu _ _ h
    refine r_iconst R 215 dX12_editOwn_214 rfl ic_iconst_0 ?_
    refine r_istore R 217 dX12_editOwn_215 rfl rfl (show _ = [pf_R 40 0, pf_I x1, pf_I x2, pf_I x3, pf_U, pf_I w80_5, pf_U, pf_I w80_7, pf_I s80_0, pf_I (0 : Int32), pf_U, pf_U] from rfl) ?_
    refine hl217 _ _ _ _ (fun u33_Me217 h => ?_) pf_fu _ _ h
    refine r_aload_n R 266 dX12_editOwn_265 rfl rfl ?_
    refine r_getfield R 269 dX12_editOwn_266 rfl fl_X12_97 rfl (show _ = pf_R 70 0 from rfl) ?_
    refine r_iconst R 270 dX12_editOwn_269 rfl ic_iconst_4 ?_
    refine r_iload_n R 271 dX12_editOwn_270 rfl rfl ?_
    refine r_imul R 272 dX12_editOwn_271 rfl ?_
    refine r_iload_n R 273 dX12_editOwn_272 rfl rfl ?_
    refine r_iadd R 274 dX12_editOwn_273 rfl ?_
    refine r_dup2 R 275 dX12_editOwn_274 rfl rfl rfl ?_
    obtain ⟨hi34, h⟩ := pf_gd h
    refine r_iaload R 276 dX12_editOwn_275 rfl ⟨rfl, rfl⟩ (pf_in_iff.mp hi34) ?_
    refine r_iload R 278 dX12_editOwn_276 rfl rfl ?_
    refine r_if_eq R 281 285 dX12_editOwn_278 rfl (by decide) (fun hc => ?_) (fun hc => ?_)
    · have h := pf_ifp hc h
      refine r_iconst R 286 dX12_editOwn_285 rfl ic_iconst_0 ?_
      refine r_fg R [false, false, false, true, true, true, true, false, true, true, true, true] (show _ = [pf_U, pf_U, pf_U, pf_U, pf_U, pf_I w80_5, pf_U, pf_U, pf_I s80_0, pf_U, pf_U, pf_U] from rfl) ?_
      exact hj286 _ _ _ _ _ _ h
    · have h := pf_ifn hc h
      refine r_iconst R 282 dX12_editOwn_281 rfl ic_iconst_1 ?_
      refine r_goto R 286 dX12_editOwn_282 (by decide) ?_
      refine r_fg R [false, false, false, true, true, true, true, false, true, true, true, true] (show _ = [pf_U, pf_U, pf_U, pf_U, pf_U, pf_I w80_5, pf_U, pf_U, pf_I s80_0, pf_U, pf_U, pf_U] from rfl) ?_
      exact hj286 _ _ _ _ _ _ h
  have hj79 : ∀ (w79_5 : Int32) (w79_7 : Int32) (M79 : pf_M), jX12_editOwn_79 x1 x2 x3 x4 w79_5 w79_7 M79 = some q → K 79 [pf_R 40 0, pf_I x1, pf_I x2, pf_I x3, pf_I x4, pf_I w79_5, pf_U, pf_I w79_7, pf_U, pf_U, pf_U, pf_U] [] M79 := by
    intro w79_5 w79_7 M79 h
    unfold jX12_editOwn_79 at h
    refine r_iconst R 80 dX12_editOwn_79 rfl ic_iconst_0 ?_
    exact hj80 _ _ _ _ h
  have hj53 : ∀ (w53_5 : Int32) (w53_6 : Int32) (s53_0 : Int32) (M53 : pf_M), jX12_editOwn_53 x1 x2 x3 x4 w53_5 w53_6 s53_0 M53 = some q → K 53 [pf_R 40 0, pf_I x1, pf_I x2, pf_I x3, pf_I x4, pf_I w53_5, pf_I w53_6, pf_U, pf_U, pf_U, pf_U, pf_U] [pf_I s53_0] M53 := by
    intro w53_5 w53_6 s53_0 M53 h
    unfold jX12_editOwn_53 at h
    refine r_istore R 55 dX12_editOwn_53 rfl rfl (show _ = [pf_R 40 0, pf_I x1, pf_I x2, pf_I x3, pf_I x4, pf_I w53_5, pf_I w53_6, pf_I s53_0, pf_U, pf_U, pf_U, pf_U] from rfl) ?_
    refine r_iload R 57 dX12_editOwn_55 rfl rfl ?_
    refine r_if_eq R 60 79 dX12_editOwn_57 rfl (by decide) (fun hc => ?_) (fun hc => ?_)
    · have h := pf_ifp hc h
      refine r_fg R [true, true, true, true, true, true, false, true, true, true, true, true] (show _ = [pf_R 40 0, pf_I x1, pf_I x2, pf_I x3, pf_I x4, pf_I w53_5, pf_U, pf_I s53_0, pf_U, pf_U, pf_U, pf_U] from rfl) ?_
      exact hj79 _ _ _ h
    · have h := pf_ifn hc h
      refine r_iload R 62 dX12_editOwn_60 rfl rfl ?_
      refine r_if_eq R 65 79 dX12_editOwn_62 rfl (by decide) (fun hc => ?_) (fun hc => ?_)
      · have h := pf_ifp hc h
        refine r_fg R [true, true, true, true, true, true, false, true, true, true, true, true] (show _ = [pf_R 40 0, pf_I x1, pf_I x2, pf_I x3, pf_I x4, pf_I w53_5, pf_U, pf_I s53_0, pf_U, pf_U, pf_U, pf_U] from rfl) ?_
        exact hj79 _ _ _ h
      · have h := pf_ifn hc h
        refine r_aload_n R 66 dX12_editOwn_65 rfl rfl ?_
        refine r_getfield R 69 dX12_editOwn_66 rfl fl_X12_85 rfl (show _ = pf_R 66 0 from rfl) ?_
        refine r_iload_n R 70 dX12_editOwn_69 rfl rfl ?_
        obtain ⟨hi35, h⟩ := pf_gd h
        refine r_iaload R 71 dX12_editOwn_70 rfl ⟨rfl, rfl⟩ (pf_in_iff.mp hi35) ?_
        refine r_iconst R 72 dX12_editOwn_71 rfl ic_iconst_4 ?_
        refine r_icmp_lt R 75 79 dX12_editOwn_72 rfl (by decide) (fun hc => ?_) (fun hc => ?_)
        · have h := pf_ifp hc h
          refine r_fg R [true, true, true, true, true, true, false, true, true, true, true, true] (show _ = [pf_R 40 0, pf_I x1, pf_I x2, pf_I x3, pf_I x4, pf_I w53_5, pf_U, pf_I s53_0, pf_U, pf_U, pf_U, pf_U] from rfl) ?_
          exact hj79 _ _ _ h
        · have h := pf_ifn hc h
          refine r_iconst R 76 dX12_editOwn_75 rfl ic_iconst_1 ?_
          refine r_goto R 80 dX12_editOwn_76 (by decide) ?_
          refine r_fg R [true, true, true, true, true, true, false, true, true, true, true, true] (show _ = [pf_R 40 0, pf_I x1, pf_I x2, pf_I x3, pf_I x4, pf_I w53_5, pf_U, pf_I s53_0, pf_U, pf_U, pf_U, pf_U] from rfl) ?_
          exact hj80 _ _ _ _ h
  have hj52 : ∀ (w52_5 : Int32) (w52_6 : Int32) (M52 : pf_M), jX12_editOwn_52 x1 x2 x3 x4 w52_5 w52_6 M52 = some q → K 52 [pf_R 40 0, pf_I x1, pf_I x2, pf_I x3, pf_I x4, pf_I w52_5, pf_I w52_6, pf_U, pf_U, pf_U, pf_U, pf_U] [] M52 := by
    intro w52_5 w52_6 M52 h
    unfold jX12_editOwn_52 at h
    refine r_iconst R 53 dX12_editOwn_52 rfl ic_iconst_0 ?_
    exact hj53 _ _ _ _ h
  have hj35 : ∀ (w35_5 : Int32) (s35_0 : Int32) (M35 : pf_M), jX12_editOwn_35 x1 x2 x3 x4 w35_5 s35_0 M35 = some q → K 35 [pf_R 40 0, pf_I x1, pf_I x2, pf_I x3, pf_I x4, pf_I w35_5, pf_U, pf_U, pf_U, pf_U, pf_U, pf_U] [pf_I s35_0] M35 := by
    intro w35_5 s35_0 M35 h
    unfold jX12_editOwn_35 at h
    refine r_istore R 37 dX12_editOwn_35 rfl rfl (show _ = [pf_R 40 0, pf_I x1, pf_I x2, pf_I x3, pf_I x4, pf_I w35_5, pf_I s35_0, pf_U, pf_U, pf_U, pf_U, pf_U] from rfl) ?_
    refine r_iload R 39 dX12_editOwn_37 rfl rfl ?_
    refine r_iconst R 40 dX12_editOwn_39 rfl ic_iconst_1 ?_
    refine r_icmp_eq R 43 52 dX12_editOwn_40 rfl (by decide) (fun hc => ?_) (fun hc => ?_)
    · have h := pf_ifp hc h
      exact hj52 _ _ _ h
    · have h := pf_ifn hc h
      refine r_iload R 45 dX12_editOwn_43 rfl rfl ?_
      refine r_if_eq R 48 52 dX12_editOwn_45 rfl (by decide) (fun hc => ?_) (fun hc => ?_)
      · have h := pf_ifp hc h
        exact hj52 _ _ _ h
      · have h := pf_ifn hc h
        refine r_iconst R 49 dX12_editOwn_48 rfl ic_iconst_1 ?_
        refine r_goto R 53 dX12_editOwn_49 (by decide) ?_
        exact hj53 _ _ _ _ h
  unfold fX12_editOwn at h
  refine r_aload_n R 1 dX12_editOwn_0 rfl rfl ?_
  refine r_getfield R 4 dX12_editOwn_1 rfl fl_X12_79 rfl (show _ = pf_R 64 0 from rfl) ?_
  refine r_iload_n R 5 dX12_editOwn_4 rfl rfl ?_
  obtain ⟨hi36, h⟩ := pf_gd h
  refine r_iaload R 6 dX12_editOwn_5 rfl ⟨rfl, rfl⟩ (pf_in_iff.mp hi36) ?_
  refine r_iconst R 7 dX12_editOwn_6 rfl ic_iconst_1 ?_
  refine r_isub R 8 dX12_editOwn_7 rfl ?_
  refine r_iconst R 9 dX12_editOwn_8 rfl ic_iconst_3 ?_
  refine r_irem R 10 dX12_editOwn_9 rfl (by decide) ?_
  refine r_istore R 12 dX12_editOwn_10 rfl rfl (show _ = [pf_R 40 0, pf_I x1, pf_I x2, pf_I x3, pf_I x4, pf_I (((M 64 0 x2.toNatClampNeg) - (1 : Int32)) - ((M 64 0 x2.toNatClampNeg) - (1 : Int32)) / (3 : Int32) * (3 : Int32)), pf_U, pf_U, pf_U, pf_U, pf_U, pf_U] from rfl) ?_
  refine r_aload_n R 13 dX12_editOwn_12 rfl rfl ?_
  refine r_getfield R 16 dX12_editOwn_13 rfl fl_X12_85 rfl (show _ = pf_R 66 0 from rfl) ?_
  refine r_iload_n R 17 dX12_editOwn_16 rfl rfl ?_
  obtain ⟨hi37, h⟩ := pf_gd h
  refine r_iaload R 18 dX12_editOwn_17 rfl ⟨rfl, rfl⟩ (pf_in_iff.mp hi37) ?_
  refine r_aload_n R 19 dX12_editOwn_18 rfl rfl ?_
  refine r_getfield R 22 dX12_editOwn_19 rfl fl_X12_88 rfl (show _ = pf_R 67 0 from rfl) ?_
  refine r_iload_n R 23 dX12_editOwn_22 rfl rfl ?_
  obtain ⟨hi38, h⟩ := pf_gd h
  refine r_iaload R 24 dX12_editOwn_23 rfl ⟨rfl, rfl⟩ (pf_in_iff.mp hi38) ?_
  refine r_iadd R 25 dX12_editOwn_24 rfl ?_
  refine r_bipush R 27 dX12_editOwn_25 rfl ic_bipush_16 ?_
  refine r_icmp_gt R 30 34 dX12_editOwn_27 rfl (by decide) (fun hc => ?_) (fun hc => ?_)
  · have h := pf_ifp hc h
    refine r_iconst R 35 dX12_editOwn_34 rfl ic_iconst_0 ?_
    exact hj35 _ _ _ h
  · have h := pf_ifn hc h
    refine r_iconst R 31 dX12_editOwn_30 rfl ic_iconst_1 ?_
    refine r_goto R 35 dX12_editOwn_31 (by decide) ?_
    exact hj35 _ _ _ h
def jX12_editMap_270 (s270_1 : Int32) (s270_2 : Int32) (s270_3 : Int32) (s270_4 : Int32) (M270 : pf_M) : Option (pf_M) :=
  (if pf_in s270_1 8 = true then some (pf_up M270 70 0 s270_1.toNatClampNeg (s270_2 + (s270_3 + s270_4)))
  else none)
def jX12_editMap_250 (w250_5 : Int32) (w250_9 : Int32) (s250_1 : Int32) (s250_2 : Int32) (s250_3 : Int32) (M250 : pf_M) : Option (pf_M) :=
  (if w250_9 = (0 : Int32) then jX12_editMap_270 s250_1 s250_2 s250_3 (0 : Int32) M250
  else (if w250_5 = (1 : Int32) then jX12_editMap_270 s250_1 s250_2 s250_3 (1 : Int32) M250
  else jX12_editMap_270 s250_1 s250_2 s250_3 (2 : Int32) M250))
def jX12_editMap_223 (rec161 : Int32 → Int32 → pf_M → Option (pf_M)) (w223_9 : Int32) (w223_10 : Int32) (M223 : pf_M) : Option (pf_M) :=
  rec161 w223_9 (w223_10 + (1 : Int32)) M223
def lX12_editMap_161 (x2 : Int32) (x3 : Int32) (f161_7 : Int32) (kx161 : Int32 → pf_M → Option (pf_M)) : Nat → Int32 → Int32 → pf_M → Option (pf_M)
  | 0, _, _, _ => none
  | n + 1, v161_9, v161_10, M161 =>
  (if pf_in x2 4 = true then (if (M161 67 0 x2.toNatClampNeg) ≤ v161_10 then kx161 v161_9 M161
  else (if pf_in x2 4 = true then ((fX12_byteOver x3 (1 : Int32) ((M161 65 0 x2.toNatClampNeg) + v161_10) M161).bind fun r19 => (if f161_7 = (0 : Int32) then jX12_editMap_223 (lX12_editMap_161 x2 x3 f161_7 kx161 n) v161_9 v161_10 M161
  else (if r19 = (-4 : Int32) then jX12_editMap_223 (lX12_editMap_161 x2 x3 f161_7 kx161 n) v161_9 v161_10 M161
  else (if pf_in v161_10 8 = true then (if pf_in (((16 : Int32) * x3) + r19) 128 = true then jX12_editMap_223 (lX12_editMap_161 x2 x3 f161_7 kx161 n) (1 : Int32) v161_10 (pf_up M161 52 0 (((16 : Int32) * x3) + r19).toNatClampNeg (M161 75 0 v161_10.toNatClampNeg))
  else none)
  else none))))
  else none))
  else none)
def jX12_editMap_152 (rec65 : Int32 → Int32 → pf_M → Option (pf_M)) (w152_8 : Int32) (w152_10 : Int32) (M152 : pf_M) : Option (pf_M) :=
  rec65 w152_8 (w152_10 + (1 : Int32)) M152
def lX12_editMap_65 (x1 : Int32) (x2 : Int32) (x3 : Int32) (x4 : Int32) (f65_6 : Int32) (kx65 : Int32 → pf_M → Option (pf_M)) : Nat → Int32 → Int32 → pf_M → Option (pf_M)
  | 0, _, _, _ => none
  | n + 1, v65_8, v65_10, M65 =>
  (if pf_in x2 4 = true then (if (M65 67 0 x2.toNatClampNeg) ≤ v65_10 then kx65 v65_8 M65
  else (if pf_in ((((32 : Int32) * x1) + ((8 : Int32) * x2)) + v65_10) 64 = true then (if pf_in v65_10 8 = true then (if pf_in x2 4 = true then ((fX12_byteOver x3 (0 : Int32) (((pf_up M65 75 0 v65_10.toNatClampNeg (M65 69 0 ((((32 : Int32) * x1) + ((8 : Int32) * x2)) + v65_10).toNatClampNeg)) 65 0 x2.toNatClampNeg) + v65_10) (pf_up M65 75 0 v65_10.toNatClampNeg (M65 69 0 ((((32 : Int32) * x1) + ((8 : Int32) * x2)) + v65_10).toNatClampNeg))).bind fun r26 => (if f65_6 = (0 : Int32) then jX12_editMap_152 (lX12_editMap_65 x1 x2 x3 x4 f65_6 kx65 n) v65_8 v65_10 (pf_up M65 75 0 v65_10.toNatClampNeg (M65 69 0 ((((32 : Int32) * x1) + ((8 : Int32) * x2)) + v65_10).toNatClampNeg))
  else (if r26 = (-4 : Int32) then jX12_editMap_152 (lX12_editMap_65 x1 x2 x3 x4 f65_6 kx65 n) v65_8 v65_10 (pf_up M65 75 0 v65_10.toNatClampNeg (M65 69 0 ((((32 : Int32) * x1) + ((8 : Int32) * x2)) + v65_10).toNatClampNeg))
  else ((fX12_byteAt x3 r26 x4 (pf_up M65 75 0 v65_10.toNatClampNeg (M65 69 0 ((((32 : Int32) * x1) + ((8 : Int32) * x2)) + v65_10).toNatClampNeg))).bind fun r27 => (if pf_in ((((32 : Int32) * x1) + ((8 : Int32) * x2)) + v65_10) 64 = true then jX12_editMap_152 (lX12_editMap_65 x1 x2 x3 x4 f65_6 kx65 n) (1 : Int32) v65_10 (pf_up (pf_up M65 75 0 v65_10.toNatClampNeg (M65 69 0 ((((32 : Int32) * x1) + ((8 : Int32) * x2)) + v65_10).toNatClampNeg)) 69 0 ((((32 : Int32) * x1) + ((8 : Int32) * x2)) + v65_10).toNatClampNeg r27)
  else none)))))
  else none)
  else none)
  else none))
  else none)
def jX12_editMap_54 (x1 : Int32) (x2 : Int32) (x3 : Int32) (x4 : Int32) (w54_5 : Int32) (w54_6 : Int32) (s54_0 : Int32) (M54 : pf_M) : Option (pf_M) :=
  lX12_editMap_65 x1 x2 x3 x4 w54_6 (fun u29_e65_8 u29_Me65 => lX12_editMap_161 x2 x3 s54_0 (fun u30_e161_9 u30_Me161 => (if pf_in (((4 : Int32) * x1) + x2) 8 = true then (if u29_e65_8 = (0 : Int32) then jX12_editMap_250 w54_5 u30_e161_9 (((4 : Int32) * x1) + x2) (u30_Me161 70 0 (((4 : Int32) * x1) + x2).toNatClampNeg) (0 : Int32) u30_Me161
  else jX12_editMap_250 w54_5 u30_e161_9 (((4 : Int32) * x1) + x2) (u30_Me161 70 0 (((4 : Int32) * x1) + x2).toNatClampNeg) (1 : Int32) u30_Me161)
  else none)) pf_fu (0 : Int32) (0 : Int32) u29_Me65) pf_fu (0 : Int32) (0 : Int32) M54
def jX12_editMap_53 (x1 : Int32) (x2 : Int32) (x3 : Int32) (x4 : Int32) (w53_5 : Int32) (w53_6 : Int32) (M53 : pf_M) : Option (pf_M) :=
  jX12_editMap_54 x1 x2 x3 x4 w53_5 w53_6 (0 : Int32) M53
def jX12_editMap_32 (x1 : Int32) (x2 : Int32) (x3 : Int32) (x4 : Int32) (w32_5 : Int32) (s32_0 : Int32) (M32 : pf_M) : Option (pf_M) :=
  (if w32_5 = (0 : Int32) then jX12_editMap_53 x1 x2 x3 x4 w32_5 s32_0 M32
  else (if pf_in x3 8 = true then (if (M32 51 0 x3.toNatClampNeg) = (3 : Int32) then jX12_editMap_54 x1 x2 x3 x4 w32_5 s32_0 (1 : Int32) M32
  else jX12_editMap_53 x1 x2 x3 x4 w32_5 s32_0 M32)
  else none))
def jX12_editMap_31 (x1 : Int32) (x2 : Int32) (x3 : Int32) (x4 : Int32) (w31_5 : Int32) (M31 : pf_M) : Option (pf_M) :=
  jX12_editMap_32 x1 x2 x3 x4 w31_5 (0 : Int32) M31
def fX12_editMap (x1 : Int32) (x2 : Int32) (x3 : Int32) (x4 : Int32) (M : pf_M) : Option (pf_M) :=
  (if pf_in x2 4 = true then (if ((M 64 0 x2.toNatClampNeg) - (10 : Int32)) = (1 : Int32) then jX12_editMap_31 x1 x2 x3 x4 ((M 64 0 x2.toNatClampNeg) - (10 : Int32)) M
  else (if pf_in x3 8 = true then (if (M 51 0 x3.toNatClampNeg) < (2 : Int32) then jX12_editMap_31 x1 x2 x3 x4 ((M 64 0 x2.toNatClampNeg) - (10 : Int32)) M
  else jX12_editMap_32 x1 x2 x3 x4 ((M 64 0 x2.toNatClampNeg) - (10 : Int32)) (1 : Int32) M)
  else none))
  else none)
set_option maxRecDepth 4000 in
theorem c_X12_editMap (G : pf_G) (x1 : Int32) (x2 : Int32) (x3 : Int32) (x4 : Int32) (M : pf_M) (q : pf_M) (h : fX12_editMap x1 x2 x3 x4 M = some q) : pf_Met G yX12_editMap cX12_editMap 13 (none) 3 74 [pf_R 40 0, pf_I x1, pf_I x2, pf_I x3, pf_I x4] M none q := by
  refine pf_Met.of (by decide +kernel) (Nat.le_of_ble_eq_true rfl) (fun K R => ?_)
  show K 0 [pf_R 40 0, pf_I x1, pf_I x2, pf_I x3, pf_I x4, pf_U, pf_U, pf_U, pf_U, pf_U, pf_U, pf_U, pf_U] [] M
  have hj270 : ∀ (s270_1 : Int32) (s270_2 : Int32) (s270_3 : Int32) (s270_4 : Int32) (M270 : pf_M), jX12_editMap_270 s270_1 s270_2 s270_3 s270_4 M270 = some q → K 270 [pf_U, pf_U, pf_U, pf_U, pf_U, pf_U, pf_U, pf_U, pf_U, pf_U, pf_U, pf_U, pf_U] [pf_I s270_4, pf_I s270_3, pf_I s270_2, pf_I s270_1, pf_R 70 0] M270 := by
    intro s270_1 s270_2 s270_3 s270_4 M270 h
    unfold jX12_editMap_270 at h
    refine r_iadd R 271 dX12_editMap_270 rfl ?_
    refine r_iadd R 272 dX12_editMap_271 rfl ?_
    obtain ⟨hi16, h⟩ := pf_gd h
    refine r_iastore R 273 dX12_editMap_272 rfl ⟨rfl, rfl⟩ (pf_in_iff.mp hi16) ?_
    obtain rfl := Option.some.inj h
    exact r_return_ R dX12_editMap_273 rfl rfl rfl
  have hj250 : ∀ (w250_5 : Int32) (w250_9 : Int32) (s250_1 : Int32) (s250_2 : Int32) (s250_3 : Int32) (M250 : pf_M), jX12_editMap_250 w250_5 w250_9 s250_1 s250_2 s250_3 M250 = some q → K 250 [pf_U, pf_U, pf_U, pf_U, pf_U, pf_I w250_5, pf_U, pf_U, pf_U, pf_I w250_9, pf_U, pf_U, pf_U] [pf_I s250_3, pf_I s250_2, pf_I s250_1, pf_R 70 0] M250 := by
    intro w250_5 w250_9 s250_1 s250_2 s250_3 M250 h
    unfold jX12_editMap_250 at h
    refine r_iload R 252 dX12_editMap_250 rfl rfl ?_
    refine r_if_ne R 255 259 dX12_editMap_252 rfl (by decide) (fun hc => ?_) (fun hc => ?_)
    · have h := pf_ifp hc h
      refine r_iconst R 256 dX12_editMap_255 rfl ic_iconst_0 ?_
      refine r_goto R 270 dX12_editMap_256 (by decide) ?_
      refine r_fg R [true, true, true, true, true, false, true, true, true, false, true, true, true] (show _ = [pf_U, pf_U, pf_U, pf_U, pf_U, pf_U, pf_U, pf_U, pf_U, pf_U, pf_U, pf_U, pf_U] from rfl) ?_
      exact hj270 _ _ _ _ _ h
    · have h := pf_ifn hc h
      refine r_iload R 261 dX12_editMap_259 rfl rfl ?_
      refine r_iconst R 262 dX12_editMap_261 rfl ic_iconst_1 ?_
      refine r_icmp_ne R 265 269 dX12_editMap_262 rfl (by decide) (fun hc => ?_) (fun hc => ?_)
      · have h := pf_ifp hc h
        refine r_iconst R 266 dX12_editMap_265 rfl ic_iconst_1 ?_
        refine r_goto R 270 dX12_editMap_266 (by decide) ?_
        refine r_fg R [true, true, true, true, true, false, true, true, true, false, true, true, true] (show _ = [pf_U, pf_U, pf_U, pf_U, pf_U, pf_U, pf_U, pf_U, pf_U, pf_U, pf_U, pf_U, pf_U] from rfl) ?_
        exact hj270 _ _ _ _ _ h
      · have h := pf_ifn hc h
        refine r_iconst R 270 dX12_editMap_269 rfl ic_iconst_2 ?_
        refine r_fg R [true, true, true, true, true, false, true, true, true, false, true, true, true] (show _ = [pf_U, pf_U, pf_U, pf_U, pf_U, pf_U, pf_U, pf_U, pf_U, pf_U, pf_U, pf_U, pf_U] from rfl) ?_
        exact hj270 _ _ _ _ _ h
  have hl161 : ∀ (f161_5 : Int32) (f161_7 : Int32) (f161_8 : Int32), ∀ (kx161 : Int32 → pf_M → Option (pf_M)), (∀ (e161_9 : Int32) (Me161 : pf_M), kx161 e161_9 Me161 = some q → K 229 [pf_R 40 0, pf_I x1, pf_I x2, pf_U, pf_U, pf_I f161_5, pf_U, pf_U, pf_I f161_8, pf_I e161_9, pf_U, pf_U, pf_U] [] Me161) → ∀ (n : Nat) (v161_9 : Int32) (v161_10 : Int32) (M161 : pf_M), lX12_editMap_161 x2 x3 f161_7 kx161 n v161_9 v161_10 M161 = some q → K 161 [pf_R 40 0, pf_I x1, pf_I x2, pf_I x3, pf_U, pf_I f161_5, pf_U, pf_I f161_7, pf_I f161_8, pf_I v161_9, pf_I v161_10, pf_U, pf_U] [] M161 := by
    intro f161_5 f161_7 f161_8 kx161 hkx161 n
    induction n with
    | zero =>
      intro v161_9 v161_10 M161 h
      rw [lX12_editMap_161] at h
      cases h
    | succ n ih161 =>
        have hj223 : ∀ (w223_9 : Int32) (w223_10 : Int32) (M223 : pf_M), jX12_editMap_223 (lX12_editMap_161 x2 x3 f161_7 kx161 n) w223_9 w223_10 M223 = some q → K 223 [pf_R 40 0, pf_I x1, pf_I x2, pf_I x3, pf_U, pf_I f161_5, pf_U, pf_I f161_7, pf_I f161_8, pf_I w223_9, pf_I w223_10, pf_U, pf_U] [] M223 := by
          intro w223_9 w223_10 M223 h
          unfold jX12_editMap_223 at h
          refine r_iinc R 226 dX12_editMap_223 rfl rfl ic_iconst_1 (show _ = [pf_R 40 0, pf_I x1, pf_I x2, pf_I x3, pf_U, pf_I f161_5, pf_U, pf_I f161_7, pf_I f161_8, pf_I w223_9, pf_I (w223_10 + (1 : Int32)), pf_U, pf_U] from rfl) ?_
          refine r_goto R 161 dX12_editMap_226 (by decide) ?_
          exact ih161 _ _ _ h
        intro v161_9 v161_10 M161 h
        rw [lX12_editMap_161] at h
        refine r_iload R 163 dX12_editMap_161 rfl rfl ?_
        refine r_aload_n R 164 dX12_editMap_163 rfl rfl ?_
        refine r_getfield R 167 dX12_editMap_164 rfl fl_X12_88 rfl (show _ = pf_R 67 0 from rfl) ?_
        refine r_iload_n R 168 dX12_editMap_167 rfl rfl ?_
        obtain ⟨hi17, h⟩ := pf_gd h
        refine r_iaload R 169 dX12_editMap_168 rfl ⟨rfl, rfl⟩ (pf_in_iff.mp hi17) ?_
        refine r_icmp_ge R 172 229 dX12_editMap_169 rfl (by decide) (fun hc => ?_) (fun hc => ?_)
        · have h := pf_ifp hc h
          refine r_fg R [true, true, true, false, true, true, true, false, true, true, false, true, true] (show _ = [pf_R 40 0, pf_I x1, pf_I x2, pf_U, pf_U, pf_I f161_5, pf_U, pf_U, pf_I f161_8, pf_I v161_9, pf_U, pf_U, pf_U] from rfl) ?_
          exact hkx161 _ _ h
        · have h := pf_ifn hc h
          refine r_aload_n R 173 dX12_editMap_172 rfl rfl ?_
          refine r_iload_n R 174 dX12_editMap_173 rfl rfl ?_
          refine r_iconst R 175 dX12_editMap_174 rfl ic_iconst_1 ?_
          refine r_aload_n R 176 dX12_editMap_175 rfl rfl ?_
          refine r_getfield R 179 dX12_editMap_176 rfl fl_X12_82 rfl (show _ = pf_R 65 0 from rfl) ?_
          refine r_iload_n R 180 dX12_editMap_179 rfl rfl ?_
          obtain ⟨hi18, h⟩ := pf_gd h
          refine r_iaload R 181 dX12_editMap_180 rfl ⟨rfl, rfl⟩ (pf_in_iff.mp hi18) ?_
          refine r_iload R 183 dX12_editMap_181 rfl rfl ?_
          refine r_iadd R 184 dX12_editMap_183 rfl ?_
          obtain ⟨r19, hr19, h⟩ := pf_bd h
          refine r_cvI3 R 187 dX12_editMap_184 rfl lk_X12_278 rfl (c_X12_byteOver G x3 (1 : Int32) ((M161 65 0 x2.toNatClampNeg) + v161_10) M161 _ hr19) rfl rfl rfl ?_
          refine r_istore R 189 dX12_editMap_187 rfl rfl (show _ = [pf_R 40 0, pf_I x1, pf_I x2, pf_I x3, pf_U, pf_I f161_5, pf_U, pf_I f161_7, pf_I f161_8, pf_I v161_9, pf_I v161_10, pf_I r19, pf_U] from rfl) ?_
          refine r_iload R 191 dX12_editMap_189 rfl rfl ?_
          refine r_if_eq R 194 223 dX12_editMap_191 rfl (by decide) (fun hc => ?_) (fun hc => ?_)
          · have h := pf_ifp hc h
            refine r_fg R [true, true, true, true, true, true, true, true, true, true, true, false, true] (show _ = [pf_R 40 0, pf_I x1, pf_I x2, pf_I x3, pf_U, pf_I f161_5, pf_U, pf_I f161_7, pf_I f161_8, pf_I v161_9, pf_I v161_10, pf_U, pf_U] from rfl) ?_
            exact hj223 _ _ _ h
          · have h := pf_ifn hc h
            refine r_iload R 196 dX12_editMap_194 rfl rfl ?_
            refine r_bipush R 198 dX12_editMap_196 rfl ic_bipush_m4 ?_
            refine r_icmp_eq R 201 223 dX12_editMap_198 rfl (by decide) (fun hc => ?_) (fun hc => ?_)
            · have h := pf_ifp hc h
              refine r_fg R [true, true, true, true, true, true, true, true, true, true, true, false, true] (show _ = [pf_R 40 0, pf_I x1, pf_I x2, pf_I x3, pf_U, pf_I f161_5, pf_U, pf_I f161_7, pf_I f161_8, pf_I v161_9, pf_I v161_10, pf_U, pf_U] from rfl) ?_
              exact hj223 _ _ _ h
            · have h := pf_ifn hc h
              refine r_aload_n R 202 dX12_editMap_201 rfl rfl ?_
              refine r_getfield R 205 dX12_editMap_202 rfl fl_X12_43 rfl (show _ = pf_R 52 0 from rfl) ?_
              refine r_bipush R 207 dX12_editMap_205 rfl ic_bipush_16 ?_
              refine r_iload_n R 208 dX12_editMap_207 rfl rfl ?_
              refine r_imul R 209 dX12_editMap_208 rfl ?_
              refine r_iload R 211 dX12_editMap_209 rfl rfl ?_
              refine r_iadd R 212 dX12_editMap_211 rfl ?_
              refine r_aload_n R 213 dX12_editMap_212 rfl rfl ?_
              refine r_getfield R 216 dX12_editMap_213 rfl fl_X12_112 rfl (show _ = pf_R 75 0 from rfl) ?_
              refine r_iload R 218 dX12_editMap_216 rfl rfl ?_
              obtain ⟨hi20, h⟩ := pf_gd h
              refine r_iaload R 219 dX12_editMap_218 rfl ⟨rfl, rfl⟩ (pf_in_iff.mp hi20) ?_
              obtain ⟨hi21, h⟩ := pf_gd h
              refine r_iastore R 220 dX12_editMap_219 rfl ⟨rfl, rfl⟩ (pf_in_iff.mp hi21) ?_
              refine r_iconst R 221 dX12_editMap_220 rfl ic_iconst_1 ?_
              refine r_istore R 223 dX12_editMap_221 rfl rfl (show _ = [pf_R 40 0, pf_I x1, pf_I x2, pf_I x3, pf_U, pf_I f161_5, pf_U, pf_I f161_7, pf_I f161_8, pf_I (1 : Int32), pf_I v161_10, pf_I r19, pf_U] from rfl) ?_
              refine r_fg R [true, true, true, true, true, true, true, true, true, true, true, false, true] (show _ = [pf_R 40 0, pf_I x1, pf_I x2, pf_I x3, pf_U, pf_I f161_5, pf_U, pf_I f161_7, pf_I f161_8, pf_I (1 : Int32), pf_I v161_10, pf_U, pf_U] from rfl) ?_
              exact hj223 _ _ _ h
  have hl65 : ∀ (f65_5 : Int32) (f65_6 : Int32) (f65_7 : Int32) (f65_9 : Int32), ∀ (kx65 : Int32 → pf_M → Option (pf_M)), (∀ (e65_8 : Int32) (Me65 : pf_M), kx65 e65_8 Me65 = some q → K 158 [pf_R 40 0, pf_I x1, pf_I x2, pf_I x3, pf_U, pf_I f65_5, pf_U, pf_I f65_7, pf_I e65_8, pf_I f65_9, pf_U, pf_U, pf_U] [] Me65) → ∀ (n : Nat) (v65_8 : Int32) (v65_10 : Int32) (M65 : pf_M), lX12_editMap_65 x1 x2 x3 x4 f65_6 kx65 n v65_8 v65_10 M65 = some q → K 65 [pf_R 40 0, pf_I x1, pf_I x2, pf_I x3, pf_I x4, pf_I f65_5, pf_I f65_6, pf_I f65_7, pf_I v65_8, pf_I f65_9, pf_I v65_10, pf_U, pf_U] [] M65 := by
    intro f65_5 f65_6 f65_7 f65_9 kx65 hkx65 n
    induction n with
    | zero =>
      intro v65_8 v65_10 M65 h
      rw [lX12_editMap_65] at h
      cases h
    | succ n ih65 =>
        have hj152 : ∀ (w152_8 : Int32) (w152_10 : Int32) (M152 : pf_M), jX12_editMap_152 (lX12_editMap_65 x1 x2 x3 x4 f65_6 kx65 n) w152_8 w152_10 M152 = some q → K 152 [pf_R 40 0, pf_I x1, pf_I x2, pf_I x3, pf_I x4, pf_I f65_5, pf_I f65_6, pf_I f65_7, pf_I w152_8, pf_I f65_9, pf_I w152_10, pf_U, pf_U] [] M152 := by
          intro w152_8 w152_10 M152 h
          unfold jX12_editMap_152 at h
          refine r_iinc R 155 dX12_editMap_152 rfl rfl ic_iconst_1 (show _ = [pf_R 40 0, pf_I x1, pf_I x2, pf_I x3, pf_I x4, pf_I f65_5, pf_I f65_6, pf_I f65_7, pf_I w152_8, pf_I f65_9, pf_I (w152_10 + (1 : Int32)), pf_U, pf_U] from rfl) ?_
          refine r_goto R 65 dX12_editMap_155 (by decide) ?_
          exact ih65 _ _ _ h
        intro v65_8 v65_10 M65 h
        rw [lX12_editMap_65] at h
        refine r_iload R 67 dX12_editMap_65 rfl rfl ?_
        refine r_aload_n R 68 dX12_editMap_67 rfl rfl ?_
        refine r_getfield R 71 dX12_editMap_68 rfl fl_X12_88 rfl (show _ = pf_R 67 0 from rfl) ?_
        refine r_iload_n R 72 dX12_editMap_71 rfl rfl ?_
        obtain ⟨hi22, h⟩ := pf_gd h
        refine r_iaload R 73 dX12_editMap_72 rfl ⟨rfl, rfl⟩ (pf_in_iff.mp hi22) ?_
        refine r_icmp_ge R 76 158 dX12_editMap_73 rfl (by decide) (fun hc => ?_) (fun hc => ?_)
        · have h := pf_ifp hc h
          refine r_fg R [true, true, true, true, false, true, false, true, true, true, false, true, true] (show _ = [pf_R 40 0, pf_I x1, pf_I x2, pf_I x3, pf_U, pf_I f65_5, pf_U, pf_I f65_7, pf_I v65_8, pf_I f65_9, pf_U, pf_U, pf_U] from rfl) ?_
          exact hkx65 _ _ h
        · have h := pf_ifn hc h
          refine r_bipush R 78 dX12_editMap_76 rfl ic_bipush_32 ?_
          refine r_iload_n R 79 dX12_editMap_78 rfl rfl ?_
          refine r_imul R 80 dX12_editMap_79 rfl ?_
          refine r_bipush R 82 dX12_editMap_80 rfl ic_bipush_8 ?_
          refine r_iload_n R 83 dX12_editMap_82 rfl rfl ?_
          refine r_imul R 84 dX12_editMap_83 rfl ?_
          refine r_iadd R 85 dX12_editMap_84 rfl ?_
          refine r_iload R 87 dX12_editMap_85 rfl rfl ?_
          refine r_iadd R 88 dX12_editMap_87 rfl ?_
          refine r_istore R 90 dX12_editMap_88 rfl rfl (show _ = [pf_R 40 0, pf_I x1, pf_I x2, pf_I x3, pf_I x4, pf_I f65_5, pf_I f65_6, pf_I f65_7, pf_I v65_8, pf_I f65_9, pf_I v65_10, pf_I ((((32 : Int32) * x1) + ((8 : Int32) * x2)) + v65_10), pf_U] from rfl) ?_
          refine r_aload_n R 91 dX12_editMap_90 rfl rfl ?_
          refine r_getfield R 94 dX12_editMap_91 rfl fl_X12_112 rfl (show _ = pf_R 75 0 from rfl) ?_
          refine r_iload R 96 dX12_editMap_94 rfl rfl ?_
          refine r_aload_n R 97 dX12_editMap_96 rfl rfl ?_
          refine r_getfield R 100 dX12_editMap_97 rfl fl_X12_94 rfl (show _ = pf_R 69 0 from rfl) ?_
          refine r_iload R 102 dX12_editMap_100 rfl rfl ?_
          obtain ⟨hi23, h⟩ := pf_gd h
          refine r_iaload R 103 dX12_editMap_102 rfl ⟨rfl, rfl⟩ (pf_in_iff.mp hi23) ?_
          obtain ⟨hi24, h⟩ := pf_gd h
          refine r_iastore R 104 dX12_editMap_103 rfl ⟨rfl, rfl⟩ (pf_in_iff.mp hi24) ?_
          refine r_aload_n R 105 dX12_editMap_104 rfl rfl ?_
          refine r_iload_n R 106 dX12_editMap_105 rfl rfl ?_
          refine r_iconst R 107 dX12_editMap_106 rfl ic_iconst_0 ?_
          refine r_aload_n R 108 dX12_editMap_107 rfl rfl ?_
          refine r_getfield R 111 dX12_editMap_108 rfl fl_X12_82 rfl (show _ = pf_R 65 0 from rfl) ?_
          refine r_iload_n R 112 dX12_editMap_111 rfl rfl ?_
          obtain ⟨hi25, h⟩ := pf_gd h
          refine r_iaload R 113 dX12_editMap_112 rfl ⟨rfl, rfl⟩ (pf_in_iff.mp hi25) ?_
          refine r_iload R 115 dX12_editMap_113 rfl rfl ?_
          refine r_iadd R 116 dX12_editMap_115 rfl ?_
          obtain ⟨r26, hr26, h⟩ := pf_bd h
          refine r_cvI3 R 119 dX12_editMap_116 rfl lk_X12_278 rfl (c_X12_byteOver G x3 (0 : Int32) (((pf_up M65 75 0 v65_10.toNatClampNeg (M65 69 0 ((((32 : Int32) * x1) + ((8 : Int32) * x2)) + v65_10).toNatClampNeg)) 65 0 x2.toNatClampNeg) + v65_10) (pf_up M65 75 0 v65_10.toNatClampNeg (M65 69 0 ((((32 : Int32) * x1) + ((8 : Int32) * x2)) + v65_10).toNatClampNeg)) _ hr26) rfl rfl rfl ?_
          refine r_istore R 121 dX12_editMap_119 rfl rfl (show _ = [pf_R 40 0, pf_I x1, pf_I x2, pf_I x3, pf_I x4, pf_I f65_5, pf_I f65_6, pf_I f65_7, pf_I v65_8, pf_I f65_9, pf_I v65_10, pf_I ((((32 : Int32) * x1) + ((8 : Int32) * x2)) + v65_10), pf_I r26] from rfl) ?_
          refine r_iload R 123 dX12_editMap_121 rfl rfl ?_
          refine r_if_eq R 126 152 dX12_editMap_123 rfl (by decide) (fun hc => ?_) (fun hc => ?_)
          · have h := pf_ifp hc h
            refine r_fg R [true, true, true, true, true, true, true, true, true, true, true, false, false] (show _ = [pf_R 40 0, pf_I x1, pf_I x2, pf_I x3, pf_I x4, pf_I f65_5, pf_I f65_6, pf_I f65_7, pf_I v65_8, pf_I f65_9, pf_I v65_10, pf_U, pf_U] from rfl) ?_
            exact hj152 _ _ _ h
          · have h := pf_ifn hc h
            refine r_iload R 128 dX12_editMap_126 rfl rfl ?_
            refine r_bipush R 130 dX12_editMap_128 rfl ic_bipush_m4 ?_
            refine r_icmp_eq R 133 152 dX12_editMap_130 rfl (by decide) (fun hc => ?_) (fun hc => ?_)
            · have h := pf_ifp hc h
              refine r_fg R [true, true, true, true, true, true, true, true, true, true, true, false, false] (show _ = [pf_R 40 0, pf_I x1, pf_I x2, pf_I x3, pf_I x4, pf_I f65_5, pf_I f65_6, pf_I f65_7, pf_I v65_8, pf_I f65_9, pf_I v65_10, pf_U, pf_U] from rfl) ?_
              exact hj152 _ _ _ h
            · have h := pf_ifn hc h
              refine r_aload_n R 134 dX12_editMap_133 rfl rfl ?_
              refine r_getfield R 137 dX12_editMap_134 rfl fl_X12_94 rfl (show _ = pf_R 69 0 from rfl) ?_
              refine r_iload R 139 dX12_editMap_137 rfl rfl ?_
              refine r_aload_n R 140 dX12_editMap_139 rfl rfl ?_
              refine r_iload_n R 141 dX12_editMap_140 rfl rfl ?_
              refine r_iload R 143 dX12_editMap_141 rfl rfl ?_
              refine r_iload R 145 dX12_editMap_143 rfl rfl ?_
              obtain ⟨r27, hr27, h⟩ := pf_bd h
              refine r_cvI3 R 148 dX12_editMap_145 rfl lk_X12_247 rfl (c_X12_byteAt G x3 r26 x4 (pf_up M65 75 0 v65_10.toNatClampNeg (M65 69 0 ((((32 : Int32) * x1) + ((8 : Int32) * x2)) + v65_10).toNatClampNeg)) _ hr27) rfl rfl rfl ?_
              obtain ⟨hi28, h⟩ := pf_gd h
              refine r_iastore R 149 dX12_editMap_148 rfl ⟨rfl, rfl⟩ (pf_in_iff.mp hi28) ?_
              refine r_iconst R 150 dX12_editMap_149 rfl ic_iconst_1 ?_
              refine r_istore R 152 dX12_editMap_150 rfl rfl (show _ = [pf_R 40 0, pf_I x1, pf_I x2, pf_I x3, pf_I x4, pf_I f65_5, pf_I f65_6, pf_I f65_7, pf_I (1 : Int32), pf_I f65_9, pf_I v65_10, pf_I ((((32 : Int32) * x1) + ((8 : Int32) * x2)) + v65_10), pf_I r26] from rfl) ?_
              refine r_fg R [true, true, true, true, true, true, true, true, true, true, true, false, false] (show _ = [pf_R 40 0, pf_I x1, pf_I x2, pf_I x3, pf_I x4, pf_I f65_5, pf_I f65_6, pf_I f65_7, pf_I (1 : Int32), pf_I f65_9, pf_I v65_10, pf_U, pf_U] from rfl) ?_
              exact hj152 _ _ _ h
  have hj54 : ∀ (w54_5 : Int32) (w54_6 : Int32) (s54_0 : Int32) (M54 : pf_M), jX12_editMap_54 x1 x2 x3 x4 w54_5 w54_6 s54_0 M54 = some q → K 54 [pf_R 40 0, pf_I x1, pf_I x2, pf_I x3, pf_I x4, pf_I w54_5, pf_I w54_6, pf_U, pf_U, pf_U, pf_U, pf_U, pf_U] [pf_I s54_0] M54 := by
    intro w54_5 w54_6 s54_0 M54 h
    unfold jX12_editMap_54 at h
    refine r_istore R 56 dX12_editMap_54 rfl rfl (show _ = [pf_R 40 0, pf_I x1, pf_I x2, pf_I x3, pf_I x4, pf_I w54_5, pf_I w54_6, pf_I s54_0, pf_U, pf_U, pf_U, pf_U, pf_U] from rfl) ?_
    refine r_iconst R 57 dX12_editMap_56 rfl ic_iconst_0 ?_
    refine r_istore R 59 dX12_editMap_57 rfl rfl (show _ = [pf_R 40 0, pf_I x1, pf_I x2, pf_I x3, pf_I x4, pf_I w54_5, pf_I w54_6, pf_I s54_0, pf_I (0 : Int32), pf_U, pf_U, pf_U, pf_U] from rfl) ?_
    refine r_iconst R 60 dX12_editMap_59 rfl ic_iconst_0 ?_
    refine r_istore R 62 dX12_editMap_60 rfl rfl (show _ = [pf_R 40 0, pf_I x1, pf_I x2, pf_I x3, pf_I x4, pf_I w54_5, pf_I w54_6, pf_I s54_0, pf_I (0 : Int32), pf_I (0 : Int32), pf_U, pf_U, pf_U] from rfl) ?_
    refine r_iconst R 63 dX12_editMap_62 rfl ic_iconst_0 ?_
    refine r_istore R 65 dX12_editMap_63 rfl rfl (show _ = [pf_R 40 0, pf_I x1, pf_I x2, pf_I x3, pf_I x4, pf_I w54_5, pf_I w54_6, pf_I s54_0, pf_I (0 : Int32), pf_I (0 : Int32), pf_I (0 : Int32), pf_U, pf_U] from rfl) ?_
    refine hl65 _ _ _ _ _ (fun u29_e65_8 u29_Me65 h => ?_) pf_fu _ _ _ h
    refine r_iconst R 159 dX12_editMap_158 rfl ic_iconst_0 ?_
    refine r_istore R 161 dX12_editMap_159 rfl rfl (show _ = [pf_R 40 0, pf_I x1, pf_I x2, pf_I x3, pf_U, pf_I w54_5, pf_U, pf_I s54_0, pf_I u29_e65_8, pf_I (0 : Int32), pf_I (0 : Int32), pf_U, pf_U] from rfl) ?_
    refine hl161 _ _ _ _ (fun u30_e161_9 u30_Me161 h => ?_) pf_fu _ _ _ h
    refine r_aload_n R 230 dX12_editMap_229 rfl rfl ?_
    refine r_getfield R 233 dX12_editMap_230 rfl fl_X12_97 rfl (show _ = pf_R 70 0 from rfl) ?_
    refine r_iconst R 234 dX12_editMap_233 rfl ic_iconst_4 ?_
    refine r_iload_n R 235 dX12_editMap_234 rfl rfl ?_
    refine r_imul R 236 dX12_editMap_235 rfl ?_
    refine r_iload_n R 237 dX12_editMap_236 rfl rfl ?_
    refine r_iadd R 238 dX12_editMap_237 rfl ?_
    refine r_dup2 R 239 dX12_editMap_238 rfl rfl rfl ?_
    obtain ⟨hi31, h⟩ := pf_gd h
    refine r_iaload R 240 dX12_editMap_239 rfl ⟨rfl, rfl⟩ (pf_in_iff.mp hi31) ?_
    refine r_iload R 242 dX12_editMap_240 rfl rfl ?_
    refine r_if_eq R 245 249 dX12_editMap_242 rfl (by decide) (fun hc => ?_) (fun hc => ?_)
    · have h := pf_ifp hc h
      refine r_iconst R 250 dX12_editMap_249 rfl ic_iconst_0 ?_
      refine r_fg R [false, false, false, true, true, true, true, true, false, true, true, true, true] (show _ = [pf_U, pf_U, pf_U, pf_U, pf_U, pf_I w54_5, pf_U, pf_U, pf_U, pf_I u30_e161_9, pf_U, pf_U, pf_U] from rfl) ?_
      exact hj250 _ _ _ _ _ _ h
    · have h := pf_ifn hc h
      refine r_iconst R 246 dX12_editMap_245 rfl ic_iconst_1 ?_
      refine r_goto R 250 dX12_editMap_246 (by decide) ?_
      refine r_fg R [false, false, false, true, true, true, true, true, false, true, true, true, true] (show _ = [pf_U, pf_U, pf_U, pf_U, pf_U, pf_I w54_5, pf_U, pf_U, pf_U, pf_I u30_e161_9, pf_U, pf_U, pf_U] from rfl) ?_
      exact hj250 _ _ _ _ _ _ h
  have hj53 : ∀ (w53_5 : Int32) (w53_6 : Int32) (M53 : pf_M), jX12_editMap_53 x1 x2 x3 x4 w53_5 w53_6 M53 = some q → K 53 [pf_R 40 0, pf_I x1, pf_I x2, pf_I x3, pf_I x4, pf_I w53_5, pf_I w53_6, pf_U, pf_U, pf_U, pf_U, pf_U, pf_U] [] M53 := by
    intro w53_5 w53_6 M53 h
    unfold jX12_editMap_53 at h
    refine r_iconst R 54 dX12_editMap_53 rfl ic_iconst_0 ?_
    exact hj54 _ _ _ _ h
  have hj32 : ∀ (w32_5 : Int32) (s32_0 : Int32) (M32 : pf_M), jX12_editMap_32 x1 x2 x3 x4 w32_5 s32_0 M32 = some q → K 32 [pf_R 40 0, pf_I x1, pf_I x2, pf_I x3, pf_I x4, pf_I w32_5, pf_U, pf_U, pf_U, pf_U, pf_U, pf_U, pf_U] [pf_I s32_0] M32 := by
    intro w32_5 s32_0 M32 h
    unfold jX12_editMap_32 at h
    refine r_istore R 34 dX12_editMap_32 rfl rfl (show _ = [pf_R 40 0, pf_I x1, pf_I x2, pf_I x3, pf_I x4, pf_I w32_5, pf_I s32_0, pf_U, pf_U, pf_U, pf_U, pf_U, pf_U] from rfl) ?_
    refine r_iload R 36 dX12_editMap_34 rfl rfl ?_
    refine r_if_eq R 39 53 dX12_editMap_36 rfl (by decide) (fun hc => ?_) (fun hc => ?_)
    · have h := pf_ifp hc h
      exact hj53 _ _ _ h
    · have h := pf_ifn hc h
      refine r_aload_n R 40 dX12_editMap_39 rfl rfl ?_
      refine r_getfield R 43 dX12_editMap_40 rfl fl_X12_40 rfl (show _ = pf_R 51 0 from rfl) ?_
      refine r_iload_n R 44 dX12_editMap_43 rfl rfl ?_
      obtain ⟨hi32, h⟩ := pf_gd h
      refine r_iaload R 45 dX12_editMap_44 rfl ⟨rfl, rfl⟩ (pf_in_iff.mp hi32) ?_
      refine r_iconst R 46 dX12_editMap_45 rfl ic_iconst_3 ?_
      refine r_icmp_ne R 49 53 dX12_editMap_46 rfl (by decide) (fun hc => ?_) (fun hc => ?_)
      · have h := pf_ifp hc h
        refine r_iconst R 50 dX12_editMap_49 rfl ic_iconst_1 ?_
        refine r_goto R 54 dX12_editMap_50 (by decide) ?_
        exact hj54 _ _ _ _ h
      · have h := pf_ifn hc h
        exact hj53 _ _ _ h
  have hj31 : ∀ (w31_5 : Int32) (M31 : pf_M), jX12_editMap_31 x1 x2 x3 x4 w31_5 M31 = some q → K 31 [pf_R 40 0, pf_I x1, pf_I x2, pf_I x3, pf_I x4, pf_I w31_5, pf_U, pf_U, pf_U, pf_U, pf_U, pf_U, pf_U] [] M31 := by
    intro w31_5 M31 h
    unfold jX12_editMap_31 at h
    refine r_iconst R 32 dX12_editMap_31 rfl ic_iconst_0 ?_
    exact hj32 _ _ _ h
  unfold fX12_editMap at h
  refine r_aload_n R 1 dX12_editMap_0 rfl rfl ?_
  refine r_getfield R 4 dX12_editMap_1 rfl fl_X12_79 rfl (show _ = pf_R 64 0 from rfl) ?_
  refine r_iload_n R 5 dX12_editMap_4 rfl rfl ?_
  obtain ⟨hi33, h⟩ := pf_gd h
  refine r_iaload R 6 dX12_editMap_5 rfl ⟨rfl, rfl⟩ (pf_in_iff.mp hi33) ?_
  refine r_bipush R 8 dX12_editMap_6 rfl ic_bipush_10 ?_
  refine r_isub R 9 dX12_editMap_8 rfl ?_
  refine r_istore R 11 dX12_editMap_9 rfl rfl (show _ = [pf_R 40 0, pf_I x1, pf_I x2, pf_I x3, pf_I x4, pf_I ((M 64 0 x2.toNatClampNeg) - (10 : Int32)), pf_U, pf_U, pf_U, pf_U, pf_U, pf_U, pf_U] from rfl) ?_
  refine r_iload R 13 dX12_editMap_11 rfl rfl ?_
  refine r_iconst R 14 dX12_editMap_13 rfl ic_iconst_1 ?_
  refine r_icmp_eq R 17 31 dX12_editMap_14 rfl (by decide) (fun hc => ?_) (fun hc => ?_)
  · have h := pf_ifp hc h
    exact hj31 _ _ h
  · have h := pf_ifn hc h
    refine r_aload_n R 18 dX12_editMap_17 rfl rfl ?_
    refine r_getfield R 21 dX12_editMap_18 rfl fl_X12_40 rfl (show _ = pf_R 51 0 from rfl) ?_
    refine r_iload_n R 22 dX12_editMap_21 rfl rfl ?_
    obtain ⟨hi34, h⟩ := pf_gd h
    refine r_iaload R 23 dX12_editMap_22 rfl ⟨rfl, rfl⟩ (pf_in_iff.mp hi34) ?_
    refine r_iconst R 24 dX12_editMap_23 rfl ic_iconst_2 ?_
    refine r_icmp_lt R 27 31 dX12_editMap_24 rfl (by decide) (fun hc => ?_) (fun hc => ?_)
    · have h := pf_ifp hc h
      exact hj31 _ _ h
    · have h := pf_ifn hc h
      refine r_iconst R 28 dX12_editMap_27 rfl ic_iconst_1 ?_
      refine r_goto R 32 dX12_editMap_28 (by decide) ?_
      exact hj32 _ _ _ h
def jX12_edit_135 (rec3 : Int32 → pf_M → Option (pf_M)) (w135_5 : Int32) (M135 : pf_M) : Option (pf_M) :=
  rec3 (w135_5 + (1 : Int32)) M135
def jX12_edit_118 (x1 : Int32) (x2 : Int32) (x4 : Int32) (rec3 : Int32 → pf_M → Option (pf_M)) (w118_5 : Int32) (w118_6 : Int32) (M118 : pf_M) : Option (pf_M) :=
  (if w118_6 < (10 : Int32) then jX12_edit_135 rec3 w118_5 M118
  else ((fX12_editMap x1 w118_5 x2 x4 M118).bind fun q4 => jX12_edit_135 rec3 w118_5 q4))
def jX12_edit_101 (x1 : Int32) (x2 : Int32) (x4 : Int32) (rec3 : Int32 → pf_M → Option (pf_M)) (w101_5 : Int32) (w101_6 : Int32) (s101_0 : Int32) (M101 : pf_M) : Option (pf_M) :=
  (if s101_0 = (0 : Int32) then jX12_edit_118 x1 x2 x4 rec3 w101_5 w101_6 M101
  else ((fX12_editOwn x1 w101_5 x2 x4 M101).bind fun q5 => jX12_edit_118 x1 x2 x4 rec3 w101_5 w101_6 q5))
def lX12_edit_3 (x1 : Int32) (x2 : Int32) (x3 : Int32) (x4 : Int32) : Nat → Int32 → pf_M → Option (pf_M)
  | 0, _, _ => none
  | n + 1, v3_5, M3 =>
  (if (4 : Int32) ≤ v3_5 then some M3
  else (if pf_in v3_5 4 = true then (if (fX12_in ((M3 64 0 v3_5.toNatClampNeg).toInt64) (1 : Int64) (3 : Int64)) = (0 : Int32) then (if (fX12_in ((M3 64 0 v3_5.toNatClampNeg).toInt64) (4 : Int64) (6 : Int64)) = (0 : Int32) then jX12_edit_101 x1 x2 x4 (lX12_edit_3 x1 x2 x3 x4 n) v3_5 (M3 64 0 v3_5.toNatClampNeg) (fX12_in ((M3 64 0 v3_5.toNatClampNeg).toInt64) (7 : Int64) (9 : Int64)) M3
  else (if pf_in v3_5 4 = true then (if pf_in x2 8 = true then (if (M3 65 0 v3_5.toNatClampNeg) = (M3 46 0 x2.toNatClampNeg) then jX12_edit_101 x1 x2 x4 (lX12_edit_3 x1 x2 x3 x4 n) v3_5 (M3 64 0 v3_5.toNatClampNeg) (1 : Int32) M3
  else jX12_edit_101 x1 x2 x4 (lX12_edit_3 x1 x2 x3 x4 n) v3_5 (M3 64 0 v3_5.toNatClampNeg) (0 : Int32) M3)
  else none)
  else none))
  else (if pf_in v3_5 4 = true then (if (M3 65 0 v3_5.toNatClampNeg) = x3 then jX12_edit_101 x1 x2 x4 (lX12_edit_3 x1 x2 x3 x4 n) v3_5 (M3 64 0 v3_5.toNatClampNeg) (1 : Int32) M3
  else jX12_edit_101 x1 x2 x4 (lX12_edit_3 x1 x2 x3 x4 n) v3_5 (M3 64 0 v3_5.toNatClampNeg) (0 : Int32) M3)
  else none))
  else none))
def fX12_edit (x1 : Int32) (x2 : Int32) (x3 : Int32) (x4 : Int32) (M : pf_M) : Option (pf_M) :=
  lX12_edit_3 x1 x2 x3 x4 pf_fu (0 : Int32) M
set_option maxRecDepth 4000 in
theorem c_X12_edit (G : pf_G) (x1 : Int32) (x2 : Int32) (x3 : Int32) (x4 : Int32) (M : pf_M) (q : pf_M) (h : fX12_edit x1 x2 x3 x4 M = some q) : pf_Met G yX12_edit cX12_edit 8 (none) 4 106 [pf_R 40 0, pf_I x1, pf_I x2, pf_I x3, pf_I x4] M none q := by
  refine pf_Met.of (by decide +kernel) (Nat.le_of_ble_eq_true rfl) (fun K R => ?_)
  show K 0 [pf_R 40 0, pf_I x1, pf_I x2, pf_I x3, pf_I x4, pf_U, pf_U, pf_U] [] M
  have hl3 : ∀ (n : Nat) (v3_5 : Int32) (M3 : pf_M), lX12_edit_3 x1 x2 x3 x4 n v3_5 M3 = some q → K 3 [pf_R 40 0, pf_I x1, pf_I x2, pf_I x3, pf_I x4, pf_I v3_5, pf_U, pf_U] [] M3 := by
    intro n
    induction n with
    | zero =>
      intro v3_5 M3 h
      rw [lX12_edit_3] at h
      cases h
    | succ n ih3 =>
        have hj135 : ∀ (w135_5 : Int32) (M135 : pf_M), jX12_edit_135 (lX12_edit_3 x1 x2 x3 x4 n) w135_5 M135 = some q → K 135 [pf_R 40 0, pf_I x1, pf_I x2, pf_I x3, pf_I x4, pf_I w135_5, pf_U, pf_U] [] M135 := by
          intro w135_5 M135 h
          unfold jX12_edit_135 at h
          refine r_iinc R 138 dX12_edit_135 rfl rfl ic_iconst_1 (show _ = [pf_R 40 0, pf_I x1, pf_I x2, pf_I x3, pf_I x4, pf_I (w135_5 + (1 : Int32)), pf_U, pf_U] from rfl) ?_
          refine r_goto R 3 dX12_edit_138 (by decide) ?_
          exact ih3 _ _ h
        have hj118 : ∀ (w118_5 : Int32) (w118_6 : Int32) (M118 : pf_M), jX12_edit_118 x1 x2 x4 (lX12_edit_3 x1 x2 x3 x4 n) w118_5 w118_6 M118 = some q → K 118 [pf_R 40 0, pf_I x1, pf_I x2, pf_I x3, pf_I x4, pf_I w118_5, pf_I w118_6, pf_U] [] M118 := by
          intro w118_5 w118_6 M118 h
          unfold jX12_edit_118 at h
          refine r_iload R 120 dX12_edit_118 rfl rfl ?_
          refine r_bipush R 122 dX12_edit_120 rfl ic_bipush_10 ?_
          refine r_icmp_lt R 125 135 dX12_edit_122 rfl (by decide) (fun hc => ?_) (fun hc => ?_)
          · have h := pf_ifp hc h
            refine r_fg R [true, true, true, true, true, true, false, true] (show _ = [pf_R 40 0, pf_I x1, pf_I x2, pf_I x3, pf_I x4, pf_I w118_5, pf_U, pf_U] from rfl) ?_
            exact hj135 _ _ h
          · have h := pf_ifn hc h
            refine r_aload_n R 126 dX12_edit_125 rfl rfl ?_
            refine r_iload_n R 127 dX12_edit_126 rfl rfl ?_
            refine r_iload R 129 dX12_edit_127 rfl rfl ?_
            refine r_iload_n R 130 dX12_edit_129 rfl rfl ?_
            refine r_iload R 132 dX12_edit_130 rfl rfl ?_
            obtain ⟨q4, hq4, h⟩ := pf_bd h
            refine r_cvV4 R 135 dX12_edit_132 rfl lk_X12_286 rfl (c_X12_editMap G x1 w118_5 x2 x4 M118 _ hq4) rfl rfl rfl ?_
            refine r_fg R [true, true, true, true, true, true, false, true] (show _ = [pf_R 40 0, pf_I x1, pf_I x2, pf_I x3, pf_I x4, pf_I w118_5, pf_U, pf_U] from rfl) ?_
            exact hj135 _ _ h
        have hj101 : ∀ (w101_5 : Int32) (w101_6 : Int32) (s101_0 : Int32) (M101 : pf_M), jX12_edit_101 x1 x2 x4 (lX12_edit_3 x1 x2 x3 x4 n) w101_5 w101_6 s101_0 M101 = some q → K 101 [pf_R 40 0, pf_I x1, pf_I x2, pf_I x3, pf_I x4, pf_I w101_5, pf_I w101_6, pf_U] [pf_I s101_0] M101 := by
          intro w101_5 w101_6 s101_0 M101 h
          unfold jX12_edit_101 at h
          refine r_istore R 103 dX12_edit_101 rfl rfl (show _ = [pf_R 40 0, pf_I x1, pf_I x2, pf_I x3, pf_I x4, pf_I w101_5, pf_I w101_6, pf_I s101_0] from rfl) ?_
          refine r_iload R 105 dX12_edit_103 rfl rfl ?_
          refine r_if_eq R 108 118 dX12_edit_105 rfl (by decide) (fun hc => ?_) (fun hc => ?_)
          · have h := pf_ifp hc h
            refine r_fg R [true, true, true, true, true, true, true, false] (show _ = [pf_R 40 0, pf_I x1, pf_I x2, pf_I x3, pf_I x4, pf_I w101_5, pf_I w101_6, pf_U] from rfl) ?_
            exact hj118 _ _ _ h
          · have h := pf_ifn hc h
            refine r_aload_n R 109 dX12_edit_108 rfl rfl ?_
            refine r_iload_n R 110 dX12_edit_109 rfl rfl ?_
            refine r_iload R 112 dX12_edit_110 rfl rfl ?_
            refine r_iload_n R 113 dX12_edit_112 rfl rfl ?_
            refine r_iload R 115 dX12_edit_113 rfl rfl ?_
            obtain ⟨q5, hq5, h⟩ := pf_bd h
            refine r_cvV4 R 118 dX12_edit_115 rfl lk_X12_283 rfl (c_X12_editOwn G x1 w101_5 x2 x4 M101 _ hq5) rfl rfl rfl ?_
            refine r_fg R [true, true, true, true, true, true, true, false] (show _ = [pf_R 40 0, pf_I x1, pf_I x2, pf_I x3, pf_I x4, pf_I w101_5, pf_I w101_6, pf_U] from rfl) ?_
            exact hj118 _ _ _ h
        intro v3_5 M3 h
        rw [lX12_edit_3] at h
        refine r_iload R 5 dX12_edit_3 rfl rfl ?_
        refine r_iconst R 6 dX12_edit_5 rfl ic_iconst_4 ?_
        refine r_icmp_ge R 9 141 dX12_edit_6 rfl (by decide) (fun hc => ?_) (fun hc => ?_)
        · have h := pf_ifp hc h
          obtain rfl := Option.some.inj h
          exact r_return_ R dX12_edit_141 rfl rfl rfl
        · have h := pf_ifn hc h
          refine r_aload_n R 10 dX12_edit_9 rfl rfl ?_
          refine r_getfield R 13 dX12_edit_10 rfl fl_X12_79 rfl (show _ = pf_R 64 0 from rfl) ?_
          refine r_iload R 15 dX12_edit_13 rfl rfl ?_
          obtain ⟨hi6, h⟩ := pf_gd h
          refine r_iaload R 16 dX12_edit_15 rfl ⟨rfl, rfl⟩ (pf_in_iff.mp hi6) ?_
          refine r_istore R 18 dX12_edit_16 rfl rfl (show _ = [pf_R 40 0, pf_I x1, pf_I x2, pf_I x3, pf_I x4, pf_I v3_5, pf_I (M3 64 0 v3_5.toNatClampNeg), pf_U] from rfl) ?_
          refine r_iload R 20 dX12_edit_18 rfl rfl ?_
          refine r_i2l R 21 dX12_edit_20 rfl ?_
          refine r_lconst R 22 dX12_edit_21 rfl lc_1 ?_
          refine r_ldc2_w R 25 dX12_edit_22 rfl kc_X12_260 ?_
          refine r_csI3 R 28 dX12_edit_25 rfl lk_X12_145 (c_X12_in G ((M3 64 0 v3_5.toNatClampNeg).toInt64) (1 : Int64) (3 : Int64) _ rfl) rfl rfl rfl ?_
          refine r_if_eq R 31 50 dX12_edit_28 rfl (by decide) (fun hc => ?_) (fun hc => ?_)
          · have h := pf_ifp hc h
            refine r_iload R 52 dX12_edit_50 rfl rfl ?_
            refine r_i2l R 53 dX12_edit_52 rfl ?_
            refine r_ldc2_w R 56 dX12_edit_53 rfl kc_X12_251 ?_
            refine r_ldc2_w R 59 dX12_edit_56 rfl kc_X12_281 ?_
            refine r_csI3 R 62 dX12_edit_59 rfl lk_X12_145 (c_X12_in G ((M3 64 0 v3_5.toNatClampNeg).toInt64) (4 : Int64) (6 : Int64) _ rfl) rfl rfl rfl ?_
            refine r_if_eq R 65 89 dX12_edit_62 rfl (by decide) (fun hc => ?_) (fun hc => ?_)
            · have h := pf_ifp hc h
              refine r_iload R 91 dX12_edit_89 rfl rfl ?_
              refine r_i2l R 92 dX12_edit_91 rfl ?_
              refine r_ldc2_w R 95 dX12_edit_92 rfl kc_X12_270 ?_
              refine r_ldc2_w R 98 dX12_edit_95 rfl kc_X12_258 ?_
              refine r_csI3 R 101 dX12_edit_98 rfl lk_X12_145 (c_X12_in G ((M3 64 0 v3_5.toNatClampNeg).toInt64) (7 : Int64) (9 : Int64) _ rfl) rfl rfl rfl ?_
              exact hj101 _ _ _ _ h
            · have h := pf_ifn hc h
              refine r_aload_n R 66 dX12_edit_65 rfl rfl ?_
              refine r_getfield R 69 dX12_edit_66 rfl fl_X12_82 rfl (show _ = pf_R 65 0 from rfl) ?_
              refine r_iload R 71 dX12_edit_69 rfl rfl ?_
              obtain ⟨hi7, h⟩ := pf_gd h
              refine r_iaload R 72 dX12_edit_71 rfl ⟨rfl, rfl⟩ (pf_in_iff.mp hi7) ?_
              refine r_aload_n R 73 dX12_edit_72 rfl rfl ?_
              refine r_getfield R 76 dX12_edit_73 rfl fl_X12_25 rfl (show _ = pf_R 46 0 from rfl) ?_
              refine r_iload_n R 77 dX12_edit_76 rfl rfl ?_
              obtain ⟨hi8, h⟩ := pf_gd h
              refine r_iaload R 78 dX12_edit_77 rfl ⟨rfl, rfl⟩ (pf_in_iff.mp hi8) ?_
              refine r_icmp_ne R 81 85 dX12_edit_78 rfl (by decide) (fun hc => ?_) (fun hc => ?_)
              · have h := pf_ifp hc h
                refine r_iconst R 82 dX12_edit_81 rfl ic_iconst_1 ?_
                refine r_goto R 101 dX12_edit_82 (by decide) ?_
                exact hj101 _ _ _ _ h
              · have h := pf_ifn hc h
                refine r_iconst R 86 dX12_edit_85 rfl ic_iconst_0 ?_
                refine r_goto R 101 dX12_edit_86 (by decide) ?_
                exact hj101 _ _ _ _ h
          · have h := pf_ifn hc h
            refine r_aload_n R 32 dX12_edit_31 rfl rfl ?_
            refine r_getfield R 35 dX12_edit_32 rfl fl_X12_82 rfl (show _ = pf_R 65 0 from rfl) ?_
            refine r_iload R 37 dX12_edit_35 rfl rfl ?_
            obtain ⟨hi9, h⟩ := pf_gd h
            refine r_iaload R 38 dX12_edit_37 rfl ⟨rfl, rfl⟩ (pf_in_iff.mp hi9) ?_
            refine r_iload_n R 39 dX12_edit_38 rfl rfl ?_
            refine r_icmp_ne R 42 46 dX12_edit_39 rfl (by decide) (fun hc => ?_) (fun hc => ?_)
            · have h := pf_ifp hc h
              refine r_iconst R 43 dX12_edit_42 rfl ic_iconst_1 ?_
              refine r_goto R 101 dX12_edit_43 (by decide) ?_
              exact hj101 _ _ _ _ h
            · have h := pf_ifn hc h
              refine r_iconst R 47 dX12_edit_46 rfl ic_iconst_0 ?_
              refine r_goto R 101 dX12_edit_47 (by decide) ?_
              exact hj101 _ _ _ _ h
  unfold fX12_edit at h
  refine r_iconst R 1 dX12_edit_0 rfl ic_iconst_0 ?_
  refine r_istore R 3 dX12_edit_1 rfl rfl (show _ = [pf_R 40 0, pf_I x1, pf_I x2, pf_I x3, pf_I x4, pf_I (0 : Int32), pf_U, pf_U] from rfl) ?_
  exact hl3 pf_fu _ _ h
