theorem ok4 {G : pf_G} (w : pf_V) (x1 x2 x3 x4 : Int32) (hw : w ∈ [pf_I x1, pf_I x2, pf_I x3, pf_I x4]) : pf_okv G w := by
  simp only [List.mem_cons, List.not_mem_nil, or_false] at hw
  rcases hw with rfl | rfl | rfl | rfl <;> trivial
set_option maxHeartbeats 200000 in
set_option maxRecDepth 100000 in
theorem k_X12_init (l : Launch) (D : va_G) (b : Nat) (t : ClassId × ClassId × ClassId × ClassId) (q : pf_M) (hM : fX12_ctor (fun _ _ _ => 0) = some q) : Met l yX12_init (.code yX12_init cX12_init 1 none :: pf_tb) (pc_rm 2 60 37 817) (va_Pc [.ref b] (fun U => pc_H (gM l D b t) [.inr (12, [.int 0, .null, .int 0, .int 0, .null, .null, .null, .null, .int 0, .int 0, .int 0, .null, .null, .null, .null, .int 0, .int 0, .null, .null, .null, .null, .null, .int 0, .int 0, .null, .null, .null, .null, .null, .null, .null, .null, .null, .null, .null, .null, .null, .null, .null, .null, .int 0, .null, .null, .null, .int 0, .null, .int 0, .null, .null, .null])] U.heap ∧ pc_X (gM l D b t) U)) (pc_QM (gM l D b t) q) 37 817 (pc_A (gM l D b t)) := by
  refine pc_ofG (by decide +kernel) (Nat.le_of_ble_eq_true rfl) ?_
  intro p e s m args below meth c ls F hin hret hlocks hP hl
  obtain ⟨hx, hb, hml, hown, hts⟩ := id F
  have F : pc_Fix (gM l D b t) p s m args c cX12_init RX12 1 := ⟨hx, hb, hml, hown, hts, hP.2⟩
  have hl : lv_has ls 1 [(0, .ref b)] := hl
  refine k_X12_pre l D b t (gM l D b t) rfl F rfl hin hl hP.1 (fun H locs hP hS => ?_)
  have hok : pf_ok (gM l D b t).2.2.2.2 40 0 := ⟨by decide, rfl⟩
  unfold fX12_ctor at hM
  refine lv_aload_n hx hb dX12_init_296 rfl (lv_at hl 0 rfl) ?_
  refine pd_callV (kd := 40) (i := 0) (as := []) (rest := []) F.pf rfl lk_X12_121 (Nat.le_of_ble_eq_true rfl) (Nat.le_of_ble_eq_true rfl) (c_X12_empty (gM l D b t) _ _ rfl) hok (fun w hw => by cases hw) hP (pf_A_pc _) hS hl.1 (Nat.le_of_ble_eq_true rfl) (Nat.le_of_ble_eq_true rfl) (Nat.le_of_ble_eq_true rfl) rfl dX12_init_297 (fun H locs hP _ _ hS => ?_)
  refine W.eq (g2 := F0 m 300 ls []) rfl ?_
  refine lv_aload_n hx hb dX12_init_300 rfl (lv_at hl 0 rfl) ?_
  refine lv_bipush (v := 11) hx hb dX12_init_301 (by decide) ?_
  refine lv_iconst (v := 3) hx hb dX12_init_303 (by decide) ?_
  refine lv_iconst (v := 0) hx hb dX12_init_304 (by decide) ?_
  refine lv_iconst (v := 5) hx hb dX12_init_305 (by decide) ?_
  obtain ⟨M1, h1, hM⟩ := pf_bd hM
  refine pd_callV (kd := 40) (i := 0) (as := [pf_I 11, pf_I 3, pf_I 0, pf_I 5]) (rest := []) F.pf rfl lk_X12_124 (Nat.le_of_ble_eq_true rfl) (Nat.le_of_ble_eq_true rfl) (c_X12_deviceIs (gM l D b t) 11 3 0 5 _ _ h1) hok (fun w hw => ok4 w _ _ _ _ hw) hP (pf_A_pc _) hS hl.1 (Nat.le_of_ble_eq_true rfl) (Nat.le_of_ble_eq_true rfl) (Nat.le_of_ble_eq_true rfl) rfl dX12_init_306 (fun H locs hP _ _ hS => ?_)
  refine W.eq (g2 := F0 m 309 ls []) rfl ?_
  refine lv_aload_n hx hb dX12_init_309 rfl (lv_at hl 0 rfl) ?_
  refine lv_bipush (v := 22) hx hb dX12_init_310 (by decide) ?_
  refine lv_iconst (v := 5) hx hb dX12_init_312 (by decide) ?_
  refine lv_bipush (v := 20) hx hb dX12_init_313 (by decide) ?_
  refine lv_iconst (v := 4) hx hb dX12_init_315 (by decide) ?_
  obtain ⟨M2, h2, hM⟩ := pf_bd hM
  refine pd_callV (kd := 40) (i := 0) (as := [pf_I 22, pf_I 5, pf_I 20, pf_I 4]) (rest := []) F.pf rfl lk_X12_124 (Nat.le_of_ble_eq_true rfl) (Nat.le_of_ble_eq_true rfl) (c_X12_deviceIs (gM l D b t) 22 5 20 4 _ _ h2) hok (fun w hw => ok4 w _ _ _ _ hw) hP (pf_A_pc _) hS hl.1 (Nat.le_of_ble_eq_true rfl) (Nat.le_of_ble_eq_true rfl) (Nat.le_of_ble_eq_true rfl) rfl dX12_init_316 (fun H locs hP _ _ hS => ?_)
  refine W.eq (g2 := F0 m 319 ls []) rfl ?_
  refine lv_aload_n hx hb dX12_init_319 rfl (lv_at hl 0 rfl) ?_
  refine lv_bipush (v := 33) hx hb dX12_init_320 (by decide) ?_
  refine lv_iconst (v := 4) hx hb dX12_init_322 (by decide) ?_
  refine lv_bipush (v := 100) hx hb dX12_init_323 (by decide) ?_
  refine lv_iconst (v := 3) hx hb dX12_init_325 (by decide) ?_
  obtain ⟨M3, h3, hM⟩ := pf_bd hM
  refine pd_callV (kd := 40) (i := 0) (as := [pf_I 33, pf_I 4, pf_I 100, pf_I 3]) (rest := []) F.pf rfl lk_X12_124 (Nat.le_of_ble_eq_true rfl) (Nat.le_of_ble_eq_true rfl) (c_X12_deviceIs (gM l D b t) 33 4 100 3 _ _ h3) hok (fun w hw => ok4 w _ _ _ _ hw) hP (pf_A_pc _) hS hl.1 (Nat.le_of_ble_eq_true rfl) (Nat.le_of_ble_eq_true rfl) (Nat.le_of_ble_eq_true rfl) rfl dX12_init_326 (fun H locs hP _ _ hS => ?_)
  refine W.eq (g2 := F0 m 329 ls []) rfl ?_
  refine lv_aload_n hx hb dX12_init_329 rfl (lv_at hl 0 rfl) ?_
  refine lv_bipush (v := 7) hx hb dX12_init_330 (by decide) ?_
  refine lv_iconst (v := 2) hx hb dX12_init_332 (by decide) ?_
  refine lv_bipush (v := 50) hx hb dX12_init_333 (by decide) ?_
  refine lv_iconst (v := 4) hx hb dX12_init_335 (by decide) ?_
  obtain ⟨M4, h4, hM⟩ := pf_bd hM
  refine pd_callV (kd := 40) (i := 0) (as := [pf_I 7, pf_I 2, pf_I 50, pf_I 4]) (rest := []) F.pf rfl lk_X12_124 (Nat.le_of_ble_eq_true rfl) (Nat.le_of_ble_eq_true rfl) (c_X12_deviceIs (gM l D b t) 7 2 50 4 _ _ h4) hok (fun w hw => ok4 w _ _ _ _ hw) hP (pf_A_pc _) hS hl.1 (Nat.le_of_ble_eq_true rfl) (Nat.le_of_ble_eq_true rfl) (Nat.le_of_ble_eq_true rfl) rfl dX12_init_336 (fun H locs hP _ _ hS => ?_)
  refine W.eq (g2 := F0 m 339 ls []) rfl ?_
  refine lv_aload_n hx hb dX12_init_339 rfl (lv_at hl 0 rfl) ?_
  refine pd_get (kd := 40) (i := 0) (k := 5) (v := .ref (pf_ad (gM l D b t) 43 0)) F.pf rfl fl_X12_16 hok hP rfl dX12_init_340 ?_
  refine lv_bipush (v := 8) hx hb dX12_init_343 (by decide) ?_
  refine lv_iconst (v := 4) hx hb dX12_init_345 (by decide) ?_
  refine pd_iast (kd := 43) (i := 0) (n := 9) F.pf ⟨rfl, rfl⟩ ⟨by decide, rfl⟩ (vp_in_nI (n := 8) (by omega) (by omega)) hP (pf_A_pc _) hS dX12_init_346 (fun H locs hP hS => ?_)
  refine lv_aload_n hx hb dX12_init_347 rfl (lv_at hl 0 rfl) ?_
  refine lv_iconst (v := 3) hx hb dX12_init_348 (by decide) ?_
  refine pd_put (kd := 40) (i := 0) (k := 8) F.pf rfl rfl fl_X12_128 rfl rfl hok hP (pf_A_pc _) hS dX12_init_349 (fun H locs hP hS => ?_)
  refine lv_aload_n hx hb dX12_init_352 rfl (lv_at hl 0 rfl) ?_
  refine lv_iconst (v := 2) hx hb dX12_init_353 (by decide) ?_
  refine pd_put (kd := 40) (i := 0) (k := 9) F.pf rfl rfl fl_X12_132 rfl rfl hok hP (pf_A_pc _) hS dX12_init_354 (fun H locs hP hS => ?_)
  refine lv_aload_n hx hb dX12_init_357 rfl (lv_at hl 0 rfl) ?_
  refine pd_callV (kd := 40) (i := 0) (as := []) (rest := []) F.pf rfl lk_X12_135 (Nat.le_of_ble_eq_true rfl) (Nat.le_of_ble_eq_true rfl) (c_X12_begin (gM l D b t) _ _ hM) hok (fun w hw => by cases hw) hP (pf_A_pc _) hS hl.1 (Nat.le_of_ble_eq_true rfl) (Nat.le_of_ble_eq_true rfl) (Nat.le_of_ble_eq_true rfl) rfl dX12_init_358 (fun H locs hP _ _ hS => ?_)
  refine W.eq (g2 := F0 m 361 ls []) rfl ?_
  exact W.vret hx hb hret (fun t ht hW => ⟨⟨rfl, by rw [ht]; exact hP⟩, hS.F ht⟩) hS.2.2 dX12_init_361 hlocks
