section
variable {G : pf_G} {p : Program} {e : Env} {R : Room} {s : State} {m : MethodId} {args : Array Value} {below : List Frame} {meth : Method} {c : Code} {cc : ByteArray} {own : String} {nL : Nat} {Q : State → Prop} {lo st r : List pf_V} {M : pf_M} {pc : Nat} {H : Heap} {locs : List Loc} {ls : Array Slot} {rest : List Value} {FR LO : Nat} {ret : Option FieldType} {r0 : Option pf_V} {M0 : pf_M}
theorem pf_ret_ok {v : Option pf_V} {r : List pf_V} (hv : ∀ w, v = some w → pf_okv G w) (hr : ∀ w ∈ r, pf_okv G w) : ∀ w ∈ v.toList ++ r, pf_okv G w := by
  intro w hw
  rcases List.mem_append.mp hw with q | q
  · cases v with
    | none => cases q
    | some z => rw [List.mem_singleton.mp q]; exact hv z rfl
  · exact hr w q
theorem pf_map_ret {v : Option pf_V} {r : List pf_V} : (v.toList ++ r).map (pf_cv G) = (v.map (pf_cv G)).toList ++ r.map (pf_cv G) := by
  cases v <;> rfl
theorem pf_callV {y : MethodName} {cc2 : ByteArray} {nL2 fr lo2 kd i ci idx : Nat} {rt : Option FieldType} {as : List pf_V} {v : Option pf_V} {M' : pf_M} (F : pf_Fix G p s m args c cc own nL) (hR1 : R.frames = FR) (hR2 : R.locals = LO) (hci : pf_ci kd = some ci) (hL : pf_LkV own idx ci y cc2 nL2 rt as.length) (hfr : fr + 1 ≤ FR) (hlo2 : 8 + (nL2 + 11) + lo2 ≤ LO) (hM : pf_Met G y cc2 nL2 rt fr lo2 (pf_R kd i :: as) M v M') (hwd : pf_wd r ≤ 8) (hlen : lo.length = nL) (hl : pf_LR G lo nL ls) (hst : ∀ w ∈ as.reverse ++ pf_R kd i :: r, pf_okv G w) (hP : va_P G.2.1 vwCl (pf_W G M) H) (hS : va_S (pf_A G) s.heap H locs) (hd : decode cc pc = .ok (.invokevirtual idx, 3))
    (kk : ∀ (H1 : Heap) (locs1 : List Loc), (∀ w, v = some w → pf_okv G w) → va_P G.2.1 vwCl (pf_W G M') H1 → va_S (pf_A G) s.heap H1 locs1 → W p G.1 e R s m args below meth c H1 locs1 0 0 Q (F0 m (pc + 3) ls ((v.toList ++ r).map (pf_cv G)))) : W p G.1 e R s m args below meth c H locs 0 0 Q (F0 m pc ls ((as.reverse ++ pf_R kd i :: r).map (pf_cv G))) := by
  obtain ⟨hx, hb, hml, hown, hts, hK, hN⟩ := F
  obtain ⟨⟨l1, l2, l3, l4⟩, ⟨T, N, l5⟩, l6, l7, l8⟩ := hL
  have hok : pf_ok G.2.2.2.2 kd i := hst (pf_R kd i) (List.mem_append_right _ List.mem_cons_self)
  have hM := hM (fun w hw => by
    rcases List.mem_cons.mp hw with rfl | q
    · exact hok
    · exact hst w (List.mem_append_left _ (List.mem_reverse.mpr q)))
  obtain ⟨q0, hq⟩ := pf_get (M := M) hok
  rw [pf_cx_obj hci] at hq
  have hG := pf_tbg y cc2 nL2 rt l2 (ws := pf_tb) (fun _ h => h)
  have hpre : PreV s H y.cls (pf_ad G kd i) (va_Pc ((pf_R kd i :: as).map (pf_cv G)) (pf_World G M)) (as.map (pf_cv G)) := ⟨pf_blind _, va_recv hK hP l5 hq, fun U hU hW => ⟨rfl, by rw [hU]; exact hP, va_K.moved hW.alike hK, pf_NW.warm hW hN⟩⟩
  have hstk : (as.reverse ++ pf_R kd i :: r).map (pf_cv G) = (as.map (pf_cv G)).reverse ++ .ref (pf_ad G kd i) :: r.map (pf_cv G) := by
    rw [List.map_append, List.map_reverse]; rfl
  have hroom : 2 * (F0 m pc ls ((as.reverse ++ pf_R kd i :: r).map (pf_cv G))).monitorRoom + ((r.map (pf_cv G)).map fun v => v.category).sum ≤ 8 := lv_room (by rw [pf_wdc]; exact hwd)
  have hlen2 : ∀ sig, parseMethodDescriptor y.desc = some sig → as.length = sig.parameters.length := fun sig h => by
    rw [h] at l4
    exact (Option.some.inj l4).symm
  have hk : ∀ (H1 : Heap) (locs1 : List Loc), (∀ w, v = some w → pf_okv G w) → va_P G.2.1 vwCl (pf_W G M') H1 → va_S (pf_A G) s.heap H1 locs1 → W p G.1 e R s m args below meth c H1 locs1 0 0 Q (F0 m (pc + 3) ls ((v.map (pf_cv G)).toList ++ r.map (pf_cv G))) := fun H1 locs1 a b d => by
    rw [← pf_map_ret]; exact kk H1 locs1 a b d
  have cb : (pf_rm0 fr lo2).cells = 0 ∧ (pf_rm0 fr lo2).slots = 0 ∧ (pf_rm0 fr lo2).frames + 1 ≤ R.frames ∧ 8 + (nL2 + 11) + (pf_rm0 fr lo2).locals ≤ R.locals ∧ (∀ w ∈ Cond.code y cc2 nL2 rt :: pf_tb, ∀ (a' : Array Value) (U : State), s.WarmedH U.vm → w.before a' U = true) ∧ Cond.code y cc2 nL2 rt ∈ Cond.code y cc2 nL2 rt :: pf_tb := ⟨rfl, rfl, by rw [hR1]; exact hfr, by rw [hR2]; exact hlo2, pay_in hts hG, List.mem_cons_self⟩
  rcases l8 with l8 | ⟨host, l8⟩
  · exact pf_back (va_runV (Ts := pf_tb) (own := own) (C := y.cls) (n := as.length) ⟨hx, hb, hml, hown, hts⟩ hM ⟨⟨cb.1, cb.2.1, cb.2.2.1, cb.2.2.2.1, cb.2.2.2.2.1, cb.2.2.2.2.2, hts _ l2, hts _ l1, l3, hlen2, hts _ l8⟩, hts _ l6, hts _ l7⟩ hpre rfl (List.length_map _) hl.1 hstk hroom hd ⟨Nat.zero_le _, Nat.zero_le _⟩) hS hk
  · exact pf_back (va_runVN (Ts := pf_tb) (own := own) (C := y.cls) (host := host) (n := as.length) ⟨hx, hb, hml, hown, hts⟩ hM ⟨⟨cb, hts _ l2, hts _ l1, l3, hlen2, va_Nw.use (by rfl) (hN _ l8)⟩, hts _ l6, hts _ l7⟩ hpre rfl (List.length_map _) hl.1 hstk hroom hd ⟨Nat.zero_le _, Nat.zero_le _⟩) hS hk
theorem pf_callS {y : MethodName} {cc2 : ByteArray} {nL2 fr lo2 idx : Nat} {rt : Option FieldType} {as : List pf_V} {v : Option pf_V} {M' : pf_M} (F : pf_Fix G p s m args c cc own nL) (hR1 : R.frames = FR) (hR2 : R.locals = LO) (hL : pf_LkS own idx y cc2 nL2 rt as.length) (hfr : fr + 1 ≤ FR) (hlo2 : 8 + (nL2 + 11) + lo2 ≤ LO) (hM : pf_Met G y cc2 nL2 rt fr lo2 as M v M') (hwd : pf_wd r ≤ 8) (hlen : lo.length = nL) (hl : pf_LR G lo nL ls) (hst : ∀ w ∈ as.reverse ++ r, pf_okv G w) (hP : va_P G.2.1 vwCl (pf_W G M) H) (hS : va_S (pf_A G) s.heap H locs) (hd : decode cc pc = .ok (.invokestatic idx, 3))
    (kk : ∀ (H1 : Heap) (locs1 : List Loc), (∀ w, v = some w → pf_okv G w) → va_P G.2.1 vwCl (pf_W G M') H1 → va_S (pf_A G) s.heap H1 locs1 → W p G.1 e R s m args below meth c H1 locs1 0 0 Q (F0 m (pc + 3) ls ((v.toList ++ r).map (pf_cv G)))) : W p G.1 e R s m args below meth c H locs 0 0 Q (F0 m pc ls ((as.reverse ++ r).map (pf_cv G))) := by
  obtain ⟨hx, hb, hml, hown, hts, hK, hN⟩ := F
  obtain ⟨⟨l1, l2, l3, l4⟩, l6, l8⟩ := hL
  have hM := hM (fun w hw => hst w (List.mem_append_left _ (List.mem_reverse.mpr hw)))
  have hG := pf_tbg y cc2 nL2 rt l2 (ws := pf_tb) (fun _ h => h)
  have hpre : PreS s H (va_Pc (as.map (pf_cv G)) (pf_World G M)) (as.map (pf_cv G)) := ⟨pf_blind _, fun U hU hW => ⟨rfl, by rw [hU]; exact hP, va_K.moved hW.alike hK, pf_NW.warm hW hN⟩⟩
  have hstk : (as.reverse ++ r).map (pf_cv G) = (as.map (pf_cv G)).reverse ++ r.map (pf_cv G) := by
    rw [List.map_append, List.map_reverse]
  have hroom : 2 * (F0 m pc ls ((as.reverse ++ r).map (pf_cv G))).monitorRoom + ((r.map (pf_cv G)).map fun v => v.category).sum ≤ 8 := lv_room (by rw [pf_wdc]; exact hwd)
  have hlen2 : ∀ sig, parseMethodDescriptor y.desc = some sig → as.length = sig.parameters.length := fun sig h => by
    rw [h] at l4
    exact (Option.some.inj l4).symm
  have hk : ∀ (H1 : Heap) (locs1 : List Loc), (∀ w, v = some w → pf_okv G w) → va_P G.2.1 vwCl (pf_W G M') H1 → va_S (pf_A G) s.heap H1 locs1 → W p G.1 e R s m args below meth c H1 locs1 0 0 Q (F0 m (pc + 3) ls ((v.map (pf_cv G)).toList ++ r.map (pf_cv G))) := fun H1 locs1 a b d => by
    rw [← pf_map_ret]; exact kk H1 locs1 a b d
  have cb : (pf_rm0 fr lo2).cells = 0 ∧ (pf_rm0 fr lo2).slots = 0 ∧ (pf_rm0 fr lo2).frames + 1 ≤ R.frames ∧ 8 + (nL2 + 11) + (pf_rm0 fr lo2).locals ≤ R.locals ∧ (∀ w ∈ Cond.code y cc2 nL2 rt :: pf_tb, ∀ (a' : Array Value) (U : State), s.WarmedH U.vm → w.before a' U = true) ∧ Cond.code y cc2 nL2 rt ∈ Cond.code y cc2 nL2 rt :: pf_tb := ⟨rfl, rfl, by rw [hR1]; exact hfr, by rw [hR2]; exact hlo2, pay_in hts hG, List.mem_cons_self⟩
  rcases l8 with l8 | ⟨host, l8⟩
  · exact pf_back (va_runS (Ts := pf_tb) (own := own) (n := as.length) ⟨hx, hb, hml, hown, hts⟩ hM ⟨⟨cb.1, cb.2.1, cb.2.2.1, cb.2.2.2.1, cb.2.2.2.2.1, cb.2.2.2.2.2, hts _ l2, hts _ l1, l3, hlen2, hts _ l8⟩, hts _ l6⟩ hpre rfl (List.length_map _) hl.1 hstk hroom hd ⟨Nat.zero_le _, Nat.zero_le _⟩) hS hk
  · exact pf_back (va_runSN (Ts := pf_tb) (own := own) (host := host) (n := as.length) ⟨hx, hb, hml, hown, hts⟩ hM ⟨⟨cb, hts _ l2, hts _ l1, l3, hlen2, va_Nw.use (by rfl) (hN _ l8)⟩, hts _ l6, trivial⟩ hpre rfl (List.length_map _) hl.1 hstk hroom hd ⟨Nat.zero_le _, Nat.zero_le _⟩) hS hk
set_option maxHeartbeats 4000000 in
theorem pf_sound (F : pf_Fix G p s m args c cc own nL) (hR1 : R.frames = FR) (hR2 : R.locals = LO) (hret : meth.sig.returnType = ret) (hlocks : meth.locks = false) : pf_RU G cc own FR LO ret r0 M0 (pf_AW G p e R s m args below meth c nL (MQ below (pf_QX G r0 M0) args s 0 0 (pf_A G))) := by
  obtain ⟨hx, hb, hml, hown, hts, hK, hN⟩ := id F
  refine ⟨?_, fun pc mask lo st M k hlen hlo hst H locs ls hP hS hl => k (by rw [pf_fg_len]; exact hlen) (fun w hw => ?_) hst H locs ls hP hS ⟨hl.1, hl.2.1, fun i w hw hu => ?_⟩⟩
  rotate_left
  · obtain ⟨j, hj⟩ := List.getElem?_of_mem hw
    rcases pf_fg_get mask lo j w hj with rfl | q
    · trivial
    · exact pf_mem_get hlo q
  · rcases pf_fg_get mask lo i w hw with rfl | q
    · cases hu
    · exact hl.2.2 i w q hu
  intro pc len ins hd lo st M h
  cases ins
  case aconst_null =>
    obtain ⟨rfl, k⟩ := h
    intro hlen hlo hst H locs ls hP hS hl
    exact lv_null hx hb hd (k hlen hlo (pf_oks trivial hst) H locs ls hP hS hl)
  case iconst n =>
    obtain ⟨rfl, k⟩ := h
    intro hlen hlo hst H locs ls hP hS hl
    exact lv_iconst hx hb hd rfl (k hlen hlo (pf_oks trivial hst) H locs ls hP hS hl)
  case bipush n =>
    obtain ⟨rfl, k⟩ := h
    intro hlen hlo hst H locs ls hP hS hl
    exact lv_bipush hx hb hd rfl (k hlen hlo (pf_oks trivial hst) H locs ls hP hS hl)
  case sipush n =>
    obtain ⟨rfl, k⟩ := h
    intro hlen hlo hst H locs ls hP hS hl
    exact lv_sipush hx hb hd rfl (k hlen hlo (pf_oks trivial hst) H locs ls hP hS hl)
  case lconst n =>
    obtain ⟨rfl, k⟩ := h
    intro hlen hlo hst H locs ls hP hS hl
    exact lv_lconst hx hb hd rfl (k hlen hlo (pf_oks trivial hst) H locs ls hP hS hl)
  case ldc idx =>
    obtain ⟨v, rfl, hc, k⟩ := h
    intro hlen hlo hst H locs ls hP hS hl
    exact lv_ldc hx hb hown (hts _ hc) hd (k hlen hlo (pf_oks trivial hst) H locs ls hP hS hl)
  case ldc_w idx =>
    obtain ⟨v, rfl, hc, k⟩ := h
    intro hlen hlo hst H locs ls hP hS hl
    exact lv_ldcw hx hb hown (hts _ hc) hd (k hlen hlo (pf_oks trivial hst) H locs ls hP hS hl)
  case ldc2_w idx =>
    obtain ⟨v, rfl, hc, k⟩ := h
    intro hlen hlo hst H locs ls hP hS hl
    exact lv_ldc2 hx hb hown (hts _ hc) hd (k hlen hlo (pf_oks trivial hst) H locs ls hP hS hl)
  case iload_n n =>
    obtain ⟨x, rfl, hg, k⟩ := h
    intro hlen hlo hst H locs ls hP hS hl
    exact lv_iload_n hx hb hd rfl (hl.2.2 _ _ hg rfl) (k hlen hlo (pf_oks trivial hst) H locs ls hP hS hl)
  case iload i =>
    obtain ⟨x, rfl, hg, k⟩ := h
    intro hlen hlo hst H locs ls hP hS hl
    exact lv_iload hx hb hd (hl.2.2 _ _ hg rfl) (k hlen hlo (pf_oks trivial hst) H locs ls hP hS hl)
  case lload_n n =>
    obtain ⟨x, rfl, hg, k⟩ := h
    intro hlen hlo hst H locs ls hP hS hl
    exact lv_lload_n hx hb hd rfl (hl.2.2 _ _ hg rfl) (k hlen hlo (pf_oks trivial hst) H locs ls hP hS hl)
  case lload i =>
    obtain ⟨x, rfl, hg, k⟩ := h
    intro hlen hlo hst H locs ls hP hS hl
    exact lv_lload hx hb hd (hl.2.2 _ _ hg rfl) (k hlen hlo (pf_oks trivial hst) H locs ls hP hS hl)
  case aload_n n =>
    obtain ⟨q, rfl, hg, k⟩ := h
    intro hlen hlo hst H locs ls hP hS hl
    have k := k hlen hlo (pf_oks (pf_mem_get hlo hg) hst) H locs ls hP hS hl
    cases q with
    | none => exact lv_aload_nN hx hb hd rfl (hl.2.2 _ _ hg rfl) k
    | some q => exact lv_aload_n hx hb hd rfl (hl.2.2 _ _ hg rfl) k
  case aload i =>
    obtain ⟨q, rfl, hg, k⟩ := h
    intro hlen hlo hst H locs ls hP hS hl
    have k := k hlen hlo (pf_oks (pf_mem_get hlo hg) hst) H locs ls hP hS hl
    cases q with
    | none => exact lv_aloadN hx hb hd (hl.2.2 _ _ hg rfl) k
    | some q => exact lv_aload hx hb hd (hl.2.2 _ _ hg rfl) k
  case istore_n n =>
    obtain ⟨x, r, rfl, rfl, hi, k⟩ := h
    intro hlen hlo hst H locs ls hP hS hl
    exact lv_istore_n hx hb hd rfl hl.has (by omega) rfl (fun ls' hl' => k (by rw [pf_st1_len]; exact hlen) (pf_st1_ok hlo trivial) (pf_okt hst) H locs ls' hP hS (pf_LR.st1 (v := pf_I x) hl'))
  case istore i =>
    obtain ⟨x, r, rfl, rfl, hi, k⟩ := h
    intro hlen hlo hst H locs ls hP hS hl
    exact lv_istore hx hb hd hl.has (by omega) rfl (fun ls' hl' => k (by rw [pf_st1_len]; exact hlen) (pf_st1_ok hlo trivial) (pf_okt hst) H locs ls' hP hS (pf_LR.st1 (v := pf_I x) hl'))
  case astore_n n =>
    obtain ⟨q, r, rfl, rfl, hi, k⟩ := h
    intro hlen hlo hst H locs ls hP hS hl
    cases q with
    | none => exact lv_astore_nN hx hb hd rfl hl.has (by omega) rfl (fun ls' hl' => k (by rw [pf_st1_len]; exact hlen) (pf_st1_ok hlo (pf_okh hst)) (pf_okt hst) H locs ls' hP hS (pf_LR.st1 (v := pf_N) hl'))
    | some q => exact lv_astore_n hx hb hd rfl hl.has (by omega) rfl (fun ls' hl' => k (by rw [pf_st1_len]; exact hlen) (pf_st1_ok hlo (pf_okh hst)) (pf_okt hst) H locs ls' hP hS (pf_LR.st1 (v := pf_R q.1 q.2) hl'))
  case astore i =>
    obtain ⟨q, r, rfl, rfl, hi, k⟩ := h
    intro hlen hlo hst H locs ls hP hS hl
    cases q with
    | none => exact lv_astoreN hx hb hd hl.has (by omega) rfl (fun ls' hl' => k (by rw [pf_st1_len]; exact hlen) (pf_st1_ok hlo (pf_okh hst)) (pf_okt hst) H locs ls' hP hS (pf_LR.st1 (v := pf_N) hl'))
    | some q => exact lv_astore hx hb hd hl.has (by omega) rfl (fun ls' hl' => k (by rw [pf_st1_len]; exact hlen) (pf_st1_ok hlo (pf_okh hst)) (pf_okt hst) H locs ls' hP hS (pf_LR.st1 (v := pf_R q.1 q.2) hl'))
  case lstore_n n =>
    obtain ⟨x, r, rfl, rfl, hi, k⟩ := h
    intro hlen hlo hst H locs ls hP hS hl
    exact lv_lstore_n hx hb hd rfl hl.has (by omega) rfl (fun ls' hl' => k (by rw [pf_st2_len]; exact hlen) (pf_st2_ok hlo trivial) (pf_okt hst) H locs ls' hP hS (pf_LR.st2 (v := pf_L x) hl'))
  case lstore i =>
    obtain ⟨x, r, rfl, rfl, hi, k⟩ := h
    intro hlen hlo hst H locs ls hP hS hl
    exact lv_lstore hx hb hd hl.has (by omega) rfl (fun ls' hl' => k (by rw [pf_st2_len]; exact hlen) (pf_st2_ok hlo trivial) (pf_okt hst) H locs ls' hP hS (pf_LR.st2 (v := pf_L x) hl'))
  case iinc i n =>
    obtain ⟨x, rfl, hg, k⟩ := h
    intro hlen hlo hst H locs ls hP hS hl
    obtain ⟨z, hz⟩ := List.getElem?_of_mem (pf_pr_mem (G := G).mpr (show ∃ v, lo[(i, Value.int x).1]? = some v ∧ pf_isU v = false ∧ (i, Value.int x).2 = pf_cv G v from ⟨pf_I x, hg, rfl, rfl⟩))
    have hi := (List.getElem?_eq_some_iff.mp hg).1
    exact lv_iinc hx hb hd hl.has hz rfl (by omega) rfl (fun ls' hl' => k (by rw [pf_st1_len]; exact hlen) (pf_st1_ok hlo trivial) hst H locs ls' hP hS (pf_LR.st1 (v := pf_I (x + Int32.ofInt n)) hl'))
  case iadd =>
    obtain ⟨x, y, r, rfl, rfl, k⟩ := h
    intro hlen hlo hst H locs ls hP hS hl
    exact lv_iadd hx hb hd (k hlen hlo (pf_oks trivial (pf_okt (pf_okt hst))) H locs ls hP hS hl)
  case isub =>
    obtain ⟨x, y, r, rfl, rfl, k⟩ := h
    intro hlen hlo hst H locs ls hP hS hl
    exact lv_isub hx hb hd (k hlen hlo (pf_oks trivial (pf_okt (pf_okt hst))) H locs ls hP hS hl)
  case imul =>
    obtain ⟨x, y, r, rfl, rfl, k⟩ := h
    intro hlen hlo hst H locs ls hP hS hl
    exact lv_imul hx hb hd (k hlen hlo (pf_oks trivial (pf_okt (pf_okt hst))) H locs ls hP hS hl)
  case ior =>
    obtain ⟨x, y, r, rfl, rfl, k⟩ := h
    intro hlen hlo hst H locs ls hP hS hl
    exact lv_ior hx hb hd (k hlen hlo (pf_oks trivial (pf_okt (pf_okt hst))) H locs ls hP hS hl)
  case iand =>
    obtain ⟨x, y, r, rfl, rfl, k⟩ := h
    intro hlen hlo hst H locs ls hP hS hl
    exact lv_iand hx hb hd (k hlen hlo (pf_oks trivial (pf_okt (pf_okt hst))) H locs ls hP hS hl)
  case ixor =>
    obtain ⟨x, y, r, rfl, rfl, k⟩ := h
    intro hlen hlo hst H locs ls hP hS hl
    exact lv_ixor hx hb hd (k hlen hlo (pf_oks trivial (pf_okt (pf_okt hst))) H locs ls hP hS hl)
  case ladd =>
    obtain ⟨x, y, r, rfl, rfl, k⟩ := h
    intro hlen hlo hst H locs ls hP hS hl
    exact lv_ladd hx hb hd (k hlen hlo (pf_oks trivial (pf_okt (pf_okt hst))) H locs ls hP hS hl)
  case lsub =>
    obtain ⟨x, y, r, rfl, rfl, k⟩ := h
    intro hlen hlo hst H locs ls hP hS hl
    exact lv_lsub hx hb hd (k hlen hlo (pf_oks trivial (pf_okt (pf_okt hst))) H locs ls hP hS hl)
  case lmul =>
    obtain ⟨x, y, r, rfl, rfl, k⟩ := h
    intro hlen hlo hst H locs ls hP hS hl
    exact lv_lmul hx hb hd (k hlen hlo (pf_oks trivial (pf_okt (pf_okt hst))) H locs ls hP hS hl)
  case idiv =>
    obtain ⟨x, y, r, rfl, rfl, hne, k⟩ := h
    intro hlen hlo hst H locs ls hP hS hl
    exact lv_idiv hx hb hd hne (k hlen hlo (pf_oks trivial (pf_okt (pf_okt hst))) H locs ls hP hS hl)
  case irem =>
    obtain ⟨x, y, r, rfl, rfl, hne, k⟩ := h
    intro hlen hlo hst H locs ls hP hS hl
    exact lv_irem hx hb hd hne (k hlen hlo (pf_oks trivial (pf_okt (pf_okt hst))) H locs ls hP hS hl)
  case ldiv =>
    obtain ⟨x, y, r, rfl, rfl, hne, k⟩ := h
    intro hlen hlo hst H locs ls hP hS hl
    exact lv_ldiv hx hb hd hne (k hlen hlo (pf_oks trivial (pf_okt (pf_okt hst))) H locs ls hP hS hl)
  case lrem =>
    obtain ⟨x, y, r, rfl, rfl, hne, k⟩ := h
    intro hlen hlo hst H locs ls hP hS hl
    exact lv_lrem hx hb hd hne (k hlen hlo (pf_oks trivial (pf_okt (pf_okt hst))) H locs ls hP hS hl)
  case ineg =>
    obtain ⟨x, r, rfl, rfl, k⟩ := h
    intro hlen hlo hst H locs ls hP hS hl
    exact lv_ineg hx hb hd (k hlen hlo (pf_oks trivial (pf_okt hst)) H locs ls hP hS hl)
  case lneg =>
    obtain ⟨x, r, rfl, rfl, k⟩ := h
    intro hlen hlo hst H locs ls hP hS hl
    exact lv_lneg hx hb hd (k hlen hlo (pf_oks trivial (pf_okt hst)) H locs ls hP hS hl)
  case i2l =>
    obtain ⟨x, r, rfl, rfl, k⟩ := h
    intro hlen hlo hst H locs ls hP hS hl
    exact lv_i2l hx hb hd rfl (k hlen hlo (pf_oks trivial (pf_okt hst)) H locs ls hP hS hl)
  case l2i =>
    obtain ⟨x, r, rfl, rfl, k⟩ := h
    intro hlen hlo hst H locs ls hP hS hl
    exact lv_l2i hx hb hd rfl (k hlen hlo (pf_oks trivial (pf_okt hst)) H locs ls hP hS hl)
  case i2c =>
    obtain ⟨x, r, rfl, rfl, k⟩ := h
    intro hlen hlo hst H locs ls hP hS hl
    exact lv_i2c hx hb hd rfl (k hlen hlo (pf_oks trivial (pf_okt hst)) H locs ls hP hS hl)
  case lcmp =>
    obtain ⟨x, y, r, rfl, rfl, k⟩ := h
    intro hlen hlo hst H locs ls hP hS hl
    exact W.lcmp hx hb hd (k hlen hlo (pf_oks trivial (pf_okt (pf_okt hst))) H locs ls hP hS hl)
  case dup =>
    obtain ⟨v, r, rfl, rfl, hc, k⟩ := h
    intro hlen hlo hst H locs ls hP hS hl
    exact lv_dup hx hb hd ((pf_cat_cv G v).trans hc) (k hlen hlo (pf_oks (pf_okh hst) hst) H locs ls hP hS hl)
  case dup2 =>
    obtain ⟨v, w, r, rfl, rfl, hc, hc2, k⟩ := h
    intro hlen hlo hst H locs ls hP hS hl
    exact lv_dup2_11 hx hb hd ((pf_cat_cv G v).trans hc) ((pf_cat_cv G w).trans hc2) (k hlen hlo (pf_oks (pf_okh hst) (pf_oks (pf_okh (pf_okt hst)) hst)) H locs ls hP hS hl)
  case pop =>
    obtain ⟨v, r, rfl, rfl, hc, k⟩ := h
    intro hlen hlo hst H locs ls hP hS hl
    exact lv_pop hx hb hd ((pf_cat_cv G v).trans hc) (k hlen hlo (pf_okt hst) H locs ls hP hS hl)
  case goto off =>
    obtain ⟨tgt, rfl, ht, k⟩ := h
    intro hlen hlo hst H locs ls hP hS hl
    exact lv_goto hx hb hd ht (k hlen hlo hst H locs ls hP hS hl)
  case if_icmp cnd off =>
    obtain ⟨x, y, r, tgt, rfl, rfl, ht, k1, k2⟩ := h
    intro hlen hlo hst H locs ls hP hS hl
    have k1 := fun hc => k1 hc hlen hlo (pf_okt (pf_okt hst)) H locs ls hP hS hl
    have k2 := fun hc => k2 hc hlen hlo (pf_okt (pf_okt hst)) H locs ls hP hS hl
    cases cnd with
    | eq => exact lv_icmp_eq hx hb hd ht k1 k2
    | ne => exact lv_icmp_ne hx hb hd ht k1 (fun hc => k2 (fun q => q hc))
    | lt => exact lv_icmp_lt hx hb hd ht k1 k2
    | ge => exact lv_icmp_ge hx hb hd ht k1 k2
    | gt => exact lv_icmp_gt hx hb hd ht k1 k2
    | le => exact lv_icmp_le hx hb hd ht k1 k2
  case ifCond cnd off =>
    obtain ⟨x, r, tgt, rfl, rfl, ht, k1, k2⟩ := h
    intro hlen hlo hst H locs ls hP hS hl
    have k1 := fun hc => k1 hc hlen hlo (pf_okt hst) H locs ls hP hS hl
    have k2 := fun hc => k2 hc hlen hlo (pf_okt hst) H locs ls hP hS hl
    cases cnd with
    | eq => exact lv_if_eq hx hb hd ht k1 k2
    | ne => exact lv_if_ne hx hb hd ht k1 (fun hc => k2 (fun q => q hc))
    | lt => exact lv_if_lt hx hb hd ht k1 k2
    | ge => exact lv_if_ge hx hb hd ht k1 k2
    | gt => exact lv_if_gt hx hb hd ht k1 k2
    | le => exact lv_if_le hx hb hd ht k1 k2
  case ifnull off =>
    obtain ⟨q, r, tgt, rfl, rfl, ht, k1, k2⟩ := h
    intro hlen hlo hst H locs ls hP hS hl
    cases q with
    | none => exact lv_ifnullN hx hb hd ht (k1 rfl hlen hlo (pf_okt hst) H locs ls hP hS hl)
    | some q => exact lv_ifnull hx hb hd (k2 (by simp) hlen hlo (pf_okt hst) H locs ls hP hS hl)
  case ifnonnull off =>
    obtain ⟨q, r, tgt, rfl, rfl, ht, k1, k2⟩ := h
    intro hlen hlo hst H locs ls hP hS hl
    cases q with
    | none => exact lv_ifnonnullN hx hb hd (k1 rfl hlen hlo (pf_okt hst) H locs ls hP hS hl)
    | some q => exact lv_ifnonnull hx hb hd ht (k2 (by simp) hlen hlo (pf_okt hst) H locs ls hP hS hl)
  case tableswitch dflt low high offs =>
    obtain ⟨x, r, tgt, rfl, hsw, k⟩ := h
    intro hlen hlo hst H locs ls hP hS hl
    have k := k hlen hlo (pf_okt hst) H locs ls hP hS hl
    rcases hsw with ⟨h1, h2⟩ | ⟨off, h1, h2, h3, h4⟩
    · exact lv_tableOut hx hb hd h1 h2 k
    · exact lv_tableIn hx hb hd h1 h2 h3 h4 k
  case getfield idx =>
    obtain ⟨kd, i, k, ci, ty, fin, r, rfl, rfl, hci, hF, kk⟩ := h
    intro hlen hlo hst H locs ls hP hS hl
    have hok := pf_okh hst
    have hk : k < 50 := by
      obtain ⟨C, T, N, ty0, h1, h2, h3, h4⟩ := hF
      have := pf_nf_le ci
      omega
    exact pf_u_get F hci hF hok hP hd (kk hlen hlo (pf_oks (pf_fv_ok hok hk) (pf_okt hst)) H locs ls hP hS hl)
  case putfield idx =>
    obtain ⟨kd, i, k, ci, ty, x, r, rfl, rfl, hci, hrs, hF, hn, hf, kk⟩ := h
    intro hlen hlo hst H locs ls hP hS hl
    exact pf_u_put F hci hrs hF hn hf (pf_okh (pf_okt hst)) hP hS hd (fun H1 locs1 hP1 hS1 => kk hlen hlo (pf_okt (pf_okt hst)) H1 locs1 ls hP1 hS1 hl)
  case iaload =>
    obtain ⟨kd, i, n, j, r, rfl, rfl, hk, hin, kk⟩ := h
    intro hlen hlo hst H locs ls hP hS hl
    exact pf_u_iald F hk (pf_okh (pf_okt hst)) hin hP hd (kk hlen hlo (pf_oks trivial (pf_okt (pf_okt hst))) H locs ls hP hS hl)
  case iastore =>
    obtain ⟨kd, i, n, j, x, r, rfl, rfl, hk, hin, kk⟩ := h
    intro hlen hlo hst H locs ls hP hS hl
    exact pf_u_iast F hk (pf_okh (pf_okt (pf_okt hst))) hin hP hS hd (fun H1 locs1 hP1 hS1 => kk hlen hlo (pf_okt (pf_okt (pf_okt hst))) H1 locs1 ls hP1 hS1 hl)
  case caload =>
    obtain ⟨kd, i, n, j, r, rfl, rfl, hk, hk2, hin, kk⟩ := h
    intro hlen hlo hst H locs ls hP hS hl
    exact pf_u_cald F hk hk2 (pf_okh (pf_okt hst)) hin hP hd (kk hlen hlo (pf_oks trivial (pf_okt (pf_okt hst))) H locs ls hP hS hl)
  case castore =>
    obtain ⟨kd, i, n, j, x, r, rfl, rfl, hk, hk2, hin, kk⟩ := h
    intro hlen hlo hst H locs ls hP hS hl
    exact pf_u_cast F hk hk2 (pf_okh (pf_okt (pf_okt hst))) hin hP hS hd (fun H1 locs1 hP1 hS1 => kk hlen hlo (pf_okt (pf_okt (pf_okt hst))) H1 locs1 ls hP1 hS1 hl)
  case aaload =>
    obtain ⟨kd, i, n, t, el, j, r, rfl, rfl, hk, hk2, hk3, hin, kk⟩ := h
    intro hlen hlo hst H locs ls hP hS hl
    exact pf_u_aald F hk hk2 hk3 (pf_okh (pf_okt hst)) hin hP hd (kk hlen hlo (pf_oks (pf_ra_ok (pf_okh (pf_okt hst)) hk3 hin) (pf_okt (pf_okt hst))) H locs ls hP hS hl)
  case arraylength =>
    obtain ⟨kd, i, n, r, rfl, rfl, hk, kk⟩ := h
    intro hlen hlo hst H locs ls hP hS hl
    exact pf_u_alen F hk (pf_okh hst) hP hd (kk hlen hlo (pf_oks trivial (pf_okt hst)) H locs ls hP hS hl)
  case ireturn =>
    obtain ⟨x, ty, rfl, rfl, hrt, hn, rfl, rfl⟩ := h
    intro hlen hlo hst H locs ls hP hS hl
    exact W.zret hx hb (hret.trans hrt) hn (fun t ht hW => ⟨⟨rfl, fun v hv => (by cases hv; trivial), by rw [ht]; exact hP⟩, hS.F ht⟩) hS.2.2 hd hlocks
  case lreturn =>
    obtain ⟨x, rfl, rfl, hrt, rfl, rfl⟩ := h
    intro hlen hlo hst H locs ls hP hS hl
    exact W.lret hx hb (hret.trans hrt) (fun t ht hW => ⟨⟨rfl, fun v hv => (by cases hv; trivial), by rw [ht]; exact hP⟩, hS.F ht⟩) hS.2.2 hd hlocks
  case areturn =>
    obtain ⟨q, n, rfl, rfl, hrt, rfl, rfl⟩ := h
    intro hlen hlo hst H locs ls hP hS hl
    have hok := pf_okh hst
    cases q with
    | none => exact W.aret hx hb (hret.trans hrt) (Or.inl ⟨n, rfl⟩) (Or.inl rfl) (fun t ht hW => ⟨⟨rfl, fun v hv => (by cases hv; trivial), by rw [ht]; exact hP⟩, hS.F ht⟩) hS.2.2 hd hlocks
    | some q => exact W.aret hx hb (hret.trans hrt) (Or.inl ⟨n, rfl⟩) (Or.inr ⟨_, rfl⟩) (fun t ht hW => ⟨⟨rfl, fun v hv => (by cases hv; exact hok), by rw [ht]; exact hP⟩, hS.F ht⟩) hS.2.2 hd hlocks
  case return_ =>
    obtain ⟨rfl, rfl, hrt, rfl, rfl⟩ := h
    intro hlen hlo hst H locs ls hP hS hl
    exact W.vret hx hb (hret.trans hrt) (fun t ht hW => ⟨⟨rfl, fun v hv => (by cases hv), by rw [ht]; exact hP⟩, hS.F ht⟩) hS.2.2 hd hlocks
  case invokevirtual idx =>
    obtain ⟨y, cc2, nL2, rt, fr, lo2, as, kd, i, ci, r, v, M', rfl, rfl, hwd, hci, hL, hfr, hlo2, hM, kk⟩ := h
    intro hlen hlo hst H locs ls hP hS hl
    exact pf_callV F hR1 hR2 hci hL hfr hlo2 hM hwd hlen hl hst hP hS hd (fun H1 locs1 hv hP1 hS1 => kk hlen hlo (pf_ret_ok hv (fun w hw => hst w (List.mem_append_right _ (List.mem_cons_of_mem _ hw)))) H1 locs1 ls hP1 hS1 hl)
  case invokestatic idx =>
    rcases h with ⟨y, cc2, nL2, rt, fr, lo2, as, r, v, M', rfl, rfl, hwd, hL, hfr, hlo2, hM, kk⟩ | ⟨n, dp, sp, k1, i1, k0, i0, n0, n1, r, rfl, rfl, hA, hk0, hk1, a1, a2, a3, a4, a5, hfr, hlo2, kk⟩
    · intro hlen hlo hst H locs ls hP hS hl
      exact pf_callS F hR1 hR2 hL hfr hlo2 hM hwd hlen hl hst hP hS hd (fun H1 locs1 hv hP1 hS1 => kk hlen hlo (pf_ret_ok hv (fun w hw => hst w (List.mem_append_right _ hw))) H1 locs1 ls hP1 hS1 hl)
    · intro hlen hlo hst H locs ls hP hS hl
      exact pf_u_copy F hl.1 hA hk0 hk1 (pf_okh (pf_okt (pf_okt (pf_okt (pf_okt hst))))) (pf_okh (pf_okt (pf_okt hst))) a1 a2 a3 a4 a5 (by rw [hR1]; exact hfr) (by rw [hR2, pf_wdc]; exact hlo2) hP hS hd (fun H1 locs1 hP1 hS1 => kk hlen hlo (pf_okt (pf_okt (pf_okt (pf_okt (pf_okt hst))))) H1 locs1 ls hP1 hS1 hl)
  all_goals exact False.elim h
theorem pf_ofW {y : MethodName} {l : Launch} {ws ws' : List Cond} {rm : Room} {Pc : Array Value → State → Prop} {Qc : Array Value → State → Outcome → State → Prop} {mc ms : Nat} {free : Addr → Prop} {cc : ByteArray} {maxL : Nat} {ret : Option FieldType}
    (hy : plainFor y = true) (hw : ws = Cond.code y cc maxL ret :: ws')
    (body : ∀ p e s m args below meth c s₁, BodyLoose p l y (headSpec ws rm) cc maxL ret e s m args below meth c s₁ → c.maxLocals = maxL → Pc args s →
      W p l e (headSpec ws rm).room s m args below meth c s.heap [] 0 0 (MQ below Qc args s mc ms free) (entryFrame m args maxL)) : Met l y ws rm Pc Qc mc ms free := by
  refine MetFree.of_bodySF (code := cc) (maxLocals := maxL) (ret := ret) hy ?_ ?_
  · intro args s m h hn
    obtain ⟨meth, c, h1, h2, h3, h4, h5, h6, -, -⟩ := Cond.code_spec hn (atoms_spec (ws := ws) h _ (by rw [hw]; exact List.mem_cons_self))
    exact ⟨meth, c, h1, h2, h3, h4, h5, h6⟩
  · intro p e s m args below meth c s₁ B hml hP _
    have hh0 : s₁.heap = s.heap := by rw [B.state]; rfl
    obtain ⟨t, a1, o, b1, b2, b3⟩ := body p e s m args below meth c s₁ B hml hP s₁ hh0 (Stand.of_body B)
    exact ⟨t, o, a1, b1, b2, ⟨b3.1, b3.2⟩⟩
/-- a method's contract out of its rows -/
theorem pf_Met.of {y : MethodName} {cc : ByteArray} {nL fr lo : Nat} {ret : Option FieldType} {avs : List pf_V} {M : pf_M} {v : Option pf_V} {M' : pf_M} (hy : plainFor y = true) (hen : (pf_en avs).length ≤ nL)
    (h : ∀ K : Nat → List pf_V → List pf_V → pf_M → Prop, pf_RU G cc y.cls fr lo ret v M' K → K 0 (pf_ent avs nL) [] M) : pf_Met G y cc nL ret fr lo avs M v M' := by
  intro hav
  refine pf_ofW (cc := cc) (maxL := nL) (ret := ret) hy rfl ?_
  intro p e s m args below meth c s₁ B hml hv
  obtain ⟨rfl, hP, hK, hN⟩ := hv
  have hown : s.vm.findClass y.cls = some m.cls := findClass_of_methodNamed B.named
  have hts0 := atoms_spec (ws := Cond.code y cc nL ret :: pf_tb) B.pre
  have F : pf_Fix G p s m ((avs.map (pf_cv G)).toArray) c cc y.cls nL := ⟨B.exec, B.bytes, hml, hown, fun w hw => hts0 w (List.mem_cons_of_mem _ hw), hK, hN⟩
  have k := h _ (pf_sound (e := e) (below := below) (R := (headSpec (Cond.code y cc nL ret :: pf_tb) (pf_rm0 fr lo)).room) F rfl rfl B.returns B.notSynchronized)
  rw [lg_entry_eq]
  refine k ?_ (pf_ent_ok hav) (fun v hv => by cases hv) s.heap [] _ hP va_S.rf (pf_LR.ent G avs hen)
  unfold pf_ent
  rw [List.length_append, List.length_replicate]
  omega
end
