def fX11_tail (M : pf_M) : Option pf_M := (fX10_readRing M).bind fun q => (fX9_build q.2).bind fun M2 => some (fX10_empty M2)
def fX11_app : List Int32 → pf_M → Option pf_M
  | [], M => fX11_tail M
  | c :: r, M => (fX10_append c M).bind fun q => fX11_app r q.2
abbrev ps_tx : String := "d1130005;d2250204;d3341003;d0720504;e432;"
def ps_All (G : pf_G) (adK adV : Nat → Nat) (U : State) : Prop := ps_SA (pc_A G) adK adV U U.heap ∧ vk_R RX11 39 ps_tx (adK 0) U
theorem ps_drop {i : Nat} (hi : i < 41) : ps_b.drop i = ps_b.getD i 0 :: ps_b.drop (i + 1) := by
  have h : ∀ i, i < 41 → ps_b.drop i = ps_b.getD i 0 :: ps_b.drop (i + 1) := by decide +kernel
  exact h i hi
set_option maxHeartbeats 1000000 in
set_option maxRecDepth 100000 in
theorem k_X11_init (l : Launch) (D : va_G) (b : Nat) (t : ClassId × ClassId × ClassId × ClassId) (adK adV : Nat → Nat) (q : pf_M) (hM : fX11_app ps_b (fun _ _ _ => 0) = some q) : Met l yX11_init (.code yX11_init cX11_init 2 none :: pf_tb) (pc_rm 5 106 126 990) (va_Pc [.ref b] (fun U => pc_H (gC l D b t) [.inr (11, [.null, .null, .null, .null])] U.heap ∧ pc_X (gC l D b t) U ∧ ps_All (gC l D b t) adK adV U)) (pc_QM (gC l D b t) q) 126 990 (pc_A (gC l D b t)) := by
  refine pc_ofG (by decide +kernel) (Nat.le_of_ble_eq_true rfl) ?_
  intro p e s m args below meth c ls F0' hin hret hlocks hP0 hl
  obtain ⟨hx, hb, hml, hown, hts⟩ := id F0'
  have F : pc_Fix (gC l D b t) p s m args c cX11_init RX11 2 := ⟨hx, hb, hml, hown, hts, hP0.2.1⟩
  have hl : lv_has ls 2 [(0, .ref b)] := hl
  refine k_X11_pre l D b t (gC l D b t) rfl F rfl hin hl hP0.1 (fun H locs hP hS => ?_)
  have hok : pf_ok (gC l D b t).2.2.2.2 0 0 := ⟨by decide, rfl⟩
  have hok1 : pf_ok (gC l D b t).2.2.2.2 1 0 := ⟨by decide, rfl⟩
  have hok7 : pf_ok (gC l D b t).2.2.2.2 7 0 := ⟨by decide, rfl⟩
  obtain ⟨hSA, hvk⟩ := hP0.2.2
  have hown : s.vm.findClass RX11 = some m.cls := hown
  refine lv_iconst (v := 0) hx hb dX11_init_56 (by decide) ?_
  refine lv_istore_n (lv' := [(1, .int 0), (0, .ref b)]) hx hb dX11_init_57 rfl hl (by decide) rfl (fun ls hl => ?_)
  have loop : ∀ (n i : Nat) (M : pf_M) (H : Heap) (locs : List Loc) (ls : Array Slot), i + n = 41 → fX11_app (ps_b.drop i) M = some q → va_P D vwCl (pf_W (gC l D b t) M) H → va_S (pc_A (gC l D b t)) s.heap H locs → lv_has ls 2 [(1, .int (nI i)), (0, .ref b)] → W p l e (headSpec (Cond.code yX11_init cX11_init 2 none :: pf_tb) (pc_rm 5 106 126 990)).room s m args below meth c H locs 126 990 (MQ below (pc_QM (gC l D b t) q) args s 126 990 (pc_A (gC l D b t))) (F0 m 58 ls []) := by
    intro n
    induction n with
    | zero =>
      intro i M H locs ls hi hM hP hS hl
      obtain rfl : i = 41 := by omega
      have hM : fX11_tail M = some q := hM
      refine lv_iload_n hx hb dX11_init_58 rfl (lv_at hl 0 rfl) ?_
      refine va_ldcS hx hb hown hvk dX11_init_59 ?_
      refine ps_callV (As := []) (rest := [.int (nI 41)]) F0' slk_41 rfl (k_J0_length l adK adV) hSA hS rfl hl.1 (Nat.le_of_ble_eq_true rfl) (Nat.le_of_ble_eq_true rfl) (Nat.le_of_ble_eq_true rfl) (Nat.le_of_ble_eq_true rfl) (Nat.le_of_ble_eq_true rfl) rfl dX11_init_61 (fun H1 locs _ hk hS => ?_)
      have hP : va_P D vwCl (pf_W (gC l D b t) M) H1 := hP.kept (fun k x hx => hk x.1 (hP k x hx).lt)
      refine lv_icmp_ge (tgt := 87) hx hb dX11_init_64 (by decide) (fun _ => ?_) (fun h => absurd (by decide) h)
      unfold fX11_tail at hM
      obtain ⟨q1, h1, hM⟩ := pf_bd hM
      obtain ⟨M2, h2, hM⟩ := pf_bd hM
      refine lv_aload_n hx hb dX11_init_87 rfl (lv_at hl 1 rfl) ?_
      refine pd_get (kd := 0) (i := 0) (k := 0) (v := .ref (pf_ad (gC l D b t) 1 0)) F.pf rfl fl_X11_10 hok hP rfl dX11_init_88 ?_
      refine pd_callV (kd := 1) (i := 0) (as := []) (rest := []) F.pf rfl lk_X11_55 (Nat.le_of_ble_eq_true rfl) (Nat.le_of_ble_eq_true rfl) (c_X10_readRing (gC l D b t) _ _ h1) hok1 (fun w hw => by cases hw) hP (pf_A_pc _) hS hl.1 (Nat.le_of_ble_eq_true rfl) (Nat.le_of_ble_eq_true rfl) (Nat.le_of_ble_eq_true rfl) rfl dX11_init_91 (fun H locs hP _ _ hS => ?_)
      refine W.eq (g2 := F0 m 94 ls [.int q1.1]) rfl ?_
      refine lv_pop hx hb dX11_init_94 rfl ?_
      refine lv_aload_n hx hb dX11_init_95 rfl (lv_at hl 1 rfl) ?_
      refine pd_get (kd := 0) (i := 0) (k := 1) (v := .ref (pf_ad (gC l D b t) 7 0)) F.pf rfl fl_X11_19 hok hP rfl dX11_init_96 ?_
      refine lv_aload_n hx hb dX11_init_99 rfl (lv_at hl 1 rfl) ?_
      refine pd_get (kd := 0) (i := 0) (k := 0) (v := .ref (pf_ad (gC l D b t) 1 0)) F.pf rfl fl_X11_10 hok hP rfl dX11_init_100 ?_
      refine pd_callV (kd := 7) (i := 0) (as := [pf_R 1 0]) (rest := []) F.pf rfl lk_X11_58 (Nat.le_of_ble_eq_true rfl) (Nat.le_of_ble_eq_true rfl) (c_X9_build (gC l D b t) _ _ h2) hok7 (fun w hw => by rw [List.mem_singleton.mp hw]; exact hok1) hP (pf_A_pc _) hS hl.1 (Nat.le_of_ble_eq_true rfl) (Nat.le_of_ble_eq_true rfl) (Nat.le_of_ble_eq_true rfl) rfl dX11_init_103 (fun H locs hP _ _ hS => ?_)
      refine W.eq (g2 := F0 m 106 ls []) rfl ?_
      refine lv_aload_n hx hb dX11_init_106 rfl (lv_at hl 1 rfl) ?_
      refine pd_get (kd := 0) (i := 0) (k := 0) (v := .ref (pf_ad (gC l D b t) 1 0)) F.pf rfl fl_X11_10 hok hP rfl dX11_init_107 ?_
      refine pd_callV (kd := 1) (i := 0) (as := []) (rest := []) F.pf rfl lk_X11_62 (Nat.le_of_ble_eq_true rfl) (Nat.le_of_ble_eq_true rfl) (c_X10_empty (gC l D b t) _ _ (Option.some.inj hM)) hok1 (fun w hw => by cases hw) hP (pf_A_pc _) hS hl.1 (Nat.le_of_ble_eq_true rfl) (Nat.le_of_ble_eq_true rfl) (Nat.le_of_ble_eq_true rfl) rfl dX11_init_110 (fun H locs hP _ _ hS => ?_)
      refine W.eq (g2 := F0 m 113 ls []) rfl ?_
      exact W.vret hx hb hret (fun t ht hW => ⟨⟨rfl, by rw [ht]; exact hP⟩, hS.F ht⟩) hS.2.2 dX11_init_113 hlocks
    | succ n ih =>
      intro i M H locs ls hi hM hP hS hl
      have hi41 : i < 41 := by omega
      rw [ps_drop hi41] at hM
      obtain ⟨q1, h1, hM⟩ := pf_bd (show (fX10_append (ps_b.getD i 0) M).bind (fun q => fX11_app (ps_b.drop (i + 1)) q.2) = some q from hM)
      refine lv_iload_n hx hb dX11_init_58 rfl (lv_at hl 0 rfl) ?_
      refine va_ldcS hx hb hown hvk dX11_init_59 ?_
      refine ps_callV (As := []) (rest := [.int (nI i)]) F0' slk_41 rfl (k_J0_length l adK adV) hSA hS rfl hl.1 (Nat.le_of_ble_eq_true rfl) (Nat.le_of_ble_eq_true rfl) (Nat.le_of_ble_eq_true rfl) (Nat.le_of_ble_eq_true rfl) (Nat.le_of_ble_eq_true rfl) rfl dX11_init_61 (fun H1 locs _ hk hS => ?_)
      have hP : va_P D vwCl (pf_W (gC l D b t) M) H1 := hP.kept (fun k x hx => hk x.1 (hP k x hx).lt)
      refine lv_icmp_ge (tgt := 87) hx hb dX11_init_64 (by decide) (fun h => absurd ((nI_leI (a := 41) (b := i) (by omega) (by omega)).mp h) (by omega)) (fun _ => ?_)
      refine lv_aload_n hx hb dX11_init_67 rfl (lv_at hl 1 rfl) ?_
      refine pd_get (kd := 0) (i := 0) (k := 0) (v := .ref (pf_ad (gC l D b t) 1 0)) F.pf rfl fl_X11_10 hok hP rfl dX11_init_68 ?_
      refine va_ldcS hx hb hown hvk dX11_init_71 ?_
      refine lv_iload_n hx hb dX11_init_73 rfl (lv_at hl 0 rfl) ?_
      refine ps_callV (As := [.int (nI i)]) (rest := [.ref (pf_ad (gC l D b t) 1 0)]) F0' slk_47 rfl (k_J0_charAt l adK adV hi41) hSA hS rfl hl.1 (Nat.le_of_ble_eq_true rfl) (Nat.le_of_ble_eq_true rfl) (Nat.le_of_ble_eq_true rfl) (Nat.le_of_ble_eq_true rfl) (Nat.le_of_ble_eq_true rfl) rfl dX11_init_74 (fun H2 locs _ hk hS => ?_)
      have hP : va_P D vwCl (pf_W (gC l D b t) M) H2 := hP.kept (fun k x hx => hk x.1 (hP k x hx).lt)
      refine pd_callV (kd := 1) (i := 0) (as := [pf_I (ps_b.getD i 0)]) (rest := []) F.pf rfl lk_X11_51 (Nat.le_of_ble_eq_true rfl) (Nat.le_of_ble_eq_true rfl) (c_X10_append (gC l D b t) _ _ _ h1) hok1 (fun w hw => by rw [List.mem_singleton.mp hw]; trivial) hP (pf_A_pc _) hS hl.1 (Nat.le_of_ble_eq_true rfl) (Nat.le_of_ble_eq_true rfl) (Nat.le_of_ble_eq_true rfl) rfl dX11_init_77 (fun H locs hP _ _ hS => ?_)
      refine W.eq (g2 := F0 m 80 ls [.int q1.1]) rfl ?_
      refine lv_pop hx hb dX11_init_80 rfl ?_
      refine lv_iinc (k := 0) (v := nI (i + 1)) hx hb dX11_init_81 hl rfl (nI_1 i) (by decide) rfl (fun ls hl => ?_)
      refine lv_goto (tgt := 58) hx hb dX11_init_84 (by decide) ?_
      exact ih (i + 1) q1.2 H locs ls (by omega) hM hP hS hl
  exact loop 41 0 _ H locs ls rfl hM hP hS hl
