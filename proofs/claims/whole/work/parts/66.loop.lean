section
variable {l : Launch} {p : Program} {e : Env} {s : State} {m : MethodId} {below : List Frame} {meth : Method} {c : Code} {b L g g2 k : Nat} {xs : Nat → Int32} {D : va_G} {t : ClassId × ClassId × ClassId × ClassId} {X Y : pf_M}
set_option maxHeartbeats 1000000 in
set_option maxRecDepth 100000 in
theorem lw_disp (Fx : lw_Fx l p s m c b L xs D t g g2) (h6 : 6 * k + 6 ≤ L) (hR : sRR X Y k) (hk : k ≤ 512) (kk : ∀ X2 Y2, sRR X2 Y2 (k + 1) → lw_St l p e s m below meth c b D t g g2 1065 X2 Y2 k) : lw_St l p e s m below meth c b D t g g2 27 X Y k := by
  intro H ls hP hQ hS hl
  obtain ⟨FC, FM, hX, hbl, hg, hg2, hL⟩ := id Fx
  have hx := FC.1
  have hb := FC.2.1
  refine lv_aload_n hx hb dL_law_27 rfl (lv_at hl 3 rfl) ?_
  refine lv_iload_n hx hb dL_law_28 rfl (lv_at hl 0 rfl) ?_
  refine va_sld hx hb hX hbl (show ¬ s.heap.size ≤ b by omega) hS (vp_in_nI (show 6 * k < L by omega) (by omega)) dL_law_29 ?_
  refine lv_bipush (v := 31) hx hb dL_law_30 (by decide) ?_
  refine lv_iand hx hb dL_law_32 ?_
  obtain ⟨j, hj, ej⟩ := pk_andE (xs (nI (6 * k)).toNatClampNeg) (m := 31) 5 (by decide)
  rw [ej]
  have hj : j < 32 := hj
  by_cases h31 : j = 31
  · subst h31
    exact lv_tableOut (tgt := 1065) hx hb dL_law_33 (Or.inr (by decide +kernel)) (by decide) (kk X Y hR.next H ls hP hQ hS hl)
  by_cases j0 : j = 0
  · subst j0
    exact lv_tableIn (off := 139) (tgt := 172) hx hb dL_law_33 (by decide +kernel) (by decide +kernel) (by decide +kernel) (by decide) (lw_c_write Fx h6 hR hk kk H ls hP hQ hS hl)
  by_cases j1 : j = 1
  · subst j1
    exact lv_tableIn (off := 162) (tgt := 195) hx hb dL_law_33 (by decide +kernel) (by decide +kernel) (by decide +kernel) (by decide) (lw_c_wipe Fx h6 hR hk kk H ls hP hQ hS hl)
  by_cases j2 : j = 2
  · subst j2
    exact lv_tableIn (off := 175) (tgt := 208) hx hb dL_law_33 (by decide +kernel) (by decide +kernel) (by decide +kernel) (by decide) (lw_c_fault Fx h6 hR hk kk H ls hP hQ hS hl)
  by_cases j3 : j = 3
  · subst j3
    exact lv_tableIn (off := 188) (tgt := 221) hx hb dL_law_33 (by decide +kernel) (by decide +kernel) (by decide +kernel) (by decide) (lw_c_lay Fx h6 hR hk kk H ls hP hQ hS hl)
  by_cases j4 : j = 4
  · subst j4
    exact lv_tableIn (off := 201) (tgt := 234) hx hb dL_law_33 (by decide +kernel) (by decide +kernel) (by decide +kernel) (by decide) (lw_c_device Fx h6 hR hk kk H ls hP hQ hS hl)
  by_cases j5 : j = 5
  · subst j5
    exact lv_tableIn (off := 234) (tgt := 267) hx hb dL_law_33 (by decide +kernel) (by decide +kernel) (by decide +kernel) (by decide) (lw_c_memory Fx h6 hR hk kk H ls hP hQ hS hl)
  by_cases j6 : j = 6
  · subst j6
    exact lv_tableIn (off := 267) (tgt := 300) hx hb dL_law_33 (by decide +kernel) (by decide +kernel) (by decide +kernel) (by decide) (lw_c_own Fx h6 hR hk kk H ls hP hQ hS hl)
  by_cases j7 : j = 7
  · subst j7
    exact lv_tableIn (off := 310) (tgt := 343) hx hb dL_law_33 (by decide +kernel) (by decide +kernel) (by decide +kernel) (by decide) (lw_c_cut Fx h6 hR hk kk H ls hP hQ hS hl)
  by_cases j8 : j = 8
  · subst j8
    exact lv_tableIn (off := 343) (tgt := 376) hx hb dL_law_33 (by decide +kernel) (by decide +kernel) (by decide +kernel) (by decide) (lw_c_lose Fx h6 hR hk kk H ls hP hQ hS hl)
  by_cases j9 : j = 9
  · subst j9
    exact lv_tableIn (off := 366) (tgt := 399) hx hb dL_law_33 (by decide +kernel) (by decide +kernel) (by decide +kernel) (by decide) (lw_c_state Fx h6 hR hk kk H ls hP hQ hS hl)
  by_cases j10 : j = 10
  · subst j10
    exact lv_tableIn (off := 399) (tgt := 432) hx hb dL_law_33 (by decide +kernel) (by decide +kernel) (by decide +kernel) (by decide) (lw_c_map Fx h6 hR hk kk H ls hP hQ hS hl)
  by_cases j11 : j = 11
  · subst j11
    exact lv_tableIn (off := 462) (tgt := 495) hx hb dL_law_33 (by decide +kernel) (by decide +kernel) (by decide +kernel) (by decide) (lw_c_unmap Fx h6 hR hk kk H ls hP hQ hS hl)
  by_cases j12 : j = 12
  · subst j12
    exact lv_tableIn (off := 495) (tgt := 528) hx hb dL_law_33 (by decide +kernel) (by decide +kernel) (by decide +kernel) (by decide) (lw_c_mapped Fx h6 hR hk kk H ls hP hQ hS hl)
  by_cases j13 : j = 13
  · subst j13
    exact lv_tableIn (off := 538) (tgt := 571) hx hb dL_law_33 (by decide +kernel) (by decide +kernel) (by decide +kernel) (by decide) (lw_c_gram Fx h6 hR hk kk H ls hP hQ hS hl)
  by_cases j14 : j = 14
  · subst j14
    exact lv_tableIn (off := 601) (tgt := 634) hx hb dL_law_33 (by decide +kernel) (by decide +kernel) (by decide +kernel) (by decide) (lw_c_clear Fx h6 hR hk kk H ls hP hQ hS hl)
  by_cases j15 : j = 15
  · subst j15
    exact lv_tableIn (off := 624) (tgt := 657) hx hb dL_law_33 (by decide +kernel) (by decide +kernel) (by decide +kernel) (by decide) (lw_c_put Fx h6 hR hk kk H ls hP hQ hS hl)
  by_cases j16 : j = 16
  · subst j16
    exact lv_tableIn (off := 667) (tgt := 700) hx hb dL_law_33 (by decide +kernel) (by decide +kernel) (by decide +kernel) (by decide) (lw_c_send Fx h6 hR hk kk H ls hP hQ hS hl)
  by_cases j17 : j = 17
  · subst j17
    exact lv_tableIn (off := 680) (tgt := 713) hx hb dL_law_33 (by decide +kernel) (by decide +kernel) (by decide +kernel) (by decide) (lw_c_home Fx h6 hR hk kk H ls hP hQ hS hl)
  by_cases j18 : j = 18
  · subst j18
    exact lv_tableIn (off := 713) (tgt := 746) hx hb dL_law_33 (by decide +kernel) (by decide +kernel) (by decide +kernel) (by decide) (lw_c_expected Fx h6 hR hk kk H ls hP hQ hS hl)
  by_cases j19 : j = 19
  · subst j19
    exact lv_tableIn (off := 736) (tgt := 769) hx hb dL_law_33 (by decide +kernel) (by decide +kernel) (by decide +kernel) (by decide) (lw_c_tell Fx h6 hR hk kk H ls hP hQ hS hl)
  by_cases j20 : j = 20
  · subst j20
    exact lv_tableIn (off := 769) (tgt := 802) hx hb dL_law_33 (by decide +kernel) (by decide +kernel) (by decide +kernel) (by decide) (lw_c_take Fx h6 hR hk kk H ls hP hQ hS hl)
  by_cases j21 : j = 21
  · subst j21
    exact lv_tableIn (off := 792) (tgt := 825) hx hb dL_law_33 (by decide +kernel) (by decide +kernel) (by decide +kernel) (by decide) (lw_c_fetch Fx h6 hR hk kk H ls hP hQ hS hl)
  by_cases j22 : j = 22
  · subst j22
    exact lv_tableIn (off := 815) (tgt := 848) hx hb dL_law_33 (by decide +kernel) (by decide +kernel) (by decide +kernel) (by decide) (lw_c_push Fx h6 hR hk kk H ls hP hQ hS hl)
  by_cases j23 : j = 23
  · subst j23
    exact lv_tableIn (off := 848) (tgt := 881) hx hb dL_law_33 (by decide +kernel) (by decide +kernel) (by decide +kernel) (by decide) (lw_c_again Fx h6 hR hk kk H ls hP hQ hS hl)
  by_cases j24 : j = 24
  · subst j24
    exact lv_tableIn (off := 871) (tgt := 904) hx hb dL_law_33 (by decide +kernel) (by decide +kernel) (by decide +kernel) (by decide) (lw_c_box Fx h6 hR hk kk H ls hP hQ hS hl)
  by_cases j25 : j = 25
  · subst j25
    exact lv_tableIn (off := 904) (tgt := 937) hx hb dL_law_33 (by decide +kernel) (by decide +kernel) (by decide +kernel) (by decide) (lw_c_later Fx h6 hR hk kk H ls hP hQ hS hl)
  by_cases j26 : j = 26
  · subst j26
    exact lv_tableIn (off := 927) (tgt := 960) hx hb dL_law_33 (by decide +kernel) (by decide +kernel) (by decide +kernel) (by decide) (lw_c_level Fx h6 hR hk kk H ls hP hQ hS hl)
  by_cases j27 : j = 27
  · subst j27
    exact lv_tableIn (off := 940) (tgt := 973) hx hb dL_law_33 (by decide +kernel) (by decide +kernel) (by decide +kernel) (by decide) (lw_c_steer Fx h6 hR hk kk H ls hP hQ hS hl)
  by_cases j28 : j = 28
  · subst j28
    exact lv_tableIn (off := 963) (tgt := 996) hx hb dL_law_33 (by decide +kernel) (by decide +kernel) (by decide +kernel) (by decide) (lw_c_clock Fx h6 hR hk kk H ls hP hQ hS hl)
  by_cases j29 : j = 29
  · subst j29
    exact lv_tableIn (off := 996) (tgt := 1029) hx hb dL_law_33 (by decide +kernel) (by decide +kernel) (by decide +kernel) (by decide) (lw_c_apart Fx h6 hR hk kk H ls hP hQ hS hl)
  by_cases j30 : j = 30
  · subst j30
    exact lv_tableIn (off := 1009) (tgt := 1042) hx hb dL_law_33 (by decide +kernel) (by decide +kernel) (by decide +kernel) (by decide) (lw_c_count Fx h6 hR hk kk H ls hP hQ hS hl)
  omega
theorem lw_gt {i L : Nat} (hi : i ≤ 3072) (hL : L ≤ 3072) : (nI L - 6 < nI i) ↔ L < i + 6 := by
  have e6 : ((6 : Int32)).toInt = 6 := rfl
  have eL := nI_toInt (n := L) (by omega)
  have ei := nI_toInt (n := i) (by omega)
  have es : (nI L - 6).toInt = (nI L).toInt - ((6 : Int32)).toInt := si_sub (by rw [e6, eL]; omega) (by rw [e6, eL]; omega)
  rw [Int32.lt_iff_toInt_lt, es, eL, e6, ei]
  omega
theorem lw_loop (Fx : lw_Fx l p s m c b L xs D t g g2) (hr : meth.sig.returnType = ret) (hlocks : meth.locks = false) : ∀ (n k : Nat) (X Y : pf_M), k + n = 512 → sRR X Y k → lw_St l p e s m below meth c b D t g g2 18 X Y k := by
  obtain ⟨FC, FM, hX, hbl, hg, hg2, hL⟩ := id Fx
  have hx := FC.1
  have hb := FC.2.1
  have out : ∀ (H : Heap) (ls : Array Slot), W p l e room_1 s m #[.ref b] below meth c H [] 165 1861 (lw_Z below #[.ref b] s) (F0 m 1071 ls []) := by
    intro H ls
    refine lv_iconst (v := 1) hx hb dL_law_1071 (by decide) ?_
    exact W.widen (Nat.le_of_ble_eq_true rfl) (Nat.le_of_ble_eq_true rfl) (lw_ret hx hb hr hlocks dL_law_1072)
  intro n
  induction n with
  | zero =>
    intro k X Y hk hR H ls hP hQ hS hl
    refine lv_iload_n hx hb dL_law_18 rfl (lv_at hl 0 rfl) ?_
    refine lv_aload_n hx hb dL_law_19 rfl (lv_at hl 3 rfl) ?_
    refine va_slen hx hb hX hbl (show ¬ s.heap.size ≤ b by omega) hS dL_law_20 ?_
    refine lv_bipush (v := 6) hx hb dL_law_21 (by decide) ?_
    refine lv_isub hx hb dL_law_23 ?_
    exact lv_icmp_gt (tgt := 1071) hx hb dL_law_24 (by decide) (fun _ => out H ls) (fun h => absurd ((lw_gt (i := 6 * k) (L := L) (by omega) hL).mpr (by omega)) h)
  | succ n ih =>
    intro k X Y hk hR H ls hP hQ hS hl
    refine lv_iload_n hx hb dL_law_18 rfl (lv_at hl 0 rfl) ?_
    refine lv_aload_n hx hb dL_law_19 rfl (lv_at hl 3 rfl) ?_
    refine va_slen hx hb hX hbl (show ¬ s.heap.size ≤ b by omega) hS dL_law_20 ?_
    refine lv_bipush (v := 6) hx hb dL_law_21 (by decide) ?_
    refine lv_isub hx hb dL_law_23 ?_
    refine lv_icmp_gt (tgt := 1071) hx hb dL_law_24 (by decide) (fun _ => out H ls) (fun h => ?_)
    have h6 : 6 * k + 6 ≤ L := Nat.not_lt.mp (fun w => h ((lw_gt (i := 6 * k) (L := L) (by omega) hL).mpr w))
    refine lw_disp Fx h6 hR (by omega) (fun X2 Y2 hR2 H ls hP hQ hS hl => ?_) H ls hP hQ hS hl
    refine lv_iinc (k := 0) (v := nI (6 * (k + 1))) hx hb dL_law_1065 hl rfl (by rw [show Int32.ofInt 6 = nI 6 from rfl, nI_add]; congr 1) (by decide) rfl (fun ls hl => ?_)
    refine lv_goto (tgt := 18) hx hb dL_law_1068 (by decide) ?_
    exact ih (k + 1) X2 Y2 (by omega) hR2 H ls hP hQ hS hl
end
