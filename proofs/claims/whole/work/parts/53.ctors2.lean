section
variable {G : pf_G} {p : Program} {e : Env} {R : Room} {s : State} {m : MethodId} {args : Array Value} {below : List Frame} {meth : Method} {c : Code} {cc : ByteArray} {own : String} {nL : Nat} {Q : State → Prop} {pc : Nat} {H : Heap} {locs : List Loc} {ls : Array Slot} {rest : List Value} {pre l : List va_E} {cells slots a : Nat}
theorem pc_v_aast {t i j ci u v n : Nat} {x : Int32} {vs : List Value} {r : vw_C} {f : Nat → Option Nat} (F : pc_Fix G p s m args c cc own nL) (ha : G.2.2.1 + pre.length = a) (hH : pc_H G (pre ++ l) H) (hS : va_S (pc_A G) s.heap H locs) (hi : l[i]? = some (.inl (pf_ct G t, n, .inr (.inr (.inr (.inr f)))))) (ht : (pf_ty G)[t]? = some (pf_ct G t, .object r.1)) (hj : l[j]? = some (.inr (ci, vs))) (hc : vwCl[ci]? = some r) (hu : a + i = u) (hv : a + j = v) (hin : vp_in x n) (hd : decode cc pc = .ok (.aastore, 1))
    (kk : ∀ (H1 : Heap) (locs1 : List Loc), pc_H G (pre ++ l.set i (.inl (pf_ct G t, n, .inr (.inr (.inr (.inr (va_up f x.toNatClampNeg (some v)))))))) H1 → va_S (pc_A G) s.heap H1 locs1 → W p G.1 e R s m args below meth c H1 locs1 cells slots Q (F0 m (pc + 1) ls rest)) : W p G.1 e R s m args below meth c H locs cells slots Q (F0 m pc ls (.ref v :: .int x :: .ref u :: rest)) :=
  pc_u_aast F hH hS (pc_at hi) ht (pc_at hj) hc (by omega) (by omega) hin hd (fun H1 locs1 hH1 hS1 => kk H1 locs1 (by rw [← pc_put]; exact hH1) hS1)
end
def kx_f (b i : Nat) : Nat → Option Nat := fun j => if j < i then some (b + 9 * j) else none
theorem kx_f_up (b i : Nat) : va_up (kx_f b i) i (some (b + 9 * i)) = kx_f b (i + 1) := by
  funext j
  unfold va_up kx_f
  by_cases h : j = i
  · subst h; rw [if_pos rfl, if_pos (by omega)]
  · rw [if_neg h]
    by_cases h2 : j < i
    · rw [if_pos h2, if_pos (by omega)]
    · rw [if_neg h2, if_neg (by omega)]
def kr_ds (G : pf_G) (a i : Nat) : List va_E := (List.range i).flatMap fun j => kl_X3 G (a + 4 + 9 * j)
def kr_L (G : pf_G) (a i : Nat) : List va_E := .inr (9, [.ref (a + 1), .ref (a + 2), .ref (a + 3), .int 0, .int 0, .int 0, .int 0]) :: .inl (pf_ct G 2, 8, .inr (.inr (.inr (.inr (kx_f (a + 4) i))))) :: kl_ar G 0 9 :: kl_ar G 0 9 :: kr_ds G a i
theorem kr_ds_s (G : pf_G) (a i : Nat) : kr_ds G a (i + 1) = kr_ds G a i ++ kl_X3 G (a + 4 + 9 * i) := by
  unfold kr_ds
  rw [List.range_succ, List.flatMap_append]
  simp
theorem kr_ds_len (G : pf_G) (a i : Nat) : (kr_ds G a i).length = 9 * i := by
  induction i with
  | zero => rfl
  | succ i ih =>
    rw [kr_ds_s, List.length_append, ih]
    show 9 * i + 9 = _
    omega
theorem kr_L_len (G : pf_G) (a i : Nat) : a + (kr_L G a i).length = a + 4 + 9 * i := by
  unfold kr_L
  simp only [List.length_cons, kr_ds_len]
  omega
theorem kr_L_0 (G : pf_G) (a : Nat) : kr_L G a 0 = [.inr (9, [.ref (a + 1), .ref (a + 2), .ref (a + 3), .int 0, .int 0, .int 0, .int 0]), .inl (pf_ct G 2, 8, .inr (.inr (.inr (.inr fun _ => none)))), kl_ar G 0 9, kl_ar G 0 9] := by
  unfold kr_L
  have e : kx_f (a + 4) 0 = fun _ => none := funext fun j => if_neg (by omega)
  rw [e]
  rfl
theorem kr_L_at (G : pf_G) (a i : Nat) : (kr_L G a i ++ kl_X3 G (a + 4 + 9 * i))[(kr_L G a i).length]? = some (.inr (3, [.ref (a + 4 + 9 * i + 1), .ref (a + 4 + 9 * i + 2), .ref (a + 4 + 9 * i + 3), .ref (a + 4 + 9 * i + 4), .int 0, .int 0, .int 0, .int 0, .int 0, .int 0])) := by
  rw [List.getElem?_append_right (Nat.le_refl _), Nat.sub_self]
  rfl
theorem kr_L_put (G : pf_G) (a i : Nat) (hi : i < 8) : (kr_L G a i ++ kl_X3 G (a + 4 + 9 * i)).set 1 (.inl (pf_ct G 2, 8, .inr (.inr (.inr (.inr (va_up (kx_f (a + 4) i) (nI i).toNatClampNeg (some (a + 4 + 9 * i)))))))) = kr_L G a (i + 1) := by
  rw [si_cl (by omega), kx_f_up]
  unfold kr_L
  rw [kr_ds_s]
  rfl
def km_ds (G : pf_G) (a i : Nat) : List va_E := (List.range i).flatMap fun j => kl_X2 G (a + 5 + 9 * j)
def km_L (G : pf_G) (a r i : Nat) : List va_E := .inr (6, [.ref r, .ref (a + 1), .ref (a + 2), .int 0, .int 0]) :: .inl (pf_ct G 3, 4, .inr (.inr (.inr (.inr (kx_f (a + 5) i))))) :: (kl_X4 G (a + 2) ++ km_ds G a i)
theorem km_ds_s (G : pf_G) (a i : Nat) : km_ds G a (i + 1) = km_ds G a i ++ kl_X2 G (a + 5 + 9 * i) := by
  unfold km_ds
  rw [List.range_succ, List.flatMap_append]
  simp
theorem km_ds_len (G : pf_G) (a i : Nat) : (km_ds G a i).length = 9 * i := by
  induction i with
  | zero => rfl
  | succ i ih =>
    rw [km_ds_s, List.length_append, ih]
    show 9 * i + 9 = _
    omega
theorem km_L_len (G : pf_G) (a r i : Nat) : a + (km_L G a r i).length = a + 5 + 9 * i := by
  unfold km_L
  simp only [List.length_cons, List.length_append, km_ds_len]
  show a + (3 + 9 * i + 1 + 1) = _
  omega
theorem km_L_0 (G : pf_G) (a r : Nat) : km_L G a r 0 = [.inr (6, [.ref r, .ref (a + 1), .ref (a + 2), .int 0, .int 0]), .inl (pf_ct G 3, 4, .inr (.inr (.inr (.inr fun _ => none))))] ++ kl_X4 G (a + 2) := by
  unfold km_L
  have e : kx_f (a + 5) 0 = fun _ => none := funext fun j => if_neg (by omega)
  rw [e]
  rfl
theorem km_L_at (G : pf_G) (a r i : Nat) : (km_L G a r i ++ kl_X2 G (a + 5 + 9 * i))[(km_L G a r i).length]? = some (.inr (2, [.int 0, .int 0, .int 0, .int 0, .ref (a + 5 + 9 * i + 1), .ref (a + 5 + 9 * i + 2), .ref (a + 5 + 9 * i + 5), .ref (a + 5 + 9 * i + 8), .int 0, .int 0])) := by
  rw [List.getElem?_append_right (Nat.le_refl _), Nat.sub_self]
  rfl
theorem km_L_put (G : pf_G) (a r i : Nat) (hi : i < 4) : (km_L G a r i ++ kl_X2 G (a + 5 + 9 * i)).set 1 (.inl (pf_ct G 3, 4, .inr (.inr (.inr (.inr (va_up (kx_f (a + 5) i) (nI i).toNatClampNeg (some (a + 5 + 9 * i)))))))) = km_L G a r (i + 1) := by
  rw [si_cl (by omega), kx_f_up]
  unfold km_L
  rw [km_ds_s, ← List.append_assoc]
  rfl
set_option maxHeartbeats 400000 in
set_option maxRecDepth 100000 in
theorem k_X9_init (G : pf_G) (pre : List va_E) (a : Nat) (ha : G.2.2.1 + pre.length = a) : pc_Met G yX9_init cX9_init 2 4 72 75 442 [.ref a] (pre ++ [.inr (9, [.null, .null, .null, .int 0, .int 0, .int 0, .int 0])]) (pre ++ kr_L G a 8) := by
  refine pc_Met.of (by decide +kernel) rfl (Nat.le_of_ble_eq_true rfl) ?_
  intro p e s m args below meth c ls F hin hret hlocks hH hl
  have hx := F.1
  have hb := F.2.1
  have hS : va_S (pc_A G) s.heap s.heap [] := va_S.rf
  have hq : s.vm.findClass ("[" ++ FieldType.int.toString) = some (pf_ct G 0) := (F.2.2.2.2.2.1.2 0 (pf_ct G 0, .int) rfl).2
  have hl : lv_has ls 2 [(0, .ref a)] := hl
  refine lv_aload_n hx hb dX9_init_0 rfl (lv_at hl 0 rfl) ?_
  refine pc_u_obj F pol_X9 hl.1 (Nat.le_of_ble_eq_true rfl) (Nat.le_of_ble_eq_true rfl) dX9_init_1 ?_
  refine lv_aload_n hx hb dX9_init_4 rfl (lv_at hl 0 rfl) ?_
  refine lv_bipush (v := 8) hx hb dX9_init_5 (by decide) ?_
  refine pc_v_anew (t := 2) (N' := 8) (q := a + 1) F cl_X9_9 F.2.2.2.2.2.2.2.1 rfl ha hH hS rfl (by decide) (by decide) (Nat.le_of_ble_eq_true rfl) (Nat.le_of_ble_eq_true rfl) (Nat.le_of_ble_eq_true rfl) dX9_init_7 (fun H hH hS => ?_)
  refine W.widen (k := 1) (n := 8) (Nat.le_of_ble_eq_true rfl) (Nat.le_of_ble_eq_true rfl) ?_
  have hH : pc_H G (pre ++ ([.inr (9, [.null, .null, .null, .int 0, .int 0, .int 0, .int 0]), .inl (pf_ct G 2, 8, .inr (.inr (.inr (.inr fun _ => none))))])) H := hH
  refine pc_v_putF (ci := 9) (k := 0) (j := 0) (fs := [.null, .null, .null, .int 0, .int 0, .int 0, .int 0]) (v := .ref (a + 1)) F hin pfl_X9_11 ha hH hS rfl rfl rfl rfl (Nat.le_of_ble_eq_true rfl) dX9_init_10 (fun H locs hH hS => ?_)
  have hH : pc_H G (pre ++ ([.inr (9, [.ref (a + 1), .null, .null, .int 0, .int 0, .int 0, .int 0]), .inl (pf_ct G 2, 8, .inr (.inr (.inr (.inr fun _ => none))))])) H := hH
  refine lv_aload_n hx hb dX9_init_13 rfl (lv_at hl 0 rfl) ?_
  refine lv_bipush (v := 9) hx hb dX9_init_14 (by decide) ?_
  refine pc_v_newa (atype := .int) (t := 0) (N' := 9) (q := a + 2) F rfl ac_int hq ha hH hS rfl (fun _ => rfl) (by decide) (by decide) (Nat.le_of_ble_eq_true rfl) (Nat.le_of_ble_eq_true rfl) (Nat.le_of_ble_eq_true rfl) dX9_init_16 (fun H hH hS => ?_)
  refine W.widen (k := 2) (n := 17) (Nat.le_of_ble_eq_true rfl) (Nat.le_of_ble_eq_true rfl) ?_
  have hH : pc_H G (pre ++ ([.inr (9, [.ref (a + 1), .null, .null, .int 0, .int 0, .int 0, .int 0]), .inl (pf_ct G 2, 8, .inr (.inr (.inr (.inr fun _ => none)))), kl_ar G 0 9])) H := hH
  refine pc_v_putF (ci := 9) (k := 1) (j := 0) (fs := [.ref (a + 1), .null, .null, .int 0, .int 0, .int 0, .int 0]) (v := .ref (a + 2)) F hin pfl_X9_17 ha hH hS rfl rfl rfl rfl (Nat.le_of_ble_eq_true rfl) dX9_init_18 (fun H locs hH hS => ?_)
  have hH : pc_H G (pre ++ ([.inr (9, [.ref (a + 1), .ref (a + 2), .null, .int 0, .int 0, .int 0, .int 0]), .inl (pf_ct G 2, 8, .inr (.inr (.inr (.inr fun _ => none)))), kl_ar G 0 9])) H := hH
  refine lv_aload_n hx hb dX9_init_21 rfl (lv_at hl 0 rfl) ?_
  refine lv_bipush (v := 9) hx hb dX9_init_22 (by decide) ?_
  refine pc_v_newa (atype := .int) (t := 0) (N' := 9) (q := a + 3) F rfl ac_int hq ha hH hS rfl (fun _ => rfl) (by decide) (by decide) (Nat.le_of_ble_eq_true rfl) (Nat.le_of_ble_eq_true rfl) (Nat.le_of_ble_eq_true rfl) dX9_init_24 (fun H hH hS => ?_)
  refine W.widen (k := 3) (n := 26) (Nat.le_of_ble_eq_true rfl) (Nat.le_of_ble_eq_true rfl) ?_
  have hH : pc_H G (pre ++ ([.inr (9, [.ref (a + 1), .ref (a + 2), .null, .int 0, .int 0, .int 0, .int 0]), .inl (pf_ct G 2, 8, .inr (.inr (.inr (.inr fun _ => none)))), kl_ar G 0 9, kl_ar G 0 9])) H := hH
  refine pc_v_putF (ci := 9) (k := 2) (j := 0) (fs := [.ref (a + 1), .ref (a + 2), .null, .int 0, .int 0, .int 0, .int 0]) (v := .ref (a + 3)) F hin pfl_X9_21 ha hH hS rfl rfl rfl rfl (Nat.le_of_ble_eq_true rfl) dX9_init_26 (fun H locs hH hS => ?_)
  have hH : pc_H G (pre ++ ([.inr (9, [.ref (a + 1), .ref (a + 2), .ref (a + 3), .int 0, .int 0, .int 0, .int 0]), .inl (pf_ct G 2, 8, .inr (.inr (.inr (.inr fun _ => none)))), kl_ar G 0 9, kl_ar G 0 9])) H := hH
  refine lv_iconst (v := 0) hx hb dX9_init_29 (by decide) ?_
  refine lv_istore_n (lv' := [(1, .int 0), (0, .ref a)]) hx hb dX9_init_30 rfl hl (by decide) rfl (fun ls hl => ?_)
  have loop : ∀ (n i : Nat) (H : Heap) (locs : List Loc) (ls : Array Slot), i + n = 8 → pc_H G (pre ++ kr_L G a i) H → va_S (pc_A G) s.heap H locs → lv_has ls 2 [(1, .int (nI i)), (0, .ref a)] → W p G.1 e (pc_rm 4 72 75 442) s m args below meth c H locs (3 + 9 * i) (26 + 52 * i) (MQ below (pc_Q G (pre ++ kr_L G a 8)) args s 75 442 (pc_A G)) (F0 m 31 ls []) := by
    intro n
    induction n with
    | zero =>
      intro i H locs ls hi hH hS hl
      obtain rfl : i = 8 := by omega
      refine lv_iload_n hx hb dX9_init_31 rfl (lv_at hl 0 rfl) ?_
      refine lv_bipush (v := 8) hx hb dX9_init_32 (by decide) ?_
      refine lv_icmp_ge (tgt := 56) hx hb dX9_init_34 (by decide) (fun _ => ?_) (fun h => absurd (by decide) h)
      exact pc_u_ret F hret hlocks hH hS (Nat.le_of_ble_eq_true rfl) (Nat.le_of_ble_eq_true rfl) dX9_init_56
    | succ n ih =>
      intro i H locs ls hi hH hS hl
      have hq : a + (kr_L G a i).length = a + 4 + 9 * i := kr_L_len G a i
      refine lv_iload_n hx hb dX9_init_31 rfl (lv_at hl 0 rfl) ?_
      refine lv_bipush (v := 8) hx hb dX9_init_32 (by decide) ?_
      refine lv_icmp_ge (tgt := 56) hx hb dX9_init_34 (by decide) (fun h => absurd ((nI_leI (a := 8) (b := i) (by omega) (by omega)).mp h) (by omega)) (fun _ => ?_)
      refine lv_aload_n hx hb dX9_init_37 rfl (lv_at hl 1 rfl) ?_
      refine pc_v_get (ci := 9) (k := 0) (j := 0) (v := .ref (a + 1)) (fs := [.ref (a + 1), .ref (a + 2), .ref (a + 3), .int 0, .int 0, .int 0, .int 0]) F pfl_X9_11 ha hH rfl rfl rfl dX9_init_38 ?_
      refine lv_iload_n hx hb dX9_init_41 rfl (lv_at hl 0 rfl) ?_
      refine pc_v_new (q := a + 4 + 9 * i) F nl_X9_9 ha hH hS hq (by show 3 + 9 * i + 1 ≤ 75; omega) (by show 26 + 52 * i + 10 ≤ 442; omega) dX9_init_42 (fun H hH hS => ?_)
      refine lv_dup hx hb dX9_init_45 rfl ?_
      refine pc_v_call (As := []) F pil_X9_24 (k_X3_init G _ (a + 4 + 9 * i) (pc_len ha hq)) hH hS rfl hl.1 (Nat.le_of_ble_eq_true rfl) (Nat.le_of_ble_eq_true rfl) (by show 3 + 9 * i + 1 + 8 ≤ 75; omega) (by show 26 + 52 * i + 10 + 42 ≤ 442; omega) (Nat.le_of_ble_eq_true rfl) rfl dX9_init_46 (fun H locs hH hS => ?_)
      refine W.widen (k := 3 + 9 * (i + 1)) (n := 26 + 52 * (i + 1)) (by omega) (by omega) ?_
      refine pc_v_aast (t := 2) (i := 1) (j := (kr_L G a i).length) (ci := 3) (n := 8) F ha hH hS rfl rfl (kr_L_at G a i) rfl rfl hq (vp_in_nI (by omega) (by omega)) dX9_init_49 (fun H locs hH hS => ?_)
      rw [kr_L_put G a i (by omega)] at hH
      refine lv_iinc (k := 0) (v := nI (i + 1)) hx hb dX9_init_50 hl rfl (nI_1 i) (by decide) rfl (fun ls hl => ?_)
      refine lv_goto (tgt := 31) hx hb dX9_init_53 (by decide) ?_
      exact ih (i + 1) H locs ls (by omega) hH hS hl
  exact loop 8 0 H locs ls rfl (by rw [kr_L_0]; exact hH) hS hl
set_option maxHeartbeats 400000 in
set_option maxRecDepth 100000 in
theorem k_X6_init (G : pf_G) (pre : List va_E) (a : Nat) (r : Nat) (ha : G.2.2.1 + pre.length = a) : pc_Met G yX6_init cX6_init 3 3 52 40 275 [.ref a, .ref r] (pre ++ [.inr (6, [.null, .null, .null, .int 0, .int 0])]) (pre ++ km_L G a r 4) := by
  refine pc_Met.of (by decide +kernel) rfl (Nat.le_of_ble_eq_true rfl) ?_
  intro p e s m args below meth c ls F hin hret hlocks hH hl
  have hx := F.1
  have hb := F.2.1
  have hS : va_S (pc_A G) s.heap s.heap [] := va_S.rf
  have hq : s.vm.findClass ("[" ++ FieldType.int.toString) = some (pf_ct G 0) := (F.2.2.2.2.2.1.2 0 (pf_ct G 0, .int) rfl).2
  have hl : lv_has ls 3 [(0, .ref a), (1, .ref r)] := hl
  refine lv_aload_n hx hb dX6_init_0 rfl (lv_at hl 0 rfl) ?_
  refine pc_u_obj F pol_X6 hl.1 (Nat.le_of_ble_eq_true rfl) (Nat.le_of_ble_eq_true rfl) dX6_init_1 ?_
  refine lv_aload_n hx hb dX6_init_4 rfl (lv_at hl 0 rfl) ?_
  refine lv_iconst (v := 4) hx hb dX6_init_5 (by decide) ?_
  refine pc_v_anew (t := 3) (N' := 4) (q := a + 1) F cl_X6_9 F.2.2.2.2.2.2.2.2 rfl ha hH hS rfl (by decide) (by decide) (Nat.le_of_ble_eq_true rfl) (Nat.le_of_ble_eq_true rfl) (Nat.le_of_ble_eq_true rfl) dX6_init_6 (fun H hH hS => ?_)
  refine W.widen (k := 1) (n := 4) (Nat.le_of_ble_eq_true rfl) (Nat.le_of_ble_eq_true rfl) ?_
  have hH : pc_H G (pre ++ ([.inr (6, [.null, .null, .null, .int 0, .int 0]), .inl (pf_ct G 3, 4, .inr (.inr (.inr (.inr fun _ => none))))])) H := hH
  refine pc_v_putF (ci := 6) (k := 1) (j := 0) (fs := [.null, .null, .null, .int 0, .int 0]) (v := .ref (a + 1)) F hin pfl_X6_11 ha hH hS rfl rfl rfl rfl (Nat.le_of_ble_eq_true rfl) dX6_init_9 (fun H locs hH hS => ?_)
  have hH : pc_H G (pre ++ ([.inr (6, [.null, .ref (a + 1), .null, .int 0, .int 0]), .inl (pf_ct G 3, 4, .inr (.inr (.inr (.inr fun _ => none))))])) H := hH
  refine lv_aload_n hx hb dX6_init_12 rfl (lv_at hl 0 rfl) ?_
  refine pc_v_new (q := a + 2) F nl_X6_17 ha hH hS rfl (Nat.le_of_ble_eq_true rfl) (Nat.le_of_ble_eq_true rfl) dX6_init_13 (fun H hH hS => ?_)
  refine W.widen (k := 2) (n := 7) (Nat.le_of_ble_eq_true rfl) (Nat.le_of_ble_eq_true rfl) ?_
  refine lv_dup hx hb dX6_init_16 rfl ?_
  refine pc_v_call (As := []) F pil_X6_19 (k_X4_init G _ (a + 2) (pc_len ha rfl)) hH hS rfl hl.1 (Nat.le_of_ble_eq_true rfl) (Nat.le_of_ble_eq_true rfl) (Nat.le_of_ble_eq_true rfl) (Nat.le_of_ble_eq_true rfl) (Nat.le_of_ble_eq_true rfl) rfl dX6_init_17 (fun H locs hH hS => ?_)
  refine W.widen (k := 4) (n := 19) (Nat.le_of_ble_eq_true rfl) (Nat.le_of_ble_eq_true rfl) ?_
  have hH : pc_H G (pre ++ ([.inr (6, [.null, .ref (a + 1), .null, .int 0, .int 0]), .inl (pf_ct G 3, 4, .inr (.inr (.inr (.inr fun _ => none))))] ++ (kl_X4 G (a + 2)))) H := hH
  refine pc_v_putF (ci := 6) (k := 2) (j := 0) (fs := [.null, .ref (a + 1), .null, .int 0, .int 0]) (v := .ref (a + 2)) F hin pfl_X6_20 ha hH hS rfl rfl rfl rfl (Nat.le_of_ble_eq_true rfl) dX6_init_20 (fun H locs hH hS => ?_)
  have hH : pc_H G (pre ++ ([.inr (6, [.null, .ref (a + 1), .ref (a + 2), .int 0, .int 0]), .inl (pf_ct G 3, 4, .inr (.inr (.inr (.inr fun _ => none))))] ++ (kl_X4 G (a + 2)))) H := hH
  refine lv_aload_n hx hb dX6_init_23 rfl (lv_at hl 0 rfl) ?_
  refine lv_aload_n hx hb dX6_init_24 rfl (lv_at hl 1 rfl) ?_
  refine pc_v_putF (ci := 6) (k := 0) (j := 0) (fs := [.null, .ref (a + 1), .ref (a + 2), .int 0, .int 0]) (v := .ref r) F hin pfl_X6_24 ha hH hS rfl rfl rfl rfl (Nat.le_of_ble_eq_true rfl) dX6_init_25 (fun H locs hH hS => ?_)
  have hH : pc_H G (pre ++ ([.inr (6, [.ref r, .ref (a + 1), .ref (a + 2), .int 0, .int 0]), .inl (pf_ct G 3, 4, .inr (.inr (.inr (.inr fun _ => none))))] ++ (kl_X4 G (a + 2)))) H := hH
  refine lv_iconst (v := 0) hx hb dX6_init_28 (by decide) ?_
  refine lv_istore_n (lv' := [(2, .int 0), (0, .ref a), (1, .ref r)]) hx hb dX6_init_29 rfl hl (by decide) rfl (fun ls hl => ?_)
  have loop : ∀ (n i : Nat) (H : Heap) (locs : List Loc) (ls : Array Slot), i + n = 4 → pc_H G (pre ++ km_L G a r i) H → va_S (pc_A G) s.heap H locs → lv_has ls 3 [(2, .int (nI i)), (0, .ref a), (1, .ref r)] → W p G.1 e (pc_rm 3 52 40 275) s m args below meth c H locs (4 + 9 * i) (19 + 64 * i) (MQ below (pc_Q G (pre ++ km_L G a r 4)) args s 40 275 (pc_A G)) (F0 m 30 ls []) := by
    intro n
    induction n with
    | zero =>
      intro i H locs ls hi hH hS hl
      obtain rfl : i = 4 := by omega
      refine lv_iload_n hx hb dX6_init_30 rfl (lv_at hl 0 rfl) ?_
      refine lv_iconst (v := 4) hx hb dX6_init_31 (by decide) ?_
      refine lv_icmp_ge (tgt := 54) hx hb dX6_init_32 (by decide) (fun _ => ?_) (fun h => absurd (by decide) h)
      exact pc_u_ret F hret hlocks hH hS (Nat.le_of_ble_eq_true rfl) (Nat.le_of_ble_eq_true rfl) dX6_init_54
    | succ n ih =>
      intro i H locs ls hi hH hS hl
      have hq : a + (km_L G a r i).length = a + 5 + 9 * i := km_L_len G a r i
      refine lv_iload_n hx hb dX6_init_30 rfl (lv_at hl 0 rfl) ?_
      refine lv_iconst (v := 4) hx hb dX6_init_31 (by decide) ?_
      refine lv_icmp_ge (tgt := 54) hx hb dX6_init_32 (by decide) (fun h => absurd ((nI_leI (a := 4) (b := i) (by omega) (by omega)).mp h) (by omega)) (fun _ => ?_)
      refine lv_aload_n hx hb dX6_init_35 rfl (lv_at hl 1 rfl) ?_
      refine pc_v_get (ci := 6) (k := 1) (j := 0) (v := .ref (a + 1)) (fs := [.ref r, .ref (a + 1), .ref (a + 2), .int 0, .int 0]) F pfl_X6_11 ha hH rfl rfl rfl dX6_init_36 ?_
      refine lv_iload_n hx hb dX6_init_39 rfl (lv_at hl 0 rfl) ?_
      refine pc_v_new (q := a + 5 + 9 * i) F nl_X6_9 ha hH hS hq (by show 4 + 9 * i + 1 ≤ 40; omega) (by show 19 + 64 * i + 10 ≤ 275; omega) dX6_init_40 (fun H hH hS => ?_)
      refine lv_dup hx hb dX6_init_43 rfl ?_
      refine pc_v_call (As := []) F pil_X6_28 (k_X2_init G _ (a + 5 + 9 * i) (pc_len ha hq)) hH hS rfl hl.1 (Nat.le_of_ble_eq_true rfl) (Nat.le_of_ble_eq_true rfl) (by show 4 + 9 * i + 1 + 8 ≤ 40; omega) (by show 19 + 64 * i + 10 + 54 ≤ 275; omega) (Nat.le_of_ble_eq_true rfl) rfl dX6_init_44 (fun H locs hH hS => ?_)
      refine W.widen (k := 4 + 9 * (i + 1)) (n := 19 + 64 * (i + 1)) (by omega) (by omega) ?_
      refine pc_v_aast (t := 3) (i := 1) (j := (km_L G a r i).length) (ci := 2) (n := 4) F ha hH hS rfl rfl (km_L_at G a r i) rfl rfl hq (vp_in_nI (by omega) (by omega)) dX6_init_47 (fun H locs hH hS => ?_)
      rw [km_L_put G a r i (by omega)] at hH
      refine lv_iinc (k := 0) (v := nI (i + 1)) hx hb dX6_init_48 hl rfl (nI_1 i) (by decide) rfl (fun ls hl => ?_)
      refine lv_goto (tgt := 30) hx hb dX6_init_51 (by decide) ?_
      exact ih (i + 1) H locs ls (by omega) hH hS hl
  exact loop 4 0 H locs ls rfl (by rw [km_L_0]; exact hH) hS hl
