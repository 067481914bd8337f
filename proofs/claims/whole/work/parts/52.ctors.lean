set_option maxHeartbeats 400000 in
set_option maxRecDepth 100000 in
theorem k_X8_init (G : pf_G) (pre : List va_E) (a : Nat) (ha : G.2.2.1 + pre.length = a) : pc_Met G yX8_init cX8_init 1 1 12 1 4 [.ref a] (pre ++ [.inr (8, [.null, .int 0])]) (pre ++ kl_X8 G a) := by
  refine pc_Met.of (by decide +kernel) rfl (Nat.le_of_ble_eq_true rfl) ?_
  intro p e s m args below meth c ls F hin hret hlocks hH hl
  have hx := F.1
  have hb := F.2.1
  have hS : va_S (pc_A G) s.heap s.heap [] := va_S.rf
  have hq : s.vm.findClass ("[" ++ FieldType.int.toString) = some (pf_ct G 0) := (F.2.2.2.2.2.1.2 0 (pf_ct G 0, .int) rfl).2
  have hl : lv_has ls 1 [(0, .ref a)] := hl
  refine lv_aload_n hx hb dX8_init_0 rfl (lv_at hl 0 rfl) ?_
  refine pc_u_obj F pol_X8 hl.1 (Nat.le_of_ble_eq_true rfl) (Nat.le_of_ble_eq_true rfl) dX8_init_1 ?_
  refine lv_aload_n hx hb dX8_init_4 rfl (lv_at hl 0 rfl) ?_
  refine lv_iconst (v := 4) hx hb dX8_init_5 (by decide) ?_
  refine pc_v_newa (atype := .int) (t := 0) (N' := 4) (q := a + 1) F rfl ac_int hq ha hH hS rfl (fun _ => rfl) (by decide) (by decide) (Nat.le_of_ble_eq_true rfl) (Nat.le_of_ble_eq_true rfl) (Nat.le_of_ble_eq_true rfl) dX8_init_6 (fun H hH hS => ?_)
  refine W.widen (k := 1) (n := 4) (Nat.le_of_ble_eq_true rfl) (Nat.le_of_ble_eq_true rfl) ?_
  have hH : pc_H G (pre ++ ([.inr (8, [.null, .int 0]), kl_ar G 0 4])) H := hH
  refine pc_v_putF (ci := 8) (k := 0) (j := 0) (fs := [.null, .int 0]) (v := .ref (a + 1)) F hin pfl_X8_9 ha hH hS rfl rfl rfl rfl (Nat.le_of_ble_eq_true rfl) dX8_init_8 (fun H locs hH hS => ?_)
  have hH : pc_H G (pre ++ ([.inr (8, [.ref (a + 1), .int 0]), kl_ar G 0 4])) H := hH
  exact pc_u_ret F hret hlocks hH hS (Nat.le_of_ble_eq_true rfl) (Nat.le_of_ble_eq_true rfl) dX8_init_11
set_option maxHeartbeats 400000 in
set_option maxRecDepth 100000 in
theorem k_X7_init (G : pf_G) (pre : List va_E) (a : Nat) (ha : G.2.2.1 + pre.length = a) : pc_Met G yX7_init cX7_init 1 1 12 0 0 [.ref a] (pre ++ [.inr (7, [.int 0, .int 0, .int 0])]) (pre ++ kl_X7 G a) := by
  refine pc_Met.of (by decide +kernel) rfl (Nat.le_of_ble_eq_true rfl) ?_
  intro p e s m args below meth c ls F hin hret hlocks hH hl
  have hx := F.1
  have hb := F.2.1
  have hS : va_S (pc_A G) s.heap s.heap [] := va_S.rf
  have hq : s.vm.findClass ("[" ++ FieldType.int.toString) = some (pf_ct G 0) := (F.2.2.2.2.2.1.2 0 (pf_ct G 0, .int) rfl).2
  have hl : lv_has ls 1 [(0, .ref a)] := hl
  refine lv_aload_n hx hb dX7_init_0 rfl (lv_at hl 0 rfl) ?_
  refine pc_u_obj F pol_X7 hl.1 (Nat.le_of_ble_eq_true rfl) (Nat.le_of_ble_eq_true rfl) dX7_init_1 ?_
  exact pc_u_ret F hret hlocks hH hS (Nat.le_of_ble_eq_true rfl) (Nat.le_of_ble_eq_true rfl) dX7_init_4
set_option maxHeartbeats 400000 in
set_option maxRecDepth 100000 in
theorem k_X5_init (G : pf_G) (pre : List va_E) (a : Nat) (ha : G.2.2.1 + pre.length = a) : pc_Met G yX5_init cX5_init 1 2 32 4 12 [.ref a] (pre ++ [.inr (5, [.null, .null, .int 0, .int 0, .int 0, .int 0, .int 0, .int 0])]) (pre ++ kl_X5 G a) := by
  refine pc_Met.of (by decide +kernel) rfl (Nat.le_of_ble_eq_true rfl) ?_
  intro p e s m args below meth c ls F hin hret hlocks hH hl
  have hx := F.1
  have hb := F.2.1
  have hS : va_S (pc_A G) s.heap s.heap [] := va_S.rf
  have hq : s.vm.findClass ("[" ++ FieldType.int.toString) = some (pf_ct G 0) := (F.2.2.2.2.2.1.2 0 (pf_ct G 0, .int) rfl).2
  have hl : lv_has ls 1 [(0, .ref a)] := hl
  refine lv_aload_n hx hb dX5_init_0 rfl (lv_at hl 0 rfl) ?_
  refine pc_u_obj F pol_X5 hl.1 (Nat.le_of_ble_eq_true rfl) (Nat.le_of_ble_eq_true rfl) dX5_init_1 ?_
  refine lv_aload_n hx hb dX5_init_4 rfl (lv_at hl 0 rfl) ?_
  refine pc_v_new (q := a + 1) F nl_X5_9 ha hH hS rfl (Nat.le_of_ble_eq_true rfl) (Nat.le_of_ble_eq_true rfl) dX5_init_5 (fun H hH hS => ?_)
  refine W.widen (k := 1) (n := 2) (Nat.le_of_ble_eq_true rfl) (Nat.le_of_ble_eq_true rfl) ?_
  refine lv_dup hx hb dX5_init_8 rfl ?_
  refine pc_v_call (As := []) F pil_X5_11 (k_X8_init G _ (a + 1) (pc_len ha rfl)) hH hS rfl hl.1 (Nat.le_of_ble_eq_true rfl) (Nat.le_of_ble_eq_true rfl) (Nat.le_of_ble_eq_true rfl) (Nat.le_of_ble_eq_true rfl) (Nat.le_of_ble_eq_true rfl) rfl dX5_init_9 (fun H locs hH hS => ?_)
  refine W.widen (k := 2) (n := 6) (Nat.le_of_ble_eq_true rfl) (Nat.le_of_ble_eq_true rfl) ?_
  have hH : pc_H G (pre ++ ([.inr (5, [.null, .null, .int 0, .int 0, .int 0, .int 0, .int 0, .int 0])] ++ (kl_X8 G (a + 1)))) H := hH
  refine pc_v_putF (ci := 5) (k := 0) (j := 0) (fs := [.null, .null, .int 0, .int 0, .int 0, .int 0, .int 0, .int 0]) (v := .ref (a + 1)) F hin pfl_X5_12 ha hH hS rfl rfl rfl rfl (Nat.le_of_ble_eq_true rfl) dX5_init_12 (fun H locs hH hS => ?_)
  have hH : pc_H G (pre ++ ([.inr (5, [.ref (a + 1), .null, .int 0, .int 0, .int 0, .int 0, .int 0, .int 0])] ++ (kl_X8 G (a + 1)))) H := hH
  refine lv_aload_n hx hb dX5_init_15 rfl (lv_at hl 0 rfl) ?_
  refine pc_v_new (q := a + 3) F nl_X5_9 ha hH hS rfl (Nat.le_of_ble_eq_true rfl) (Nat.le_of_ble_eq_true rfl) dX5_init_16 (fun H hH hS => ?_)
  refine W.widen (k := 3) (n := 8) (Nat.le_of_ble_eq_true rfl) (Nat.le_of_ble_eq_true rfl) ?_
  refine lv_dup hx hb dX5_init_19 rfl ?_
  refine pc_v_call (As := []) F pil_X5_11 (k_X8_init G _ (a + 3) (pc_len ha rfl)) hH hS rfl hl.1 (Nat.le_of_ble_eq_true rfl) (Nat.le_of_ble_eq_true rfl) (Nat.le_of_ble_eq_true rfl) (Nat.le_of_ble_eq_true rfl) (Nat.le_of_ble_eq_true rfl) rfl dX5_init_20 (fun H locs hH hS => ?_)
  refine W.widen (k := 4) (n := 12) (Nat.le_of_ble_eq_true rfl) (Nat.le_of_ble_eq_true rfl) ?_
  have hH : pc_H G (pre ++ ([.inr (5, [.ref (a + 1), .null, .int 0, .int 0, .int 0, .int 0, .int 0, .int 0])] ++ (kl_X8 G (a + 1) ++ (kl_X8 G (a + 3))))) H := hH
  refine pc_v_putF (ci := 5) (k := 1) (j := 0) (fs := [.ref (a + 1), .null, .int 0, .int 0, .int 0, .int 0, .int 0, .int 0]) (v := .ref (a + 3)) F hin pfl_X5_18 ha hH hS rfl rfl rfl rfl (Nat.le_of_ble_eq_true rfl) dX5_init_23 (fun H locs hH hS => ?_)
  have hH : pc_H G (pre ++ ([.inr (5, [.ref (a + 1), .ref (a + 3), .int 0, .int 0, .int 0, .int 0, .int 0, .int 0])] ++ (kl_X8 G (a + 1) ++ (kl_X8 G (a + 3))))) H := hH
  exact pc_u_ret F hret hlocks hH hS (Nat.le_of_ble_eq_true rfl) (Nat.le_of_ble_eq_true rfl) dX5_init_26
set_option maxHeartbeats 400000 in
set_option maxRecDepth 100000 in
theorem k_X3_init (G : pf_G) (pre : List va_E) (a : Nat) (ha : G.2.2.1 + pre.length = a) : pc_Met G yX3_init cX3_init 1 3 52 8 42 [.ref a] (pre ++ [.inr (3, [.null, .null, .null, .null, .int 0, .int 0, .int 0, .int 0, .int 0, .int 0])]) (pre ++ kl_X3 G a) := by
  refine pc_Met.of (by decide +kernel) rfl (Nat.le_of_ble_eq_true rfl) ?_
  intro p e s m args below meth c ls F hin hret hlocks hH hl
  have hx := F.1
  have hb := F.2.1
  have hS : va_S (pc_A G) s.heap s.heap [] := va_S.rf
  have hq : s.vm.findClass ("[" ++ FieldType.int.toString) = some (pf_ct G 0) := (F.2.2.2.2.2.1.2 0 (pf_ct G 0, .int) rfl).2
  have hl : lv_has ls 1 [(0, .ref a)] := hl
  refine lv_aload_n hx hb dX3_init_0 rfl (lv_at hl 0 rfl) ?_
  refine pc_u_obj F pol_X3 hl.1 (Nat.le_of_ble_eq_true rfl) (Nat.le_of_ble_eq_true rfl) dX3_init_1 ?_
  refine lv_aload_n hx hb dX3_init_4 rfl (lv_at hl 0 rfl) ?_
  refine lv_bipush (v := 16) hx hb dX3_init_5 (by decide) ?_
  refine pc_v_newa (atype := .int) (t := 0) (N' := 16) (q := a + 1) F rfl ac_int hq ha hH hS rfl (fun _ => rfl) (by decide) (by decide) (Nat.le_of_ble_eq_true rfl) (Nat.le_of_ble_eq_true rfl) (Nat.le_of_ble_eq_true rfl) dX3_init_7 (fun H hH hS => ?_)
  refine W.widen (k := 1) (n := 16) (Nat.le_of_ble_eq_true rfl) (Nat.le_of_ble_eq_true rfl) ?_
  have hH : pc_H G (pre ++ ([.inr (3, [.null, .null, .null, .null, .int 0, .int 0, .int 0, .int 0, .int 0, .int 0]), kl_ar G 0 16])) H := hH
  refine pc_v_putF (ci := 3) (k := 0) (j := 0) (fs := [.null, .null, .null, .null, .int 0, .int 0, .int 0, .int 0, .int 0, .int 0]) (v := .ref (a + 1)) F hin pfl_X3_9 ha hH hS rfl rfl rfl rfl (Nat.le_of_ble_eq_true rfl) dX3_init_9 (fun H locs hH hS => ?_)
  have hH : pc_H G (pre ++ ([.inr (3, [.ref (a + 1), .null, .null, .null, .int 0, .int 0, .int 0, .int 0, .int 0, .int 0]), kl_ar G 0 16])) H := hH
  refine lv_aload_n hx hb dX3_init_12 rfl (lv_at hl 0 rfl) ?_
  refine pc_v_new (q := a + 2) F nl_X3_15 ha hH hS rfl (Nat.le_of_ble_eq_true rfl) (Nat.le_of_ble_eq_true rfl) dX3_init_13 (fun H hH hS => ?_)
  refine W.widen (k := 2) (n := 19) (Nat.le_of_ble_eq_true rfl) (Nat.le_of_ble_eq_true rfl) ?_
  refine lv_dup hx hb dX3_init_16 rfl ?_
  refine pc_v_call (As := []) F pil_X3_17 (k_X7_init G _ (a + 2) (pc_len ha rfl)) hH hS rfl hl.1 (Nat.le_of_ble_eq_true rfl) (Nat.le_of_ble_eq_true rfl) (Nat.le_of_ble_eq_true rfl) (Nat.le_of_ble_eq_true rfl) (Nat.le_of_ble_eq_true rfl) rfl dX3_init_17 (fun H locs hH hS => ?_)
  refine W.widen (k := 2) (n := 19) (Nat.le_of_ble_eq_true rfl) (Nat.le_of_ble_eq_true rfl) ?_
  have hH : pc_H G (pre ++ ([.inr (3, [.ref (a + 1), .null, .null, .null, .int 0, .int 0, .int 0, .int 0, .int 0, .int 0]), kl_ar G 0 16] ++ (kl_X7 G (a + 2)))) H := hH
  refine pc_v_putF (ci := 3) (k := 1) (j := 0) (fs := [.ref (a + 1), .null, .null, .null, .int 0, .int 0, .int 0, .int 0, .int 0, .int 0]) (v := .ref (a + 2)) F hin pfl_X3_18 ha hH hS rfl rfl rfl rfl (Nat.le_of_ble_eq_true rfl) dX3_init_20 (fun H locs hH hS => ?_)
  have hH : pc_H G (pre ++ ([.inr (3, [.ref (a + 1), .ref (a + 2), .null, .null, .int 0, .int 0, .int 0, .int 0, .int 0, .int 0]), kl_ar G 0 16] ++ (kl_X7 G (a + 2)))) H := hH
  refine lv_aload_n hx hb dX3_init_23 rfl (lv_at hl 0 rfl) ?_
  refine pc_v_new (q := a + 3) F nl_X3_15 ha hH hS rfl (Nat.le_of_ble_eq_true rfl) (Nat.le_of_ble_eq_true rfl) dX3_init_24 (fun H hH hS => ?_)
  refine W.widen (k := 3) (n := 22) (Nat.le_of_ble_eq_true rfl) (Nat.le_of_ble_eq_true rfl) ?_
  refine lv_dup hx hb dX3_init_27 rfl ?_
  refine pc_v_call (As := []) F pil_X3_17 (k_X7_init G _ (a + 3) (pc_len ha rfl)) hH hS rfl hl.1 (Nat.le_of_ble_eq_true rfl) (Nat.le_of_ble_eq_true rfl) (Nat.le_of_ble_eq_true rfl) (Nat.le_of_ble_eq_true rfl) (Nat.le_of_ble_eq_true rfl) rfl dX3_init_28 (fun H locs hH hS => ?_)
  refine W.widen (k := 3) (n := 22) (Nat.le_of_ble_eq_true rfl) (Nat.le_of_ble_eq_true rfl) ?_
  have hH : pc_H G (pre ++ ([.inr (3, [.ref (a + 1), .ref (a + 2), .null, .null, .int 0, .int 0, .int 0, .int 0, .int 0, .int 0]), kl_ar G 0 16] ++ (kl_X7 G (a + 2) ++ (kl_X7 G (a + 3))))) H := hH
  refine pc_v_putF (ci := 3) (k := 2) (j := 0) (fs := [.ref (a + 1), .ref (a + 2), .null, .null, .int 0, .int 0, .int 0, .int 0, .int 0, .int 0]) (v := .ref (a + 3)) F hin pfl_X3_22 ha hH hS rfl rfl rfl rfl (Nat.le_of_ble_eq_true rfl) dX3_init_31 (fun H locs hH hS => ?_)
  have hH : pc_H G (pre ++ ([.inr (3, [.ref (a + 1), .ref (a + 2), .ref (a + 3), .null, .int 0, .int 0, .int 0, .int 0, .int 0, .int 0]), kl_ar G 0 16] ++ (kl_X7 G (a + 2) ++ (kl_X7 G (a + 3))))) H := hH
  refine lv_aload_n hx hb dX3_init_34 rfl (lv_at hl 0 rfl) ?_
  refine pc_v_new (q := a + 4) F nl_X3_25 ha hH hS rfl (Nat.le_of_ble_eq_true rfl) (Nat.le_of_ble_eq_true rfl) dX3_init_35 (fun H hH hS => ?_)
  refine W.widen (k := 4) (n := 30) (Nat.le_of_ble_eq_true rfl) (Nat.le_of_ble_eq_true rfl) ?_
  refine lv_dup hx hb dX3_init_38 rfl ?_
  refine pc_v_call (As := []) F pil_X3_27 (k_X5_init G _ (a + 4) (pc_len ha rfl)) hH hS rfl hl.1 (Nat.le_of_ble_eq_true rfl) (Nat.le_of_ble_eq_true rfl) (Nat.le_of_ble_eq_true rfl) (Nat.le_of_ble_eq_true rfl) (Nat.le_of_ble_eq_true rfl) rfl dX3_init_39 (fun H locs hH hS => ?_)
  refine W.widen (k := 8) (n := 42) (Nat.le_of_ble_eq_true rfl) (Nat.le_of_ble_eq_true rfl) ?_
  have hH : pc_H G (pre ++ ([.inr (3, [.ref (a + 1), .ref (a + 2), .ref (a + 3), .null, .int 0, .int 0, .int 0, .int 0, .int 0, .int 0]), kl_ar G 0 16] ++ (kl_X7 G (a + 2) ++ (kl_X7 G (a + 3) ++ (kl_X5 G (a + 4)))))) H := hH
  refine pc_v_putF (ci := 3) (k := 3) (j := 0) (fs := [.ref (a + 1), .ref (a + 2), .ref (a + 3), .null, .int 0, .int 0, .int 0, .int 0, .int 0, .int 0]) (v := .ref (a + 4)) F hin pfl_X3_28 ha hH hS rfl rfl rfl rfl (Nat.le_of_ble_eq_true rfl) dX3_init_42 (fun H locs hH hS => ?_)
  have hH : pc_H G (pre ++ ([.inr (3, [.ref (a + 1), .ref (a + 2), .ref (a + 3), .ref (a + 4), .int 0, .int 0, .int 0, .int 0, .int 0, .int 0]), kl_ar G 0 16] ++ (kl_X7 G (a + 2) ++ (kl_X7 G (a + 3) ++ (kl_X5 G (a + 4)))))) H := hH
  exact pc_u_ret F hret hlocks hH hS (Nat.le_of_ble_eq_true rfl) (Nat.le_of_ble_eq_true rfl) dX3_init_45
set_option maxHeartbeats 400000 in
set_option maxRecDepth 100000 in
theorem k_X0_init (G : pf_G) (pre : List va_E) (a : Nat) (ha : G.2.2.1 + pre.length = a) : pc_Met G yX0_init cX0_init 1 1 12 2 16 [.ref a] (pre ++ [.inr (0, [.null, .null, .int 0])]) (pre ++ kl_X0 G a) := by
  refine pc_Met.of (by decide +kernel) rfl (Nat.le_of_ble_eq_true rfl) ?_
  intro p e s m args below meth c ls F hin hret hlocks hH hl
  have hx := F.1
  have hb := F.2.1
  have hS : va_S (pc_A G) s.heap s.heap [] := va_S.rf
  have hq : s.vm.findClass ("[" ++ FieldType.int.toString) = some (pf_ct G 0) := (F.2.2.2.2.2.1.2 0 (pf_ct G 0, .int) rfl).2
  have hl : lv_has ls 1 [(0, .ref a)] := hl
  refine lv_aload_n hx hb dX0_init_0 rfl (lv_at hl 0 rfl) ?_
  refine pc_u_obj F pol_X0 hl.1 (Nat.le_of_ble_eq_true rfl) (Nat.le_of_ble_eq_true rfl) dX0_init_1 ?_
  refine lv_aload_n hx hb dX0_init_4 rfl (lv_at hl 0 rfl) ?_
  refine lv_bipush (v := 8) hx hb dX0_init_5 (by decide) ?_
  refine pc_v_newa (atype := .int) (t := 0) (N' := 8) (q := a + 1) F rfl ac_int hq ha hH hS rfl (fun _ => rfl) (by decide) (by decide) (Nat.le_of_ble_eq_true rfl) (Nat.le_of_ble_eq_true rfl) (Nat.le_of_ble_eq_true rfl) dX0_init_7 (fun H hH hS => ?_)
  refine W.widen (k := 1) (n := 8) (Nat.le_of_ble_eq_true rfl) (Nat.le_of_ble_eq_true rfl) ?_
  have hH : pc_H G (pre ++ ([.inr (0, [.null, .null, .int 0]), kl_ar G 0 8])) H := hH
  refine pc_v_putF (ci := 0) (k := 0) (j := 0) (fs := [.null, .null, .int 0]) (v := .ref (a + 1)) F hin pfl_X0_9 ha hH hS rfl rfl rfl rfl (Nat.le_of_ble_eq_true rfl) dX0_init_9 (fun H locs hH hS => ?_)
  have hH : pc_H G (pre ++ ([.inr (0, [.ref (a + 1), .null, .int 0]), kl_ar G 0 8])) H := hH
  refine lv_aload_n hx hb dX0_init_12 rfl (lv_at hl 0 rfl) ?_
  refine lv_bipush (v := 8) hx hb dX0_init_13 (by decide) ?_
  refine pc_v_newa (atype := .int) (t := 0) (N' := 8) (q := a + 2) F rfl ac_int hq ha hH hS rfl (fun _ => rfl) (by decide) (by decide) (Nat.le_of_ble_eq_true rfl) (Nat.le_of_ble_eq_true rfl) (Nat.le_of_ble_eq_true rfl) dX0_init_15 (fun H hH hS => ?_)
  refine W.widen (k := 2) (n := 16) (Nat.le_of_ble_eq_true rfl) (Nat.le_of_ble_eq_true rfl) ?_
  have hH : pc_H G (pre ++ ([.inr (0, [.ref (a + 1), .null, .int 0]), kl_ar G 0 8, kl_ar G 0 8])) H := hH
  refine pc_v_putF (ci := 0) (k := 1) (j := 0) (fs := [.ref (a + 1), .null, .int 0]) (v := .ref (a + 2)) F hin pfl_X0_15 ha hH hS rfl rfl rfl rfl (Nat.le_of_ble_eq_true rfl) dX0_init_17 (fun H locs hH hS => ?_)
  have hH : pc_H G (pre ++ ([.inr (0, [.ref (a + 1), .ref (a + 2), .int 0]), kl_ar G 0 8, kl_ar G 0 8])) H := hH
  exact pc_u_ret F hret hlocks hH hS (Nat.le_of_ble_eq_true rfl) (Nat.le_of_ble_eq_true rfl) dX0_init_20
set_option maxHeartbeats 400000 in
set_option maxRecDepth 100000 in
theorem k_X2_init (G : pf_G) (pre : List va_E) (a : Nat) (ha : G.2.2.1 + pre.length = a) : pc_Met G yX2_init cX2_init 1 2 32 8 54 [.ref a] (pre ++ [.inr (2, [.int 0, .int 0, .int 0, .int 0, .null, .null, .null, .null, .int 0, .int 0])]) (pre ++ kl_X2 G a) := by
  refine pc_Met.of (by decide +kernel) rfl (Nat.le_of_ble_eq_true rfl) ?_
  intro p e s m args below meth c ls F hin hret hlocks hH hl
  have hx := F.1
  have hb := F.2.1
  have hS : va_S (pc_A G) s.heap s.heap [] := va_S.rf
  have hq : s.vm.findClass ("[" ++ FieldType.int.toString) = some (pf_ct G 0) := (F.2.2.2.2.2.1.2 0 (pf_ct G 0, .int) rfl).2
  have hl : lv_has ls 1 [(0, .ref a)] := hl
  refine lv_aload_n hx hb dX2_init_0 rfl (lv_at hl 0 rfl) ?_
  refine pc_u_obj F pol_X2 hl.1 (Nat.le_of_ble_eq_true rfl) (Nat.le_of_ble_eq_true rfl) dX2_init_1 ?_
  refine lv_aload_n hx hb dX2_init_4 rfl (lv_at hl 0 rfl) ?_
  refine lv_bipush (v := 8) hx hb dX2_init_5 (by decide) ?_
  refine pc_v_newa (atype := .int) (t := 0) (N' := 8) (q := a + 1) F rfl ac_int hq ha hH hS rfl (fun _ => rfl) (by decide) (by decide) (Nat.le_of_ble_eq_true rfl) (Nat.le_of_ble_eq_true rfl) (Nat.le_of_ble_eq_true rfl) dX2_init_7 (fun H hH hS => ?_)
  refine W.widen (k := 1) (n := 8) (Nat.le_of_ble_eq_true rfl) (Nat.le_of_ble_eq_true rfl) ?_
  have hH : pc_H G (pre ++ ([.inr (2, [.int 0, .int 0, .int 0, .int 0, .null, .null, .null, .null, .int 0, .int 0]), kl_ar G 0 8])) H := hH
  refine pc_v_putF (ci := 2) (k := 4) (j := 0) (fs := [.int 0, .int 0, .int 0, .int 0, .null, .null, .null, .null, .int 0, .int 0]) (v := .ref (a + 1)) F hin pfl_X2_9 ha hH hS rfl rfl rfl rfl (Nat.le_of_ble_eq_true rfl) dX2_init_9 (fun H locs hH hS => ?_)
  have hH : pc_H G (pre ++ ([.inr (2, [.int 0, .int 0, .int 0, .int 0, .ref (a + 1), .null, .null, .null, .int 0, .int 0]), kl_ar G 0 8])) H := hH
  refine lv_aload_n hx hb dX2_init_12 rfl (lv_at hl 0 rfl) ?_
  refine pc_v_new (q := a + 2) F nl_X2_15 ha hH hS rfl (Nat.le_of_ble_eq_true rfl) (Nat.le_of_ble_eq_true rfl) dX2_init_13 (fun H hH hS => ?_)
  refine W.widen (k := 2) (n := 11) (Nat.le_of_ble_eq_true rfl) (Nat.le_of_ble_eq_true rfl) ?_
  refine lv_dup hx hb dX2_init_16 rfl ?_
  refine pc_v_call (As := []) F pil_X2_17 (k_X0_init G _ (a + 2) (pc_len ha rfl)) hH hS rfl hl.1 (Nat.le_of_ble_eq_true rfl) (Nat.le_of_ble_eq_true rfl) (Nat.le_of_ble_eq_true rfl) (Nat.le_of_ble_eq_true rfl) (Nat.le_of_ble_eq_true rfl) rfl dX2_init_17 (fun H locs hH hS => ?_)
  refine W.widen (k := 4) (n := 27) (Nat.le_of_ble_eq_true rfl) (Nat.le_of_ble_eq_true rfl) ?_
  have hH : pc_H G (pre ++ ([.inr (2, [.int 0, .int 0, .int 0, .int 0, .ref (a + 1), .null, .null, .null, .int 0, .int 0]), kl_ar G 0 8] ++ (kl_X0 G (a + 2)))) H := hH
  refine pc_v_putF (ci := 2) (k := 5) (j := 0) (fs := [.int 0, .int 0, .int 0, .int 0, .ref (a + 1), .null, .null, .null, .int 0, .int 0]) (v := .ref (a + 2)) F hin pfl_X2_18 ha hH hS rfl rfl rfl rfl (Nat.le_of_ble_eq_true rfl) dX2_init_20 (fun H locs hH hS => ?_)
  have hH : pc_H G (pre ++ ([.inr (2, [.int 0, .int 0, .int 0, .int 0, .ref (a + 1), .ref (a + 2), .null, .null, .int 0, .int 0]), kl_ar G 0 8] ++ (kl_X0 G (a + 2)))) H := hH
  refine lv_aload_n hx hb dX2_init_23 rfl (lv_at hl 0 rfl) ?_
  refine pc_v_new (q := a + 5) F nl_X2_15 ha hH hS rfl (Nat.le_of_ble_eq_true rfl) (Nat.le_of_ble_eq_true rfl) dX2_init_24 (fun H hH hS => ?_)
  refine W.widen (k := 5) (n := 30) (Nat.le_of_ble_eq_true rfl) (Nat.le_of_ble_eq_true rfl) ?_
  refine lv_dup hx hb dX2_init_27 rfl ?_
  refine pc_v_call (As := []) F pil_X2_17 (k_X0_init G _ (a + 5) (pc_len ha rfl)) hH hS rfl hl.1 (Nat.le_of_ble_eq_true rfl) (Nat.le_of_ble_eq_true rfl) (Nat.le_of_ble_eq_true rfl) (Nat.le_of_ble_eq_true rfl) (Nat.le_of_ble_eq_true rfl) rfl dX2_init_28 (fun H locs hH hS => ?_)
  refine W.widen (k := 7) (n := 46) (Nat.le_of_ble_eq_true rfl) (Nat.le_of_ble_eq_true rfl) ?_
  have hH : pc_H G (pre ++ ([.inr (2, [.int 0, .int 0, .int 0, .int 0, .ref (a + 1), .ref (a + 2), .null, .null, .int 0, .int 0]), kl_ar G 0 8] ++ (kl_X0 G (a + 2) ++ (kl_X0 G (a + 5))))) H := hH
  refine pc_v_putF (ci := 2) (k := 6) (j := 0) (fs := [.int 0, .int 0, .int 0, .int 0, .ref (a + 1), .ref (a + 2), .null, .null, .int 0, .int 0]) (v := .ref (a + 5)) F hin pfl_X2_22 ha hH hS rfl rfl rfl rfl (Nat.le_of_ble_eq_true rfl) dX2_init_31 (fun H locs hH hS => ?_)
  have hH : pc_H G (pre ++ ([.inr (2, [.int 0, .int 0, .int 0, .int 0, .ref (a + 1), .ref (a + 2), .ref (a + 5), .null, .int 0, .int 0]), kl_ar G 0 8] ++ (kl_X0 G (a + 2) ++ (kl_X0 G (a + 5))))) H := hH
  refine lv_aload_n hx hb dX2_init_34 rfl (lv_at hl 0 rfl) ?_
  refine lv_bipush (v := 8) hx hb dX2_init_35 (by decide) ?_
  refine pc_v_newa (atype := .int) (t := 0) (N' := 8) (q := a + 8) F rfl ac_int hq ha hH hS rfl (fun _ => rfl) (by decide) (by decide) (Nat.le_of_ble_eq_true rfl) (Nat.le_of_ble_eq_true rfl) (Nat.le_of_ble_eq_true rfl) dX2_init_37 (fun H hH hS => ?_)
  refine W.widen (k := 8) (n := 54) (Nat.le_of_ble_eq_true rfl) (Nat.le_of_ble_eq_true rfl) ?_
  have hH : pc_H G (pre ++ ([.inr (2, [.int 0, .int 0, .int 0, .int 0, .ref (a + 1), .ref (a + 2), .ref (a + 5), .null, .int 0, .int 0]), kl_ar G 0 8] ++ (kl_X0 G (a + 2) ++ (kl_X0 G (a + 5) ++ ([kl_ar G 0 8]))))) H := hH
  refine pc_v_putF (ci := 2) (k := 7) (j := 0) (fs := [.int 0, .int 0, .int 0, .int 0, .ref (a + 1), .ref (a + 2), .ref (a + 5), .null, .int 0, .int 0]) (v := .ref (a + 8)) F hin pfl_X2_25 ha hH hS rfl rfl rfl rfl (Nat.le_of_ble_eq_true rfl) dX2_init_39 (fun H locs hH hS => ?_)
  have hH : pc_H G (pre ++ ([.inr (2, [.int 0, .int 0, .int 0, .int 0, .ref (a + 1), .ref (a + 2), .ref (a + 5), .ref (a + 8), .int 0, .int 0]), kl_ar G 0 8] ++ (kl_X0 G (a + 2) ++ (kl_X0 G (a + 5) ++ ([kl_ar G 0 8]))))) H := hH
  exact pc_u_ret F hret hlocks hH hS (Nat.le_of_ble_eq_true rfl) (Nat.le_of_ble_eq_true rfl) dX2_init_42
set_option maxHeartbeats 400000 in
set_option maxRecDepth 100000 in
theorem k_X4_init (G : pf_G) (pre : List va_E) (a : Nat) (ha : G.2.2.1 + pre.length = a) : pc_Met G yX4_init cX4_init 1 1 12 2 12 [.ref a] (pre ++ [.inr (4, [.null, .null, .int 0])]) (pre ++ kl_X4 G a) := by
  refine pc_Met.of (by decide +kernel) rfl (Nat.le_of_ble_eq_true rfl) ?_
  intro p e s m args below meth c ls F hin hret hlocks hH hl
  have hx := F.1
  have hb := F.2.1
  have hS : va_S (pc_A G) s.heap s.heap [] := va_S.rf
  have hq : s.vm.findClass ("[" ++ FieldType.int.toString) = some (pf_ct G 0) := (F.2.2.2.2.2.1.2 0 (pf_ct G 0, .int) rfl).2
  have hl : lv_has ls 1 [(0, .ref a)] := hl
  refine lv_aload_n hx hb dX4_init_0 rfl (lv_at hl 0 rfl) ?_
  refine pc_u_obj F pol_X4 hl.1 (Nat.le_of_ble_eq_true rfl) (Nat.le_of_ble_eq_true rfl) dX4_init_1 ?_
  refine lv_aload_n hx hb dX4_init_4 rfl (lv_at hl 0 rfl) ?_
  refine lv_bipush (v := 6) hx hb dX4_init_5 (by decide) ?_
  refine pc_v_newa (atype := .int) (t := 0) (N' := 6) (q := a + 1) F rfl ac_int hq ha hH hS rfl (fun _ => rfl) (by decide) (by decide) (Nat.le_of_ble_eq_true rfl) (Nat.le_of_ble_eq_true rfl) (Nat.le_of_ble_eq_true rfl) dX4_init_7 (fun H hH hS => ?_)
  refine W.widen (k := 1) (n := 6) (Nat.le_of_ble_eq_true rfl) (Nat.le_of_ble_eq_true rfl) ?_
  have hH : pc_H G (pre ++ ([.inr (4, [.null, .null, .int 0]), kl_ar G 0 6])) H := hH
  refine pc_v_putF (ci := 4) (k := 0) (j := 0) (fs := [.null, .null, .int 0]) (v := .ref (a + 1)) F hin pfl_X4_9 ha hH hS rfl rfl rfl rfl (Nat.le_of_ble_eq_true rfl) dX4_init_9 (fun H locs hH hS => ?_)
  have hH : pc_H G (pre ++ ([.inr (4, [.ref (a + 1), .null, .int 0]), kl_ar G 0 6])) H := hH
  refine lv_aload_n hx hb dX4_init_12 rfl (lv_at hl 0 rfl) ?_
  refine lv_bipush (v := 6) hx hb dX4_init_13 (by decide) ?_
  refine pc_v_newa (atype := .int) (t := 0) (N' := 6) (q := a + 2) F rfl ac_int hq ha hH hS rfl (fun _ => rfl) (by decide) (by decide) (Nat.le_of_ble_eq_true rfl) (Nat.le_of_ble_eq_true rfl) (Nat.le_of_ble_eq_true rfl) dX4_init_15 (fun H hH hS => ?_)
  refine W.widen (k := 2) (n := 12) (Nat.le_of_ble_eq_true rfl) (Nat.le_of_ble_eq_true rfl) ?_
  have hH : pc_H G (pre ++ ([.inr (4, [.ref (a + 1), .null, .int 0]), kl_ar G 0 6, kl_ar G 0 6])) H := hH
  refine pc_v_putF (ci := 4) (k := 1) (j := 0) (fs := [.ref (a + 1), .null, .int 0]) (v := .ref (a + 2)) F hin pfl_X4_15 ha hH hS rfl rfl rfl rfl (Nat.le_of_ble_eq_true rfl) dX4_init_17 (fun H locs hH hS => ?_)
  have hH : pc_H G (pre ++ ([.inr (4, [.ref (a + 1), .ref (a + 2), .int 0]), kl_ar G 0 6, kl_ar G 0 6])) H := hH
  exact pc_u_ret F hret hlocks hH hS (Nat.le_of_ble_eq_true rfl) (Nat.le_of_ble_eq_true rfl) dX4_init_20
set_option maxHeartbeats 400000 in
set_option maxRecDepth 100000 in
theorem k_X10_init (G : pf_G) (pre : List va_E) (a : Nat) (ha : G.2.2.1 + pre.length = a) : pc_Met G yX10_init cX10_init 1 1 12 5 232 [.ref a] (pre ++ [.inr (10, [.null, .null, .null, .null, .null, .int 0, .int 0, .int 0, .int 0, .int 0])]) (pre ++ kl_X10 G a) := by
  refine pc_Met.of (by decide +kernel) rfl (Nat.le_of_ble_eq_true rfl) ?_
  intro p e s m args below meth c ls F hin hret hlocks hH hl
  have hx := F.1
  have hb := F.2.1
  have hS : va_S (pc_A G) s.heap s.heap [] := va_S.rf
  have hq : s.vm.findClass ("[" ++ FieldType.int.toString) = some (pf_ct G 0) := (F.2.2.2.2.2.1.2 0 (pf_ct G 0, .int) rfl).2
  have hqc : s.vm.findClass ("[" ++ FieldType.char.toString) = some (pf_ct G 1) := (F.2.2.2.2.2.1.2 1 (pf_ct G 1, .char) rfl).2
  have hl : lv_has ls 1 [(0, .ref a)] := hl
  refine lv_aload_n hx hb dX10_init_0 rfl (lv_at hl 0 rfl) ?_
  refine pc_u_obj F pol_X10 hl.1 (Nat.le_of_ble_eq_true rfl) (Nat.le_of_ble_eq_true rfl) dX10_init_1 ?_
  refine lv_aload_n hx hb dX10_init_4 rfl (lv_at hl 0 rfl) ?_
  refine lv_sipush (v := 200) hx hb dX10_init_5 (by decide) ?_
  refine pc_v_newa (atype := .char) (t := 1) (N' := 200) (q := a + 1) F rfl ac_char hqc ha hH hS rfl (fun _ => rfl) (by decide) (by decide) (Nat.le_of_ble_eq_true rfl) (Nat.le_of_ble_eq_true rfl) (Nat.le_of_ble_eq_true rfl) dX10_init_8 (fun H hH hS => ?_)
  refine W.widen (k := 1) (n := 200) (Nat.le_of_ble_eq_true rfl) (Nat.le_of_ble_eq_true rfl) ?_
  have hH : pc_H G (pre ++ ([.inr (10, [.null, .null, .null, .null, .null, .int 0, .int 0, .int 0, .int 0, .int 0]), kl_ar G 1 200])) H := hH
  refine pc_v_putF (ci := 10) (k := 0) (j := 0) (fs := [.null, .null, .null, .null, .null, .int 0, .int 0, .int 0, .int 0, .int 0]) (v := .ref (a + 1)) F hin pfl_X10_9 ha hH hS rfl rfl rfl rfl (Nat.le_of_ble_eq_true rfl) dX10_init_10 (fun H locs hH hS => ?_)
  have hH : pc_H G (pre ++ ([.inr (10, [.ref (a + 1), .null, .null, .null, .null, .int 0, .int 0, .int 0, .int 0, .int 0]), kl_ar G 1 200])) H := hH
  refine lv_aload_n hx hb dX10_init_13 rfl (lv_at hl 0 rfl) ?_
  refine lv_bipush (v := 8) hx hb dX10_init_14 (by decide) ?_
  refine pc_v_newa (atype := .int) (t := 0) (N' := 8) (q := a + 2) F rfl ac_int hq ha hH hS rfl (fun _ => rfl) (by decide) (by decide) (Nat.le_of_ble_eq_true rfl) (Nat.le_of_ble_eq_true rfl) (Nat.le_of_ble_eq_true rfl) dX10_init_16 (fun H hH hS => ?_)
  refine W.widen (k := 2) (n := 208) (Nat.le_of_ble_eq_true rfl) (Nat.le_of_ble_eq_true rfl) ?_
  have hH : pc_H G (pre ++ ([.inr (10, [.ref (a + 1), .null, .null, .null, .null, .int 0, .int 0, .int 0, .int 0, .int 0]), kl_ar G 1 200, kl_ar G 0 8])) H := hH
  refine pc_v_putF (ci := 10) (k := 1) (j := 0) (fs := [.ref (a + 1), .null, .null, .null, .null, .int 0, .int 0, .int 0, .int 0, .int 0]) (v := .ref (a + 2)) F hin pfl_X10_15 ha hH hS rfl rfl rfl rfl (Nat.le_of_ble_eq_true rfl) dX10_init_18 (fun H locs hH hS => ?_)
  have hH : pc_H G (pre ++ ([.inr (10, [.ref (a + 1), .ref (a + 2), .null, .null, .null, .int 0, .int 0, .int 0, .int 0, .int 0]), kl_ar G 1 200, kl_ar G 0 8])) H := hH
  refine lv_aload_n hx hb dX10_init_21 rfl (lv_at hl 0 rfl) ?_
  refine lv_bipush (v := 8) hx hb dX10_init_22 (by decide) ?_
  refine pc_v_newa (atype := .int) (t := 0) (N' := 8) (q := a + 3) F rfl ac_int hq ha hH hS rfl (fun _ => rfl) (by decide) (by decide) (Nat.le_of_ble_eq_true rfl) (Nat.le_of_ble_eq_true rfl) (Nat.le_of_ble_eq_true rfl) dX10_init_24 (fun H hH hS => ?_)
  refine W.widen (k := 3) (n := 216) (Nat.le_of_ble_eq_true rfl) (Nat.le_of_ble_eq_true rfl) ?_
  have hH : pc_H G (pre ++ ([.inr (10, [.ref (a + 1), .ref (a + 2), .null, .null, .null, .int 0, .int 0, .int 0, .int 0, .int 0]), kl_ar G 1 200, kl_ar G 0 8, kl_ar G 0 8])) H := hH
  refine pc_v_putF (ci := 10) (k := 2) (j := 0) (fs := [.ref (a + 1), .ref (a + 2), .null, .null, .null, .int 0, .int 0, .int 0, .int 0, .int 0]) (v := .ref (a + 3)) F hin pfl_X10_19 ha hH hS rfl rfl rfl rfl (Nat.le_of_ble_eq_true rfl) dX10_init_26 (fun H locs hH hS => ?_)
  have hH : pc_H G (pre ++ ([.inr (10, [.ref (a + 1), .ref (a + 2), .ref (a + 3), .null, .null, .int 0, .int 0, .int 0, .int 0, .int 0]), kl_ar G 1 200, kl_ar G 0 8, kl_ar G 0 8])) H := hH
  refine lv_aload_n hx hb dX10_init_29 rfl (lv_at hl 0 rfl) ?_
  refine lv_bipush (v := 8) hx hb dX10_init_30 (by decide) ?_
  refine pc_v_newa (atype := .int) (t := 0) (N' := 8) (q := a + 4) F rfl ac_int hq ha hH hS rfl (fun _ => rfl) (by decide) (by decide) (Nat.le_of_ble_eq_true rfl) (Nat.le_of_ble_eq_true rfl) (Nat.le_of_ble_eq_true rfl) dX10_init_32 (fun H hH hS => ?_)
  refine W.widen (k := 4) (n := 224) (Nat.le_of_ble_eq_true rfl) (Nat.le_of_ble_eq_true rfl) ?_
  have hH : pc_H G (pre ++ ([.inr (10, [.ref (a + 1), .ref (a + 2), .ref (a + 3), .null, .null, .int 0, .int 0, .int 0, .int 0, .int 0]), kl_ar G 1 200, kl_ar G 0 8, kl_ar G 0 8, kl_ar G 0 8])) H := hH
  refine pc_v_putF (ci := 10) (k := 3) (j := 0) (fs := [.ref (a + 1), .ref (a + 2), .ref (a + 3), .null, .null, .int 0, .int 0, .int 0, .int 0, .int 0]) (v := .ref (a + 4)) F hin pfl_X10_22 ha hH hS rfl rfl rfl rfl (Nat.le_of_ble_eq_true rfl) dX10_init_34 (fun H locs hH hS => ?_)
  have hH : pc_H G (pre ++ ([.inr (10, [.ref (a + 1), .ref (a + 2), .ref (a + 3), .ref (a + 4), .null, .int 0, .int 0, .int 0, .int 0, .int 0]), kl_ar G 1 200, kl_ar G 0 8, kl_ar G 0 8, kl_ar G 0 8])) H := hH
  refine lv_aload_n hx hb dX10_init_37 rfl (lv_at hl 0 rfl) ?_
  refine lv_bipush (v := 8) hx hb dX10_init_38 (by decide) ?_
  refine pc_v_newa (atype := .int) (t := 0) (N' := 8) (q := a + 5) F rfl ac_int hq ha hH hS rfl (fun _ => rfl) (by decide) (by decide) (Nat.le_of_ble_eq_true rfl) (Nat.le_of_ble_eq_true rfl) (Nat.le_of_ble_eq_true rfl) dX10_init_40 (fun H hH hS => ?_)
  refine W.widen (k := 5) (n := 232) (Nat.le_of_ble_eq_true rfl) (Nat.le_of_ble_eq_true rfl) ?_
  have hH : pc_H G (pre ++ ([.inr (10, [.ref (a + 1), .ref (a + 2), .ref (a + 3), .ref (a + 4), .null, .int 0, .int 0, .int 0, .int 0, .int 0]), kl_ar G 1 200, kl_ar G 0 8, kl_ar G 0 8, kl_ar G 0 8, kl_ar G 0 8])) H := hH
  refine pc_v_putF (ci := 10) (k := 4) (j := 0) (fs := [.ref (a + 1), .ref (a + 2), .ref (a + 3), .ref (a + 4), .null, .int 0, .int 0, .int 0, .int 0, .int 0]) (v := .ref (a + 5)) F hin pfl_X10_25 ha hH hS rfl rfl rfl rfl (Nat.le_of_ble_eq_true rfl) dX10_init_42 (fun H locs hH hS => ?_)
  have hH : pc_H G (pre ++ ([.inr (10, [.ref (a + 1), .ref (a + 2), .ref (a + 3), .ref (a + 4), .ref (a + 5), .int 0, .int 0, .int 0, .int 0, .int 0]), kl_ar G 1 200, kl_ar G 0 8, kl_ar G 0 8, kl_ar G 0 8, kl_ar G 0 8])) H := hH
  exact pc_u_ret F hret hlocks hH hS (Nat.le_of_ble_eq_true rfl) (Nat.le_of_ble_eq_true rfl) dX10_init_45
set_option maxHeartbeats 400000 in
set_option maxRecDepth 100000 in
theorem k_X1_init (G : pf_G) (pre : List va_E) (a : Nat) (r : Nat) (ha : G.2.2.1 + pre.length = a) : pc_Met G yX1_init cX1_init 2 1 12 2 16 [.ref a, .ref r] (pre ++ [.inr (1, [.null, .null, .null])]) (pre ++ kl_X1 G a r) := by
  refine pc_Met.of (by decide +kernel) rfl (Nat.le_of_ble_eq_true rfl) ?_
  intro p e s m args below meth c ls F hin hret hlocks hH hl
  have hx := F.1
  have hb := F.2.1
  have hS : va_S (pc_A G) s.heap s.heap [] := va_S.rf
  have hq : s.vm.findClass ("[" ++ FieldType.int.toString) = some (pf_ct G 0) := (F.2.2.2.2.2.1.2 0 (pf_ct G 0, .int) rfl).2
  have hl : lv_has ls 2 [(0, .ref a), (1, .ref r)] := hl
  refine lv_aload_n hx hb dX1_init_0 rfl (lv_at hl 0 rfl) ?_
  refine pc_u_obj F pol_X1 hl.1 (Nat.le_of_ble_eq_true rfl) (Nat.le_of_ble_eq_true rfl) dX1_init_1 ?_
  refine lv_aload_n hx hb dX1_init_4 rfl (lv_at hl 0 rfl) ?_
  refine lv_bipush (v := 8) hx hb dX1_init_5 (by decide) ?_
  refine pc_v_newa (atype := .int) (t := 0) (N' := 8) (q := a + 1) F rfl ac_int hq ha hH hS rfl (fun _ => rfl) (by decide) (by decide) (Nat.le_of_ble_eq_true rfl) (Nat.le_of_ble_eq_true rfl) (Nat.le_of_ble_eq_true rfl) dX1_init_7 (fun H hH hS => ?_)
  refine W.widen (k := 1) (n := 8) (Nat.le_of_ble_eq_true rfl) (Nat.le_of_ble_eq_true rfl) ?_
  have hH : pc_H G (pre ++ ([.inr (1, [.null, .null, .null]), kl_ar G 0 8])) H := hH
  refine pc_v_putF (ci := 1) (k := 1) (j := 0) (fs := [.null, .null, .null]) (v := .ref (a + 1)) F hin pfl_X1_9 ha hH hS rfl rfl rfl rfl (Nat.le_of_ble_eq_true rfl) dX1_init_9 (fun H locs hH hS => ?_)
  have hH : pc_H G (pre ++ ([.inr (1, [.null, .ref (a + 1), .null]), kl_ar G 0 8])) H := hH
  refine lv_aload_n hx hb dX1_init_12 rfl (lv_at hl 0 rfl) ?_
  refine lv_bipush (v := 8) hx hb dX1_init_13 (by decide) ?_
  refine pc_v_newa (atype := .int) (t := 0) (N' := 8) (q := a + 2) F rfl ac_int hq ha hH hS rfl (fun _ => rfl) (by decide) (by decide) (Nat.le_of_ble_eq_true rfl) (Nat.le_of_ble_eq_true rfl) (Nat.le_of_ble_eq_true rfl) dX1_init_15 (fun H hH hS => ?_)
  refine W.widen (k := 2) (n := 16) (Nat.le_of_ble_eq_true rfl) (Nat.le_of_ble_eq_true rfl) ?_
  have hH : pc_H G (pre ++ ([.inr (1, [.null, .ref (a + 1), .null]), kl_ar G 0 8, kl_ar G 0 8])) H := hH
  refine pc_v_putF (ci := 1) (k := 2) (j := 0) (fs := [.null, .ref (a + 1), .null]) (v := .ref (a + 2)) F hin pfl_X1_15 ha hH hS rfl rfl rfl rfl (Nat.le_of_ble_eq_true rfl) dX1_init_17 (fun H locs hH hS => ?_)
  have hH : pc_H G (pre ++ ([.inr (1, [.null, .ref (a + 1), .ref (a + 2)]), kl_ar G 0 8, kl_ar G 0 8])) H := hH
  refine lv_aload_n hx hb dX1_init_20 rfl (lv_at hl 0 rfl) ?_
  refine lv_aload_n hx hb dX1_init_21 rfl (lv_at hl 1 rfl) ?_
  refine pc_v_putF (ci := 1) (k := 0) (j := 0) (fs := [.null, .ref (a + 1), .ref (a + 2)]) (v := .ref r) F hin pfl_X1_18 ha hH hS rfl rfl rfl rfl (Nat.le_of_ble_eq_true rfl) dX1_init_22 (fun H locs hH hS => ?_)
  have hH : pc_H G (pre ++ ([.inr (1, [.ref r, .ref (a + 1), .ref (a + 2)]), kl_ar G 0 8, kl_ar G 0 8])) H := hH
  exact pc_u_ret F hret hlocks hH hS (Nat.le_of_ble_eq_true rfl) (Nat.le_of_ble_eq_true rfl) dX1_init_25
