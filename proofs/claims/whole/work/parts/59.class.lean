set_option maxHeartbeats 1000000 in
set_option maxRecDepth 100000 in
theorem k_X11_pre (l : Launch) (D : va_G) (b : Nat) (t : ClassId × ClassId × ClassId × ClassId) (G : pf_G) (hG : G = gC l D b t) {p : Program} {e : Env} {R : Room} {s : State} {m : MethodId} {args : Array Value} {below : List Frame} {meth : Method} {c : Code} {Q : State → Prop} {ls : Array Slot} (F : pc_Fix G p s m args c cX11_init RX11 2) (hR : R = pc_rm 5 106 126 990) (hin : meth.name = "<init>") (hl : lv_has ls 2 [(0, .ref b)]) (hH : pc_H G [.inr (11, [.null, .null, .null, .null])] s.heap)
    (kk : ∀ (H : Heap) (locs : List Loc), va_P G.2.1 vwCl (pf_W G fun _ _ _ => 0) H → va_S (pc_A G) s.heap H locs → W p G.1 e R s m args below meth c H locs 126 990 Q (F0 m 56 ls [])) : W p G.1 e R s m args below meth c s.heap [] 0 0 Q (F0 m 0 ls []) := by
  subst hR
  have hx := F.1
  have hb := F.2.1
  have hS : va_S (pc_A G) s.heap s.heap [] := va_S.rf
  have ha : G.2.2.1 + ([] : List va_E).length = b := by rw [hG]; rfl
  have hH : pc_H G (([] : List va_E) ++ ([.inr (11, [.null, .null, .null, .null])])) s.heap := hH
  refine lv_aload_n hx hb dX11_init_0 rfl (lv_at hl 0 rfl) ?_
  refine pc_u_obj F pol_X11 hl.1 (Nat.le_of_ble_eq_true rfl) (Nat.le_of_ble_eq_true rfl) dX11_init_1 ?_
  refine lv_aload_n hx hb dX11_init_4 rfl (lv_at hl 0 rfl) ?_
  refine pc_v_new (q := b + 1) F nl_X11_7 ha hH hS rfl (Nat.le_of_ble_eq_true rfl) (Nat.le_of_ble_eq_true rfl) dX11_init_5 (fun H hH hS => ?_)
  refine W.widen (k := 1) (n := 10) (Nat.le_of_ble_eq_true rfl) (Nat.le_of_ble_eq_true rfl) ?_
  refine lv_dup hx hb dX11_init_8 rfl ?_
  refine pc_v_call (As := []) F pil_X11_9 (k_X10_init G _ (b + 1) (pc_len ha rfl)) hH hS rfl hl.1 (Nat.le_of_ble_eq_true rfl) (Nat.le_of_ble_eq_true rfl) (Nat.le_of_ble_eq_true rfl) (Nat.le_of_ble_eq_true rfl) (Nat.le_of_ble_eq_true rfl) rfl dX11_init_9 (fun H locs hH hS => ?_)
  refine W.widen (k := 6) (n := 242) (Nat.le_of_ble_eq_true rfl) (Nat.le_of_ble_eq_true rfl) ?_
  have hH : pc_H G (([] : List va_E) ++ ([.inr (11, [.null, .null, .null, .null])] ++ (kl_X10 G (b + 1)))) H := hH
  refine pc_v_putF (ci := 11) (k := 0) (j := 0) (fs := [.null, .null, .null, .null]) (v := .ref (b + 1)) F hin pfl_X11_10 ha hH hS rfl rfl rfl rfl (Nat.le_of_ble_eq_true rfl) dX11_init_12 (fun H locs hH hS => ?_)
  have hH : pc_H G (([] : List va_E) ++ ([.inr (11, [.ref (b + 1), .null, .null, .null])] ++ (kl_X10 G (b + 1)))) H := hH
  refine lv_aload_n hx hb dX11_init_15 rfl (lv_at hl 0 rfl) ?_
  refine pc_v_new (q := b + 7) F nl_X11_16 ha hH hS rfl (Nat.le_of_ble_eq_true rfl) (Nat.le_of_ble_eq_true rfl) dX11_init_16 (fun H hH hS => ?_)
  refine W.widen (k := 7) (n := 249) (Nat.le_of_ble_eq_true rfl) (Nat.le_of_ble_eq_true rfl) ?_
  refine lv_dup hx hb dX11_init_19 rfl ?_
  refine pc_v_call (As := []) F pil_X11_18 (k_X9_init G _ (b + 7) (pc_len ha rfl)) hH hS rfl hl.1 (Nat.le_of_ble_eq_true rfl) (Nat.le_of_ble_eq_true rfl) (Nat.le_of_ble_eq_true rfl) (Nat.le_of_ble_eq_true rfl) (Nat.le_of_ble_eq_true rfl) rfl dX11_init_20 (fun H locs hH hS => ?_)
  refine W.widen (k := 82) (n := 691) (Nat.le_of_ble_eq_true rfl) (Nat.le_of_ble_eq_true rfl) ?_
  have hH : pc_H G (([] : List va_E) ++ ([.inr (11, [.ref (b + 1), .null, .null, .null])] ++ (kl_X10 G (b + 1) ++ (kr_L G (b + 7) 8)))) H := hH
  refine pc_v_putF (ci := 11) (k := 1) (j := 0) (fs := [.ref (b + 1), .null, .null, .null]) (v := .ref (b + 7)) F hin pfl_X11_19 ha hH hS rfl rfl rfl rfl (Nat.le_of_ble_eq_true rfl) dX11_init_23 (fun H locs hH hS => ?_)
  have hH : pc_H G (([] : List va_E) ++ ([.inr (11, [.ref (b + 1), .ref (b + 7), .null, .null])] ++ (kl_X10 G (b + 1) ++ (kr_L G (b + 7) 8)))) H := hH
  refine lv_aload_n hx hb dX11_init_26 rfl (lv_at hl 0 rfl) ?_
  refine pc_v_new (q := b + 83) F nl_X11_23 ha hH hS rfl (Nat.le_of_ble_eq_true rfl) (Nat.le_of_ble_eq_true rfl) dX11_init_27 (fun H hH hS => ?_)
  refine W.widen (k := 83) (n := 694) (Nat.le_of_ble_eq_true rfl) (Nat.le_of_ble_eq_true rfl) ?_
  refine lv_dup hx hb dX11_init_30 rfl ?_
  refine lv_aload_n hx hb dX11_init_31 rfl (lv_at hl 0 rfl) ?_
  refine pc_v_get (ci := 11) (k := 1) (j := 0) (v := .ref (b + 7)) (fs := [.ref (b + 1), .ref (b + 7), .null, .null]) F pfl_X11_19 ha hH rfl rfl rfl dX11_init_32 ?_
  refine pc_v_call (As := [.ref (b + 7)]) F pil_X11_25 (k_X1_init G _ (b + 83) (b + 7) (pc_len ha rfl)) hH hS rfl hl.1 (Nat.le_of_ble_eq_true rfl) (Nat.le_of_ble_eq_true rfl) (Nat.le_of_ble_eq_true rfl) (Nat.le_of_ble_eq_true rfl) (Nat.le_of_ble_eq_true rfl) rfl dX11_init_35 (fun H locs hH hS => ?_)
  refine W.widen (k := 85) (n := 710) (Nat.le_of_ble_eq_true rfl) (Nat.le_of_ble_eq_true rfl) ?_
  have hH : pc_H G (([] : List va_E) ++ ([.inr (11, [.ref (b + 1), .ref (b + 7), .null, .null])] ++ (kl_X10 G (b + 1) ++ (kr_L G (b + 7) 8 ++ (kl_X1 G (b + 83) (b + 7)))))) H := hH
  refine pc_v_putF (ci := 11) (k := 2) (j := 0) (fs := [.ref (b + 1), .ref (b + 7), .null, .null]) (v := .ref (b + 83)) F hin pfl_X11_28 ha hH hS rfl rfl rfl rfl (Nat.le_of_ble_eq_true rfl) dX11_init_38 (fun H locs hH hS => ?_)
  have hH : pc_H G (([] : List va_E) ++ ([.inr (11, [.ref (b + 1), .ref (b + 7), .ref (b + 83), .null])] ++ (kl_X10 G (b + 1) ++ (kr_L G (b + 7) 8 ++ (kl_X1 G (b + 83) (b + 7)))))) H := hH
  refine lv_aload_n hx hb dX11_init_41 rfl (lv_at hl 0 rfl) ?_
  refine pc_v_new (q := b + 86) F nl_X11_32 ha hH hS rfl (Nat.le_of_ble_eq_true rfl) (Nat.le_of_ble_eq_true rfl) dX11_init_42 (fun H hH hS => ?_)
  refine W.widen (k := 86) (n := 715) (Nat.le_of_ble_eq_true rfl) (Nat.le_of_ble_eq_true rfl) ?_
  refine lv_dup hx hb dX11_init_45 rfl ?_
  refine lv_aload_n hx hb dX11_init_46 rfl (lv_at hl 0 rfl) ?_
  refine pc_v_get (ci := 11) (k := 1) (j := 0) (v := .ref (b + 7)) (fs := [.ref (b + 1), .ref (b + 7), .ref (b + 83), .null]) F pfl_X11_19 ha hH rfl rfl rfl dX11_init_47 ?_
  refine pc_v_call (As := [.ref (b + 7)]) F pil_X11_34 (k_X6_init G _ (b + 86) (b + 7) (pc_len ha rfl)) hH hS rfl hl.1 (Nat.le_of_ble_eq_true rfl) (Nat.le_of_ble_eq_true rfl) (Nat.le_of_ble_eq_true rfl) (Nat.le_of_ble_eq_true rfl) (Nat.le_of_ble_eq_true rfl) rfl dX11_init_50 (fun H locs hH hS => ?_)
  refine W.widen (k := 126) (n := 990) (Nat.le_of_ble_eq_true rfl) (Nat.le_of_ble_eq_true rfl) ?_
  have hH : pc_H G (([] : List va_E) ++ ([.inr (11, [.ref (b + 1), .ref (b + 7), .ref (b + 83), .null])] ++ (kl_X10 G (b + 1) ++ (kr_L G (b + 7) 8 ++ (kl_X1 G (b + 83) (b + 7) ++ (km_L G (b + 86) (b + 7) 4)))))) H := hH
  refine pc_v_putF (ci := 11) (k := 3) (j := 0) (fs := [.ref (b + 1), .ref (b + 7), .ref (b + 83), .null]) (v := .ref (b + 86)) F hin pfl_X11_35 ha hH hS rfl rfl rfl rfl (Nat.le_of_ble_eq_true rfl) dX11_init_53 (fun H locs hH hS => ?_)
  have hH : pc_H G (([] : List va_E) ++ ([.inr (11, [.ref (b + 1), .ref (b + 7), .ref (b + 83), .ref (b + 86)])] ++ (kl_X10 G (b + 1) ++ (kr_L G (b + 7) 8 ++ (kl_X1 G (b + 83) (b + 7) ++ (km_L G (b + 86) (b + 7) 4)))))) H := hH
  have hH : pc_H G (kl_X11 G b) H := hH
  exact kk H _ (kw_X11g hG hH) hS
