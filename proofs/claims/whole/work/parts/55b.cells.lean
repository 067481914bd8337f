def kl_X12 (G : pf_G) (b : Nat) : List va_E := [.inr (12, [.int 0, .ref (b + 1), .int 0, .int 0, .ref (b + 2), .ref (b + 3), .ref (b + 4), .ref (b + 5), .int 0, .int 0, .int 0, .ref (b + 6), .ref (b + 7), .ref (b + 8), .ref (b + 9), .int 0, .int 0, .ref (b + 10), .ref (b + 11), .ref (b + 12), .ref (b + 13), .ref (b + 14), .int 0, .int 0, .ref (b + 15), .ref (b + 16), .ref (b + 17), .ref (b + 18), .ref (b + 19), .ref (b + 20), .ref (b + 21), .ref (b + 22), .ref (b + 23), .ref (b + 24), .ref (b + 25), .ref (b + 26), .ref (b + 27), .ref (b + 28), .ref (b + 29), .ref (b + 30), .int 0, .ref (b + 31), .ref (b + 32), .ref (b + 33), .int 0, .ref (b + 34), .int 0, .ref (b + 35), .ref (b + 36), .ref (b + 37)]), kl_ar G 0 200, kl_ar G 0 8, kl_ar G 0 9, kl_ar G 0 8, kl_ar G 0 8, kl_ar G 0 8, kl_ar G 0 9, kl_ar G 0 8, kl_ar G 0 8, kl_ar G 0 9, kl_ar G 0 8, kl_ar G 0 128, kl_ar G 0 8, kl_ar G 0 8, kl_ar G 0 16, kl_ar G 0 16, kl_ar G 0 16, kl_ar G 0 64, kl_ar G 0 16, kl_ar G 0 16, kl_ar G 0 16, kl_ar G 0 8, kl_ar G 0 8, kl_ar G 0 4, kl_ar G 0 4, kl_ar G 0 4, kl_ar G 0 4, kl_ar G 0 32, kl_ar G 0 64, kl_ar G 0 8, kl_ar G 0 4, kl_ar G 0 4, kl_ar G 0 32, kl_ar G 0 30, kl_ar G 0 8, kl_ar G 0 8, kl_ar G 0 8]
def kc_X12 (G : pf_G) (o : Nat) : va_E := pf_cx G (pf_dec false o).1 (pf_dec false o).2 (fun _ => 0)
set_option maxRecDepth 100000 in
set_option maxHeartbeats 1000000 in
theorem kl_X12_eq (l : Launch) (D : va_G) (b : Nat) (t : ClassId × ClassId × ClassId × ClassId) : kl_X12 (l, D, b, t, false) b = (List.range 38).map (kc_X12 (l, D, b, t, false)) := by
  rfl
theorem kw_X12 {l : Launch} {D : va_G} {b : Nat} {t : ClassId × ClassId × ClassId × ClassId} {H : Heap} (h : pc_H (l, D, b, t, false) (kl_X12 (l, D, b, t, false) b) H) : va_P D vwCl (pf_W (l, D, b, t, false) fun _ _ _ => 0) H := by
  intro k q hq
  unfold pf_W va_pl pf_LL at hq
  rw [List.getElem?_map, List.getElem?_map] at hq
  have hq : Option.map (fun a => (a, pf_fn (l, D, b, t, false) (fun _ _ _ => 0) a)) (Option.map (fun o => b + o) (List.range 38)[k]?) = some q := hq
  by_cases hk : k < 38
  · rw [List.getElem?_range hk] at hq
    cases hq
    have hc : (kl_X12 (l, D, b, t, false) b)[k]? = some (kc_X12 (l, D, b, t, false) k) := by rw [kl_X12_eq, List.getElem?_map, List.getElem?_range hk]; rfl
    have hv : va_at D vwCl (b + k, kc_X12 (l, D, b, t, false) k) H := h.2 k _ (by rw [pc_w_get, hc]; rfl)
    have hf : pf_fn (l, D, b, t, false) (fun _ _ _ => 0) (b + k) = pf_cx (l, D, b, t, false) (pf_dec false k).1 (pf_dec false k).2 (fun _ => 0) := by
      unfold pf_fn
      show pf_cx (l, D, b, t, false) (pf_dec false (b + k - b)).1 (pf_dec false (b + k - b)).2 _ = _
      rw [Nat.add_sub_cancel_left]
    show va_at D vwCl (b + k, pf_fn (l, D, b, t, false) (fun _ _ _ => 0) (b + k)) H
    rw [hf]
    exact hv
  · rw [List.getElem?_eq_none (by rw [List.length_range]; omega)] at hq
    cases hq
