theorem arrV_cg {c : ClassId} {n : Nat} {f g : Nat → Value} (h : ∀ j, j < n → f j = g j) : arrV c n f = arrV c n g := by
  unfold arrV
  have e : (fun j : Fin n => f j.val) = fun j : Fin n => g j.val := funext fun j => h j.val j.isLt
  rw [e]
def kl_X11 (G : pf_G) (b : Nat) : List va_E := .inr (11, [.ref (b + 1), .ref (b + 7), .ref (b + 83), .ref (b + 86)]) :: (kl_X10 G (b + 1) ++ (kr_L G (b + 7) 8 ++ (kl_X1 G (b + 83) (b + 7) ++ km_L G (b + 86) (b + 7) 4)))
def kc_X11 (G : pf_G) (b o : Nat) : va_E := if o = 8 then .inl (pf_ct G 2, 8, .inr (.inr (.inr (.inr (kx_f (b + 11) 8))))) else if o = 87 then .inl (pf_ct G 3, 4, .inr (.inr (.inr (.inr (kx_f (b + 91) 4))))) else pf_cx G (pf_dec true o).1 (pf_dec true o).2 (fun _ => 0)
set_option maxRecDepth 100000 in
set_option maxHeartbeats 1000000 in
theorem kl_X11_eq (l : Launch) (D : va_G) (b : Nat) (t : ClassId × ClassId × ClassId × ClassId) : kl_X11 (l, D, b, t, true) b = (List.range 127).map (kc_X11 (l, D, b, t, true) b) := by
  rfl
theorem kw_X11 {l : Launch} {D : va_G} {b : Nat} {t : ClassId × ClassId × ClassId × ClassId} {H : Heap} (h : pc_H (l, D, b, t, true) (kl_X11 (l, D, b, t, true) b) H) : va_P D vwCl (pf_W (l, D, b, t, true) fun _ _ _ => 0) H := by
  intro k q hq
  unfold pf_W va_pl pf_LL at hq
  rw [List.getElem?_map, List.getElem?_map] at hq
  have hq : Option.map (fun a => (a, pf_fn (l, D, b, t, true) (fun _ _ _ => 0) a)) (Option.map (fun o => b + o) (List.range 127)[k]?) = some q := hq
  by_cases hk : k < 127
  · rw [List.getElem?_range hk] at hq
    cases hq
    have hc : (kl_X11 (l, D, b, t, true) b)[k]? = some (kc_X11 (l, D, b, t, true) b k) := by rw [kl_X11_eq, List.getElem?_map, List.getElem?_range hk]; rfl
    have hv : va_at D vwCl (b + k, kc_X11 (l, D, b, t, true) b k) H := h.2 k _ (by rw [pc_w_get, hc]; rfl)
    have hf : pf_fn (l, D, b, t, true) (fun _ _ _ => 0) (b + k) = pf_cx (l, D, b, t, true) (pf_dec true k).1 (pf_dec true k).2 (fun _ => 0) := by
      unfold pf_fn
      show pf_cx (l, D, b, t, true) (pf_dec true (b + k - b)).1 (pf_dec true (b + k - b)).2 _ = _
      rw [Nat.add_sub_cancel_left]
    show va_at D vwCl (b + k, pf_fn (l, D, b, t, true) (fun _ _ _ => 0) (b + k)) H
    rw [hf]
    unfold kc_X11 at hv
    by_cases h8 : k = 8
    · subst h8
      rw [if_pos rfl] at hv
      have hv : H[b + 8]? = some (vp_cell (pf_ct (l, D, b, t, true) 2) (8, .inr (.inr (.inr (.inr (kx_f (b + 11) 8)))))) := hv
      show H[b + 8]? = some (vp_cell (pf_ct (l, D, b, t, true) 2) (8, .inr (.inr (.inr (.inr fun j => some (b + (11 + 9 * j)))))))
      rw [hv, vp_cell_q, vp_cell_q]
      refine congrArg some (arrV_cg fun j hj => ?_)
      unfold kx_f
      rw [if_pos hj, Nat.add_assoc]
    · rw [if_neg h8] at hv
      by_cases h87 : k = 87
      · subst h87
        rw [if_pos rfl] at hv
        have hv : H[b + 87]? = some (vp_cell (pf_ct (l, D, b, t, true) 3) (4, .inr (.inr (.inr (.inr (kx_f (b + 91) 4)))))) := hv
        show H[b + 87]? = some (vp_cell (pf_ct (l, D, b, t, true) 3) (4, .inr (.inr (.inr (.inr fun j => some (b + (91 + 9 * j)))))))
        rw [hv, vp_cell_q, vp_cell_q]
        refine congrArg some (arrV_cg fun j hj => ?_)
        unfold kx_f
        rw [if_pos hj, Nat.add_assoc]
      · rw [if_neg h87] at hv
        exact hv
  · rw [List.getElem?_eq_none (by rw [List.length_range]; omega)] at hq
    cases hq
