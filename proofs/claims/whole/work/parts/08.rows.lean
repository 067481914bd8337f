section
variable {G : pf_G} {p : Program} {e : Env} {R : Room} {s : State} {m : MethodId} {args : Array Value} {below : List Frame} {meth : Method} {c : Code} {cc : ByteArray} {own : String} {nL : Nat} {Q : State → Prop} {lo st r : List pf_V} {M : pf_M} {pc : Nat} {H : Heap} {locs : List Loc} {ls : Array Slot} {rest : List Value}
theorem pf_u_get {kd i k ci idx : Nat} {ty : FieldType} {fin : Bool} (F : pf_Fix G p s m args c cc own nL) (hci : pf_ci kd = some ci) (hF : pf_Fl own idx ci k ty fin) (hok : pf_ok G.2.2.2.2 kd i) (hP : va_P G.2.1 vwCl (pf_W G M) H) (hd : decode cc pc = .ok (.getfield idx, 3))
    (kk : W p G.1 e R s m args below meth c H locs 0 0 Q (F0 m (pc + 3) ls (pf_cv G (pf_fv kd i k (M kd i)) :: rest))) : W p G.1 e R s m args below meth c H locs 0 0 Q (F0 m pc ls (.ref (pf_ad G kd i) :: rest)) := by
  obtain ⟨hx, hb, hml, hown, hts, hK, hN⟩ := F
  obtain ⟨C, T, N, ty0, h1, h2, h3, h4, h5, h6, h7, h8, h9⟩ := hF
  obtain ⟨q0, hq⟩ := pf_get (M := M) hok
  rw [pf_cx_obj hci] at hq
  have hv : ((List.range (pf_nf ci)).map fun j => pf_cv G (pf_fv kd i j (M kd i)))[k]? = some (pf_cv G (pf_fv kd i k (M kd i))) := by
    rw [List.getElem?_map, List.getElem?_range (by rw [h2]; exact h3)]
    rfl
  rcases h9 with h9 | ⟨host, h9⟩
  · exact va_get hx hb hts h4 hown hK hP q0 hq h1 k h3 (hts _ h9) (fun _ h => h) hv hd kk
  · exact va_getN (host := host) hx hb hts h4 hown hK hP q0 hq h1 k h3 (va_Nw.use (by rfl) (hN _ h9)) (fun _ h => h) hv hd kk
theorem pf_fs_set {ci kd i k : Nat} {g : Nat → Int32} {x : Int32} (hk : k < pf_nf ci) (hr : pf_rs kd i k = none) : ((List.range (pf_nf ci)).map fun j => pf_cv G (pf_fv kd i j g)).set k (.int x) = (List.range (pf_nf ci)).map fun j => pf_cv G (pf_fv kd i j (upd g k x)) := by
  apply List.ext_getElem?
  intro j
  rw [List.getElem?_set]
  by_cases hj : k = j
  · subst hj
    rw [if_pos rfl, if_pos (by simpa using hk), List.getElem?_map, List.getElem?_range hk]
    simp [pf_fv, hr, upd, pf_cv]
  · rw [if_neg hj, List.getElem?_map, List.getElem?_map]
    by_cases hl : j < pf_nf ci
    · rw [List.getElem?_range hl]
      simp [pf_fv, upd, Ne.symm hj]
    · rw [List.getElem?_eq_none (by simpa using hl)]
      rfl
theorem pf_u_put {kd i k ci idx : Nat} {ty : FieldType} {x : Int32} (F : pf_Fix G p s m args c cc own nL) (hci : pf_ci kd = some ci) (hrs : pf_rs kd i k = none) (hF : pf_Fl own idx ci k ty false) (hn : narrow ty (.int x) = .int x) (hf : fits ty (.int x) = true) (hok : pf_ok G.2.2.2.2 kd i) (hP : va_P G.2.1 vwCl (pf_W G M) H) (hS : va_S (pf_A G) s.heap H locs) (hd : decode cc pc = .ok (.putfield idx, 3))
    (kk : ∀ (H1 : Heap) (locs1 : List Loc), va_P G.2.1 vwCl (pf_W G (pf_up M kd i k x)) H1 → va_S (pf_A G) s.heap H1 locs1 → W p G.1 e R s m args below meth c H1 locs1 0 0 Q (F0 m (pc + 3) ls rest)) : W p G.1 e R s m args below meth c H locs 0 0 Q (F0 m pc ls (.int x :: .ref (pf_ad G kd i) :: rest)) := by
  obtain ⟨hx, hb, hml, hown, hts, hK, hN⟩ := F
  obtain ⟨C, T, N, ty0, h1, h2, h3, h4, h5, h6, h7, h8, h9⟩ := hF
  obtain ⟨q0, hq⟩ := pf_get (M := M) hok
  have hq0 := hq
  rw [pf_cx_obj hci] at hq
  have hlen : k < ((List.range (pf_nf ci)).map fun j => pf_cv G (pf_fv kd i j (M kd i))).length := by
    rw [List.length_map, List.length_range, h2]; exact h3
  have hset : (pf_W G M).set q0 (pf_ad G kd i, .inr (ci, ((List.range (pf_nf ci)).map fun j => pf_cv G (pf_fv kd i j (M kd i))).set k (.int x))) = pf_W G (pf_up M kd i k x) := by
    rw [pf_fs_set (by rw [h2]; exact h3) hrs, ← pf_cx_obj (G := G) (i := i) hci, pf_set hok hq0]
    rfl
  rcases h9 with h9 | ⟨host, h9⟩
  · refine va_put hx hb hts h4 ty0 h5 h6 hown hK hP (pf_D G M) hS q0 hq h1 k h3 (hts _ h9) (fun _ h => h) h8 h7 hn hf hlen hd (fun H1 locs1 hP1 _ hS1 => ?_)
    rw [hset] at hP1
    exact kk H1 locs1 hP1 hS1
  · refine va_putN (host := host) hx hb hts h4 ty0 h5 h6 hown hK hP (pf_D G M) hS q0 hq h1 k h3 (va_Nw.use (by rfl) (hN _ h9)) (fun _ h => h) h8 h7 hn hf hlen hd (fun H1 locs1 hP1 _ hS1 => ?_)
    rw [hset] at hP1
    exact kk H1 locs1 hP1 hS1
theorem pf_u_iald {kd i n : Nat} {j : Int32} (F : pf_Fix G p s m args c cc own nL) (hk : pf_intK kd n) (hok : pf_ok G.2.2.2.2 kd i) (hin : vp_in j n) (hP : va_P G.2.1 vwCl (pf_W G M) H) (hd : decode cc pc = .ok (.iaload, 1))
    (kk : W p G.1 e R s m args below meth c H locs 0 0 Q (F0 m (pc + 1) ls (.int (M kd i j.toNatClampNeg) :: rest))) : W p G.1 e R s m args below meth c H locs 0 0 Q (F0 m pc ls (.int j :: .ref (pf_ad G kd i) :: rest)) := by
  obtain ⟨hx, hb, hml, hown, hts, hK, hN⟩ := F
  obtain ⟨q0, hq⟩ := pf_get (M := M) hok
  rw [pf_cx_int hk] at hq
  exact va_iald hx hb hK hP q0 0 hq rfl hin hd kk
theorem pf_u_cald {kd i n : Nat} {j : Int32} (F : pf_Fix G p s m args c cc own nL) (hk : pf_ci kd = none) (hk2 : pf_ar kd = some (1, n)) (hok : pf_ok G.2.2.2.2 kd i) (hin : vp_in j n) (hP : va_P G.2.1 vwCl (pf_W G M) H) (hd : decode cc pc = .ok (.caload, 1))
    (kk : W p G.1 e R s m args below meth c H locs 0 0 Q (F0 m (pc + 1) ls (.int (M kd i j.toNatClampNeg) :: rest))) : W p G.1 e R s m args below meth c H locs 0 0 Q (F0 m pc ls (.int j :: .ref (pf_ad G kd i) :: rest)) := by
  obtain ⟨hx, hb, hml, hown, hts, hK, hN⟩ := F
  obtain ⟨q0, hq⟩ := pf_get (M := M) hok
  rw [pf_cx_chr hk hk2] at hq
  exact va_cald hx hb hK hP q0 1 hq rfl hin hd kk
theorem pf_u_alen {kd i n : Nat} (F : pf_Fix G p s m args c cc own nL) (hk : pf_intK kd n) (hok : pf_ok G.2.2.2.2 kd i) (hP : va_P G.2.1 vwCl (pf_W G M) H) (hd : decode cc pc = .ok (.arraylength, 1))
    (kk : W p G.1 e R s m args below meth c H locs 0 0 Q (F0 m (pc + 1) ls (.int (Int32.ofNat n) :: rest))) : W p G.1 e R s m args below meth c H locs 0 0 Q (F0 m pc ls (.ref (pf_ad G kd i) :: rest)) := by
  obtain ⟨hx, hb, hml, hown, hts, hK, hN⟩ := F
  obtain ⟨q0, hq⟩ := pf_get (M := M) hok
  rw [pf_cx_int hk] at hq
  exact va_alen hx hb hK hP q0 0 hq (ty := .int) rfl rfl hd kk
theorem pf_u_iast {kd i n : Nat} {j x : Int32} (F : pf_Fix G p s m args c cc own nL) (hk : pf_intK kd n) (hok : pf_ok G.2.2.2.2 kd i) (hin : vp_in j n) (hP : va_P G.2.1 vwCl (pf_W G M) H) (hS : va_S (pf_A G) s.heap H locs) (hd : decode cc pc = .ok (.iastore, 1))
    (kk : ∀ (H1 : Heap) (locs1 : List Loc), va_P G.2.1 vwCl (pf_W G (pf_up M kd i j.toNatClampNeg x)) H1 → va_S (pf_A G) s.heap H1 locs1 → W p G.1 e R s m args below meth c H1 locs1 0 0 Q (F0 m (pc + 1) ls rest)) : W p G.1 e R s m args below meth c H locs 0 0 Q (F0 m pc ls (.int x :: .int j :: .ref (pf_ad G kd i) :: rest)) := by
  obtain ⟨hx, hb, hml, hown, hts, hK, hN⟩ := F
  obtain ⟨q0, hq⟩ := pf_get (M := M) hok
  have hq0 := hq
  rw [pf_cx_int hk] at hq
  refine va_iast hx hb hK hP (pf_D G M) hS q0 0 hq rfl hin hd (fun H1 locs1 hP1 _ hS1 => ?_)
  rw [← pf_cx_int (G := G) (i := i) hk, pf_set hok hq0] at hP1
  exact kk H1 locs1 hP1 hS1
theorem pf_u_cast {kd i n : Nat} {j x : Int32} (F : pf_Fix G p s m args c cc own nL) (hk : pf_ci kd = none) (hk2 : pf_ar kd = some (1, n)) (hok : pf_ok G.2.2.2.2 kd i) (hin : vp_in j n) (hP : va_P G.2.1 vwCl (pf_W G M) H) (hS : va_S (pf_A G) s.heap H locs) (hd : decode cc pc = .ok (.castore, 1))
    (kk : ∀ (H1 : Heap) (locs1 : List Loc), va_P G.2.1 vwCl (pf_W G (pf_up M kd i j.toNatClampNeg (vp_nar .char x))) H1 → va_S (pf_A G) s.heap H1 locs1 → W p G.1 e R s m args below meth c H1 locs1 0 0 Q (F0 m (pc + 1) ls rest)) : W p G.1 e R s m args below meth c H locs 0 0 Q (F0 m pc ls (.int x :: .int j :: .ref (pf_ad G kd i) :: rest)) := by
  obtain ⟨hx, hb, hml, hown, hts, hK, hN⟩ := F
  obtain ⟨q0, hq⟩ := pf_get (M := M) hok
  have hq0 := hq
  rw [pf_cx_chr hk hk2] at hq
  refine va_cast hx hb hK hP (pf_D G M) hS q0 1 hq rfl hin hd (fun H1 locs1 hP1 _ hS1 => ?_)
  rw [← pf_cx_chr (G := G) (i := i) hk hk2, pf_set hok hq0] at hP1
  exact kk H1 locs1 hP1 hS1
theorem pf_u_aald {kd i n t el : Nat} {j : Int32} (F : pf_Fix G p s m args c cc own nL) (hk : pf_ci kd = none) (hk2 : pf_ar kd = none) (hk3 : pf_ra kd = some (t, n, el)) (hok : pf_ok G.2.2.2.2 kd i) (hin : vp_in j n) (hP : va_P G.2.1 vwCl (pf_W G M) H) (hd : decode cc pc = .ok (.aaload, 1))
    (kk : W p G.1 e R s m args below meth c H locs 0 0 Q (F0 m (pc + 1) ls (.ref (pf_ad G el j.toNatClampNeg) :: rest))) : W p G.1 e R s m args below meth c H locs 0 0 Q (F0 m pc ls (.int j :: .ref (pf_ad G kd i) :: rest)) := by
  obtain ⟨hx, hb, hml, hown, hts, hK, hN⟩ := F
  obtain ⟨q0, hq⟩ := pf_get (M := M) hok
  unfold pf_cx at hq
  rw [hk, hk2, hk3] at hq
  have ht : (t = 2 ∧ kd = 8) ∨ (t = 3 ∧ kd = 21) := by
    unfold pf_ra at hk3
    split at hk3 <;> simp at hk3
    · exact Or.inl ⟨hk3.1.symm, rfl⟩
    · exact Or.inr ⟨hk3.1.symm, rfl⟩
  rcases ht with ⟨rfl, -⟩ | ⟨rfl, -⟩
  · exact va_aldq hx hb hK hP q0 2 hq (C := "PassingFrames$Device") rfl hin hd kk
  · exact va_aldq hx hb hK hP q0 3 hq (C := "PassingFrames$Datagram") rfl hin hd kk
theorem pf_ra_ok {sy : Bool} {kd i n t el : Nat} {j : Int32} (hok : pf_ok sy kd i) (hk3 : pf_ra kd = some (t, n, el)) (hin : vp_in j n) : pf_ok sy el j.toNatClampNeg := by
  have hj : j.toNatClampNeg < n := Nat.not_le.mp fun q => hin (Or.inr q)
  unfold pf_ra at hk3
  split at hk3 <;> simp at hk3
  · obtain ⟨-, rfl, rfl⟩ := hk3
    exact ⟨hj, hok.2⟩
  · obtain ⟨-, rfl, rfl⟩ := hk3
    exact ⟨hj, hok.2⟩
theorem pf_u_copy {n dp sp : Int32} {k1 i1 k0 i0 n0 n1 idx : Nat} (F : pf_Fix G p s m args c cc own nL) (hls : ls.size = nL) (hA : pf_LkA own idx) (h0 : pf_intK k0 n0) (h1 : pf_intK k1 n1) (hok0 : pf_ok G.2.2.2.2 k0 i0) (hok1 : pf_ok G.2.2.2.2 k1 i1) (a1 : ¬ sp < 0) (a2 : ¬ dp < 0) (a3 : ¬ n < 0) (a4 : sp.toNatClampNeg + n.toNatClampNeg ≤ n0) (a5 : dp.toNatClampNeg + n.toNatClampNeg ≤ n1) (hfr : 1 ≤ R.frames) (hlo : (rest.map fun v => v.category).sum + (nativeFrameWords "java/lang/System" "arraycopy" 5 + 11) ≤ R.locals) (hP : va_P G.2.1 vwCl (pf_W G M) H) (hS : va_S (pf_A G) s.heap H locs) (hd : decode cc pc = .ok (.invokestatic idx, 3))
    (kk : ∀ (H1 : Heap) (locs1 : List Loc), va_P G.2.1 vwCl (pf_W G (pf_upf M k1 i1 (va_cpy (M k0 i0) (M k1 i1) sp.toNatClampNeg dp.toNatClampNeg n.toNatClampNeg))) H1 → va_S (pf_A G) s.heap H1 locs1 → W p G.1 e R s m args below meth c H1 locs1 0 0 Q (F0 m (pc + 3) ls rest)) : W p G.1 e R s m args below meth c H locs 0 0 Q (F0 m pc ls (.int n :: .int dp :: .ref (pf_ad G k1 i1) :: .int sp :: .ref (pf_ad G k0 i0) :: rest)) := by
  obtain ⟨hx, hb, hml, hown, hts, hK, hN⟩ := F
  obtain ⟨q0, hq0⟩ := pf_get (M := M) hok0
  obtain ⟨q1, hq1⟩ := pf_get (M := M) hok1
  have hq2 := hq1
  rw [pf_cx_int h0] at hq0
  rw [pf_cx_int h1] at hq1
  refine va_copyi hx hb (hml.trans hls.symm) hown (hts _ hA.1) (hts _ hA.2.1) (hts _ hA.2.2.1) (hts _ hA.2.2.2) hK hP (pf_D G M) hS q0 q1 0 0 hq0 hq1 (ty := .int) rfl rfl rfl a1 a2 a3 a4 a5 (fun _ _ => rfl) hfr hlo hd (fun H1 locs1 hP1 _ hS1 => ?_)
  rw [← pf_cx_int (G := G) (i := i1) h1, pf_set hok1 hq2] at hP1
  exact kk H1 locs1 hP1 hS1
end
