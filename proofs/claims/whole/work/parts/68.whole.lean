section
variable {l : Launch} {G : pf_G} {p : Program} {e : Env} {R : Room} {s : State} {m : MethodId} {args : Array Value} {below : List Frame} {meth : Method} {c : Code} {cc : ByteArray} {own : String} {nL : Nat} {Q : State → Prop} {pc : Nat} {H : Heap} {locs : List Loc} {ls : Array Slot} {rest : List Value} {cells slots : Nat} {A : Nat → Prop}
theorem pd_callI {idx nL2 fr lo mc ms a n : Nat} {y : MethodName} {cc2 : ByteArray} {As : List Value} {Pre : State → Prop} {M' : pf_M} (F : ps_Bs p s m args c cc own nL) (hI : pc_Il own idx y cc2 nL2 n) (hM : Met l y (.code y cc2 nL2 none :: pf_tb) (pc_rm fr lo mc ms) (va_Pc (.ref a :: As) Pre) (pc_QM G M') mc ms (pc_A G)) (hbl : FrameBlind (va_Pc (.ref a :: As) Pre)) (hpre : ∀ U : State, U.heap = H → s.WarmedH U.vm → Pre U) (hA : ∀ q, pc_A G q → A q) (hS : va_S A s.heap H locs) (hn : As.length = n) (hl : ls.size = nL) (hfr : fr + 1 ≤ R.frames) (hlo : 8 + (nL2 + 11) + lo ≤ R.locals) (h1 : cells + mc ≤ R.cells) (h2 : slots + ms ≤ R.slots) (hwd : (rest.map fun v => v.category).sum ≤ 8) {st : List Value} (hst : st = As.reverse ++ .ref a :: rest) (hd : decode cc pc = .ok (.invokespecial idx, 3))
    (kk : ∀ (H1 : Heap) (locs1 : List Loc), va_P G.2.1 vwCl (pf_W G M') H1 → H.size ≤ H1.size → (∀ q : Nat, q < H.size → ¬ pc_A G q → H1[q]? = H[q]?) → va_S A s.heap H1 locs1 → W p l e R s m args below meth c H1 locs1 (cells + mc) (slots + ms) Q (F0 m (pc + 3) ls rest)) : W p l e R s m args below meth c H locs cells slots Q (F0 m pc ls st) := by
  subst hst
  obtain ⟨hx, hb, hml, hown, hts⟩ := F
  obtain ⟨⟨l1, l2, l3, l4⟩, l5, l6, l7⟩ := hI
  have hG := pf_tbg y cc2 nL2 none l2 (ws := pf_tb) (fun _ h => h)
  have hp : PreS s H (va_Pc (.ref a :: As) Pre) (.ref a :: As) := ⟨hbl, fun U hU hW => ⟨rfl, hpre U hU hW⟩⟩
  have cw := cwI (own := own) (index := idx) (y := y) (bytes := cc2) (maxL := nL2) (R := R) (rm := pc_rm fr lo mc ms) (mc := mc) (ms := ms) n hts hG rfl rfl rfl (hts _ l1) (hts _ l5) (hts _ l6) l7 ⟨l3.1, l3.2, l4⟩ ⟨hfr, hlo⟩
  have hr := va_runI (l := l) (e := e) (below := below) (meth := meth) (locs := locs) (cells := cells) (slots := slots) (As := As) (rest := rest) (g := F0 m pc ls (As.reverse ++ .ref a :: rest)) ⟨hx, hb, hml, hown, hts⟩ hM cw hp rfl hn hl rfl (lv_room hwd) hd ⟨h1, h2⟩
  intro T hT X
  obtain ⟨v, st₀, t, T', L, h0, X', hL, e1, e2, ⟨⟨hv, hP1⟩, hz, hk⟩, st⟩ := hr T hT X
  cases hv
  rw [h0] at hz hk
  obtain ⟨t2, a1, b1⟩ := kk T'.heap (locs ++ L) (by rw [e1]; exact hP1) (by rw [e1]; exact hz) (fun q u1 u2 => by rw [e1]; exact hk q u1 u2)
    ⟨Nat.le_trans hS.1 (by rw [e1]; exact hz), fun q u1 u2 => by rw [e1, hk q (Nat.lt_of_lt_of_le u1 hS.1) (fun w => u2 (hA q w))]; exact hS.2.1 q u1 u2, fun q hq => by
      rcases List.mem_append.mp hq with h | h
      · exact hS.2.2 q h
      · exact hA _ (hL q h)⟩ T' rfl X'
  exact ⟨t2, st t2 a1, b1⟩
theorem pd_new {idx ci N a : Nat} {fs : List Value} (F : pc_Fix G p s m args c cc own nL) (hN : pc_Nl own idx ci N fs) (hH : G.2.2.1 = H.size) (hS : va_S A s.heap H locs) (ha : H.size = a) (h1 : cells + 1 ≤ R.cells) (h2 : slots + N ≤ R.slots) (hd : decode cc pc = .ok (.new idx, 3))
    (kk : ∀ H1 : Heap, pc_H G [.inr (ci, fs)] H1 → (∀ q : Nat, q < H.size → H1[q]? = H[q]?) → va_S A s.heap H1 locs → W p G.1 e R s m args below meth c H1 locs (cells + 1) (slots + N) Q (F0 m (pc + 3) ls (.ref a :: rest))) : W p G.1 e R s m args below meth c H locs cells slots Q (F0 m pc ls rest) := by
  subst ha
  obtain ⟨hx, hb, hml, hown, hts, hX⟩ := F
  obtain ⟨C, T, ty, n1, n2, n3, n4, n5, n6, n7⟩ := hN
  have hKn := hX.1.1 ci _ n1
  have hH0 : pc_H G [] H := ⟨hH.symm, fun k q hq => by simp [pc_w] at hq⟩
  refine W.newcK hx hb hown (hts _ n4) (hts _ n5) (hts _ n6) rfl hd h1 h2 hKn.2.1 rfl fun H1 kC hkC e1 z1 o1 => ?_
  have z0 : H.size = G.2.2.1 + ([] : List va_E).length := hH.symm
  have e1 : H1[G.2.2.1 + ([] : List va_E).length]? = some (blank (G.2.1.1 ci) kC) := by rw [← z0]; exact e1
  exact kk H1 (hH0.push (by rw [z1, z0]) (fun q hq => o1 q (by rw [z0]; exact hq)) ⟨_, n1, (u_born ty hts n2 hKn hkC e1 n3).to n7⟩) o1 (pc_S.grow hS rfl z1 o1)
end
theorem sw_blC (l : Launch) (D : va_G) (b : Nat) (t : ClassId × ClassId × ClassId × ClassId) (adK adV : Nat → Nat) (av : List Value) (cs : List va_E) : FrameBlind (va_Pc av (fun U => pc_H (gC l D b t) cs U.heap ∧ pc_X (gC l D b t) U ∧ ps_All (gC l D b t) adK adV U)) := by
  intro a U g mk h
  exact ⟨h.1, h.2.1, pc_X.same (u := U) (U := U.calling g mk a) rfl h.2.2.1, ⟨vk_S.moved (u := U) (U := U.calling g mk a) (Vm.Alike.refl U.vm) h.2.2.2.1.1, va_Z.moved (u := U) (U := U.calling g mk a) (Vm.Alike.refl U.vm) h.2.2.2.1.2.1, va_Zq.moved (u := U) (U := U.calling g mk a) (Vm.Alike.refl U.vm) h.2.2.2.1.2.2⟩, vk_R.same (u := U) (U := U.calling g mk a) rfl h.2.2.2.2⟩
theorem sw_lt {l : Launch} {D : va_G} {b : Nat} {t : ClassId × ClassId × ClassId × ClassId} {M : pf_M} {H : Heap} (h : va_P D vwCl (pf_W (gC l D b t) M) H) : b + 127 ≤ H.size := by
  have hm : (b + 126, pf_fn (gC l D b t) M (b + 126)) ∈ pf_W (gC l D b t) M := by
    unfold pf_W va_pl pf_LL
    refine List.mem_map.mpr ⟨b + 126, List.mem_map.mpr ⟨126, List.mem_range.mpr (show 126 < 127 by decide), rfl⟩, rfl⟩
  obtain ⟨k, hk⟩ := List.getElem?_of_mem hm
  have := (h k _ hk).lt
  have h2 : b + 126 < H.size := this
  omega
set_option maxHeartbeats 1000000 in
set_option maxRecDepth 100000 in
theorem whole_start {p : Program} {e : Env} {s : State} {m : MethodId} {below : List Frame} {meth : Method} {c : Code} (l : Launch) (hflags : l.flags = flags0) {b L : Nat} {xs : Nat → Int32} (hL : L ≤ 3072) (C0 : lw_At p s m meth c b L xs) : W p l e room_1 s m #[Value.ref b] below meth c s.heap [] 0 0 (lw_Z below #[Value.ref b] s) (entryFrame m ([Value.ref b] : List Value).toArray 4) := by
  obtain ⟨hx, hb, hr, hml, hown, hts, hX, hbl, hlocks, hgv⟩ := C0
  have htb : ∀ w ∈ pf_tb, w.before #[Value.ref b] s = true := fun w hw => hts w (List.mem_filter.mp hw).1
  obtain ⟨D, t, hK⟩ := sw_K hts
  have hN := sw_N hts
  have hd1 : va_AO "PassingFrames$Device" s := va_AO.of (hts (Cond.arrayOver (.object "PassingFrames$Device")) (List.mem_of_getElem? (i := 150) (by decide +kernel)))
  have hd2 : va_AO "PassingFrames$Datagram" s := va_AO.of (hts (Cond.arrayOver (.object "PassingFrames$Datagram")) (List.mem_of_getElem? (i := 316) (by decide +kernel)))
  have hown : s.vm.findClass RL = some m.cls := hown
  have Fb : ps_Bs p s m #[Value.ref b] c cL_law RL 4 := ⟨hx, hb, hml, hown, htb⟩
  have FC : ∀ g, pc_Fix (gC l D g t) p s m #[Value.ref b] c cL_law RL 4 := fun g => ⟨hx, hb, hml, hown, htb, hK l g true, hN, hd1, hd2⟩
  have FM : ∀ g, pc_Fix (gM l D g t) p s m #[Value.ref b] c cL_law RL 4 := fun g => ⟨hx, hb, hml, hown, htb, hK l g false, hN, hd1, hd2⟩
  obtain ⟨X0, Y0, hX0, hY0, hR0⟩ := ss_start
  obtain ⟨adK, adV, hSA, hvk⟩ := sw_S (A := pc_A (gC l D s.heap.size t)) hts hgv (fun a ha w => absurd (show s.heap.size ≤ a from w) (by omega))
  have hS : va_S (pc_A (gC l D s.heap.size t)) s.heap s.heap [] := va_S.rf
  rw [lg_entry_eq]
  have hl := lv_entry ([.ref b]) (n := 4) (Nat.le_of_ble_eq_true rfl)
  generalize (lg_sl ([.ref b]) ++ List.replicate (4 - (lg_sl ([.ref b])).length) Slot.unset).toArray = ls at hl ⊢
  have hl : lv_has ls 4 [(0, .ref b)] := hl
  refine pd_new (G := gC l D s.heap.size t) (FC _) nl_L_7 rfl hS rfl (Nat.le_of_ble_eq_true rfl) (Nat.le_of_ble_eq_true rfl) dL_law_0 (fun H1 hH1 o1 hS1 => ?_)
  refine lv_dup hx hb dL_law_3 rfl ?_
  refine pd_callI (G := gC l D s.heap.size t) (As := []) (rest := [.ref s.heap.size]) Fb pil_L_9 (k_X11_init l D s.heap.size t adK adV X0 hX0) (sw_blC l D s.heap.size t adK adV _ _) (fun U hU hW => ⟨by rw [hU]; exact hH1, (FC s.heap.size).2.2.2.2.2.moved hW, ⟨?_, vk_R.warm hW hvk⟩⟩) (fun _ h => h) hS1 rfl hl.1 (Nat.le_of_ble_eq_true rfl) (Nat.le_of_ble_eq_true rfl) (Nat.le_of_ble_eq_true rfl) (Nat.le_of_ble_eq_true rfl) (Nat.le_of_ble_eq_true rfl) rfl dL_law_4 (fun H2 locs hP2 hz2 hk2 hS2 => ?_)
  · rw [hU]
    exact ⟨(vk_S.moved hW.alike hSA.1).kept hS1.2.1, (va_Z.moved hW.alike hSA.2.1).kept hS1.2.1, (va_Zq.moved hW.alike hSA.2.2).kept hS1.2.1⟩
  refine va_forget (fun q hq => hS2.2.2 q hq) ?_
  have hS2 : va_S (lw_A s) s.heap H2 [] := ⟨hS2.1, hS2.2.1, fun _ h => by cases h⟩
  refine lv_astore_n (lv' := [(1, .ref s.heap.size), (0, .ref b)]) hx hb dL_law_7 rfl hl (by decide) rfl (fun ls hl => ?_)
  refine pd_new (G := gM l D H2.size t) (FM _) nl_L_10 rfl hS2 rfl (Nat.le_of_ble_eq_true rfl) (Nat.le_of_ble_eq_true rfl) dL_law_8 (fun H3 hH3 o3 hS3 => ?_)
  refine lv_dup hx hb dL_law_11 rfl ?_
  refine pd_callI (G := gM l D H2.size t) (As := []) (rest := [.ref H2.size]) Fb pil_L_12 (k_X12_init l D H2.size t Y0 hY0) (pc_blind _) (fun U hU hW => ⟨by rw [hU]; exact hH3, (FM H2.size).2.2.2.2.2.moved hW⟩) (fun q h => ?_) hS3 rfl hl.1 (Nat.le_of_ble_eq_true rfl) (Nat.le_of_ble_eq_true rfl) (Nat.le_of_ble_eq_true rfl) (Nat.le_of_ble_eq_true rfl) (Nat.le_of_ble_eq_true rfl) rfl dL_law_12 (fun H4 locs hP4 hz4 hk4 hS4 => ?_)
  · have h1 : H2.size ≤ q := h
    have h2 := hS2.1
    show s.heap.size ≤ q
    omega
  refine va_forget (fun q hq => hS4.2.2 q hq) ?_
  have hS4 : va_S (lw_A s) s.heap H4 [] := ⟨hS4.1, hS4.2.1, fun _ h => by cases h⟩
  refine lv_astore_n (lv' := [(2, .ref H2.size), (1, .ref s.heap.size), (0, .ref b)]) hx hb dL_law_15 rfl hl (by decide) rfl (fun ls hl => ?_)
  refine lv_iconst (v := 0) hx hb dL_law_16 (by decide) ?_
  refine lv_istore_n (lv' := [(3, .int 0), (2, .ref H2.size), (1, .ref s.heap.size), (0, .ref b)]) hx hb dL_law_17 rfl hl (by decide) rfl (fun ls hl => ?_)
  have hP2' : va_P D vwCl (pf_W (gC l D s.heap.size t) X0) H4 := by
    have hP2 : va_P D vwCl (pf_W (gC l D s.heap.size t) X0) H2 := hP2
    refine hP2.kept (fun k q hq => ?_)
    have hlt := (hP2 k q hq).lt
    have hz3 := hH3.1
    rw [hk4 q.1 (by rw [hz3]; show q.1 < H2.size + 1; omega) (fun w => absurd (show H2.size ≤ q.1 from w) (by omega)), o3 q.1 hlt]
  have Fx : lw_Fx l p s m c b L xs D t s.heap.size H2.size := ⟨(FC _).pf, (FM _).pf, hX, hbl, Nat.le_refl _, sw_lt hP2, hL⟩
  exact lw_loop Fx hr hlocks 512 0 X0 Y0 rfl hR0 H4 ls hP2' hP4 hS4 hl
