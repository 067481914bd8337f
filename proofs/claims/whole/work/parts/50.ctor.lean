/-! the growing world of the constructors: cells one behind another from the first address on -/
def pc_w (b : Nat) (cs : List va_E) : va_W := cs.zipIdx.map fun q => (b + q.2, q.1)
def pc_A (G : pf_G) : Nat → Prop := fun q => G.2.2.1 ≤ q
theorem pc_w_get (b : Nat) (cs : List va_E) (i : Nat) : (pc_w b cs)[i]? = cs[i]?.map fun e => (b + i, e) := by
  unfold pc_w
  rw [List.getElem?_map, List.getElem?_zipIdx]
  cases cs[i]? <;> simp
theorem pc_w_some {b : Nat} {cs : List va_E} {i : Nat} {q : Nat × va_E} (h : (pc_w b cs)[i]? = some q) : q.1 = b + i ∧ cs[i]? = some q.2 := by
  rw [pc_w_get] at h
  cases hc : cs[i]? with
  | none => rw [hc] at h; cases h
  | some e => rw [hc] at h; cases h; exact ⟨rfl, rfl⟩
theorem pc_w_push (b : Nat) (cs : List va_E) (e : va_E) : pc_w b (cs ++ [e]) = pc_w b cs ++ [(b + cs.length, e)] := by
  unfold pc_w
  rw [List.zipIdx_append, List.map_append]
  simp
theorem pc_w_set (b : Nat) (cs : List va_E) (i : Nat) (e : va_E) : (pc_w b cs).set i (b + i, e) = pc_w b (cs.set i e) := by
  apply List.ext_getElem?
  intro j
  rw [List.getElem?_set, pc_w_get, pc_w_get, List.getElem?_set]
  have hl : (pc_w b cs).length = cs.length := by unfold pc_w; simp
  rw [hl]
  by_cases hj : i = j
  · subst hj
    rw [if_pos rfl, if_pos rfl]
    by_cases h : i < cs.length
    · rw [if_pos h, if_pos h]; rfl
    · rw [if_neg h, if_neg h]; rfl
  · rw [if_neg hj, if_neg hj]
theorem pc_D (G : pf_G) (cs : List va_E) : va_D (pc_A G) (pc_w G.2.2.1 cs) := by
  refine ⟨fun i j p q hi hj he => ?_, fun k q h => ?_⟩
  · have h1 := (pc_w_some hi).1
    have h2 := (pc_w_some hj).1
    omega
  · have h1 := (pc_w_some h).1
    show G.2.2.1 ≤ q.1
    omega
def pc_H (G : pf_G) (cs : List va_E) (H : Heap) : Prop := H.size = G.2.2.1 + cs.length ∧ va_P G.2.1 vwCl (pc_w G.2.2.1 cs) H
theorem pc_H.push {G : pf_G} {cs : List va_E} {H H1 : Heap} {e : va_E} (h : pc_H G cs H) (z : H1.size = G.2.2.1 + cs.length + 1) (o : ∀ q : Nat, q < G.2.2.1 + cs.length → H1[q]? = H[q]?) (he : va_at G.2.1 vwCl (G.2.2.1 + cs.length, e) H1) : pc_H G (cs ++ [e]) H1 := by
  refine ⟨by rw [z, List.length_append]; rfl, ?_⟩
  rw [pc_w_push]
  refine (h.2.kept (fun k x hx => o x.1 ?_)).app (fun k x hx => ?_)
  · have := (h.2 k x hx).lt
    have := h.1
    omega
  · have hz : k < 1 := (List.getElem?_eq_some_iff.mp hx).1
    rw [show k = 0 by omega] at hx
    cases hx
    exact he
theorem pc_H.set {G : pf_G} {cs : List va_E} {H H1 : Heap} {e0 e : va_E} {i : Nat} (h : pc_H G cs H) (hi : cs[i]? = some e0) (z : H1.size = H.size) (o : ∀ q : Nat, q ≠ G.2.2.1 + i → H1[q]? = H[q]?) (he : va_at G.2.1 vwCl (G.2.2.1 + i, e) H1) : pc_H G (cs.set i e) H1 := by
  refine ⟨by rw [z, h.1, List.length_set], ?_⟩
  rw [← pc_w_set]
  exact h.2.set (pc_D G cs) (by rw [pc_w_get, hi]; rfl) he o
theorem pc_S.grow {A : Nat → Prop} {H0 H H1 : Heap} {locs : List Loc} {b : Nat} (hS : va_S A H0 H locs) (hb : H.size = b) (z : H1.size = b + 1) (o : ∀ q : Nat, q < b → H1[q]? = H[q]?) : va_S A H0 H1 locs :=
  ⟨by have := hS.1; omega, fun x h1 h2 => (o x (by have := hS.1; omega)).trans (hS.2.1 x h1 h2), hS.2.2⟩
/-! what the tables say of a class that is made, of a final field, of a constructor -/
def pc_Nl (own : String) (idx ci N : Nat) (fs : List Value) : Prop := ∃ (C : String) (T : u_T) (ty : Nat → FieldType), vwCl[ci]? = some (C, T, N) ∧ (∀ w ∈ u_ws C T N, w ∈ pf_tb) ∧ (∀ k, k < N → parseFieldDescriptor (T k).2.2.1 = some (ty k)) ∧ Cond.classLink own idx C ∈ pf_tb ∧ Cond.instantiable C N ∈ pf_tb ∧ Cond.initialized C ∈ pf_tb ∧ ∀ j, j < N → defaultValue (ty j) = vp_V fs j
def pc_Fl (own : String) (idx ci k : Nat) (ty : FieldType) : Prop := ∃ (T : u_T) (N : Nat) (ty0 : Nat → FieldType), vwCl[ci]? = some (own, T, N) ∧ k < N ∧ (∀ w ∈ u_ws own T N, w ∈ pf_tb) ∧ (∀ k, k < N → parseFieldDescriptor (T k).2.2.1 = some (ty0 k)) ∧ (∀ a, a < N → ∀ b, b < N → a ≠ b → (T a).2.1 ≠ (T b).2.1) ∧ parseFieldDescriptor (T k).2.2.1 = some ty ∧ (T k).2.2.2 = true ∧ (T k).1 = own ∧ Cond.fieldLink own idx (T k).1 (T k).2.1 (T k).2.2.1 ∈ pf_tb
def pc_Il (own : String) (idx : Nat) (y : MethodName) (cc : ByteArray) (nL n : Nat) : Prop := (Cond.initialized y.cls ∈ pf_tb ∧ Cond.code y cc nL none ∈ pf_tb ∧ (y.cls ≠ "java/lang/invoke/MethodHandle" ∧ y.cls ≠ "java/lang/invoke/VarHandle") ∧ (parseMethodDescriptor y.desc).map (fun d => d.parameters.length) = some n) ∧ Cond.methodLink own idx y ∈ pf_tb ∧ Cond.instanceMethod y ∈ pf_tb ∧ y.name = "<init>"
def pc_Ol (own : String) (idx : Nat) : Prop := Cond.methodLink own idx Lib.objectInit ∈ pf_tb ∧ Cond.instanceMethod Lib.objectInit ∈ pf_tb ∧ Cond.code Lib.objectInit ⟨#[0xb1]⟩ 1 none ∈ pf_tb
def pc_X (G : pf_G) (U : State) : Prop := va_K G.2.1 vwCl (pf_ty G) U ∧ pf_NW U ∧ va_AO "PassingFrames$Device" U ∧ va_AO "PassingFrames$Datagram" U
theorem pc_X.moved {G : pf_G} {s U : State} (hW : s.WarmedH U.vm) (h : pc_X G s) : pc_X G U := ⟨va_K.moved hW.alike h.1, pf_NW.warm hW h.2.1, va_AO.moved hW.alike h.2.2.1, va_AO.moved hW.alike h.2.2.2⟩
theorem pc_X.same {G : pf_G} {u U : State} (hv : u.vm = U.vm) (h : pc_X G u) : pc_X G U := ⟨va_K.moved (by rw [hv]; exact Vm.Alike.refl _) h.1, pf_NW.same hv h.2.1, va_AO.moved (by rw [hv]; exact Vm.Alike.refl _) h.2.2.1, va_AO.moved (by rw [hv]; exact Vm.Alike.refl _) h.2.2.2⟩
def pc_rm (fr lo mc ms : Nat) : Room := { frames := fr, cells := mc, slots := ms, locals := lo }
def pc_Q (G : pf_G) (cs : List va_E) : Array Value → State → Outcome → State → Prop := fun _ st o t => (o = .returned none ∧ pc_H G cs t.heap) ∧ va_F (pc_A G) st t
def pc_Met (G : pf_G) (y : MethodName) (cc : ByteArray) (nL fr lo mc ms : Nat) (avs : List Value) (cs cs' : List va_E) : Prop :=
  Met G.1 y (.code y cc nL none :: pf_tb) (pc_rm fr lo mc ms) (va_Pc avs (fun U => pc_H G cs U.heap ∧ pc_X G U)) (pc_Q G cs') mc ms (pc_A G)
def pc_Fix (G : pf_G) (p : Program) (s : State) (m : MethodId) (args : Array Value) (c : Code) (cc : ByteArray) (own : String) (nL : Nat) : Prop :=
  p.tables.exec = Jvm.exec ∧ c.code = cc ∧ c.maxLocals = nL ∧ s.vm.findClass own = some m.cls ∧ (∀ w ∈ pf_tb, w.before args s = true) ∧ pc_X G s
theorem pc_blind {G : pf_G} {cs : List va_E} (av : List Value) : FrameBlind (va_Pc av (fun U => pc_H G cs U.heap ∧ pc_X G U)) := by
  intro a U g mk h
  exact ⟨h.1, h.2.1, pc_X.same (u := U) (U := U.calling g mk a) rfl h.2.2⟩
/-- a constructor's contract out of its walk -/
theorem pc_Met.of {G : pf_G} {y : MethodName} {cc : ByteArray} {nL fr lo mc ms : Nat} {avs : List Value} {cs cs' : List va_E} (hy : plainFor y = true) (hn : y.name = "<init>") (hL : (lg_sl avs).length ≤ nL)
    (h : ∀ (p : Program) (e : Env) (s : State) (m : MethodId) (args : Array Value) (below : List Frame) (meth : Method) (c : Code) (ls : Array Slot), pc_Fix G p s m args c cc y.cls nL → meth.name = "<init>" → meth.sig.returnType = none → meth.locks = false → pc_H G cs s.heap → lv_has ls nL (lv_args 0 avs) →
      W p G.1 e (pc_rm fr lo mc ms) s m args below meth c s.heap [] 0 0 (MQ below (pc_Q G cs') args s mc ms (pc_A G)) (F0 m 0 ls [])) : pc_Met G y cc nL fr lo mc ms avs cs cs' := by
  refine pf_ofW (cc := cc) (maxL := nL) (ret := none) hy rfl ?_
  intro p e s m args below meth c s₁ B hml hv
  obtain ⟨rfl, hH, hX⟩ := hv
  have hown : s.vm.findClass y.cls = some m.cls := findClass_of_methodNamed B.named
  have hts0 := atoms_spec (ws := Cond.code y cc nL none :: pf_tb) B.pre
  have hin : meth.name = y.name := (name_of_methodNamed B.named B.method).1
  have F : pc_Fix G p s m avs.toArray c cc y.cls nL := ⟨B.exec, B.bytes, hml, hown, fun w hw => hts0 w (List.mem_cons_of_mem _ hw), hX⟩
  rw [lg_entry_eq]
  exact h p e s m _ below meth c _ F (hin.trans hn) B.returns B.notSynchronized hH (lv_entry avs hL)
section
variable {G : pf_G} {p : Program} {e : Env} {R : Room} {s : State} {m : MethodId} {args : Array Value} {below : List Frame} {meth : Method} {c : Code} {cc : ByteArray} {own : String} {nL : Nat} {Q : State → Prop} {pc : Nat} {H : Heap} {locs : List Loc} {ls : Array Slot} {rest : List Value} {cs : List va_E} {cells slots : Nat}
theorem pc_u_obj {idx a : Nat} (F : pc_Fix G p s m args c cc own nL) (hO : pc_Ol own idx) (hl : ls.size = nL) (hR1 : 1 ≤ R.frames) (hR2 : (rest.map fun v => v.category).sum + 12 ≤ R.locals) (hd : decode cc pc = .ok (.invokespecial idx, 3))
    (kk : W p G.1 e R s m args below meth c H locs cells slots Q (F0 m (pc + 3) ls rest)) : W p G.1 e R s m args below meth c H locs cells slots Q (F0 m pc ls (.ref a :: rest)) := by
  obtain ⟨hx, hb, hml, hown, hts, -⟩ := F
  exact W.objInit hx hb hown (hts _ hO.1) (hts _ hO.2.1) (hts _ hO.2.2) rfl (hl.trans hml.symm) rfl hd hR1 (by show 2 * 0 + _ + 12 ≤ _; omega) kk
theorem pc_u_new {idx ci N a : Nat} {fs : List Value} (F : pc_Fix G p s m args c cc own nL) (hN : pc_Nl own idx ci N fs) (hH : pc_H G cs H) (hS : va_S (pc_A G) s.heap H locs) (ha : G.2.2.1 + cs.length = a) (h1 : cells + 1 ≤ R.cells) (h2 : slots + N ≤ R.slots) (hd : decode cc pc = .ok (.new idx, 3))
    (kk : ∀ H1 : Heap, pc_H G (cs ++ [.inr (ci, fs)]) H1 → va_S (pc_A G) s.heap H1 locs → W p G.1 e R s m args below meth c H1 locs (cells + 1) (slots + N) Q (F0 m (pc + 3) ls (.ref a :: rest))) : W p G.1 e R s m args below meth c H locs cells slots Q (F0 m pc ls rest) := by
  subst ha
  obtain ⟨hx, hb, hml, hown, hts, hX⟩ := F
  obtain ⟨C, T, ty, n1, n2, n3, n4, n5, n6, n7⟩ := hN
  have hKn := hX.1.1 ci _ n1
  refine W.newcK hx hb hown (hts _ n4) (hts _ n5) (hts _ n6) rfl hd h1 h2 hKn.2.1 hH.1 fun H1 kC hkC e1 z1 o1 => ?_
  exact kk H1 (hH.push z1 o1 ⟨_, n1, (u_born ty hts n2 hKn hkC e1 n3).to n7⟩) (pc_S.grow hS hH.1 z1 o1)
theorem pc_u_newa {t a : Nat} {atype : ArrayType} {ty : FieldType} {n : Int32} {N' : Nat} (F : pc_Fix G p s m args c cc own nL) (hty : newarray.typeOf atype = ty) (harr : Cond.arrayClass ty ∈ pf_tb) (hq : s.vm.findClass ("[" ++ ty.toString) = some (pf_ct G t)) (hH : pc_H G cs H) (hS : va_S (pc_A G) s.heap H locs) (ha : G.2.2.1 + cs.length = a)
    (hc : ∀ cA : ClassId, vp_cell cA (N', .inl fun _ => 0) = arrV cA N' (fun _ => defaultValue ty)) (hn : ¬ n < 0) (hN : n.toNatClampNeg = N') (hbytes : N' * componentBytes ty ≤ 536870912) (h1 : cells + 1 ≤ R.cells) (h2 : slots + N' ≤ R.slots) (hd : decode cc pc = .ok (.newarray atype, 2))
    (kk : ∀ H1 : Heap, pc_H G (cs ++ [.inl (pf_ct G t, N', .inl fun _ => 0)]) H1 → va_S (pc_A G) s.heap H1 locs → W p G.1 e R s m args below meth c H1 locs (cells + 1) (slots + N') Q (F0 m (pc + 2) ls (.ref a :: rest))) : W p G.1 e R s m args below meth c H locs cells slots Q (F0 m pc ls (.int n :: rest)) := by
  subst ha
  subst hty
  obtain ⟨hx, hb, hml, hown, hts, hX⟩ := F
  refine va_newaK hx hb (hts _ harr) rfl hd rfl hn hN hbytes h1 h2 hH.1 fun H1 cA e1 z1 o1 hAr hNm => ?_
  obtain rfl : pf_ct G t = cA := Option.some.inj (hq.symm.trans hNm)
  refine kk H1 (hH.push z1 o1 ?_) (pc_S.grow hS hH.1 z1 o1)
  show H1[_]? = some (vp_cell _ _)
  rw [hc]
  exact e1
theorem pc_u_anew {idx t a : Nat} {C : String} {n : Int32} {N' : Nat} (F : pc_Fix G p s m args c cc own nL) (hcl : Cond.classLink own idx C ∈ pf_tb) (hao : va_AO C s) (hq : (pf_ty G)[t]? = some (pf_ct G t, .object C)) (hH : pc_H G cs H) (hS : va_S (pc_A G) s.heap H locs) (ha : G.2.2.1 + cs.length = a)
    (hn : ¬ n < 0) (hN : n.toNatClampNeg = N') (hbytes : N' * 4 ≤ 536870912) (h1 : cells + 1 ≤ R.cells) (h2 : slots + N' ≤ R.slots) (hd : decode cc pc = .ok (.anewarray idx, 3))
    (kk : ∀ H1 : Heap, pc_H G (cs ++ [.inl (pf_ct G t, N', .inr (.inr (.inr (.inr fun _ => none))))]) H1 → va_S (pc_A G) s.heap H1 locs → W p G.1 e R s m args below meth c H1 locs (cells + 1) (slots + N') Q (F0 m (pc + 3) ls (.ref a :: rest))) : W p G.1 e R s m args below meth c H locs cells slots Q (F0 m pc ls (.int n :: rest)) := by
  subst ha
  subst hN
  obtain ⟨hx, hb, hml, hown, hts, hX⟩ := F
  obtain ⟨-, kA0, comp0, q1, q2, q3, q4⟩ := hX.1.2 t _ hq
  refine W.anew hx hb hown (hts _ hcl) (va_AO.use hao) rfl hd rfl hn hbytes h1 h2 fun cA kA comp f1 f2 f3 f4 => ?_
  obtain rfl : pf_ct G t = cA := Option.some.inj (q4.symm.trans f1)
  have z0 := hH.1
  generalize hH1 : H.push ({ cls := pf_ct G t, slots := Array.replicate n.toNatClampNeg .null, vm := .none } : Cell) = H1
  have z1 : H1.size = G.2.2.1 + cs.length + 1 := by rw [← hH1, Array.size_push, z0]
  have e1 : H1[G.2.2.1 + cs.length]? = some (arrV (pf_ct G t) n.toNatClampNeg (fun _ => .null)) := by rw [← hH1, ← z0, Array.getElem?_push_size, ← arrV_new]
  have o1 : ∀ q : Nat, q < G.2.2.1 + cs.length → H1[q]? = H[q]? := fun q hq => by rw [← hH1, Array.getElem?_push, if_neg (by omega)]
  rw [z0]
  exact kk H1 (hH.push z1 o1 e1) (pc_S.grow hS z0 z1 o1)
theorem pc_u_putF {idx ci k i a : Nat} {ty : FieldType} {v : Value} {fs : List Value} (F : pc_Fix G p s m args c cc own nL) (hin : meth.name = "<init>") (hF : pc_Fl own idx ci k ty) (hH : pc_H G cs H) (hS : va_S (pc_A G) s.heap H locs) (hi : cs[i]? = some (.inr (ci, fs))) (ha : G.2.2.1 + i = a) (hn : narrow ty v = v) (hfit : fits ty v = true) (hl : k < fs.length) (hd : decode cc pc = .ok (.putfield idx, 3))
    (kk : ∀ (H1 : Heap) (locs1 : List Loc), pc_H G (cs.set i (.inr (ci, fs.set k v))) H1 → va_S (pc_A G) s.heap H1 locs1 → W p G.1 e R s m args below meth c H1 locs1 cells slots Q (F0 m (pc + 3) ls rest)) : W p G.1 e R s m args below meth c H locs cells slots Q (F0 m pc ls (v :: .ref a :: rest)) := by
  subst ha
  obtain ⟨hx, hb, hml, hown, hts, hX⟩ := F
  obtain ⟨T, N, ty0, g1, g2, g3, g4, g5, g6, g7, g8, g9⟩ := hF
  have hq : (pc_w G.2.2.1 cs)[i]? = some (G.2.2.1 + i, .inr (ci, fs)) := by rw [pc_w_get, hi]; rfl
  have hap := va_apart (own := own) hts g3 ty0 g4 g5 hX.1 g1
  obtain ⟨r, w1, cell, q1, q2, q3, q4⟩ := hH.2 i _ hq
  have hr : r = (own, T, N) := Option.some.inj (w1.symm.trans g1)
  subst hr
  obtain ⟨hSl, hfc, kC, hkC, hkind⟩ := hX.1.1 ci _ g1
  obtain ⟨cf, kf, fi, f, hi2, hsl⟩ := hSl k g2
  have hlay := hts _ (g3 _ (u_in_lay g2))
  unfold u_lay at hlay
  rw [if_pos g7] at hlay
  have hst := (u_facts hfc hkC (u_lays hts g3 g2) hi2).1
  have hcf : m.cls = cf := by
    obtain ⟨_, _, c', _, _, _, -, -, hf', -, -, -, hown2, -⟩ := Cond.laysFinal_spec hlay
    have e1 : c' = cf := by have := hi2.symm.trans hf'; simp at this; exact this.1.symm
    rw [g8] at hown2
    rw [← e1]; exact Option.some.inj (hown.symm.trans hown2)
  have h6 := u_fits hfc hkC hkind (Or.inr hlay) hi2 g6 hn hfit
  refine W.putFinK hx hb hown (hts _ g9) hi2 hst hcf hin (by rw [q2]; exact h6) q1 q3 (by rw [hsl]; exact k2_hasslot (q4 k g2)) rfl rfl hd fun H' e1 e2 e3 => ?_
  rw [hsl] at e1 ⊢
  exact kk H' _ (hH.set hi e2 e3 ⟨_, g1, t_OB.to (V := updV (vp_V fs) k v) ⟨_, e1, q2, q3, t_set q4 hap g2 v⟩ (fun j _ => vp_updV_set hl v j)⟩) (hS.put e2 e3 (show G.2.2.1 ≤ _ from Nat.le_add_right _ _))
theorem pc_u_get {idx ci k i a : Nat} {ty : FieldType} {v : Value} {fs : List Value} (F : pc_Fix G p s m args c cc own nL) (hF : pc_Fl own idx ci k ty) (hH : pc_H G cs H) (hi : cs[i]? = some (.inr (ci, fs))) (ha : G.2.2.1 + i = a) (hv : fs[k]? = some v) (hd : decode cc pc = .ok (.getfield idx, 3))
    (kk : W p G.1 e R s m args below meth c H locs cells slots Q (F0 m (pc + 3) ls (v :: rest))) : W p G.1 e R s m args below meth c H locs cells slots Q (F0 m pc ls (.ref a :: rest)) := by
  subst ha
  obtain ⟨hx, hb, hml, hown, hts, hX⟩ := F
  obtain ⟨T, N, ty0, g1, g2, g3, g4, g5, g6, g7, g8, g9⟩ := hF
  have hq : (pc_w G.2.2.1 cs)[i]? = some (G.2.2.1 + i, .inr (ci, fs)) := by rw [pc_w_get, hi]; rfl
  exact va_get hx hb hts g3 hown hX.1 hH.2 i hq g1 k g2 (hts _ g9) (fun _ h => h) hv hd kk
theorem pc_u_aast {t i j ci a v n : Nat} {x : Int32} {vs : List Value} {r : vw_C} {f : Nat → Option Nat} (F : pc_Fix G p s m args c cc own nL) (hH : pc_H G cs H) (hS : va_S (pc_A G) s.heap H locs) (hi : cs[i]? = some (.inl (pf_ct G t, n, .inr (.inr (.inr (.inr f)))))) (ht : (pf_ty G)[t]? = some (pf_ct G t, .object r.1)) (hj : cs[j]? = some (.inr (ci, vs))) (hc : vwCl[ci]? = some r) (ha : G.2.2.1 + i = a) (hv : G.2.2.1 + j = v) (hin : vp_in x n) (hd : decode cc pc = .ok (.aastore, 1))
    (kk : ∀ (H1 : Heap) (locs1 : List Loc), pc_H G (cs.set i (.inl (pf_ct G t, n, .inr (.inr (.inr (.inr (va_up f x.toNatClampNeg (some v)))))))) H1 → va_S (pc_A G) s.heap H1 locs1 → W p G.1 e R s m args below meth c H1 locs1 cells slots Q (F0 m (pc + 1) ls rest)) : W p G.1 e R s m args below meth c H locs cells slots Q (F0 m pc ls (.ref v :: .int x :: .ref a :: rest)) := by
  subst ha
  subst hv
  obtain ⟨hx, hb, hml, hown, hts, hX⟩ := F
  have hlt : x.toNatClampNeg < n := Nat.not_le.mp fun q => hin (Or.inr q)
  have h0 : ¬ x < 0 := fun q => hin (Or.inl q)
  have hqi : (pc_w G.2.2.1 cs)[i]? = some (G.2.2.1 + i, .inl (pf_ct G t, n, .inr (.inr (.inr (.inr f))))) := by rw [pc_w_get, hi]; rfl
  have hqj : (pc_w G.2.2.1 cs)[j]? = some (G.2.2.1 + j, .inr (ci, vs)) := by rw [pc_w_get, hj]; rfl
  obtain ⟨r', hr', cellV, g1, g2, g3, -⟩ := hH.2 j _ hqj
  have hcls := (hX.1.1 ci r hc).2
  obtain ⟨kA, comp, k1, k2, k3, -⟩ := (hX.1.2 t _ ht).2
  have hcomp : comp = G.2.1.1 ci := Option.some.inj (k3.symm.trans hcls.1)
  subst hcomp
  obtain ⟨kC, hkC, -⟩ := hcls.2
  refine W.aast hx hb (hH.2 i _ hqi) (fun q h => by cases h) (fun h => by cases h) k1 k2 rfl hkC ⟨h0, by show _ < (arrV _ _ _).slots.size; rw [arrV_size]; exact hlt⟩ g1 (fun q h => by rw [g3] at h; cases h) (by rw [g2]; exact hkC) (by rw [g2]; exact va_assign hcls) rfl rfl hd fun H1 e z oq => ?_
  refine kk H1 _ (hH.set hi z oq ?_) (hS.put z oq (show G.2.2.1 ≤ _ from Nat.le_add_right _ _))
  show H1[_]? = some (vp_cell _ _)
  rw [e]
  rw [vp_cell_q, vp_cell_q, arrV_store]
  congr 2
  funext q
  by_cases hq : q = x.toNatClampNeg
  · subst hq
    simp [updV, va_up, va_rf]
  · simp [updV, va_up, hq]
/-- a constructor's call -/
theorem pc_u_call {idx nL2 fr lo mc ms a n : Nat} {y : MethodName} {cc2 : ByteArray} {As : List Value} {cs' : List va_E} (F : pc_Fix G p s m args c cc own nL) (hI : pc_Il own idx y cc2 nL2 n) (hM : pc_Met G y cc2 nL2 fr lo mc ms (.ref a :: As) cs cs') (hH : pc_H G cs H) (hS : va_S (pc_A G) s.heap H locs) (hn : As.length = n) (hl : ls.size = nL) (hfr : fr + 1 ≤ R.frames) (hlo : 8 + (nL2 + 11) + lo ≤ R.locals) (h1 : cells + mc ≤ R.cells) (h2 : slots + ms ≤ R.slots) (hwd : (rest.map fun v => v.category).sum ≤ 8) {st : List Value} (hst : st = As.reverse ++ .ref a :: rest) (hd : decode cc pc = .ok (.invokespecial idx, 3))
    (kk : ∀ (H1 : Heap) (locs1 : List Loc), pc_H G cs' H1 → va_S (pc_A G) s.heap H1 locs1 → W p G.1 e R s m args below meth c H1 locs1 (cells + mc) (slots + ms) Q (F0 m (pc + 3) ls rest)) : W p G.1 e R s m args below meth c H locs cells slots Q (F0 m pc ls st) := by
  subst hst
  obtain ⟨hx, hb, hml, hown, hts, hX⟩ := F
  obtain ⟨⟨l1, l2, l3, l4⟩, l5, l6, l7⟩ := hI
  have hG := pf_tbg y cc2 nL2 none l2 (ws := pf_tb) (fun _ h => h)
  have hp : PreS s H (va_Pc (.ref a :: As) (fun U => pc_H G cs U.heap ∧ pc_X G U)) (.ref a :: As) := ⟨pc_blind _, fun U hU hW => ⟨rfl, by rw [hU]; exact hH, hX.moved hW⟩⟩
  have cw := cwI (own := own) (index := idx) (y := y) (bytes := cc2) (maxL := nL2) (R := R) (rm := pc_rm fr lo mc ms) (mc := mc) (ms := ms) n hts hG rfl rfl rfl (hts _ l1) (hts _ l5) (hts _ l6) l7 ⟨l3.1, l3.2, l4⟩ ⟨hfr, hlo⟩
  have hr := va_runI (l := G.1) (e := e) (below := below) (meth := meth) (locs := locs) (cells := cells) (slots := slots) (As := As) (rest := rest) (g := F0 m pc ls (As.reverse ++ .ref a :: rest)) ⟨hx, hb, hml, hown, hts⟩ hM cw hp rfl hn hl rfl (lv_room hwd) hd ⟨h1, h2⟩
  intro T hT X
  obtain ⟨v, st₀, t, T', L, h0, X', hL, e1, e2, ⟨⟨hv, hH1⟩, hz, hk⟩, st⟩ := hr T hT X
  cases hv
  rw [h0] at hz hk
  obtain ⟨t2, a1, b1⟩ := kk T'.heap (locs ++ L) (by rw [e1]; exact hH1)
    ⟨Nat.le_trans hS.1 (by rw [e1]; exact hz), fun q u1 u2 => by rw [e1, hk q (Nat.lt_of_lt_of_le u1 hS.1) u2]; exact hS.2.1 q u1 u2, fun q hq => by
      rcases List.mem_append.mp hq with h | h
      · exact hS.2.2 q h
      · exact hL q h⟩ T' rfl X'
  exact ⟨t2, st t2 a1, b1⟩
theorem pc_u_ret {mc ms : Nat} (F : pc_Fix G p s m args c cc own nL) (hret : meth.sig.returnType = none) (hlocks : meth.locks = false) (hH : pc_H G cs H) (hS : va_S (pc_A G) s.heap H locs) (h1 : cells ≤ mc) (h2 : slots ≤ ms) (hd : decode cc pc = .ok (.return_, 1)) : W p G.1 e R s m args below meth c H locs cells slots (MQ below (pc_Q G cs) args s mc ms (pc_A G)) (F0 m pc ls []) := by
  obtain ⟨hx, hb, hml, hown, hts, hX⟩ := F
  refine W.widen h1 h2 ?_
  exact W.vret hx hb hret (fun t ht hW => ⟨⟨rfl, by rw [ht]; exact hH⟩, hS.F ht⟩) hS.2.2 hd hlocks
end
