section
variable {G : pf_G} {p : Program} {e : Env} {R : Room} {s : State} {m : MethodId} {args : Array Value} {below : List Frame} {meth : Method} {c : Code} {cc : ByteArray} {own : String} {nL : Nat} {Q : State → Prop} {M : pf_M} {pc : Nat} {H : Heap} {locs : List Loc} {ls : Array Slot} {rest : List Value} {cells slots : Nat} {A : Nat → Prop}
theorem pd_get {kd i k ci idx : Nat} {ty : FieldType} {fin : Bool} {v : Value} (F : pf_Fix G p s m args c cc own nL) (hci : pf_ci kd = some ci) (hF : pf_Fl own idx ci k ty fin) (hok : pf_ok G.2.2.2.2 kd i) (hP : va_P G.2.1 vwCl (pf_W G M) H) (hv : pf_cv G (pf_fv kd i k (M kd i)) = v) (hd : decode cc pc = .ok (.getfield idx, 3))
    (kk : W p G.1 e R s m args below meth c H locs cells slots Q (F0 m (pc + 3) ls (v :: rest))) : W p G.1 e R s m args below meth c H locs cells slots Q (F0 m pc ls (.ref (pf_ad G kd i) :: rest)) := by
  subst hv
  obtain ⟨hx, hb, hml, hown, hts, hK, hN⟩ := F
  obtain ⟨C, T, N, ty0, h1, h2, h3, h4, h5, h6, h7, h8, h9⟩ := hF
  obtain ⟨q0, hq⟩ := pf_get (M := M) hok
  rw [pf_cx_obj hci] at hq
  have hv : ((List.range (pf_nf ci)).map fun j => pf_cv G (pf_fv kd i j (M kd i)))[k]? = some (pf_cv G (pf_fv kd i k (M kd i))) := by
    rw [List.getElem?_map, List.getElem?_range (by rw [h2]; exact h3)]
    rfl
  rcases h9 with h9 | ⟨host, h9⟩
  · exact va_get hx hb hts h4 hown hK hP q0 hq h1 k h3 (hts _ h9) (fun _ h => h) hv hd kk
  · exact va_getN (host := host) hx hb hts h4 hown hK hP q0 hq h1 k h3 (va_Nw.use (by rfl) (hN _ h9)) (fun _ h => h) hv hd kk
theorem pd_put {kd i k ci idx : Nat} {ty : FieldType} {x : Int32} (F : pf_Fix G p s m args c cc own nL) (hci : pf_ci kd = some ci) (hrs : pf_rs kd i k = none) (hF : pf_Fl own idx ci k ty false) (hn : narrow ty (.int x) = .int x) (hf : fits ty (.int x) = true) (hok : pf_ok G.2.2.2.2 kd i) (hP : va_P G.2.1 vwCl (pf_W G M) H) (hA : ∀ q, pf_A G q → A q) (hS : va_S A s.heap H locs) (hd : decode cc pc = .ok (.putfield idx, 3))
    (kk : ∀ (H1 : Heap) (locs1 : List Loc), va_P G.2.1 vwCl (pf_W G (pf_up M kd i k x)) H1 → va_S A s.heap H1 locs1 → W p G.1 e R s m args below meth c H1 locs1 cells slots Q (F0 m (pc + 3) ls rest)) : W p G.1 e R s m args below meth c H locs cells slots Q (F0 m pc ls (.int x :: .ref (pf_ad G kd i) :: rest)) := by
  obtain ⟨hx, hb, hml, hown, hts, hK, hN⟩ := F
  obtain ⟨C, T, N, ty0, h1, h2, h3, h4, h5, h6, h7, h8, h9⟩ := hF
  obtain ⟨q0, hq⟩ := pf_get (M := M) hok
  have hq0 := hq
  rw [pf_cx_obj hci] at hq
  have hD : va_D A (pf_W G M) := (pf_D G M).weaken (fun k q _ h => hA q.1 h)
  have hlen : k < ((List.range (pf_nf ci)).map fun j => pf_cv G (pf_fv kd i j (M kd i))).length := by
    rw [List.length_map, List.length_range, h2]; exact h3
  have hset : (pf_W G M).set q0 (pf_ad G kd i, .inr (ci, ((List.range (pf_nf ci)).map fun j => pf_cv G (pf_fv kd i j (M kd i))).set k (.int x))) = pf_W G (pf_up M kd i k x) := by
    rw [pf_fs_set (by rw [h2]; exact h3) hrs, ← pf_cx_obj (G := G) (i := i) hci, pf_set hok hq0]
    rfl
  rcases h9 with h9 | ⟨host, h9⟩
  · refine va_put hx hb hts h4 ty0 h5 h6 hown hK hP hD hS q0 hq h1 k h3 (hts _ h9) (fun _ h => h) h8 h7 hn hf hlen hd (fun H1 locs1 hP1 _ hS1 => ?_)
    rw [hset] at hP1
    exact kk H1 locs1 hP1 hS1
  · refine va_putN (host := host) hx hb hts h4 ty0 h5 h6 hown hK hP hD hS q0 hq h1 k h3 (va_Nw.use (by rfl) (hN _ h9)) (fun _ h => h) h8 h7 hn hf hlen hd (fun H1 locs1 hP1 _ hS1 => ?_)
    rw [hset] at hP1
    exact kk H1 locs1 hP1 hS1
theorem pd_iast {kd i n : Nat} {j x : Int32} (F : pf_Fix G p s m args c cc own nL) (hk : pf_intK kd n) (hok : pf_ok G.2.2.2.2 kd i) (hin : vp_in j n) (hP : va_P G.2.1 vwCl (pf_W G M) H) (hA : ∀ q, pf_A G q → A q) (hS : va_S A s.heap H locs) (hd : decode cc pc = .ok (.iastore, 1))
    (kk : ∀ (H1 : Heap) (locs1 : List Loc), va_P G.2.1 vwCl (pf_W G (pf_up M kd i j.toNatClampNeg x)) H1 → va_S A s.heap H1 locs1 → W p G.1 e R s m args below meth c H1 locs1 cells slots Q (F0 m (pc + 1) ls rest)) : W p G.1 e R s m args below meth c H locs cells slots Q (F0 m pc ls (.int x :: .int j :: .ref (pf_ad G kd i) :: rest)) := by
  obtain ⟨hx, hb, hml, hown, hts, hK, hN⟩ := F
  obtain ⟨q0, hq⟩ := pf_get (M := M) hok
  have hq0 := hq
  rw [pf_cx_int hk] at hq
  refine va_iast hx hb hK hP ((pf_D G M).weaken (fun k q _ h => hA q.1 h)) hS q0 0 hq rfl hin hd (fun H1 locs1 hP1 _ hS1 => ?_)
  rw [← pf_cx_int (G := G) (i := i) hk, pf_set hok hq0] at hP1
  exact kk H1 locs1 hP1 hS1
/-- a call of a method with a contract, from any place -/
theorem pd_callV {y : MethodName} {cc2 : ByteArray} {nL2 fr lo2 kd i ci idx : Nat} {rt : Option FieldType} {as : List pf_V} {v : Option pf_V} {M' : pf_M} (F : pf_Fix G p s m args c cc own nL) (hci : pf_ci kd = some ci) (hL : pf_LkV own idx ci y cc2 nL2 rt as.length) (hfr : fr + 1 ≤ R.frames) (hlo2 : 8 + (nL2 + 11) + lo2 ≤ R.locals) (hM : pf_Met G y cc2 nL2 rt fr lo2 (pf_R kd i :: as) M v M') (hok : pf_ok G.2.2.2.2 kd i) (has : ∀ w ∈ as, pf_okv G w) (hP : va_P G.2.1 vwCl (pf_W G M) H) (hA : ∀ q, pf_A G q → A q) (hS : va_S A s.heap H locs) (hl : ls.size = nL) (hc : cells ≤ R.cells) (hs : slots ≤ R.slots) (hwd : (rest.map fun v => v.category).sum ≤ 8) {st : List Value} (hst : st = (as.map (pf_cv G)).reverse ++ .ref (pf_ad G kd i) :: rest) (hd : decode cc pc = .ok (.invokevirtual idx, 3))
    (kk : ∀ (H1 : Heap) (locs1 : List Loc), va_P G.2.1 vwCl (pf_W G M') H1 → H.size ≤ H1.size → (∀ q : Nat, q < H.size → ¬ pf_A G q → H1[q]? = H[q]?) → va_S A s.heap H1 locs1 → W p G.1 e R s m args below meth c H1 locs1 cells slots Q (F0 m (pc + 3) ls ((v.map (pf_cv G)).toList ++ rest))) : W p G.1 e R s m args below meth c H locs cells slots Q (F0 m pc ls st) := by
  subst hst
  obtain ⟨hx, hb, hml, hown, hts, hK, hN⟩ := F
  obtain ⟨⟨l1, l2, l3, l4⟩, ⟨T, N, l5⟩, l6, l7, l8⟩ := hL
  have hM := hM (fun w hw => by
    rcases List.mem_cons.mp hw with rfl | q
    · exact hok
    · exact has w q)
  obtain ⟨q0, hq⟩ := pf_get (M := M) hok
  rw [pf_cx_obj hci] at hq
  have hG := pf_tbg y cc2 nL2 rt l2 (ws := pf_tb) (fun _ h => h)
  have hpre : PreV s H y.cls (pf_ad G kd i) (va_Pc ((pf_R kd i :: as).map (pf_cv G)) (pf_World G M)) (as.map (pf_cv G)) := ⟨pf_blind _, va_recv hK hP l5 hq, fun U hU hW => ⟨rfl, by rw [hU]; exact hP, va_K.moved hW.alike hK, pf_NW.warm hW hN⟩⟩
  have hroom : 2 * (F0 m pc ls ((as.map (pf_cv G)).reverse ++ .ref (pf_ad G kd i) :: rest)).monitorRoom + (rest.map fun v => v.category).sum ≤ 8 := lv_room hwd
  have hlen2 : ∀ sig, parseMethodDescriptor y.desc = some sig → as.length = sig.parameters.length := fun sig h => by
    rw [h] at l4
    exact (Option.some.inj l4).symm
  have cb : (pf_rm0 fr lo2).cells = 0 ∧ (pf_rm0 fr lo2).slots = 0 ∧ (pf_rm0 fr lo2).frames + 1 ≤ R.frames ∧ 8 + (nL2 + 11) + (pf_rm0 fr lo2).locals ≤ R.locals ∧ (∀ w ∈ Cond.code y cc2 nL2 rt :: pf_tb, ∀ (a' : Array Value) (U : State), s.WarmedH U.vm → w.before a' U = true) ∧ Cond.code y cc2 nL2 rt ∈ Cond.code y cc2 nL2 rt :: pf_tb := ⟨rfl, rfl, hfr, hlo2, pay_in hts hG, List.mem_cons_self⟩
  have go : va_Run p G.1 e R s m args below meth c H locs cells slots 0 0 (F0 m pc ls ((as.map (pf_cv G)).reverse ++ .ref (pf_ad G kd i) :: rest)) rest (pf_QX G v M' (Value.ref (pf_ad G kd i) :: as.map (pf_cv G)).toArray) (pf_A G) := by
    rcases l8 with l8 | ⟨host, l8⟩
    · exact va_runV (Ts := pf_tb) (own := own) (C := y.cls) (n := as.length) ⟨hx, hb, hml, hown, hts⟩ hM ⟨⟨cb.1, cb.2.1, cb.2.2.1, cb.2.2.2.1, cb.2.2.2.2.1, cb.2.2.2.2.2, hts _ l2, hts _ l1, l3, hlen2, hts _ l8⟩, hts _ l6, hts _ l7⟩ hpre rfl (List.length_map _) hl rfl hroom hd ⟨hc, hs⟩
    · exact va_runVN (Ts := pf_tb) (own := own) (C := y.cls) (host := host) (n := as.length) ⟨hx, hb, hml, hown, hts⟩ hM ⟨⟨cb, hts _ l2, hts _ l1, l3, hlen2, va_Nw.use (by rfl) (hN _ l8)⟩, hts _ l6, hts _ l7⟩ hpre rfl (List.length_map _) hl rfl hroom hd ⟨hc, hs⟩
  intro T2 hT X
  obtain ⟨v1, st₀, t, T', L, h0, X', hL, e1, e2, ⟨⟨hv, -, hP1⟩, hz, hk⟩, st⟩ := go T2 hT X
  cases hv
  rw [h0] at hz hk
  obtain ⟨t2, a1, b1⟩ := kk T'.heap (locs ++ L) (by rw [e1]; exact hP1) (by rw [e1]; exact hz) (fun q h1 h2 => by rw [e1]; exact hk q h1 h2)
    ⟨Nat.le_trans hS.1 (by rw [e1]; exact hz), fun q h1 h2 => by rw [e1, hk q (Nat.lt_of_lt_of_le h1 hS.1) (fun w => h2 (hA q w))]; exact hS.2.1 q h1 h2, fun q hq => by
      rcases List.mem_append.mp hq with h | h
      · exact hS.2.2 q h
      · exact hA _ (hL q h)⟩ T' rfl X'
  exact ⟨t2, st t2 a1, b1⟩
end
theorem pf_A_pc (G : pf_G) : ∀ q, pf_A G q → pc_A G q := by
  intro q h
  obtain ⟨o, -, rfl⟩ := List.mem_map.mp h
  exact Nat.le_add_right _ _
def pc_QM (G : pf_G) (M : pf_M) : Array Value → State → Outcome → State → Prop := fun _ st o t => (o = .returned none ∧ va_P G.2.1 vwCl (pf_W G M) t.heap) ∧ va_F (pc_A G) st t
theorem pc_Fix.pf {G : pf_G} {p : Program} {s : State} {m : MethodId} {args : Array Value} {c : Code} {cc : ByteArray} {own : String} {nL : Nat} (F : pc_Fix G p s m args c cc own nL) : pf_Fix G p s m args c cc own nL := ⟨F.1, F.2.1, F.2.2.1, F.2.2.2.1, F.2.2.2.2.1, F.2.2.2.2.2.1, F.2.2.2.2.2.2.1⟩
