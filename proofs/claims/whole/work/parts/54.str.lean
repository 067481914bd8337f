theorem sfl_38 : Cond.fieldLink RJ0 38 "java/lang/String" "COMPACT_STRINGS" "Z" ∈ pf_tb := pf_tbm (i := 422) (by decide +kernel) rfl
theorem sfl_9 : Cond.fieldLink RJ0 9 "java/lang/String" "value" "[B" ∈ pf_tb := pf_tbm (i := 1530) (by decide +kernel) rfl
theorem sfl_15 : Cond.fieldLink RJ0 15 "java/lang/String" "coder" "B" ∈ pf_tb := pf_tbm (i := 1531) (by decide +kernel) rfl
theorem sfl_1053 : Cond.fieldLink RJ0 1053 "jdk/internal/util/Preconditions" "SIOOBE_FORMATTER" "Ljava/util/function/BiFunction;" ∈ pf_tb := pf_tbm (i := 438) (by decide +kernel) rfl
def ps_Lk (own : String) (idx : Nat) (y : MethodName) (cc : ByteArray) (nL : Nat) (ret : Option FieldType) (n : Nat) : Prop := pf_LkB y cc nL ret n ∧ Cond.instanceMethod y ∈ pf_tb ∧ Cond.selects y.cls y y ∈ pf_tb ∧ Cond.methodLink own idx y ∈ pf_tb
theorem slk_335 : ps_Lk RJ0 335 yJ0_coder_7d493 cJ0_coder_7d493 1 ((some .byte)) 0 := ⟨⟨pf_tbm (i := 80) (by decide +kernel) rfl, pf_tbm (i := 421) (by decide +kernel) rfl, ⟨by decide +kernel, by decide +kernel⟩, by decide +kernel⟩, pf_tbm (i := 419) (by decide +kernel) rfl, pf_tbm (i := 420) (by decide +kernel) rfl, pf_tbm (i := 418) (by decide +kernel) rfl⟩
theorem slk_492 : ps_Lk RJ0 492 yJ0_isLatin1_aae02 cJ0_isLatin1_aae02 1 ((some .boolean)) 0 := ⟨⟨pf_tbm (i := 80) (by decide +kernel) rfl, pf_tbm (i := 431) (by decide +kernel) rfl, ⟨by decide +kernel, by decide +kernel⟩, by decide +kernel⟩, pf_tbm (i := 429) (by decide +kernel) rfl, pf_tbm (i := 430) (by decide +kernel) rfl, pf_tbm (i := 428) (by decide +kernel) rfl⟩
theorem slk_41 : ps_Lk RX11 41 yJ0_length_8abf5 cJ0_length_8abf5 1 ((some .int)) 0 := ⟨⟨pf_tbm (i := 80) (by decide +kernel) rfl, pf_tbm (i := 417) (by decide +kernel) rfl, ⟨by decide +kernel, by decide +kernel⟩, by decide +kernel⟩, pf_tbm (i := 415) (by decide +kernel) rfl, pf_tbm (i := 416) (by decide +kernel) rfl, pf_tbm (i := 414) (by decide +kernel) rfl⟩
theorem slk_47 : ps_Lk RX11 47 yJ0_charAt_5068e cJ0_charAt_5068e 2 ((some .char)) 1 := ⟨⟨pf_tbm (i := 80) (by decide +kernel) rfl, pf_tbm (i := 427) (by decide +kernel) rfl, ⟨by decide +kernel, by decide +kernel⟩, by decide +kernel⟩, pf_tbm (i := 425) (by decide +kernel) rfl, pf_tbm (i := 426) (by decide +kernel) rfl, pf_tbm (i := 424) (by decide +kernel) rfl⟩
theorem slk_495 : pf_LkS RJ0 495 yJ1_charAt_3b067 cJ1_charAt_3b067 2 ((some .char)) 2 := ⟨⟨pf_tbm (i := 81) (by decide +kernel) rfl, pf_tbm (i := 434) (by decide +kernel) rfl, ⟨by decide +kernel, by decide +kernel⟩, by decide +kernel⟩, pf_tbm (i := 433) (by decide +kernel) rfl, Or.inl (pf_tbm (i := 432) (by decide +kernel) rfl)⟩
theorem slk_9 : pf_LkS RJ1 9 yJ0_checkIndex_df160 cJ0_checkIndex_df160 2 (none) 2 := ⟨⟨pf_tbm (i := 80) (by decide +kernel) rfl, pf_tbm (i := 437) (by decide +kernel) rfl, ⟨by decide +kernel, by decide +kernel⟩, by decide +kernel⟩, pf_tbm (i := 436) (by decide +kernel) rfl, Or.inl (pf_tbm (i := 435) (by decide +kernel) rfl)⟩
theorem slk_1059 : pf_LkS RJ0 1059 yJ3_checkIndex_8e157 cJ3_checkIndex_8e157 3 ((some .int)) 3 := ⟨⟨pf_tbm (i := 82) (by decide +kernel) rfl, pf_tbm (i := 442) (by decide +kernel) rfl, ⟨by decide +kernel, by decide +kernel⟩, by decide +kernel⟩, pf_tbm (i := 441) (by decide +kernel) rfl, Or.inl (pf_tbm (i := 440) (by decide +kernel) rfl)⟩
def ps_b : List Int32 := [100, 49, 49, 51, 48, 48, 48, 53, 59, 100, 50, 50, 53, 48, 50, 48, 52, 59, 100, 51, 51, 52, 49, 48, 48, 51, 59, 100, 48, 55, 50, 48, 53, 48, 52, 59, 101, 52, 51, 50, 59]
theorem pc_ofG {l : Launch} {y : MethodName} {cc : ByteArray} {nL mc ms : Nat} {ret : Option FieldType} {rm : Room} {avs : List Value} {Pre : State → Prop} {Qc : Array Value → State → Outcome → State → Prop} {free : Addr → Prop} (hy : plainFor y = true) (hL : (lg_sl avs).length ≤ nL)
    (h : ∀ (p : Program) (e : Env) (s : State) (m : MethodId) (args : Array Value) (below : List Frame) (meth : Method) (c : Code) (ls : Array Slot), (p.tables.exec = Jvm.exec ∧ c.code = cc ∧ c.maxLocals = nL ∧ s.vm.findClass y.cls = some m.cls ∧ ∀ w ∈ pf_tb, w.before args s = true) → meth.name = y.name → meth.sig.returnType = ret → meth.locks = false → Pre s → lv_has ls nL (lv_args 0 avs) →
      W p l e (headSpec (Cond.code y cc nL ret :: pf_tb) rm).room s m args below meth c s.heap [] 0 0 (MQ below Qc args s mc ms free) (F0 m 0 ls [])) : Met l y (.code y cc nL ret :: pf_tb) rm (va_Pc avs Pre) Qc mc ms free := by
  refine pf_ofW (cc := cc) (maxL := nL) (ret := ret) hy rfl ?_
  intro p e s m args below meth c s₁ B hml hv
  obtain ⟨rfl, hP⟩ := hv
  have hown : s.vm.findClass y.cls = some m.cls := findClass_of_methodNamed B.named
  have hts0 := atoms_spec (ws := Cond.code y cc nL ret :: pf_tb) B.pre
  rw [lg_entry_eq]
  exact h p e s m _ below meth c _ ⟨B.exec, B.bytes, hml, hown, fun w hw => hts0 w (List.mem_cons_of_mem _ hw)⟩ (name_of_methodNamed B.named B.method).1 B.returns B.notSynchronized hP (lv_entry avs hL)
/-! the String constant -/
def ps_SA (A : Nat → Prop) (adK adV : Nat → Nat) (U : State) (H : Heap) : Prop := vk_S 1 [41] [ps_b] adK adV A U H ∧ va_Z "java/lang/String" "COMPACT_STRINGS" "Z" (.int 1) A U H ∧ va_Zq "jdk/internal/util/Preconditions" "SIOOBE_FORMATTER" "Ljava/util/function/BiFunction;" A U H
def ps_no : Nat → Prop := fun _ => False
theorem ps_SA.go {A : Nat → Prop} {adK adV : Nat → Nat} {s U : State} {H : Heap} {locs : List Loc} (h : ps_SA A adK adV s s.heap) (hS : va_S A s.heap H locs) (hU : U.heap = H) (hW : s.WarmedH U.vm) : ps_SA ps_no adK adV U U.heap := by
  rw [hU]
  exact ⟨((vk_S.moved hW.alike h.1).kept hS.2.1).narrow (fun _ h => h.elim), ((va_Z.moved hW.alike h.2.1).kept hS.2.1).narrow (fun _ h => h.elim), ((va_Zq.moved hW.alike h.2.2).kept hS.2.1).narrow (fun _ h => h.elim)⟩
theorem ps_blind {adK adV : Nat → Nat} (av : List Value) : FrameBlind (va_Pc av (fun U => ps_SA ps_no adK adV U U.heap)) := by
  intro a U g mk h
  exact ⟨h.1, vk_S.moved (u := U) (U := U.calling g mk a) (Vm.Alike.refl U.vm) h.2.1, va_Z.moved (u := U) (U := U.calling g mk a) (Vm.Alike.refl U.vm) h.2.2.1, va_Zq.moved (u := U) (U := U.calling g mk a) (Vm.Alike.refl U.vm) h.2.2.2⟩
def ps_Q (r : Int32) : Array Value → State → Outcome → State → Prop := va_Qi (fun x (_ : Unit) => x = r) (fun _ _ => True) ps_no
def ps_Qv : Array Value → State → Outcome → State → Prop := va_Qv (fun (_ : Unit) => True) (fun _ _ => True) ps_no
def ps_Met (l : Launch) (adK adV : Nat → Nat) (y : MethodName) (cc : ByteArray) (nL : Nat) (ret : Option FieldType) (fr lo : Nat) (avs : List Value) (Qc : Array Value → State → Outcome → State → Prop) : Prop :=
  Met l y (.code y cc nL ret :: pf_tb) (pf_rm0 fr lo) (va_Pc avs (fun U => ps_SA ps_no adK adV U U.heap)) Qc 0 0 ps_no
abbrev ps_Bs (p : Program) (s : State) (m : MethodId) (args : Array Value) (c : Code) (cc : ByteArray) (own : String) (nL : Nat) : Prop := p.tables.exec = Jvm.exec ∧ c.code = cc ∧ c.maxLocals = nL ∧ s.vm.findClass own = some m.cls ∧ ∀ w ∈ pf_tb, w.before args s = true
section
variable {l : Launch} {p : Program} {e : Env} {R : Room} {s : State} {m : MethodId} {args : Array Value} {below : List Frame} {meth : Method} {c : Code} {cc : ByteArray} {own : String} {nL : Nat} {Q : State → Prop} {pc : Nat} {H : Heap} {locs : List Loc} {ls : Array Slot} {rest : List Value} {cells slots : Nat} {A : Nat → Prop} {adK adV : Nat → Nat}
theorem ps_cb {y : MethodName} {cc2 : ByteArray} {nL2 fr lo n idx : Nat} {rt : Option FieldType} (F : ps_Bs p s m args c cc own nL) (hL : pf_LkB y cc2 nL2 rt n) (hk : Cond.methodLink own idx y ∈ pf_tb) (hfr : fr + 1 ≤ R.frames) (hlo : 8 + (nL2 + 11) + lo ≤ R.locals) : CallB R s args own idx y cc2 nL2 rt (.code y cc2 nL2 rt :: pf_tb) (pf_rm0 fr lo) 0 0 n := by
  obtain ⟨hx, hb, hml, hown, hts⟩ := F
  obtain ⟨l1, l2, l3, l4⟩ := hL
  have hG := pf_tbg y cc2 nL2 rt l2 (ws := pf_tb) (fun _ h => h)
  exact callB_of n hts hG rfl rfl rfl (hts _ l1) (hts _ hk) ⟨l3.1, l3.2, l4⟩ ⟨hfr, hlo⟩
theorem ps_callV {y : MethodName} {cc2 : ByteArray} {nL2 fr lo n idx : Nat} {rt : Option FieldType} {As : List Value} {r : Int32} (F : ps_Bs p s m args c cc own nL) (hL : ps_Lk own idx y cc2 nL2 rt n) (hy : y.cls = "java/lang/String") (hM : ps_Met l adK adV y cc2 nL2 rt fr lo (.ref (adK 0) :: As) (ps_Q r)) (hP : ps_SA A adK adV s s.heap) (hS : va_S A s.heap H locs) (hn : As.length = n) (hl : ls.size = nL) (hfr : fr + 1 ≤ R.frames) (hlo : 8 + (nL2 + 11) + lo ≤ R.locals) (hc : cells ≤ R.cells) (hs : slots ≤ R.slots) (hwd : (rest.map fun v => v.category).sum ≤ 8) {st : List Value} (hst : st = As.reverse ++ .ref (adK 0) :: rest) (hd : decode cc pc = .ok (.invokevirtual idx, 3))
    (kk : ∀ (H1 : Heap) (locs1 : List Loc), H.size ≤ H1.size → (∀ q : Nat, q < H.size → H1[q]? = H[q]?) → va_S A s.heap H1 locs1 → W p l e R s m args below meth c H1 locs1 cells slots Q (F0 m (pc + 3) ls (.int r :: rest))) : W p l e R s m args below meth c H locs cells slots Q (F0 m pc ls st) := by
  subst hst
  obtain ⟨hx, hb, hml, hown, hts⟩ := id F
  have hr := va_runV (C := "java/lang/String") (l := l) (e := e) (below := below) (meth := meth) (locs := locs) (cells := cells) (slots := slots) (As := As) (rest := rest) (g := F0 m pc ls (As.reverse ++ .ref (adK 0) :: rest)) ⟨hx, hb, hml, hown, hts⟩ hM ⟨ps_cb F hL.1 hL.2.2.2 hfr hlo, hts _ hL.2.1, by rw [← hy]; exact hts _ hL.2.2.1⟩ ⟨ps_blind _, vk_recv hP.1 (by decide) hS, fun U hU hW => ⟨rfl, hP.go hS hU hW⟩⟩ rfl hn hl rfl (lv_room hwd) hd ⟨hc, hs⟩
  refine va_calli hr hS (fun _ _ h => h.elim) (fun _ h => h.elim) (fun r' u t H1 locs1 ht hv hr' _ hz hk hS1 => ?_)
  subst hr'
  exact kk H1 locs1 hz (fun q hq => hk q hq (fun h => h)) hS1
theorem ps_callS {y : MethodName} {cc2 : ByteArray} {nL2 fr lo n idx : Nat} {rt : Option FieldType} {As : List Value} {r : Int32} (F : ps_Bs p s m args c cc own nL) (hL : pf_LkS own idx y cc2 nL2 rt n) (hk : Cond.methodLink own idx y ∈ pf_tb) (hM : ps_Met l adK adV y cc2 nL2 rt fr lo As (ps_Q r)) (hP : ps_SA A adK adV s s.heap) (hS : va_S A s.heap H locs) (hn : As.length = n) (hl : ls.size = nL) (hfr : fr + 1 ≤ R.frames) (hlo : 8 + (nL2 + 11) + lo ≤ R.locals) (hc : cells ≤ R.cells) (hs : slots ≤ R.slots) (hwd : (rest.map fun v => v.category).sum ≤ 8) {st : List Value} (hst : st = As.reverse ++ rest) (hd : decode cc pc = .ok (.invokestatic idx, 3))
    (kk : ∀ (H1 : Heap) (locs1 : List Loc), H.size ≤ H1.size → (∀ q : Nat, q < H.size → H1[q]? = H[q]?) → va_S A s.heap H1 locs1 → W p l e R s m args below meth c H1 locs1 cells slots Q (F0 m (pc + 3) ls (.int r :: rest))) : W p l e R s m args below meth c H locs cells slots Q (F0 m pc ls st) := by
  subst hst
  obtain ⟨hx, hb, hml, hown, hts⟩ := id F
  have hr := va_runS (l := l) (e := e) (below := below) (meth := meth) (locs := locs) (cells := cells) (slots := slots) (As := As) (rest := rest) (g := F0 m pc ls (As.reverse ++ rest)) ⟨hx, hb, hml, hown, hts⟩ hM ⟨ps_cb F hL.1 hk hfr hlo, hts _ hL.2.1⟩ ⟨ps_blind _, fun U hU hW => ⟨rfl, hP.go hS hU hW⟩⟩ rfl hn hl rfl (lv_room hwd) hd ⟨hc, hs⟩
  refine va_calli hr hS (fun _ _ h => h.elim) (fun _ h => h.elim) (fun r' u t H1 locs1 ht hv hr' _ hz hk hS1 => ?_)
  subst hr'
  exact kk H1 locs1 hz (fun q hq => hk q hq (fun h => h)) hS1
theorem ps_callSv {y : MethodName} {cc2 : ByteArray} {nL2 fr lo n idx : Nat} {As : List Value} (F : ps_Bs p s m args c cc own nL) (hL : pf_LkS own idx y cc2 nL2 none n) (hk : Cond.methodLink own idx y ∈ pf_tb) (hM : ps_Met l adK adV y cc2 nL2 none fr lo As ps_Qv) (hP : ps_SA A adK adV s s.heap) (hS : va_S A s.heap H locs) (hn : As.length = n) (hl : ls.size = nL) (hfr : fr + 1 ≤ R.frames) (hlo : 8 + (nL2 + 11) + lo ≤ R.locals) (hc : cells ≤ R.cells) (hs : slots ≤ R.slots) (hwd : (rest.map fun v => v.category).sum ≤ 8) {st : List Value} (hst : st = As.reverse ++ rest) (hd : decode cc pc = .ok (.invokestatic idx, 3))
    (kk : ∀ (H1 : Heap) (locs1 : List Loc), H.size ≤ H1.size → (∀ q : Nat, q < H.size → H1[q]? = H[q]?) → va_S A s.heap H1 locs1 → W p l e R s m args below meth c H1 locs1 cells slots Q (F0 m (pc + 3) ls rest)) : W p l e R s m args below meth c H locs cells slots Q (F0 m pc ls st) := by
  subst hst
  obtain ⟨hx, hb, hml, hown, hts⟩ := id F
  have hr := va_runS (l := l) (e := e) (below := below) (meth := meth) (locs := locs) (cells := cells) (slots := slots) (As := As) (rest := rest) (g := F0 m pc ls (As.reverse ++ rest)) ⟨hx, hb, hml, hown, hts⟩ hM ⟨ps_cb F hL.1 hk hfr hlo, hts _ hL.2.1⟩ ⟨ps_blind _, fun U hU hW => ⟨rfl, hP.go hS hU hW⟩⟩ rfl hn hl rfl (lv_room hwd) hd ⟨hc, hs⟩
  refine va_callv hr hS (fun _ _ h => h.elim) (fun _ h => h.elim) (fun u t H1 locs1 ht hv _ _ hz hk hS1 => ?_)
  exact kk H1 locs1 hz (fun q hq => hk q hq (fun h => h)) hS1
end
section
variable (l : Launch) (adK adV : Nat → Nat)
theorem k_J0_coder : ps_Met l adK adV yJ0_coder_7d493 cJ0_coder_7d493 1 (some .byte) 0 0 [.ref (adK 0)] (ps_Q 0) := by
  refine pc_ofG (by decide +kernel) (Nat.le_of_ble_eq_true rfl) ?_
  intro p e s m args below meth c ls F hin hret hlocks hP hl
  obtain ⟨hx, hb, hml, hown, hts⟩ := id F
  have hS : va_S ps_no s.heap s.heap [] := va_S.rf
  have hl : lv_has ls 1 [(0, .ref (adK 0))] := hl
  refine va_gets hx hb hP.2.1 hS hown (hts _ sfl_38) (fun _ h => h) dJ0_coder_7d493_0 ?_
  refine lv_if_eq (tgt := 13) hx hb dJ0_coder_7d493_3 (by decide) (fun h => absurd h (by decide)) (fun _ => ?_)
  refine lv_aload_n hx hb dJ0_coder_7d493_6 rfl (lv_at hl 0 rfl) ?_
  refine vk_getf hx hb (hP.1.1 0 (by decide)).2.1 hS hown (hts _ sfl_15) (fun _ h => h) dJ0_coder_7d493_7 ?_
  refine lv_goto (tgt := 14) hx hb dJ0_coder_7d493_10 (by decide) ?_
  exact W.zret (ty := .byte) hx hb hret rfl (fun t ht hW => ⟨⟨0, (), rfl, rfl, trivial⟩, hS.F ht⟩) hS.2.2 dJ0_coder_7d493_14 hlocks
theorem k_J0_isLatin1 : ps_Met l adK adV yJ0_isLatin1_aae02 cJ0_isLatin1_aae02 1 (some .boolean) 0 0 [.ref (adK 0)] (ps_Q 1) := by
  refine pc_ofG (by decide +kernel) (Nat.le_of_ble_eq_true rfl) ?_
  intro p e s m args below meth c ls F hin hret hlocks hP hl
  obtain ⟨hx, hb, hml, hown, hts⟩ := id F
  have hS : va_S ps_no s.heap s.heap [] := va_S.rf
  have hl : lv_has ls 1 [(0, .ref (adK 0))] := hl
  refine va_gets hx hb hP.2.1 hS hown (hts _ sfl_38) (fun _ h => h) dJ0_isLatin1_aae02_0 ?_
  refine lv_if_eq (tgt := 17) hx hb dJ0_isLatin1_aae02_3 (by decide) (fun h => absurd h (by decide)) (fun _ => ?_)
  refine lv_aload_n hx hb dJ0_isLatin1_aae02_6 rfl (lv_at hl 0 rfl) ?_
  refine vk_getf hx hb (hP.1.1 0 (by decide)).2.1 hS hown (hts _ sfl_15) (fun _ h => h) dJ0_isLatin1_aae02_7 ?_
  refine lv_if_ne (tgt := 17) hx hb dJ0_isLatin1_aae02_10 (by decide) (fun h => absurd rfl h) (fun _ => ?_)
  refine lv_iconst (v := 1) hx hb dJ0_isLatin1_aae02_13 (by decide) ?_
  refine lv_goto (tgt := 18) hx hb dJ0_isLatin1_aae02_14 (by decide) ?_
  exact W.zret (ty := .boolean) hx hb hret rfl (fun t ht hW => ⟨⟨1, (), rfl, rfl, trivial⟩, hS.F ht⟩) hS.2.2 dJ0_isLatin1_aae02_18 hlocks
theorem k_J0_length : ps_Met l adK adV yJ0_length_8abf5 cJ0_length_8abf5 1 (some .int) 1 20 [.ref (adK 0)] (ps_Q 41) := by
  refine pc_ofG (by decide +kernel) (Nat.le_of_ble_eq_true rfl) ?_
  intro p e s m args below meth c ls F hin hret hlocks hP hl
  obtain ⟨hx, hb, hml, hown, hts⟩ := id F
  have hS : va_S ps_no s.heap s.heap [] := va_S.rf
  have hl : lv_has ls 1 [(0, .ref (adK 0))] := hl
  refine lv_aload_n hx hb dJ0_length_8abf5_0 rfl (lv_at hl 0 rfl) ?_
  refine vk_getf hx hb (hP.1.1 0 (by decide)).2.2.1 hS hown (hts _ sfl_9) (fun _ h => h) dJ0_length_8abf5_1 ?_
  refine va_tlen (v := 41) hx hb (hP.1.1 0 (by decide)).2.2.2 hS rfl dJ0_length_8abf5_4 ?_
  refine lv_aload_n hx hb dJ0_length_8abf5_5 rfl (lv_at hl 0 rfl) ?_
  refine ps_callV (As := []) F slk_335 rfl (k_J0_coder l adK adV) hP hS rfl hl.1 (Nat.le_of_ble_eq_true rfl) (Nat.le_of_ble_eq_true rfl) (Nat.le_of_ble_eq_true rfl) (Nat.le_of_ble_eq_true rfl) (Nat.le_of_ble_eq_true rfl) rfl dJ0_length_8abf5_6 (fun H locs _ _ hS => ?_)
  refine lv_ishr hx hb dJ0_length_8abf5_9 ?_
  exact W.zret (ty := .int) hx hb hret rfl (fun t ht hW => ⟨⟨_, (), rfl, by decide, trivial⟩, hS.F ht⟩) hS.2.2 dJ0_length_8abf5_10 hlocks
theorem k_J3_checkIndex (v : Value) (hv : v.category = 1) {k : Nat} (hk : k < 41) : ps_Met l adK adV yJ3_checkIndex_8e157 cJ3_checkIndex_8e157 3 (some .int) 0 0 [.int (nI k), .int 41, v] (ps_Q (nI k)) := by
  have hsl : (lg_sl [.int (nI k), .int 41, v]).length ≤ 3 := by
    cases v <;> simp_all [lg_sl, Value.category]
  refine pc_ofG (by decide +kernel) hsl ?_
  intro p e s m args below meth c ls F hin hret hlocks hP hl
  obtain ⟨hx, hb, hml, hown, hts⟩ := id F
  have hS : va_S ps_no s.heap s.heap [] := va_S.rf
  have hl : lv_has ls 3 [(0, .int (nI k)), (1, .int 41), (2, v)] := hl
  refine lv_iload_n hx hb dJ3_checkIndex_8e157_0 rfl (lv_at hl 0 rfl) ?_
  refine lv_if_lt (tgt := 9) hx hb dJ3_checkIndex_8e157_1 (by decide) (fun h => absurd h (nI_pos (by omega))) (fun _ => ?_)
  refine lv_iload_n hx hb dJ3_checkIndex_8e157_4 rfl (lv_at hl 0 rfl) ?_
  refine lv_iload_n hx hb dJ3_checkIndex_8e157_5 rfl (lv_at hl 1 rfl) ?_
  refine lv_icmp_lt (tgt := 16) hx hb dJ3_checkIndex_8e157_6 (by decide) (fun _ => ?_) (fun h => absurd ((nI_ltI (a := k) (b := 41) (by omega) (by omega)).mpr hk) h)
  refine lv_iload_n hx hb dJ3_checkIndex_8e157_16 rfl (lv_at hl 0 rfl) ?_
  exact W.zret (ty := .int) hx hb hret rfl (fun t ht hW => ⟨⟨_, (), rfl, rfl, trivial⟩, hS.F ht⟩) hS.2.2 dJ3_checkIndex_8e157_17 hlocks
theorem k_J0_checkIndex {k : Nat} (hk : k < 41) : ps_Met l adK adV yJ0_checkIndex_df160 cJ0_checkIndex_df160 2 none 1 22 [.int (nI k), .int 41] ps_Qv := by
  refine pc_ofG (by decide +kernel) (Nat.le_of_ble_eq_true rfl) ?_
  intro p e s m args below meth c ls F hin hret hlocks hP hl
  obtain ⟨hx, hb, hml, hown, hts⟩ := id F
  have hS : va_S ps_no s.heap s.heap [] := va_S.rf
  have hl : lv_has ls 2 [(0, .int (nI k)), (1, .int 41)] := hl
  refine lv_iload_n hx hb dJ0_checkIndex_df160_0 rfl (lv_at hl 0 rfl) ?_
  refine lv_iload_n hx hb dJ0_checkIndex_df160_1 rfl (lv_at hl 1 rfl) ?_
  have go : ∀ v : Value, v.category = 1 → va_Z "jdk/internal/util/Preconditions" "SIOOBE_FORMATTER" "Ljava/util/function/BiFunction;" v ps_no s s.heap → W p l e (headSpec (Cond.code yJ0_checkIndex_df160 cJ0_checkIndex_df160 2 none :: pf_tb) (pf_rm0 1 22)).room s m args below meth c s.heap [] 0 0 (MQ below ps_Qv args s 0 0 ps_no) (F0 m 2 ls [.int 41, .int (nI k)]) := by
    intro v hv hZ
    refine va_gets hx hb hZ hS hown (hts _ sfl_1053) (fun _ h => h) dJ0_checkIndex_df160_2 ?_
    refine ps_callS (As := [.int (nI k), .int 41, v]) F slk_1059 (pf_tbm (i := 440) (by decide +kernel) rfl) (k_J3_checkIndex l adK adV v hv hk) hP hS rfl hl.1 (Nat.le_of_ble_eq_true rfl) (Nat.le_of_ble_eq_true rfl) (Nat.le_of_ble_eq_true rfl) (Nat.le_of_ble_eq_true rfl) (Nat.le_of_ble_eq_true rfl) rfl dJ0_checkIndex_df160_5 (fun H locs _ _ hS => ?_)
    refine lv_pop hx hb dJ0_checkIndex_df160_8 rfl ?_
    exact W.vret hx hb hret (fun t ht hW => ⟨⟨(), rfl, trivial, trivial⟩, hS.F ht⟩) hS.2.2 dJ0_checkIndex_df160_9 hlocks
  rcases hP.2.2 with hZ | ⟨t, hZ⟩
  · exact go _ rfl hZ
  · exact go _ rfl hZ
theorem ps_ch {k : Nat} (hk : k < 41) : (((ps_b.getD (nI k).toNatClampNeg 0) &&& 255).toUInt32 % 65536).toInt32 = ps_b.getD k 0 := by
  rw [si_cl (by omega)]
  have h : ∀ k, k < 41 → (((ps_b.getD k 0) &&& 255).toUInt32 % 65536).toInt32 = ps_b.getD k 0 := by decide +kernel
  exact h k hk
theorem ps_nar {k : Nat} (hk : k < 41) : narrow .char (.int (ps_b.getD k 0)) = .int (ps_b.getD k 0) := by
  have h : ∀ k, k < 41 → vp_nar .char (ps_b.getD k 0) = ps_b.getD k 0 := by decide +kernel
  exact congrArg Value.int (h k hk)
theorem k_J1_charAt {k : Nat} (hk : k < 41) : ps_Met l adK adV yJ1_charAt_3b067 cJ1_charAt_3b067 2 (some .char) 2 43 [.ref (adV 0), .int (nI k)] (ps_Q (ps_b.getD k 0)) := by
  refine pc_ofG (by decide +kernel) (Nat.le_of_ble_eq_true rfl) ?_
  intro p e s m args below meth c ls F hin hret hlocks hP hl
  obtain ⟨hx, hb, hml, hown, hts⟩ := id F
  have hS : va_S ps_no s.heap s.heap [] := va_S.rf
  have hl : lv_has ls 2 [(0, .ref (adV 0)), (1, .int (nI k))] := hl
  refine lv_iload_n hx hb dJ1_charAt_3b067_0 rfl (lv_at hl 1 rfl) ?_
  refine lv_aload_n hx hb dJ1_charAt_3b067_1 rfl (lv_at hl 0 rfl) ?_
  refine va_tlen (v := 41) hx hb (hP.1.1 0 (by decide)).2.2.2 hS rfl dJ1_charAt_3b067_2 ?_
  refine ps_callSv (As := [.int (nI k), .int 41]) F slk_9 (pf_tbm (i := 435) (by decide +kernel) rfl) (k_J0_checkIndex l adK adV hk) hP hS rfl hl.1 (Nat.le_of_ble_eq_true rfl) (Nat.le_of_ble_eq_true rfl) (Nat.le_of_ble_eq_true rfl) (Nat.le_of_ble_eq_true rfl) (Nat.le_of_ble_eq_true rfl) rfl dJ1_charAt_3b067_3 (fun H locs _ _ hS => ?_)
  refine lv_aload_n hx hb dJ1_charAt_3b067_6 rfl (lv_at hl 0 rfl) ?_
  refine lv_iload_n hx hb dJ1_charAt_3b067_7 rfl (lv_at hl 1 rfl) ?_
  refine va_tb hx hb (hP.1.1 0 (by decide)).2.2.2 hS (show vp_in (nI k) 41 from vp_in_nI hk (by omega)) rfl dJ1_charAt_3b067_8 ?_
  refine lv_sipush (v := 255) hx hb dJ1_charAt_3b067_9 (by decide) ?_
  refine lv_iand hx hb dJ1_charAt_3b067_12 ?_
  refine lv_i2c hx hb dJ1_charAt_3b067_13 (ps_ch hk) ?_
  exact W.zret (ty := .char) hx hb hret (ps_nar hk) (fun t ht hW => ⟨⟨_, (), rfl, rfl, trivial⟩, hS.F ht⟩) hS.2.2 dJ1_charAt_3b067_14 hlocks
theorem k_J0_charAt {k : Nat} (hk : k < 41) : ps_Met l adK adV yJ0_charAt_5068e cJ0_charAt_5068e 2 (some .char) 3 64 [.ref (adK 0), .int (nI k)] (ps_Q (ps_b.getD k 0)) := by
  refine pc_ofG (by decide +kernel) (Nat.le_of_ble_eq_true rfl) ?_
  intro p e s m args below meth c ls F hin hret hlocks hP hl
  obtain ⟨hx, hb, hml, hown, hts⟩ := id F
  have hS : va_S ps_no s.heap s.heap [] := va_S.rf
  have hl : lv_has ls 2 [(0, .ref (adK 0)), (1, .int (nI k))] := hl
  refine lv_aload_n hx hb dJ0_charAt_5068e_0 rfl (lv_at hl 0 rfl) ?_
  refine ps_callV (As := []) F slk_492 rfl (k_J0_isLatin1 l adK adV) hP hS rfl hl.1 (Nat.le_of_ble_eq_true rfl) (Nat.le_of_ble_eq_true rfl) (Nat.le_of_ble_eq_true rfl) (Nat.le_of_ble_eq_true rfl) (Nat.le_of_ble_eq_true rfl) rfl dJ0_charAt_5068e_1 (fun H locs _ _ hS => ?_)
  refine lv_if_eq (tgt := 16) hx hb dJ0_charAt_5068e_4 (by decide) (fun h => absurd h (by decide)) (fun _ => ?_)
  refine lv_aload_n hx hb dJ0_charAt_5068e_7 rfl (lv_at hl 0 rfl) ?_
  refine vk_getf hx hb (hP.1.1 0 (by decide)).2.2.1 hS hown (hts _ sfl_9) (fun _ h => h) dJ0_charAt_5068e_8 ?_
  refine lv_iload_n hx hb dJ0_charAt_5068e_11 rfl (lv_at hl 1 rfl) ?_
  refine ps_callS (As := [.ref (adV 0), .int (nI k)]) F slk_495 (pf_tbm (i := 432) (by decide +kernel) rfl) (k_J1_charAt l adK adV hk) hP hS rfl hl.1 (Nat.le_of_ble_eq_true rfl) (Nat.le_of_ble_eq_true rfl) (Nat.le_of_ble_eq_true rfl) (Nat.le_of_ble_eq_true rfl) (Nat.le_of_ble_eq_true rfl) rfl dJ0_charAt_5068e_12 (fun H locs _ _ hS => ?_)
  exact W.zret (ty := .char) hx hb hret (ps_nar hk) (fun t ht hW => ⟨⟨_, (), rfl, rfl, trivial⟩, hS.F ht⟩) hS.2.2 dJ0_charAt_5068e_15 hlocks
end
