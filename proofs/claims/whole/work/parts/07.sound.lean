def pf_Fix (G : pf_G) (p : Program) (s : State) (m : MethodId) (args : Array Value) (c : Code) (cc : ByteArray) (own : String) (nL : Nat) : Prop :=
  p.tables.exec = Jvm.exec ∧ c.code = cc ∧ c.maxLocals = nL ∧ s.vm.findClass own = some m.cls ∧ (∀ w ∈ pf_tb, w.before args s = true) ∧ va_K G.2.1 vwCl (pf_ty G) s ∧ pf_NW s
def pf_AW (G : pf_G) (p : Program) (e : Env) (R : Room) (s : State) (m : MethodId) (args : Array Value) (below : List Frame) (meth : Method) (c : Code) (nL : Nat) (Q : State → Prop) (pc : Nat) (lo st : List pf_V) (M : pf_M) : Prop :=
  lo.length = nL → (∀ v ∈ lo, pf_okv G v) → (∀ v ∈ st, pf_okv G v) → ∀ (H : Heap) (locs : List Loc) (ls : Array Slot), va_P G.2.1 vwCl (pf_W G M) H → va_S (pf_A G) s.heap H locs → pf_LR G lo nL ls → W p G.1 e R s m args below meth c H locs 0 0 Q (F0 m pc ls (st.map (pf_cv G)))
theorem pf_mem_get {G : pf_G} {lo : List pf_V} {i : Nat} {v : pf_V} (h : ∀ v ∈ lo, pf_okv G v) (hi : lo[i]? = some v) : pf_okv G v := h v (List.mem_of_getElem? hi)
theorem pf_st1_len : ∀ (lo : List pf_V) (i : Nat) (v : pf_V), (pf_st1 lo i v).length = lo.length
  | [], i, v => rfl
  | a :: r, 0, v => rfl
  | a :: r, 1, v => by simp [pf_st1, pf_st1_len r 0 v]
  | a :: r, n + 2, v => by simp [pf_st1, pf_st1_len r (n + 1) v]
theorem pf_st2_len : ∀ (lo : List pf_V) (i : Nat) (v : pf_V), (pf_st2 lo i v).length = lo.length
  | [], i, v => rfl
  | a :: r, 0, v => by cases r <;> simp [pf_st2, pf_hd]
  | a :: r, 1, v => by simp [pf_st2, pf_st2_len r 0 v]
  | a :: r, n + 2, v => by simp [pf_st2, pf_st2_len r (n + 1) v]
theorem pf_okv_U {G : pf_G} {w : pf_V} (h : pf_isU w = true) : pf_okv G w := by
  obtain x | x | (_ | q) | u := w <;> first | trivial | cases h
theorem pf_st1_ok {G : pf_G} {lo : List pf_V} {i : Nat} {v : pf_V} (h : ∀ v ∈ lo, pf_okv G v) (hv : pf_okv G v) : ∀ w ∈ pf_st1 lo i v, pf_okv G w := by
  intro w hw
  obtain ⟨j, hj⟩ := List.getElem?_of_mem hw
  by_cases hu : pf_isU w = true
  · exact pf_okv_U hu
  · rcases pf_st1_get lo i v j w hj (by simpa using hu) with q | q
    · rw [q.2]; exact hv
    · exact pf_mem_get h q.1
theorem pf_st2_ok {G : pf_G} {lo : List pf_V} {i : Nat} {v : pf_V} (h : ∀ v ∈ lo, pf_okv G v) (hv : pf_okv G v) : ∀ w ∈ pf_st2 lo i v, pf_okv G w := by
  intro w hw
  obtain ⟨j, hj⟩ := List.getElem?_of_mem hw
  by_cases hu : pf_isU w = true
  · exact pf_okv_U hu
  · rcases pf_st2_get lo i v j w hj (by simpa using hu) with q | q
    · rw [q.2]; exact hv
    · exact pf_mem_get h q.1
theorem pf_oks {G : pf_G} {v : pf_V} {r : List pf_V} (hv : pf_okv G v) (hr : ∀ v ∈ r, pf_okv G v) : ∀ w ∈ v :: r, pf_okv G w := by
  intro w hw
  rcases List.mem_cons.mp hw with rfl | q
  · exact hv
  · exact hr w q
theorem pf_okt {G : pf_G} {v : pf_V} {r : List pf_V} (h : ∀ w ∈ v :: r, pf_okv G w) : ∀ v ∈ r, pf_okv G v := fun w hw => h w (List.mem_cons_of_mem _ hw)
theorem pf_okh {G : pf_G} {v : pf_V} {r : List pf_V} (h : ∀ w ∈ v :: r, pf_okv G w) : pf_okv G v := h v List.mem_cons_self
section
variable {G : pf_G} {p : Program} {e : Env} {R : Room} {s : State} {m : MethodId} {args : Array Value} {below : List Frame} {meth : Method} {c : Code} {cc : ByteArray} {own : String} {nL : Nat} {Q : State → Prop} {lo st r : List pf_V} {M : pf_M} {pc : Nat}
theorem pf_wdc (r : List pf_V) : ((r.map (pf_cv G)).map fun v => v.category).sum = pf_wd r := by
  unfold pf_wd
  rw [List.map_map]
  congr 1
  exact List.map_congr_left fun v _ => pf_cat_cv G v
/-- behind a call -/
theorem pf_back {v : Option pf_V} {M' : pf_M} {H : Heap} {locs : List Loc} {ls : Array Slot} {restV st0 : List Value} {a : Array Value} (hr : va_Run p G.1 e R s m args below meth c H locs 0 0 0 0 (F0 m pc ls st0) restV (pf_QX G v M' a) (pf_A G)) (hS : va_S (pf_A G) s.heap H locs)
    (kk : ∀ (H1 : Heap) (locs1 : List Loc), (∀ w, v = some w → pf_okv G w) → va_P G.2.1 vwCl (pf_W G M') H1 → va_S (pf_A G) s.heap H1 locs1 → W p G.1 e R s m args below meth c H1 locs1 0 0 Q (F0 m (pc + 3) ls ((v.map (pf_cv G)).toList ++ restV))) : W p G.1 e R s m args below meth c H locs 0 0 Q (F0 m pc ls st0) := by
  intro T hT X
  obtain ⟨v1, st₀, t, T', L, h0, X', hL, e1, e2, ⟨⟨hv, hok, hP⟩, hz, hk⟩, st⟩ := hr T hT X
  cases hv
  rw [h0] at hz hk
  obtain ⟨t2, a1, b1⟩ := kk T'.heap (locs ++ L) hok (by rw [e1]; exact hP)
    ⟨Nat.le_trans hS.1 (by rw [e1]; exact hz), fun q h1 h2 => by rw [e1, hk q (Nat.lt_of_lt_of_le h1 hS.1) h2]; exact hS.2.1 q h1 h2, fun q hq => by
      rcases List.mem_append.mp hq with h | h
      · exact hS.2.2 q h
      · exact hL q h⟩ T' rfl X'
  exact ⟨t2, st t2 a1, b1⟩
theorem pf_blind (av : List Value) : FrameBlind (va_Pc av (pf_World G M)) := by
  intro a U g mk h
  exact ⟨h.1, h.2.1, va_K.moved (u := U) (U := U.calling g mk a) (Vm.Alike.refl U.vm) h.2.2.1, pf_NW.same (u := U) (U := U.calling g mk a) rfl h.2.2.2⟩
end
