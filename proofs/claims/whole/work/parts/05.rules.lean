/-! the tables' words that go along with every call; the words of nest mates -/
def pf_tb : List Cond := lw_tbl.filter goodWord
theorem pf_tbm {i : Nat} {w : Cond} (h : lw_tbl[i]? = some w) (hg : goodWord w = true) : w ∈ pf_tb := List.mem_filter.mpr ⟨List.mem_of_getElem? h, hg⟩
theorem pf_tbg (y : MethodName) (cc : ByteArray) (nL : Nat) (ret : Option FieldType) (h : Cond.code y cc nL ret ∈ pf_tb) {ws : List Cond} (hw : pf_tb ⊆ ws) : GoodIn ws (.code y cc nL ret :: pf_tb) := by
  intro w hwm
  have hm : w ∈ pf_tb := by
    rcases List.mem_cons.mp hwm with rfl | q
    · exact h
    · exact q
  exact ⟨hw hm, good_of_word (List.mem_filter.mp hm).2⟩
def pf_nest : Cond → Bool
  | .fieldLinkNest .. => true
  | .methodLinkNest .. => true
  | _ => false
def pf_nw : List Cond := lw_tbl.filter pf_nest
theorem pf_nwm {i : Nat} {w : Cond} (h : lw_tbl[i]? = some w) (hg : pf_nest w = true) : w ∈ pf_nw := List.mem_filter.mpr ⟨List.mem_of_getElem? h, hg⟩
def pf_NW (U : State) : Prop := ∀ w ∈ pf_nw, va_Nw w U
theorem pf_NW.warm {s U : State} (hW : s.WarmedH U.vm) (h : pf_NW s) : pf_NW U := by
  intro w hw
  have h1 := (List.mem_filter.mp hw).2
  have h2 := h w hw
  cases w <;> first | exact va_Nw.warmF hW h2 | exact va_Nw.warmM hW h2 | cases h1
theorem pf_NW.same {u U : State} (hv : u.vm = U.vm) (h : pf_NW u) : pf_NW U := by
  intro w hw
  have h1 := (List.mem_filter.mp hw).2
  have h2 := h w hw
  cases w <;> first | exact va_Nw.same rfl hv h2 | cases h1
def pf_okv (G : pf_G) (v : pf_V) : Prop := match v with
  | .inr (.inr (.inl (some q))) => pf_ok G.2.2.2.2 q.1 q.2
  | _ => True
def pf_World (G : pf_G) (M : pf_M) (U : State) : Prop := va_P G.2.1 vwCl (pf_W G M) U.heap ∧ va_K G.2.1 vwCl (pf_ty G) U ∧ pf_NW U
def pf_QX (G : pf_G) (r : Option pf_V) (M' : pf_M) : Array Value → State → Outcome → State → Prop := fun _ st o t =>
  (o = .returned (r.map (pf_cv G)) ∧ (∀ v, r = some v → pf_okv G v) ∧ va_P G.2.1 vwCl (pf_W G M') t.heap) ∧ va_F (pf_A G) st t
def pf_rm0 (fr lo : Nat) : Room := { frames := fr, cells := 0, slots := 0, locals := lo }
def pf_Met (G : pf_G) (y : MethodName) (cc : ByteArray) (nL : Nat) (ret : Option FieldType) (fr lo : Nat) (avs : List pf_V) (M : pf_M) (r : Option pf_V) (M' : pf_M) : Prop :=
  (∀ v ∈ avs, pf_okv G v) → Met G.1 y (.code y cc nL ret :: pf_tb) (pf_rm0 fr lo) (va_Pc (avs.map (pf_cv G)) (pf_World G M)) (pf_QX G r M') 0 0 (pf_A G)
/-! locals -/
def pf_isL (v : pf_V) : Bool := match v with
  | .inr (.inl _) => true
  | _ => false
def pf_isU (v : pf_V) : Bool := match v with
  | .inr (.inr (.inr _)) => true
  | _ => false
def pf_cat (v : pf_V) : Nat := match v with
  | .inr (.inl _) => 2
  | _ => 1
theorem pf_cat_cv (G : pf_G) (v : pf_V) : (pf_cv G v).category = pf_cat v := by
  obtain x | x | (_ | q) | u := v <;> rfl
def pf_LR (G : pf_G) (lo : List pf_V) (nL : Nat) (ls : Array Slot) : Prop := ls.size = nL ∧ lv_wf ls ∧ ∀ (i : Nat) (v : pf_V), lo[i]? = some v → pf_isU v = false → ls[i]? = some (.val (pf_cv G v))
def pf_pr (G : pf_G) (lo : List pf_V) : List (Nat × Value) := lo.zipIdx.filterMap fun q => if pf_isU q.1 = true then none else some (q.2, pf_cv G q.1)
theorem pf_pr_mem {G : pf_G} {lo : List pf_V} {q : Nat × Value} : q ∈ pf_pr G lo ↔ ∃ v, lo[q.1]? = some v ∧ pf_isU v = false ∧ q.2 = pf_cv G v := by
  unfold pf_pr
  rw [List.mem_filterMap]
  constructor
  · rintro ⟨⟨v, i⟩, h1, h2⟩
    have h1 := List.mem_zipIdx_iff_getElem?.mp h1
    dsimp only at h1 h2
    by_cases hu : pf_isU v = true
    · rw [if_pos hu] at h2; cases h2
    · rw [if_neg hu] at h2
      cases h2
      exact ⟨v, h1, by simpa using hu, rfl⟩
  · rintro ⟨v, h1, h2, h3⟩
    refine ⟨(v, q.1), List.mem_zipIdx_iff_getElem?.mpr h1, ?_⟩
    dsimp only
    rw [h2, if_neg (by decide), ← h3]
theorem pf_LR.has {G : pf_G} {lo : List pf_V} {nL : Nat} {ls : Array Slot} (h : pf_LR G lo nL ls) : lv_has ls nL (pf_pr G lo) := by
  refine ⟨h.1, h.2.1, fun q hq => ?_⟩
  obtain ⟨v, h1, h2, h3⟩ := pf_pr_mem.mp hq
  rw [h3]
  exact h.2.2 _ _ h1 h2
def pf_st1 : List pf_V → Nat → pf_V → List pf_V
  | [], _, _ => []
  | _ :: r, 0, v => v :: r
  | a :: r, 1, v => (if pf_isL a = true then pf_U else a) :: pf_st1 r 0 v
  | a :: r, n + 2, v => a :: pf_st1 r (n + 1) v
def pf_hd : List pf_V → List pf_V
  | [] => []
  | _ :: r => pf_U :: r
def pf_st2 : List pf_V → Nat → pf_V → List pf_V
  | [], _, _ => []
  | _ :: r, 0, v => v :: pf_hd r
  | a :: r, 1, v => (if pf_isL a = true then pf_U else a) :: pf_st2 r 0 v
  | a :: r, n + 2, v => a :: pf_st2 r (n + 1) v
theorem pf_st1_get : ∀ (lo : List pf_V) (i : Nat) (v : pf_V) (j : Nat) (w : pf_V), (pf_st1 lo i v)[j]? = some w → pf_isU w = false → (j = i ∧ w = v) ∨ (lo[j]? = some w ∧ j ≠ i ∧ ¬ (j + 1 = i ∧ pf_isL w = true))
  | [], i, v, j, w => fun h => by simp [pf_st1] at h
  | a :: r, 0, v, j, w => fun h hu => by
    cases j with
    | zero => simp [pf_st1] at h; exact Or.inl ⟨rfl, h.symm⟩
    | succ j => simp [pf_st1] at h; exact Or.inr ⟨by simpa using h, by omega, by omega⟩
  | a :: r, 1, v, j, w => fun h hu => by
    cases j with
    | zero =>
      simp only [pf_st1, List.getElem?_cons_zero, Option.some.injEq] at h
      by_cases ha : pf_isL a = true
      · rw [if_pos ha] at h; subst h; cases hu
      · rw [if_neg ha] at h; subst h
        exact Or.inr ⟨rfl, by omega, fun q => ha q.2⟩
    | succ j =>
      simp only [pf_st1, List.getElem?_cons_succ] at h
      rcases pf_st1_get r 0 v j w h hu with q | q
      · exact Or.inl ⟨by omega, q.2⟩
      · exact Or.inr ⟨by simpa using q.1, by omega, by omega⟩
  | a :: r, n + 2, v, j, w => fun h hu => by
    cases j with
    | zero => simp [pf_st1] at h; exact Or.inr ⟨by simp [h], by omega, by omega⟩
    | succ j =>
      simp only [pf_st1, List.getElem?_cons_succ] at h
      rcases pf_st1_get r (n + 1) v j w h hu with q | q
      · exact Or.inl ⟨by omega, q.2⟩
      · exact Or.inr ⟨by simpa using q.1, by omega, fun z => q.2.2 ⟨by omega, z.2⟩⟩
theorem pf_st2_get : ∀ (lo : List pf_V) (i : Nat) (v : pf_V) (j : Nat) (w : pf_V), (pf_st2 lo i v)[j]? = some w → pf_isU w = false → (j = i ∧ w = v) ∨ (lo[j]? = some w ∧ j ≠ i ∧ j ≠ i + 1 ∧ ¬ (j + 1 = i ∧ pf_isL w = true))
  | [], i, v, j, w => fun h => by simp [pf_st2] at h
  | a :: r, 0, v, j, w => fun h hu => by
    match j, r, h with
    | 0, _, h => simp [pf_st2] at h; exact Or.inl ⟨rfl, h.symm⟩
    | 1, [], h => simp [pf_st2, pf_hd] at h
    | 1, b :: r, h => simp [pf_st2, pf_hd] at h; subst h; cases hu
    | j + 2, [], h => simp [pf_st2, pf_hd] at h
    | j + 2, b :: r, h => simp [pf_st2, pf_hd] at h; exact Or.inr ⟨by simpa using h, by omega, by omega, by omega⟩
  | a :: r, 1, v, j, w => fun h hu => by
    cases j with
    | zero =>
      simp only [pf_st2, List.getElem?_cons_zero, Option.some.injEq] at h
      by_cases ha : pf_isL a = true
      · rw [if_pos ha] at h; subst h; cases hu
      · rw [if_neg ha] at h; subst h
        exact Or.inr ⟨rfl, by omega, by omega, fun q => ha q.2⟩
    | succ j =>
      simp only [pf_st2, List.getElem?_cons_succ] at h
      rcases pf_st2_get r 0 v j w h hu with q | q
      · exact Or.inl ⟨by omega, q.2⟩
      · exact Or.inr ⟨by simpa using q.1, by omega, by omega, by omega⟩
  | a :: r, n + 2, v, j, w => fun h hu => by
    cases j with
    | zero => simp [pf_st2] at h; exact Or.inr ⟨by simp [h], by omega, by omega, by omega⟩
    | succ j =>
      simp only [pf_st2, List.getElem?_cons_succ] at h
      rcases pf_st2_get r (n + 1) v j w h hu with q | q
      · exact Or.inl ⟨by omega, q.2⟩
      · exact Or.inr ⟨by simpa using q.1, by omega, by omega, fun z => q.2.2.2 ⟨by omega, z.2⟩⟩
theorem pf_isL_cat {G : pf_G} {v : pf_V} : (pf_cv G v).category = 2 ↔ pf_isL v = true := by
  rw [pf_cat_cv]
  obtain x | x | (_ | q) | u := v <;> simp [pf_cat, pf_isL]
theorem pf_LR.st1 {G : pf_G} {lo : List pf_V} {nL i : Nat} {ls' : Array Slot} {v : pf_V} (h : lv_has ls' nL ((i, pf_cv G v) :: (pf_pr G lo).filter (fun q => !(q.1 == i) && !(q.1 + 1 == i && q.2.category == 2)))) : pf_LR G (pf_st1 lo i v) nL ls' := by
  refine ⟨h.1, h.2.1, fun j w hj hu => ?_⟩
  rcases pf_st1_get lo i v j w hj hu with ⟨rfl, rfl⟩ | ⟨h1, h2, h3⟩
  · exact h.2.2 _ List.mem_cons_self
  · refine h.2.2 (j, pf_cv G w) (List.mem_cons_of_mem _ (List.mem_filter.mpr ⟨pf_pr_mem.mpr ⟨w, h1, hu, rfl⟩, ?_⟩))
    simp only [Bool.and_eq_true, Bool.not_eq_true', beq_eq_false_iff_ne, Bool.and_eq_false_iff, ne_eq]
    refine ⟨h2, ?_⟩
    by_cases hc : j + 1 = i
    · refine Or.inr fun q => h3 ⟨hc, pf_isL_cat.mp q⟩
    · exact Or.inl hc
theorem pf_LR.st2 {G : pf_G} {lo : List pf_V} {nL i : Nat} {ls' : Array Slot} {v : pf_V} (h : lv_has ls' nL ((i, pf_cv G v) :: (pf_pr G lo).filter (fun q => !(q.1 == i) && (!(q.1 == i + 1) && !(q.1 + 1 == i && q.2.category == 2))))) : pf_LR G (pf_st2 lo i v) nL ls' := by
  refine ⟨h.1, h.2.1, fun j w hj hu => ?_⟩
  rcases pf_st2_get lo i v j w hj hu with ⟨rfl, rfl⟩ | ⟨h1, h2, h4, h3⟩
  · exact h.2.2 _ List.mem_cons_self
  · refine h.2.2 (j, pf_cv G w) (List.mem_cons_of_mem _ (List.mem_filter.mpr ⟨pf_pr_mem.mpr ⟨w, h1, hu, rfl⟩, ?_⟩))
    simp only [Bool.and_eq_true, Bool.not_eq_true', beq_eq_false_iff_ne, Bool.and_eq_false_iff, ne_eq]
    refine ⟨h2, h4, ?_⟩
    by_cases hc : j + 1 = i
    · refine Or.inr fun q => h3 ⟨hc, pf_isL_cat.mp q⟩
    · exact Or.inl hc
def pf_en : List pf_V → List pf_V
  | [] => []
  | v :: r => if pf_isL v = true then v :: pf_U :: pf_en r else v :: pf_en r
theorem pf_en_mem (G : pf_G) : ∀ (vs : List pf_V) (o j : Nat) (w : pf_V), (pf_en vs)[j]? = some w → pf_isU w = false → (o + j, pf_cv G w) ∈ lv_args o (vs.map (pf_cv G))
  | [], o, j, w => fun h => by simp [pf_en] at h
  | v :: r, o, j, w => fun h hu => by
    simp only [List.map_cons, lv_args]
    by_cases hv : pf_isL v = true
    · have hc := (pf_isL_cat (G := G)).mpr hv
      rw [if_pos hc]
      simp only [pf_en, if_pos hv] at h
      match j, h with
      | 0, h => simp at h; subst h; exact List.mem_cons_self
      | 1, h => simp at h; subst h; cases hu
      | j + 2, h =>
        simp only [List.getElem?_cons_succ] at h
        have := pf_en_mem G r (o + 2) j w h hu
        rw [show o + (j + 2) = o + 2 + j by omega]
        exact List.mem_cons_of_mem _ this
    · have hc : ¬ (pf_cv G v).category = 2 := fun q => hv (pf_isL_cat.mp q)
      rw [if_neg hc]
      simp only [pf_en, if_neg hv] at h
      match j, h with
      | 0, h => simp at h; subst h; exact List.mem_cons_self
      | j + 1, h =>
        simp only [List.getElem?_cons_succ] at h
        have := pf_en_mem G r (o + 1) j w h hu
        rw [show o + (j + 1) = o + 1 + j by omega]
        exact List.mem_cons_of_mem _ this
def pf_ent (vs : List pf_V) (nL : Nat) : List pf_V := pf_en vs ++ List.replicate (nL - (pf_en vs).length) pf_U
theorem pf_en_len (G : pf_G) (vs : List pf_V) : (lg_sl (vs.map (pf_cv G))).length = (pf_en vs).length := by
  induction vs with
  | nil => rfl
  | cons v r ih =>
    unfold lg_sl at ih ⊢
    rw [List.map_cons, List.flatMap_cons, List.length_append, ih]
    by_cases hv : pf_isL v = true
    · rw [if_pos (pf_isL_cat.mpr hv)]
      simp only [pf_en, if_pos hv, List.length_cons, List.length_nil]
      omega
    · rw [if_neg (fun q => hv (pf_isL_cat.mp q))]
      simp only [pf_en, if_neg hv, List.length_cons, List.length_nil]
      omega
theorem pf_LR.ent (G : pf_G) (vs : List pf_V) {nL : Nat} (h : (pf_en vs).length ≤ nL) : pf_LR G (pf_ent vs nL) nL ((lg_sl (vs.map (pf_cv G)) ++ List.replicate (nL - (lg_sl (vs.map (pf_cv G))).length) Slot.unset).toArray) := by
  have hl := lv_entry (vs.map (pf_cv G)) (n := nL) (by rw [pf_en_len]; exact h)
  refine ⟨hl.1, hl.2.1, fun j w hj hu => ?_⟩
  unfold pf_ent at hj
  by_cases hj2 : j < (pf_en vs).length
  · rw [List.getElem?_append_left hj2] at hj
    have := pf_en_mem G vs 0 j w hj hu
    rw [Nat.zero_add] at this
    exact hl.2.2 _ this
  · rw [List.getElem?_append_right (by omega)] at hj
    have := List.mem_of_getElem? hj
    rw [List.mem_replicate] at this
    rw [this.2] at hu
    cases hu
theorem pf_ent_ok {G : pf_G} {vs : List pf_V} {nL : Nat} (h : ∀ v ∈ vs, pf_okv G v) : ∀ v ∈ pf_ent vs nL, pf_okv G v := by
  have hen : ∀ (vs : List pf_V), (∀ v ∈ vs, pf_okv G v) → ∀ v ∈ pf_en vs, pf_okv G v := by
    intro vs
    induction vs with
    | nil => intro _ v hv; cases hv
    | cons a r ih =>
      intro h v hv
      have hr := ih (fun v q => h v (List.mem_cons_of_mem _ q))
      unfold pf_en at hv
      split at hv
      · rcases List.mem_cons.mp hv with rfl | hv
        · exact h _ List.mem_cons_self
        · rcases List.mem_cons.mp hv with rfl | hv
          · trivial
          · exact hr v hv
      · rcases List.mem_cons.mp hv with rfl | hv
        · exact h _ List.mem_cons_self
        · exact hr v hv
  intro v hv
  rcases List.mem_append.mp hv with q | q
  · exact hen vs h v q
  · rw [(List.mem_replicate.mp q).2]; trivial
