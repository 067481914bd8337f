abbrev pf_V : Type := Int32 ⊕ Int64 ⊕ Option (Nat × Nat) ⊕ Unit
abbrev pf_M : Type := Nat → Nat → Nat → Int32
abbrev pf_I (x : Int32) : pf_V := .inl x
abbrev pf_L (x : Int64) : pf_V := .inr (.inl x)
abbrev pf_Q (k : Nat) (o : Option Nat) : pf_V := .inr (.inr (.inl (o.map fun i => (k, i))))
abbrev pf_R (k i : Nat) : pf_V := .inr (.inr (.inl (some (k, i))))
abbrev pf_N : pf_V := .inr (.inr (.inl none))
abbrev pf_U : pf_V := .inr (.inr (.inr ()))
def pf_up (M : pf_M) (k i j : Nat) (v : Int32) : pf_M := fun k' i' => if k' = k ∧ i' = i then upd (M k i) j v else M k' i'
def pf_upf (M : pf_M) (k i : Nat) (g : Nat → Int32) : pf_M := fun k' i' => if k' = k ∧ i' = i then g else M k' i'
theorem pf_up_upf (M : pf_M) (k i j : Nat) (v : Int32) : pf_up M k i j v = pf_upf M k i (upd (M k i) j v) := rfl
/-! the system: launch, tables' numbers, first address, array tables' numbers, which of both -/
abbrev pf_G : Type := Launch × va_G × Nat × (ClassId × ClassId × ClassId × ClassId) × Bool
def pf_off (k i : Nat) : Nat := match k with
  | 11 => 11 + 9 * i
  | 12 => 12 + 9 * i
  | 13 => 13 + 9 * (i / 2) + i % 2
  | 14 => 15 + 9 * i
  | 15 => 16 + 9 * (i / 2) + 2 * (i % 2)
  | 16 => 17 + 9 * (i / 2) + 2 * (i % 2)
  | 25 => 91 + 9 * i
  | 26 => 92 + 9 * i
  | 27 => 93 + 9 * (i / 2) + 3 * (i % 2)
  | 28 => 94 + 9 * (i / 2) + 3 * (i % 2)
  | 29 => 95 + 9 * (i / 2) + 3 * (i % 2)
  | 30 => 99 + 9 * i
  | k => if k < 11 then k else if k < 25 then k + 66 else k - 40
def pf_cnt (k : Nat) : Nat := match k with
  | 11 => 8 | 12 => 8 | 13 => 16 | 14 => 8 | 15 => 16 | 16 => 16
  | 25 => 4 | 26 => 4 | 27 => 8 | 28 => 8 | 29 => 8 | 30 => 4
  | k => if k < 31 then 1 else if k < 40 then 0 else if k < 78 then 1 else 0
def pf_dec (sy : Bool) (o : Nat) : Nat × Nat := if sy then
    (if o < 11 then (o, 0) else if o < 83 then (match (o - 11) % 9 with
      | 0 => (11, (o - 11) / 9) | 1 => (12, (o - 11) / 9) | 2 => (13, 2 * ((o - 11) / 9)) | 3 => (13, 2 * ((o - 11) / 9) + 1) | 4 => (14, (o - 11) / 9)
      | 5 => (15, 2 * ((o - 11) / 9)) | 6 => (16, 2 * ((o - 11) / 9)) | 7 => (15, 2 * ((o - 11) / 9) + 1) | _ => (16, 2 * ((o - 11) / 9) + 1))
    else if o < 91 then (o - 66, 0) else (match (o - 91) % 9 with
      | 0 => (25, (o - 91) / 9) | 1 => (26, (o - 91) / 9) | 2 => (27, 2 * ((o - 91) / 9)) | 3 => (28, 2 * ((o - 91) / 9)) | 4 => (29, 2 * ((o - 91) / 9))
      | 5 => (27, 2 * ((o - 91) / 9) + 1) | 6 => (28, 2 * ((o - 91) / 9) + 1) | 7 => (29, 2 * ((o - 91) / 9) + 1) | _ => (30, (o - 91) / 9)))
  else (o + 40, 0)
def pf_num (sy : Bool) : Nat := if sy then 127 else 38
def pf_sys (k : Nat) : Bool := decide (k < 40)
def pf_ok (sy : Bool) (k i : Nat) : Prop := i < pf_cnt k ∧ pf_sys k = sy
def pf_ci (k : Nat) : Option Nat := match k with
  | 0 => some 11 | 1 => some 10 | 7 => some 9 | 11 => some 3 | 13 => some 7 | 14 => some 5 | 15 => some 8 | 17 => some 1 | 20 => some 6 | 22 => some 4 | 25 => some 2 | 27 => some 0 | 40 => some 12
  | _ => none
def pf_ml : List Nat := [1, 4, 5, 6, 7, 11, 12, 13, 14, 17, 18, 19, 20, 21, 24, 25, 26, 27, 28, 29, 30, 31, 32, 33, 34, 35, 36, 37, 38, 39, 41, 42, 43, 45, 47, 48, 49]
def pf_rm (j : Nat) : Option (Nat × Nat) := match j with
  | 1 => some (41, 0) | 4 => some (42, 0) | 5 => some (43, 0) | 6 => some (44, 0) | 7 => some (45, 0) | 11 => some (46, 0) | 12 => some (47, 0) | 13 => some (48, 0) | 14 => some (49, 0)
  | 17 => some (50, 0) | 18 => some (51, 0) | 19 => some (52, 0) | 20 => some (53, 0) | 21 => some (54, 0) | 24 => some (55, 0) | 25 => some (56, 0) | 26 => some (57, 0) | 27 => some (58, 0)
  | 28 => some (59, 0) | 29 => some (60, 0) | 30 => some (61, 0) | 31 => some (62, 0) | 32 => some (63, 0) | 33 => some (64, 0) | 34 => some (65, 0) | 35 => some (66, 0) | 36 => some (67, 0)
  | 37 => some (68, 0) | 38 => some (69, 0) | 39 => some (70, 0) | 41 => some (71, 0) | 42 => some (72, 0) | 43 => some (73, 0) | 45 => some (74, 0) | 47 => some (75, 0) | 48 => some (76, 0) | 49 => some (77, 0)
  | _ => none
def pf_rs (k i j : Nat) : Option (Nat × Nat) := match k with
  | 0 => (match j with | 0 => some (1, 0) | 1 => some (7, 0) | 2 => some (17, 0) | 3 => some (20, 0) | _ => none)
  | 1 => (match j with | 0 => some (2, 0) | 1 => some (3, 0) | 2 => some (4, 0) | 3 => some (5, 0) | 4 => some (6, 0) | _ => none)
  | 7 => (match j with | 0 => some (8, 0) | 1 => some (9, 0) | 2 => some (10, 0) | _ => none)
  | 11 => (match j with | 0 => some (12, i) | 1 => some (13, 2 * i) | 2 => some (13, 2 * i + 1) | 3 => some (14, i) | _ => none)
  | 14 => (match j with | 0 => some (15, 2 * i) | 1 => some (15, 2 * i + 1) | _ => none)
  | 15 => (match j with | 0 => some (16, i) | _ => none)
  | 17 => (match j with | 0 => some (7, 0) | 1 => some (18, 0) | 2 => some (19, 0) | _ => none)
  | 20 => (match j with | 0 => some (7, 0) | 1 => some (21, 0) | 2 => some (22, 0) | _ => none)
  | 22 => (match j with | 0 => some (23, 0) | 1 => some (24, 0) | _ => none)
  | 25 => (match j with | 4 => some (26, i) | 5 => some (27, 2 * i) | 6 => some (27, 2 * i + 1) | 7 => some (30, i) | _ => none)
  | 27 => (match j with | 0 => some (28, i) | 1 => some (29, i) | _ => none)
  | 40 => pf_rm j
  | _ => none
/-- arrays of numbers: the type's place in the tables' list, the length -/
def pf_ar (k : Nat) : Option (Nat × Nat) := match k with
  | 2 => some (1, 200) | 3 => some (0, 8) | 4 => some (0, 8) | 5 => some (0, 8) | 6 => some (0, 8) | 9 => some (0, 9) | 10 => some (0, 9) | 12 => some (0, 16) | 16 => some (0, 4)
  | 18 => some (0, 8) | 19 => some (0, 8) | 23 => some (0, 6) | 24 => some (0, 6) | 26 => some (0, 8) | 28 => some (0, 8) | 29 => some (0, 8) | 30 => some (0, 8)
  | 41 => some (0, 200) | 42 => some (0, 8) | 43 => some (0, 9) | 44 => some (0, 8) | 45 => some (0, 8) | 46 => some (0, 8) | 47 => some (0, 9) | 48 => some (0, 8) | 49 => some (0, 8)
  | 50 => some (0, 9) | 51 => some (0, 8) | 52 => some (0, 128) | 53 => some (0, 8) | 54 => some (0, 8) | 55 => some (0, 16) | 56 => some (0, 16) | 57 => some (0, 16) | 58 => some (0, 64)
  | 59 => some (0, 16) | 60 => some (0, 16) | 61 => some (0, 16) | 62 => some (0, 8) | 63 => some (0, 8) | 64 => some (0, 4) | 65 => some (0, 4) | 66 => some (0, 4) | 67 => some (0, 4)
  | 68 => some (0, 32) | 69 => some (0, 64) | 70 => some (0, 8) | 71 => some (0, 4) | 72 => some (0, 4) | 73 => some (0, 32) | 74 => some (0, 30) | 75 => some (0, 8) | 76 => some (0, 8) | 77 => some (0, 8)
  | _ => none
/-- arrays of references: the type's place, the length, the kind of the elements -/
def pf_ra (k : Nat) : Option (Nat × Nat × Nat) := match k with
  | 8 => some (2, 8, 11) | 21 => some (3, 4, 25) | _ => none
def pf_nf (ci : Nat) : Nat := match ci with
  | 0 => 3 | 1 => 3 | 2 => 10 | 3 => 10 | 4 => 3 | 5 => 8 | 6 => 5 | 7 => 3 | 8 => 2 | 9 => 7 | 10 => 10 | 11 => 4 | 12 => 50 | _ => 0
def pf_ad (G : pf_G) (k i : Nat) : Nat := G.2.2.1 + pf_off k i
def pf_cv (G : pf_G) (v : pf_V) : Value := match v with
  | .inl x => .int x
  | .inr (.inl x) => .long x
  | .inr (.inr (.inl (some q))) => .ref (pf_ad G q.1 q.2)
  | .inr (.inr (.inl none)) => .null
  | .inr (.inr (.inr _)) => .null
def pf_fv (k i j : Nat) (g : Nat → Int32) : pf_V := match pf_rs k i j with
  | some q => .inr (.inr (.inl (some q)))
  | none => pf_I (g j)
def pf_ty (G : pf_G) : List (ClassId × FieldType) := [(G.2.2.2.1.1, .int), (G.2.2.2.1.2.1, .char), (G.2.2.2.1.2.2.1, .object "PassingFrames$Device"), (G.2.2.2.1.2.2.2, .object "PassingFrames$Datagram")]
def pf_ct (G : pf_G) (t : Nat) : ClassId := ((pf_ty G).getD t (0, .int)).1
def pf_cx (G : pf_G) (k i : Nat) (g : Nat → Int32) : va_E := match pf_ci k with
  | some ci => .inr (ci, (List.range (pf_nf ci)).map fun j => pf_cv G (pf_fv k i j g))
  | none => match pf_ar k with
    | some q => .inl (pf_ct G q.1, q.2, .inl g)
    | none => match pf_ra k with
      | some q => .inl (pf_ct G q.1, q.2.1, .inr (.inr (.inr (.inr fun j => some (pf_ad G q.2.2 j)))))
      | none => .inl (pf_ct G 0, 0, .inl g)
def pf_fn (G : pf_G) (M : pf_M) (a : Nat) : va_E := pf_cx G (pf_dec G.2.2.2.2 (a - G.2.2.1)).1 (pf_dec G.2.2.2.2 (a - G.2.2.1)).2 (M (pf_dec G.2.2.2.2 (a - G.2.2.1)).1 (pf_dec G.2.2.2.2 (a - G.2.2.1)).2)
def pf_LL (G : pf_G) : List Nat := (List.range (pf_num G.2.2.2.2)).map fun o => G.2.2.1 + o
def pf_W (G : pf_G) (M : pf_M) : va_W := va_pl (pf_LL G) (pf_fn G M)
def pf_A (G : pf_G) : Nat → Prop := fun q => q ∈ pf_LL G
theorem pf_dec_off : ∀ k, k < 78 → ∀ i, i < 16 → i < pf_cnt k → pf_off k i < pf_num (pf_sys k) ∧ pf_dec (pf_sys k) (pf_off k i) = (k, i) := by decide +kernel
theorem pf_cnt_lt {k i : Nat} (h : i < pf_cnt k) : k < 78 ∧ i < 16 := by
  unfold pf_cnt at h
  split at h <;> try omega
  split at h <;> try omega
  split at h <;> try omega
  split at h <;> omega
theorem pf_off_dec : ∀ sy : Bool, ∀ o, o < pf_num sy → pf_off (pf_dec sy o).1 (pf_dec sy o).2 = o := by
  intro sy
  cases sy
  · exact fun o h => by revert o; decide +kernel
  · exact fun o h => by revert o; decide +kernel
theorem pf_mem {G : pf_G} {k i : Nat} (h : pf_ok G.2.2.2.2 k i) : pf_ad G k i ∈ pf_LL G ∧ pf_dec G.2.2.2.2 (pf_ad G k i - G.2.2.1) = (k, i) := by
  obtain ⟨h1, h2⟩ := h
  obtain ⟨h3, h4⟩ := pf_cnt_lt h1
  obtain ⟨h5, h6⟩ := pf_dec_off k h3 i h4 h1
  rw [h2] at h5 h6
  refine ⟨List.mem_map.mpr ⟨_, List.mem_range.mpr h5, rfl⟩, ?_⟩
  unfold pf_ad
  rw [Nat.add_sub_cancel_left]
  exact h6
theorem pf_fn_at {G : pf_G} {M : pf_M} {k i : Nat} (h : pf_ok G.2.2.2.2 k i) : pf_fn G M (pf_ad G k i) = pf_cx G k i (M k i) := by
  unfold pf_fn
  rw [(pf_mem h).2]
theorem pf_get {G : pf_G} {M : pf_M} {k i : Nat} (h : pf_ok G.2.2.2.2 k i) : ∃ p : Nat, (pf_W G M)[p]? = some (pf_ad G k i, pf_cx G k i (M k i)) := by
  obtain ⟨p, hp⟩ := va_pl_get (X := []) (f := pf_fn G M) (pf_mem h).1
  rw [pf_fn_at h] at hp
  exact ⟨p, hp⟩
theorem pf_nodup (G : pf_G) : (pf_LL G).Nodup := by
  unfold pf_LL
  exact List.Pairwise.map _ (fun a b h hh => h (Nat.add_left_cancel hh)) List.nodup_range
theorem pf_D (G : pf_G) (M : pf_M) : va_D (pf_A G) (pf_W G M) := by
  have hn := pf_nodup G
  have hw : ∀ (i : Nat) (p : Nat × va_E), (pf_W G M)[i]? = some p → (pf_LL G)[i]? = some p.1 := by
    intro i p h
    unfold pf_W va_pl at h
    rw [List.getElem?_map] at h
    cases hq : (pf_LL G)[i]? with
    | none => rw [hq] at h; cases h
    | some a => rw [hq] at h; cases h; rfl
  refine ⟨fun i j p q hi hj he => ?_, fun k q h => List.mem_of_getElem? (hw k q h)⟩
  have h1 := hw i p hi
  have h2 := hw j q hj
  rw [← he] at h2
  exact (List.getElem?_inj (List.getElem?_eq_some_iff.mp h1).1 hn).mp (h1.trans h2.symm)
theorem pf_set {G : pf_G} {M : pf_M} {k i p : Nat} (h : pf_ok G.2.2.2.2 k i) (hp : (pf_W G M)[p]? = some (pf_ad G k i, pf_cx G k i (M k i))) (g : Nat → Int32) : (pf_W G M).set p (pf_ad G k i, pf_cx G k i g) = pf_W G (pf_upf M k i g) := by
  have e := va_pl_set (X := []) (L := pf_LL G) (f := pf_fn G M) (k := p) (e := pf_cx G k i g) (pf_D G M) (pf_mem h).1 (by rw [pf_fn_at h]; exact hp)
  refine Eq.trans e ?_
  unfold pf_W va_pl
  refine List.map_congr_left fun a ha => ?_
  congr 1
  obtain ⟨o, ho, rfl⟩ := List.mem_map.mp ha
  have ho := List.mem_range.mp ho
  have hod := pf_off_dec G.2.2.2.2 o ho
  unfold va_up
  by_cases hc : G.2.2.1 + o = pf_ad G k i
  · rw [if_pos hc, hc, pf_fn_at h]
    unfold pf_upf
    rw [if_pos ⟨rfl, rfl⟩]
  · rw [if_neg hc]
    unfold pf_fn pf_upf
    rw [Nat.add_sub_cancel_left, if_neg]
    rintro ⟨h1, h2⟩
    apply hc
    unfold pf_ad
    rw [← h1, ← h2, hod]
