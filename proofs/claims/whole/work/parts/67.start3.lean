theorem sw_kn {s : State} {args : Array Value} {own : String} {idx ci N : Nat} {fs : List Value} (hts : ∀ w ∈ pf_tb, w.before args s = true) (h : pc_Nl own idx ci N fs) : ∃ r : ClassId × (Nat → Nat), ∀ q, vwCl[ci]? = some q → u_Kn s q.1 q.2.1 q.2.2 r.1 r.2 := by
  obtain ⟨C, T, ty, n1, n2, n3, n4, n5, n6, n7⟩ := h
  obtain ⟨cC, iS, hK⟩ := u_known hts n2 (hts _ n5)
  refine ⟨(cC, iS), fun q hq => ?_⟩
  rw [n1] at hq
  cases hq
  exact hK
theorem sw_all {s : State} {args : Array Value} (hts : ∀ w ∈ pf_tb, w.before args s = true) : ∃ D : va_G, ∀ (c : Nat) (q : vw_C), vwCl[c]? = some q → u_Kn s q.1 q.2.1 q.2.2 (D.1 c) (D.2 c) := by
  have h0 : ∀ ci : Nat, ∃ r : ClassId × (Nat → Nat), ∀ q, vwCl[ci]? = some q → u_Kn s q.1 q.2.1 q.2.2 r.1 r.2 := by
    intro ci
    by_cases hc : ci < 13
    · rcases (show ci = 0 ∨ ci = 1 ∨ ci = 2 ∨ ci = 3 ∨ ci = 4 ∨ ci = 5 ∨ ci = 6 ∨ ci = 7 ∨ ci = 8 ∨ ci = 9 ∨ ci = 10 ∨ ci = 11 ∨ ci = 12 by omega) with rfl | rfl | rfl | rfl | rfl | rfl | rfl | rfl | rfl | rfl | rfl | rfl | rfl
      · exact sw_kn hts nl_X2_15
      · exact sw_kn hts nl_X11_23
      · exact sw_kn hts nl_X6_9
      · exact sw_kn hts nl_X9_9
      · exact sw_kn hts nl_X6_17
      · exact sw_kn hts nl_X3_25
      · exact sw_kn hts nl_X11_32
      · exact sw_kn hts nl_X3_15
      · exact sw_kn hts nl_X5_9
      · exact sw_kn hts nl_X11_16
      · exact sw_kn hts nl_X11_7
      · exact sw_kn hts nl_L_7
      · exact sw_kn hts nl_L_10
    · refine ⟨(0, fun _ => 0), fun q hq => ?_⟩
      have hl := (List.getElem?_eq_some_iff.mp hq).1
      have : vwCl.length = 13 := rfl
      omega
  obtain ⟨f, hf⟩ := Classical.axiomOfChoice h0
  exact ⟨(fun c => (f c).1, fun c => (f c).2), fun c q hq => hf c q hq⟩
theorem sw_arr {s : State} {args : Array Value} {ty : FieldType} (h : (Cond.arrayClass ty).before args s = true) : ∃ cA, ArrOfT s cA ty ∧ s.vm.findClass ("[" ++ ty.toString) = some cA := by
  obtain ⟨cA, kA, comp, h1, h2, h3⟩ := Cond.arrayClass_spec h
  exact ⟨cA, fun n z => ⟨fun k h => (by cases h), kA, h2, comp, h3⟩, h1⟩
theorem sw_arq {s : State} {args : Array Value} {C : String} (h : (Cond.arrayOver (.object C)).before args s = true) : ∃ cA, ArrOfT s cA (.object C) ∧ va_RA s cA (.object C) := by
  obtain ⟨comp, cA, kA, h1, h2, h3, h4, h5⟩ := Cond.arrayOver_spec h
  exact ⟨cA, fun n z => ⟨fun k h => (by cases h), kA, h3, comp, h4⟩, kA, comp, h3, h4, h1, h5⟩
theorem sw_K {s : State} {args : Array Value} (hts : ∀ w ∈ lw_tbl, w.before args s = true) : ∃ (D : va_G) (t : ClassId × ClassId × ClassId × ClassId), ∀ (l : Launch) (g : Nat) (sy : Bool), va_K D vwCl (pf_ty (l, D, g, t, sy)) s := by
  have htb : ∀ w ∈ pf_tb, w.before args s = true := fun w hw => hts w (List.mem_filter.mp hw).1
  obtain ⟨D, hD⟩ := sw_all htb
  obtain ⟨c0, a0, b0⟩ := sw_arr (htb _ ac_int)
  obtain ⟨c1, a1, b1⟩ := sw_arr (htb _ ac_char)
  obtain ⟨c2, a2, b2⟩ := sw_arq (hts (Cond.arrayOver (.object "PassingFrames$Device")) (List.mem_of_getElem? (i := 150) (by decide +kernel)))
  obtain ⟨c3, a3, b3⟩ := sw_arq (hts (Cond.arrayOver (.object "PassingFrames$Datagram")) (List.mem_of_getElem? (i := 316) (by decide +kernel)))
  refine ⟨D, (c0, c1, c2, c3), fun l g sy => ⟨hD, fun k q hk => ?_⟩⟩
  have hk : ([(c0, .int), (c1, .char), (c2, .object "PassingFrames$Device"), (c3, .object "PassingFrames$Datagram")] : List (ClassId × FieldType))[k]? = some q := hk
  rcases k with _ | _ | _ | _ | k
  · cases hk; exact ⟨a0, b0⟩
  · cases hk; exact ⟨a1, b1⟩
  · cases hk; exact ⟨a2, b2⟩
  · cases hk; exact ⟨a3, b3⟩
  · simp at hk
theorem sw_N {s : State} {args : Array Value} (hts : ∀ w ∈ lw_tbl, w.before args s = true) : pf_NW s := by
  intro w hw
  obtain ⟨h1, h2⟩ := List.mem_filter.mp hw
  refine va_Nw.of ?_ (hts w h1)
  cases w <;> first | rfl | cases h2
/-- what the Statement gives of the String constant -/
theorem sw_S {s : State} {b : Nat} {A : Nat → Prop} (hts : ∀ w ∈ lw_tbl, w.before #[Value.ref b] s = true) (hgv : (Jvm.Cond.and given_1 narrow_1).before #[Value.ref b] s = true) (hA : ∀ a : Nat, a < s.heap.size → ¬ A a) : ∃ adK adV : Nat → Nat, ps_SA A adK adV s s.heap ∧ vk_R RX11 39 ps_tx (adK 0) s := by
  have hs := flat_of_before _ hgv
  have i0 : ∀ i : Nat, i < 1 → i = 0 := fun i hi => by omega
  have e1 : ∀ j, j < 41 → Cond.eq (.elem (.field (.string "PassingFrames" 39) "java/lang/String" "value" "[B") (.int (Int32.ofNat j))) (.int (ps_b.getD j 0)) ∈ flatC (Jvm.Cond.and given_1 narrow_1) := by decide +kernel
  obtain ⟨adK, adV, h1, h2⟩ := vk_Sof (args := #[Value.ref b]) (s := s) (N := 1) (tm := fun _ => Term.string "PassingFrames" 39) (len := [41]) (byt := [ps_b]) (A := A)
    (fun i hi => by rw [i0 i hi]; decide)
    (fun i hi => hs _ (by decide +kernel))
    (fun i hi => hs _ (by decide +kernel))
    (fun i hi => hs _ (by decide +kernel))
    (fun i hi => by rw [i0 i hi]; exact hs (Cond.eq (.length (.field (.string "PassingFrames" 39) "java/lang/String" "value" "[B")) (.int 41)) (by decide +kernel))
    (fun i hi j hj => by rw [i0 i hi] at hj ⊢; exact hs _ (e1 j hj))
    (fun i j hi hj hne => absurd ((i0 i hi).trans (i0 j hj).symm) hne)
    hA
  refine ⟨adK, adV, ⟨h1, ?_, ?_⟩, vk_R.of (hts (Cond.stringRef "PassingFrames" 39 "d1130005;d2250204;d3341003;d0720504;e432;") (List.mem_of_getElem? (i := 413) (by decide +kernel))) (h2 0 (by decide))⟩
  · exact va_Zof (hts (Cond.laysStatic "java/lang/String" "COMPACT_STRINGS" "Z") (List.mem_of_getElem? (i := 423) (by decide +kernel))) (hts (Cond.initialized "java/lang/String") (List.mem_of_getElem? (i := 80) (by decide +kernel))) (va_eqt (hs _ (by decide +kernel))) hA
  · exact va_Zqof (hts (Cond.laysStatic "jdk/internal/util/Preconditions" "SIOOBE_FORMATTER" "Ljava/util/function/BiFunction;") (List.mem_of_getElem? (i := 439) (by decide +kernel))) (hts (Cond.initialized "jdk/internal/util/Preconditions") (List.mem_of_getElem? (i := 82) (by decide +kernel))) (hs _ (by decide +kernel)) hA
