section
variable {l : Launch} {p : Program} {e : Env} {s : State} {m : MethodId} {below : List Frame} {meth : Method} {c : Code} {b L g g2 k : Nat} {xs : Nat → Int32} {D : va_G} {t : ClassId × ClassId × ClassId × ClassId} {X Y : pf_M}
def lw_A (s : State) : Nat → Prop := fun q => s.heap.size ≤ q
def lw_Fx (l : Launch) (p : Program) (s : State) (m : MethodId) (c : Code) (b L : Nat) (xs : Nat → Int32) (D : va_G) (t : ClassId × ClassId × ClassId × ClassId) (g g2 : Nat) : Prop := pf_Fix (gC l D g t) p s m #[.ref b] c cL_law RL 4 ∧ pf_Fix (gM l D g2 t) p s m #[.ref b] c cL_law RL 4 ∧ va_X b L xs s s.heap ∧ b < s.heap.size ∧ s.heap.size ≤ g ∧ g + 127 ≤ g2 ∧ L ≤ 3072
def lw_St (l : Launch) (p : Program) (e : Env) (s : State) (m : MethodId) (below : List Frame) (meth : Method) (c : Code) (b : Nat) (D : va_G) (t : ClassId × ClassId × ClassId × ClassId) (g g2 pc : Nat) (X Y : pf_M) (k : Nat) : Prop :=
  ∀ (H : Heap) (ls : Array Slot), va_P D vwCl (pf_W (gC l D g t) X) H → va_P D vwCl (pf_W (gM l D g2 t) Y) H → va_S (lw_A s) s.heap H [] → lv_has ls 4 [(3, .int (nI (6 * k))), (2, .ref (pf_ad (gM l D g2 t) 40 0)), (1, .ref (pf_ad (gC l D g t) 0 0)), (0, .ref b)] →
    W p l e room_1 s m #[.ref b] below meth c H [] 165 1861 (lw_Z below #[.ref b] s) (F0 m pc ls [])
theorem lw_okC : pf_ok (gC l D g t).2.2.2.2 0 0 := ⟨by decide, rfl⟩
theorem lw_okM : pf_ok (gM l D g2 t).2.2.2.2 40 0 := ⟨by decide, rfl⟩
theorem lw_okI {G : pf_G} : ∀ (xs : List Int32), ∀ w ∈ xs.map pf_I, pf_okv G w := by
  intro xs w hw
  obtain ⟨x, -, rfl⟩ := List.mem_map.mp hw
  trivial
theorem lw_inC {q : Nat} (h : pf_A (gC l D g t) q) : g ≤ q ∧ q < g + 127 := by
  obtain ⟨o, ho, rfl⟩ := List.mem_map.mp h
  have ho : o < 127 := List.mem_range.mp ho
  have e : (gC l D g t).2.2.1 + o = g + o := rfl
  omega
theorem lw_inM {q : Nat} (h : pf_A (gM l D g2 t) q) : g2 ≤ q := by
  obtain ⟨o, ho, rfl⟩ := List.mem_map.mp h
  exact Nat.le_add_right _ _
theorem lw_AC (Fx : lw_Fx l p s m c b L xs D t g g2) : ∀ q, pf_A (gC l D g t) q → lw_A s q := fun q h => by
  have h1 := (lw_inC h).1
  have h2 := Fx.2.2.2.2.1
  show s.heap.size ≤ q
  omega
theorem lw_AC2 (Fx : lw_Fx l p s m c b L xs D t g g2) : ∀ q, pf_A (gM l D g2 t) q → lw_A s q := fun q h => by
  have h1 := lw_inM h
  have h2 := Fx.2.2.2.2.1
  have h3 := Fx.2.2.2.2.2.1
  show s.heap.size ≤ q
  omega
theorem lw_keepM {H H1 : Heap} {M : pf_M} (Fx : lw_Fx l p s m c b L xs D t g g2) (hQ : va_P D vwCl (pf_W (gM l D g2 t) M) H) (hk : ∀ q : Nat, q < H.size → ¬ pf_A (gC l D g t) q → H1[q]? = H[q]?) : va_P D vwCl (pf_W (gM l D g2 t) M) H1 := by
  refine hQ.kept (fun i q hq => hk q.1 (hQ i q hq).lt (fun w => ?_))
  have h1 := lw_inM ((pf_D (gM l D g2 t) M).2 i q hq)
  have h2 := lw_inC w
  have h3 := Fx.2.2.2.2.2.1
  omega
theorem lw_keepC {H H1 : Heap} {M : pf_M} (Fx : lw_Fx l p s m c b L xs D t g g2) (hP : va_P D vwCl (pf_W (gC l D g t) M) H) (hk : ∀ q : Nat, q < H.size → ¬ pf_A (gM l D g2 t) q → H1[q]? = H[q]?) : va_P D vwCl (pf_W (gC l D g t) M) H1 := by
  refine hP.kept (fun i q hq => hk q.1 (hP i q hq).lt (fun w => ?_))
  have h1 := lw_inC ((pf_D (gC l D g t) M).2 i q hq)
  have h2 := lw_inM w
  have h3 := Fx.2.2.2.2.2.1
  omega
theorem lw_arg {H : Heap} {ls : Array Slot} {rest : List Value} {cells slots pc j : Nat} {jz : Int} {Q : State → Prop} {v1 v2 : Value} (Fx : lw_Fx l p s m c b L xs D t g g2) (hS : va_S (lw_A s) s.heap H []) (hl : lv_has ls 4 [(3, .int (nI (6 * k))), (2, v2), (1, v1), (0, .ref b)]) (hj : 6 * k + j < L) (hjz : Int32.ofInt jz = nI j) (d1 : decode cL_law pc = .ok (.aload_n 0, 1)) (d2 : decode cL_law (pc + 1) = .ok (.iload_n 3, 1)) (d3 : decode cL_law (pc + 2) = .ok (.iconst jz, 1)) (d4 : decode cL_law (pc + 3) = .ok (.iadd, 1)) (d5 : decode cL_law (pc + 4) = .ok (.iaload, 1))
    (kk : W p l e room_1 s m #[.ref b] below meth c H [] cells slots Q (F0 m (pc + 5) ls (.int (xs (6 * k + j)) :: rest))) : W p l e room_1 s m #[.ref b] below meth c H [] cells slots Q (F0 m pc ls rest) := by
  obtain ⟨FC, FM, hX, hbl, hg, hg2, hL⟩ := id Fx
  have hx := FC.1
  have hb := FC.2.1
  refine lv_aload_n hx hb d1 rfl (lv_at hl 3 rfl) ?_
  refine lv_iload_n hx hb d2 rfl (lv_at hl 0 rfl) ?_
  refine lv_iconst hx hb d3 hjz ?_
  refine lv_iadd hx hb d4 ?_
  rw [nI_add]
  refine va_sld hx hb hX hbl (show ¬ s.heap.size ≤ b by omega) hS (vp_in_nI hj (by omega)) d5 ?_
  rw [si_cl (by omega)]
  exact kk
set_option maxHeartbeats 1000000 in
set_option maxRecDepth 100000 in
theorem lw_c_write (Fx : lw_Fx l p s m c b L xs D t g g2) (h6 : 6 * k + 6 ≤ L) (hR : sRR X Y k) (hk : k ≤ 512) (kk : ∀ X2 Y2, sRR X2 Y2 (k + 1) → lw_St l p e s m below meth c b D t g g2 1065 X2 Y2 k) : lw_St l p e s m below meth c b D t g g2 172 X Y k := by
  intro H ls hP hQ hS hl
  obtain ⟨FC, FM, hX, hbl, hg, hg2, hL⟩ := id Fx
  have hx := FC.1
  have hb := FC.2.1
  obtain ⟨r, X2, Y2, m1, m2, hR2⟩ := lc_write (gC l D g t) (gM l D g2 t) hR hk (xs (6 * k + 1))
  refine lv_aload_n hx hb dL_law_172 rfl (lv_at hl 2 rfl) ?_
  refine lw_arg (j := 1) Fx hS hl (by omega) rfl dL_law_173 dL_law_174 dL_law_175 dL_law_176 dL_law_177 ?_
  refine pd_callV (kd := 0) (i := 0) (as := [pf_I (xs (6 * k + 1))]) (rest := []) FC rfl lk_L_13 (Nat.le_of_ble_eq_true rfl) (Nat.le_of_ble_eq_true rfl) m1 lw_okC (lw_okI [(xs (6 * k + 1))]) hP (lw_AC Fx) hS hl.1 (Nat.le_of_ble_eq_true rfl) (Nat.le_of_ble_eq_true rfl) (Nat.le_of_ble_eq_true rfl) rfl dL_law_178 (fun H1 locs hP1 hz hkk hS1 => ?_)
  refine va_forget (fun q hq => hS1.2.2 q hq) ?_
  have hS : va_S (lw_A s) s.heap H1 [] := ⟨hS1.1, hS1.2.1, fun _ h => by cases h⟩
  have hQ := lw_keepM Fx hQ hkk
  have hP := hP1
  refine W.eq (g2 := F0 m 181 ls [.int r]) rfl ?_
  refine lv_aload_n hx hb dL_law_181 rfl (lv_at hl 1 rfl) ?_
  refine lw_arg (j := 1) Fx hS hl (by omega) rfl dL_law_182 dL_law_183 dL_law_184 dL_law_185 dL_law_186 ?_
  refine pd_callV (kd := 40) (i := 0) (as := [pf_I (xs (6 * k + 1))]) (rest := [.int r]) FM rfl lk_L_17 (Nat.le_of_ble_eq_true rfl) (Nat.le_of_ble_eq_true rfl) m2 lw_okM (lw_okI [(xs (6 * k + 1))]) hQ (lw_AC2 Fx) hS hl.1 (Nat.le_of_ble_eq_true rfl) (Nat.le_of_ble_eq_true rfl) (Nat.le_of_ble_eq_true rfl) rfl dL_law_187 (fun H2 locs hQ1 hz hkk hS1 => ?_)
  refine va_forget (fun q hq => hS1.2.2 q hq) ?_
  have hS : va_S (lw_A s) s.heap H2 [] := ⟨hS1.1, hS1.2.1, fun _ h => by cases h⟩
  have hP := lw_keepC Fx hP hkk
  have hQ := hQ1
  refine W.eq (g2 := F0 m 190 ls [.int r, .int r]) rfl ?_
  refine lv_icmp_eq (tgt := 1065) hx hb dL_law_190 (by decide) (fun _ => ?_) (fun h => absurd rfl h)
  exact kk X2 Y2 hR2 H2 ls hP hQ hS hl
set_option maxHeartbeats 1000000 in
set_option maxRecDepth 100000 in
theorem lw_c_wipe (Fx : lw_Fx l p s m c b L xs D t g g2) (h6 : 6 * k + 6 ≤ L) (hR : sRR X Y k) (hk : k ≤ 512) (kk : ∀ X2 Y2, sRR X2 Y2 (k + 1) → lw_St l p e s m below meth c b D t g g2 1065 X2 Y2 k) : lw_St l p e s m below meth c b D t g g2 195 X Y k := by
  intro H ls hP hQ hS hl
  obtain ⟨FC, FM, hX, hbl, hg, hg2, hL⟩ := id Fx
  have hx := FC.1
  have hb := FC.2.1
  obtain ⟨r, X2, Y2, m1, m2, hR2⟩ := lc_wipe (gC l D g t) (gM l D g2 t) hR hk
  refine lv_aload_n hx hb dL_law_195 rfl (lv_at hl 2 rfl) ?_
  refine pd_callV (kd := 0) (i := 0) (as := []) (rest := []) FC rfl lk_L_18 (Nat.le_of_ble_eq_true rfl) (Nat.le_of_ble_eq_true rfl) m1 lw_okC (lw_okI []) hP (lw_AC Fx) hS hl.1 (Nat.le_of_ble_eq_true rfl) (Nat.le_of_ble_eq_true rfl) (Nat.le_of_ble_eq_true rfl) rfl dL_law_196 (fun H1 locs hP1 hz hkk hS1 => ?_)
  refine va_forget (fun q hq => hS1.2.2 q hq) ?_
  have hS : va_S (lw_A s) s.heap H1 [] := ⟨hS1.1, hS1.2.1, fun _ h => by cases h⟩
  have hQ := lw_keepM Fx hQ hkk
  have hP := hP1
  refine W.eq (g2 := F0 m 199 ls [.int r]) rfl ?_
  refine lv_aload_n hx hb dL_law_199 rfl (lv_at hl 1 rfl) ?_
  refine pd_callV (kd := 40) (i := 0) (as := []) (rest := [.int r]) FM rfl lk_L_22 (Nat.le_of_ble_eq_true rfl) (Nat.le_of_ble_eq_true rfl) m2 lw_okM (lw_okI []) hQ (lw_AC2 Fx) hS hl.1 (Nat.le_of_ble_eq_true rfl) (Nat.le_of_ble_eq_true rfl) (Nat.le_of_ble_eq_true rfl) rfl dL_law_200 (fun H2 locs hQ1 hz hkk hS1 => ?_)
  refine va_forget (fun q hq => hS1.2.2 q hq) ?_
  have hS : va_S (lw_A s) s.heap H2 [] := ⟨hS1.1, hS1.2.1, fun _ h => by cases h⟩
  have hP := lw_keepC Fx hP hkk
  have hQ := hQ1
  refine W.eq (g2 := F0 m 203 ls [.int r, .int r]) rfl ?_
  refine lv_icmp_eq (tgt := 1065) hx hb dL_law_203 (by decide) (fun _ => ?_) (fun h => absurd rfl h)
  exact kk X2 Y2 hR2 H2 ls hP hQ hS hl
set_option maxHeartbeats 1000000 in
set_option maxRecDepth 100000 in
theorem lw_c_fault (Fx : lw_Fx l p s m c b L xs D t g g2) (h6 : 6 * k + 6 ≤ L) (hR : sRR X Y k) (hk : k ≤ 512) (kk : ∀ X2 Y2, sRR X2 Y2 (k + 1) → lw_St l p e s m below meth c b D t g g2 1065 X2 Y2 k) : lw_St l p e s m below meth c b D t g g2 208 X Y k := by
  intro H ls hP hQ hS hl
  obtain ⟨FC, FM, hX, hbl, hg, hg2, hL⟩ := id Fx
  have hx := FC.1
  have hb := FC.2.1
  obtain ⟨r, X2, Y2, m1, m2, hR2⟩ := lc_fault (gC l D g t) (gM l D g2 t) hR hk
  refine lv_aload_n hx hb dL_law_208 rfl (lv_at hl 2 rfl) ?_
  refine pd_callV (kd := 0) (i := 0) (as := []) (rest := []) FC rfl lk_L_23 (Nat.le_of_ble_eq_true rfl) (Nat.le_of_ble_eq_true rfl) m1 lw_okC (lw_okI []) hP (lw_AC Fx) hS hl.1 (Nat.le_of_ble_eq_true rfl) (Nat.le_of_ble_eq_true rfl) (Nat.le_of_ble_eq_true rfl) rfl dL_law_209 (fun H1 locs hP1 hz hkk hS1 => ?_)
  refine va_forget (fun q hq => hS1.2.2 q hq) ?_
  have hS : va_S (lw_A s) s.heap H1 [] := ⟨hS1.1, hS1.2.1, fun _ h => by cases h⟩
  have hQ := lw_keepM Fx hQ hkk
  have hP := hP1
  refine W.eq (g2 := F0 m 212 ls [.int r]) rfl ?_
  refine lv_aload_n hx hb dL_law_212 rfl (lv_at hl 1 rfl) ?_
  refine pd_callV (kd := 40) (i := 0) (as := []) (rest := [.int r]) FM rfl lk_L_26 (Nat.le_of_ble_eq_true rfl) (Nat.le_of_ble_eq_true rfl) m2 lw_okM (lw_okI []) hQ (lw_AC2 Fx) hS hl.1 (Nat.le_of_ble_eq_true rfl) (Nat.le_of_ble_eq_true rfl) (Nat.le_of_ble_eq_true rfl) rfl dL_law_213 (fun H2 locs hQ1 hz hkk hS1 => ?_)
  refine va_forget (fun q hq => hS1.2.2 q hq) ?_
  have hS : va_S (lw_A s) s.heap H2 [] := ⟨hS1.1, hS1.2.1, fun _ h => by cases h⟩
  have hP := lw_keepC Fx hP hkk
  have hQ := hQ1
  refine W.eq (g2 := F0 m 216 ls [.int r, .int r]) rfl ?_
  refine lv_icmp_eq (tgt := 1065) hx hb dL_law_216 (by decide) (fun _ => ?_) (fun h => absurd rfl h)
  exact kk X2 Y2 hR2 H2 ls hP hQ hS hl
set_option maxHeartbeats 1000000 in
set_option maxRecDepth 100000 in
theorem lw_c_lay (Fx : lw_Fx l p s m c b L xs D t g g2) (h6 : 6 * k + 6 ≤ L) (hR : sRR X Y k) (hk : k ≤ 512) (kk : ∀ X2 Y2, sRR X2 Y2 (k + 1) → lw_St l p e s m below meth c b D t g g2 1065 X2 Y2 k) : lw_St l p e s m below meth c b D t g g2 221 X Y k := by
  intro H ls hP hQ hS hl
  obtain ⟨FC, FM, hX, hbl, hg, hg2, hL⟩ := id Fx
  have hx := FC.1
  have hb := FC.2.1
  obtain ⟨r, X2, Y2, m1, m2, hR2⟩ := lc_lay (gC l D g t) (gM l D g2 t) hR hk
  refine lv_aload_n hx hb dL_law_221 rfl (lv_at hl 2 rfl) ?_
  refine pd_callV (kd := 0) (i := 0) (as := []) (rest := []) FC rfl lk_L_27 (Nat.le_of_ble_eq_true rfl) (Nat.le_of_ble_eq_true rfl) m1 lw_okC (lw_okI []) hP (lw_AC Fx) hS hl.1 (Nat.le_of_ble_eq_true rfl) (Nat.le_of_ble_eq_true rfl) (Nat.le_of_ble_eq_true rfl) rfl dL_law_222 (fun H1 locs hP1 hz hkk hS1 => ?_)
  refine va_forget (fun q hq => hS1.2.2 q hq) ?_
  have hS : va_S (lw_A s) s.heap H1 [] := ⟨hS1.1, hS1.2.1, fun _ h => by cases h⟩
  have hQ := lw_keepM Fx hQ hkk
  have hP := hP1
  refine W.eq (g2 := F0 m 225 ls [.int r]) rfl ?_
  refine lv_aload_n hx hb dL_law_225 rfl (lv_at hl 1 rfl) ?_
  refine pd_callV (kd := 40) (i := 0) (as := []) (rest := [.int r]) FM rfl lk_L_30 (Nat.le_of_ble_eq_true rfl) (Nat.le_of_ble_eq_true rfl) m2 lw_okM (lw_okI []) hQ (lw_AC2 Fx) hS hl.1 (Nat.le_of_ble_eq_true rfl) (Nat.le_of_ble_eq_true rfl) (Nat.le_of_ble_eq_true rfl) rfl dL_law_226 (fun H2 locs hQ1 hz hkk hS1 => ?_)
  refine va_forget (fun q hq => hS1.2.2 q hq) ?_
  have hS : va_S (lw_A s) s.heap H2 [] := ⟨hS1.1, hS1.2.1, fun _ h => by cases h⟩
  have hP := lw_keepC Fx hP hkk
  have hQ := hQ1
  refine W.eq (g2 := F0 m 229 ls [.int r, .int r]) rfl ?_
  refine lv_icmp_eq (tgt := 1065) hx hb dL_law_229 (by decide) (fun _ => ?_) (fun h => absurd rfl h)
  exact kk X2 Y2 hR2 H2 ls hP hQ hS hl
set_option maxHeartbeats 1000000 in
set_option maxRecDepth 100000 in
theorem lw_c_device (Fx : lw_Fx l p s m c b L xs D t g g2) (h6 : 6 * k + 6 ≤ L) (hR : sRR X Y k) (hk : k ≤ 512) (kk : ∀ X2 Y2, sRR X2 Y2 (k + 1) → lw_St l p e s m below meth c b D t g g2 1065 X2 Y2 k) : lw_St l p e s m below meth c b D t g g2 234 X Y k := by
  intro H ls hP hQ hS hl
  obtain ⟨FC, FM, hX, hbl, hg, hg2, hL⟩ := id Fx
  have hx := FC.1
  have hb := FC.2.1
  obtain ⟨r, X2, Y2, m1, m2, hR2⟩ := lc_device (gC l D g t) (gM l D g2 t) hR hk (xs (6 * k + 1)) (xs (6 * k + 2))
  refine lv_aload_n hx hb dL_law_234 rfl (lv_at hl 2 rfl) ?_
  refine lw_arg (j := 1) Fx hS hl (by omega) rfl dL_law_235 dL_law_236 dL_law_237 dL_law_238 dL_law_239 ?_
  refine lw_arg (j := 2) Fx hS hl (by omega) rfl dL_law_240 dL_law_241 dL_law_242 dL_law_243 dL_law_244 ?_
  refine pd_callV (kd := 0) (i := 0) (as := [pf_I (xs (6 * k + 1)), pf_I (xs (6 * k + 2))]) (rest := []) FC rfl lk_L_31 (Nat.le_of_ble_eq_true rfl) (Nat.le_of_ble_eq_true rfl) m1 lw_okC (lw_okI [(xs (6 * k + 1)), (xs (6 * k + 2))]) hP (lw_AC Fx) hS hl.1 (Nat.le_of_ble_eq_true rfl) (Nat.le_of_ble_eq_true rfl) (Nat.le_of_ble_eq_true rfl) rfl dL_law_245 (fun H1 locs hP1 hz hkk hS1 => ?_)
  refine va_forget (fun q hq => hS1.2.2 q hq) ?_
  have hS : va_S (lw_A s) s.heap H1 [] := ⟨hS1.1, hS1.2.1, fun _ h => by cases h⟩
  have hQ := lw_keepM Fx hQ hkk
  have hP := hP1
  refine W.eq (g2 := F0 m 248 ls [.int r]) rfl ?_
  refine lv_aload_n hx hb dL_law_248 rfl (lv_at hl 1 rfl) ?_
  refine lw_arg (j := 1) Fx hS hl (by omega) rfl dL_law_249 dL_law_250 dL_law_251 dL_law_252 dL_law_253 ?_
  refine lw_arg (j := 2) Fx hS hl (by omega) rfl dL_law_254 dL_law_255 dL_law_256 dL_law_257 dL_law_258 ?_
  refine pd_callV (kd := 40) (i := 0) (as := [pf_I (xs (6 * k + 1)), pf_I (xs (6 * k + 2))]) (rest := [.int r]) FM rfl lk_L_35 (Nat.le_of_ble_eq_true rfl) (Nat.le_of_ble_eq_true rfl) m2 lw_okM (lw_okI [(xs (6 * k + 1)), (xs (6 * k + 2))]) hQ (lw_AC2 Fx) hS hl.1 (Nat.le_of_ble_eq_true rfl) (Nat.le_of_ble_eq_true rfl) (Nat.le_of_ble_eq_true rfl) rfl dL_law_259 (fun H2 locs hQ1 hz hkk hS1 => ?_)
  refine va_forget (fun q hq => hS1.2.2 q hq) ?_
  have hS : va_S (lw_A s) s.heap H2 [] := ⟨hS1.1, hS1.2.1, fun _ h => by cases h⟩
  have hP := lw_keepC Fx hP hkk
  have hQ := hQ1
  refine W.eq (g2 := F0 m 262 ls [.int r, .int r]) rfl ?_
  refine lv_icmp_eq (tgt := 1065) hx hb dL_law_262 (by decide) (fun _ => ?_) (fun h => absurd rfl h)
  exact kk X2 Y2 hR2 H2 ls hP hQ hS hl
set_option maxHeartbeats 1000000 in
set_option maxRecDepth 100000 in
theorem lw_c_memory (Fx : lw_Fx l p s m c b L xs D t g g2) (h6 : 6 * k + 6 ≤ L) (hR : sRR X Y k) (hk : k ≤ 512) (kk : ∀ X2 Y2, sRR X2 Y2 (k + 1) → lw_St l p e s m below meth c b D t g g2 1065 X2 Y2 k) : lw_St l p e s m below meth c b D t g g2 267 X Y k := by
  intro H ls hP hQ hS hl
  obtain ⟨FC, FM, hX, hbl, hg, hg2, hL⟩ := id Fx
  have hx := FC.1
  have hb := FC.2.1
  obtain ⟨r, X2, Y2, m1, m2, hR2⟩ := lc_memory (gC l D g t) (gM l D g2 t) hR hk (xs (6 * k + 1)) (xs (6 * k + 2))
  refine lv_aload_n hx hb dL_law_267 rfl (lv_at hl 2 rfl) ?_
  refine lw_arg (j := 1) Fx hS hl (by omega) rfl dL_law_268 dL_law_269 dL_law_270 dL_law_271 dL_law_272 ?_
  refine lw_arg (j := 2) Fx hS hl (by omega) rfl dL_law_273 dL_law_274 dL_law_275 dL_law_276 dL_law_277 ?_
  refine pd_callV (kd := 0) (i := 0) (as := [pf_I (xs (6 * k + 1)), pf_I (xs (6 * k + 2))]) (rest := []) FC rfl lk_L_36 (Nat.le_of_ble_eq_true rfl) (Nat.le_of_ble_eq_true rfl) m1 lw_okC (lw_okI [(xs (6 * k + 1)), (xs (6 * k + 2))]) hP (lw_AC Fx) hS hl.1 (Nat.le_of_ble_eq_true rfl) (Nat.le_of_ble_eq_true rfl) (Nat.le_of_ble_eq_true rfl) rfl dL_law_278 (fun H1 locs hP1 hz hkk hS1 => ?_)
  refine va_forget (fun q hq => hS1.2.2 q hq) ?_
  have hS : va_S (lw_A s) s.heap H1 [] := ⟨hS1.1, hS1.2.1, fun _ h => by cases h⟩
  have hQ := lw_keepM Fx hQ hkk
  have hP := hP1
  refine W.eq (g2 := F0 m 281 ls [.int r]) rfl ?_
  refine lv_aload_n hx hb dL_law_281 rfl (lv_at hl 1 rfl) ?_
  refine lw_arg (j := 1) Fx hS hl (by omega) rfl dL_law_282 dL_law_283 dL_law_284 dL_law_285 dL_law_286 ?_
  refine lw_arg (j := 2) Fx hS hl (by omega) rfl dL_law_287 dL_law_288 dL_law_289 dL_law_290 dL_law_291 ?_
  refine pd_callV (kd := 40) (i := 0) (as := [pf_I (xs (6 * k + 1)), pf_I (xs (6 * k + 2))]) (rest := [.int r]) FM rfl lk_L_39 (Nat.le_of_ble_eq_true rfl) (Nat.le_of_ble_eq_true rfl) m2 lw_okM (lw_okI [(xs (6 * k + 1)), (xs (6 * k + 2))]) hQ (lw_AC2 Fx) hS hl.1 (Nat.le_of_ble_eq_true rfl) (Nat.le_of_ble_eq_true rfl) (Nat.le_of_ble_eq_true rfl) rfl dL_law_292 (fun H2 locs hQ1 hz hkk hS1 => ?_)
  refine va_forget (fun q hq => hS1.2.2 q hq) ?_
  have hS : va_S (lw_A s) s.heap H2 [] := ⟨hS1.1, hS1.2.1, fun _ h => by cases h⟩
  have hP := lw_keepC Fx hP hkk
  have hQ := hQ1
  refine W.eq (g2 := F0 m 295 ls [.int r, .int r]) rfl ?_
  refine lv_icmp_eq (tgt := 1065) hx hb dL_law_295 (by decide) (fun _ => ?_) (fun h => absurd rfl h)
  exact kk X2 Y2 hR2 H2 ls hP hQ hS hl
set_option maxHeartbeats 1000000 in
set_option maxRecDepth 100000 in
theorem lw_c_own (Fx : lw_Fx l p s m c b L xs D t g g2) (h6 : 6 * k + 6 ≤ L) (hR : sRR X Y k) (hk : k ≤ 512) (kk : ∀ X2 Y2, sRR X2 Y2 (k + 1) → lw_St l p e s m below meth c b D t g g2 1065 X2 Y2 k) : lw_St l p e s m below meth c b D t g g2 300 X Y k := by
  intro H ls hP hQ hS hl
  obtain ⟨FC, FM, hX, hbl, hg, hg2, hL⟩ := id Fx
  have hx := FC.1
  have hb := FC.2.1
  obtain ⟨r, X2, Y2, m1, m2, hR2⟩ := lc_own (gC l D g t) (gM l D g2 t) hR hk (xs (6 * k + 1)) (xs (6 * k + 2)) (xs (6 * k + 3))
  refine lv_aload_n hx hb dL_law_300 rfl (lv_at hl 2 rfl) ?_
  refine lw_arg (j := 1) Fx hS hl (by omega) rfl dL_law_301 dL_law_302 dL_law_303 dL_law_304 dL_law_305 ?_
  refine lw_arg (j := 2) Fx hS hl (by omega) rfl dL_law_306 dL_law_307 dL_law_308 dL_law_309 dL_law_310 ?_
  refine lw_arg (j := 3) Fx hS hl (by omega) rfl dL_law_311 dL_law_312 dL_law_313 dL_law_314 dL_law_315 ?_
  refine pd_callV (kd := 0) (i := 0) (as := [pf_I (xs (6 * k + 1)), pf_I (xs (6 * k + 2)), pf_I (xs (6 * k + 3))]) (rest := []) FC rfl lk_L_40 (Nat.le_of_ble_eq_true rfl) (Nat.le_of_ble_eq_true rfl) m1 lw_okC (lw_okI [(xs (6 * k + 1)), (xs (6 * k + 2)), (xs (6 * k + 3))]) hP (lw_AC Fx) hS hl.1 (Nat.le_of_ble_eq_true rfl) (Nat.le_of_ble_eq_true rfl) (Nat.le_of_ble_eq_true rfl) rfl dL_law_316 (fun H1 locs hP1 hz hkk hS1 => ?_)
  refine va_forget (fun q hq => hS1.2.2 q hq) ?_
  have hS : va_S (lw_A s) s.heap H1 [] := ⟨hS1.1, hS1.2.1, fun _ h => by cases h⟩
  have hQ := lw_keepM Fx hQ hkk
  have hP := hP1
  refine W.eq (g2 := F0 m 319 ls [.int r]) rfl ?_
  refine lv_aload_n hx hb dL_law_319 rfl (lv_at hl 1 rfl) ?_
  refine lw_arg (j := 1) Fx hS hl (by omega) rfl dL_law_320 dL_law_321 dL_law_322 dL_law_323 dL_law_324 ?_
  refine lw_arg (j := 2) Fx hS hl (by omega) rfl dL_law_325 dL_law_326 dL_law_327 dL_law_328 dL_law_329 ?_
  refine lw_arg (j := 3) Fx hS hl (by omega) rfl dL_law_330 dL_law_331 dL_law_332 dL_law_333 dL_law_334 ?_
  refine pd_callV (kd := 40) (i := 0) (as := [pf_I (xs (6 * k + 1)), pf_I (xs (6 * k + 2)), pf_I (xs (6 * k + 3))]) (rest := [.int r]) FM rfl lk_L_44 (Nat.le_of_ble_eq_true rfl) (Nat.le_of_ble_eq_true rfl) m2 lw_okM (lw_okI [(xs (6 * k + 1)), (xs (6 * k + 2)), (xs (6 * k + 3))]) hQ (lw_AC2 Fx) hS hl.1 (Nat.le_of_ble_eq_true rfl) (Nat.le_of_ble_eq_true rfl) (Nat.le_of_ble_eq_true rfl) rfl dL_law_335 (fun H2 locs hQ1 hz hkk hS1 => ?_)
  refine va_forget (fun q hq => hS1.2.2 q hq) ?_
  have hS : va_S (lw_A s) s.heap H2 [] := ⟨hS1.1, hS1.2.1, fun _ h => by cases h⟩
  have hP := lw_keepC Fx hP hkk
  have hQ := hQ1
  refine W.eq (g2 := F0 m 338 ls [.int r, .int r]) rfl ?_
  refine lv_icmp_eq (tgt := 1065) hx hb dL_law_338 (by decide) (fun _ => ?_) (fun h => absurd rfl h)
  exact kk X2 Y2 hR2 H2 ls hP hQ hS hl
set_option maxHeartbeats 1000000 in
set_option maxRecDepth 100000 in
theorem lw_c_cut (Fx : lw_Fx l p s m c b L xs D t g g2) (h6 : 6 * k + 6 ≤ L) (hR : sRR X Y k) (hk : k ≤ 512) (kk : ∀ X2 Y2, sRR X2 Y2 (k + 1) → lw_St l p e s m below meth c b D t g g2 1065 X2 Y2 k) : lw_St l p e s m below meth c b D t g g2 343 X Y k := by
  intro H ls hP hQ hS hl
  obtain ⟨FC, FM, hX, hbl, hg, hg2, hL⟩ := id Fx
  have hx := FC.1
  have hb := FC.2.1
  obtain ⟨r, X2, Y2, m1, m2, hR2⟩ := lc_cut (gC l D g t) (gM l D g2 t) hR hk (xs (6 * k + 1)) (xs (6 * k + 2))
  refine lv_aload_n hx hb dL_law_343 rfl (lv_at hl 2 rfl) ?_
  refine lw_arg (j := 1) Fx hS hl (by omega) rfl dL_law_344 dL_law_345 dL_law_346 dL_law_347 dL_law_348 ?_
  refine lw_arg (j := 2) Fx hS hl (by omega) rfl dL_law_349 dL_law_350 dL_law_351 dL_law_352 dL_law_353 ?_
  refine pd_callV (kd := 0) (i := 0) (as := [pf_I (xs (6 * k + 1)), pf_I (xs (6 * k + 2))]) (rest := []) FC rfl lk_L_45 (Nat.le_of_ble_eq_true rfl) (Nat.le_of_ble_eq_true rfl) m1 lw_okC (lw_okI [(xs (6 * k + 1)), (xs (6 * k + 2))]) hP (lw_AC Fx) hS hl.1 (Nat.le_of_ble_eq_true rfl) (Nat.le_of_ble_eq_true rfl) (Nat.le_of_ble_eq_true rfl) rfl dL_law_354 (fun H1 locs hP1 hz hkk hS1 => ?_)
  refine va_forget (fun q hq => hS1.2.2 q hq) ?_
  have hS : va_S (lw_A s) s.heap H1 [] := ⟨hS1.1, hS1.2.1, fun _ h => by cases h⟩
  have hQ := lw_keepM Fx hQ hkk
  have hP := hP1
  refine W.eq (g2 := F0 m 357 ls [.int r]) rfl ?_
  refine lv_aload_n hx hb dL_law_357 rfl (lv_at hl 1 rfl) ?_
  refine lw_arg (j := 1) Fx hS hl (by omega) rfl dL_law_358 dL_law_359 dL_law_360 dL_law_361 dL_law_362 ?_
  refine lw_arg (j := 2) Fx hS hl (by omega) rfl dL_law_363 dL_law_364 dL_law_365 dL_law_366 dL_law_367 ?_
  refine pd_callV (kd := 40) (i := 0) (as := [pf_I (xs (6 * k + 1)), pf_I (xs (6 * k + 2))]) (rest := [.int r]) FM rfl lk_L_48 (Nat.le_of_ble_eq_true rfl) (Nat.le_of_ble_eq_true rfl) m2 lw_okM (lw_okI [(xs (6 * k + 1)), (xs (6 * k + 2))]) hQ (lw_AC2 Fx) hS hl.1 (Nat.le_of_ble_eq_true rfl) (Nat.le_of_ble_eq_true rfl) (Nat.le_of_ble_eq_true rfl) rfl dL_law_368 (fun H2 locs hQ1 hz hkk hS1 => ?_)
  refine va_forget (fun q hq => hS1.2.2 q hq) ?_
  have hS : va_S (lw_A s) s.heap H2 [] := ⟨hS1.1, hS1.2.1, fun _ h => by cases h⟩
  have hP := lw_keepC Fx hP hkk
  have hQ := hQ1
  refine W.eq (g2 := F0 m 371 ls [.int r, .int r]) rfl ?_
  refine lv_icmp_eq (tgt := 1065) hx hb dL_law_371 (by decide) (fun _ => ?_) (fun h => absurd rfl h)
  exact kk X2 Y2 hR2 H2 ls hP hQ hS hl
set_option maxHeartbeats 1000000 in
set_option maxRecDepth 100000 in
theorem lw_c_lose (Fx : lw_Fx l p s m c b L xs D t g g2) (h6 : 6 * k + 6 ≤ L) (hR : sRR X Y k) (hk : k ≤ 512) (kk : ∀ X2 Y2, sRR X2 Y2 (k + 1) → lw_St l p e s m below meth c b D t g g2 1065 X2 Y2 k) : lw_St l p e s m below meth c b D t g g2 376 X Y k := by
  intro H ls hP hQ hS hl
  obtain ⟨FC, FM, hX, hbl, hg, hg2, hL⟩ := id Fx
  have hx := FC.1
  have hb := FC.2.1
  obtain ⟨r, X2, Y2, m1, m2, hR2⟩ := lc_lose (gC l D g t) (gM l D g2 t) hR hk (xs (6 * k + 1))
  refine lv_aload_n hx hb dL_law_376 rfl (lv_at hl 2 rfl) ?_
  refine lw_arg (j := 1) Fx hS hl (by omega) rfl dL_law_377 dL_law_378 dL_law_379 dL_law_380 dL_law_381 ?_
  refine pd_callV (kd := 0) (i := 0) (as := [pf_I (xs (6 * k + 1))]) (rest := []) FC rfl lk_L_49 (Nat.le_of_ble_eq_true rfl) (Nat.le_of_ble_eq_true rfl) m1 lw_okC (lw_okI [(xs (6 * k + 1))]) hP (lw_AC Fx) hS hl.1 (Nat.le_of_ble_eq_true rfl) (Nat.le_of_ble_eq_true rfl) (Nat.le_of_ble_eq_true rfl) rfl dL_law_382 (fun H1 locs hP1 hz hkk hS1 => ?_)
  refine va_forget (fun q hq => hS1.2.2 q hq) ?_
  have hS : va_S (lw_A s) s.heap H1 [] := ⟨hS1.1, hS1.2.1, fun _ h => by cases h⟩
  have hQ := lw_keepM Fx hQ hkk
  have hP := hP1
  refine W.eq (g2 := F0 m 385 ls [.int r]) rfl ?_
  refine lv_aload_n hx hb dL_law_385 rfl (lv_at hl 1 rfl) ?_
  refine lw_arg (j := 1) Fx hS hl (by omega) rfl dL_law_386 dL_law_387 dL_law_388 dL_law_389 dL_law_390 ?_
  refine pd_callV (kd := 40) (i := 0) (as := [pf_I (xs (6 * k + 1))]) (rest := [.int r]) FM rfl lk_L_52 (Nat.le_of_ble_eq_true rfl) (Nat.le_of_ble_eq_true rfl) m2 lw_okM (lw_okI [(xs (6 * k + 1))]) hQ (lw_AC2 Fx) hS hl.1 (Nat.le_of_ble_eq_true rfl) (Nat.le_of_ble_eq_true rfl) (Nat.le_of_ble_eq_true rfl) rfl dL_law_391 (fun H2 locs hQ1 hz hkk hS1 => ?_)
  refine va_forget (fun q hq => hS1.2.2 q hq) ?_
  have hS : va_S (lw_A s) s.heap H2 [] := ⟨hS1.1, hS1.2.1, fun _ h => by cases h⟩
  have hP := lw_keepC Fx hP hkk
  have hQ := hQ1
  refine W.eq (g2 := F0 m 394 ls [.int r, .int r]) rfl ?_
  refine lv_icmp_eq (tgt := 1065) hx hb dL_law_394 (by decide) (fun _ => ?_) (fun h => absurd rfl h)
  exact kk X2 Y2 hR2 H2 ls hP hQ hS hl
set_option maxHeartbeats 1000000 in
set_option maxRecDepth 100000 in
theorem lw_c_state (Fx : lw_Fx l p s m c b L xs D t g g2) (h6 : 6 * k + 6 ≤ L) (hR : sRR X Y k) (hk : k ≤ 512) (kk : ∀ X2 Y2, sRR X2 Y2 (k + 1) → lw_St l p e s m below meth c b D t g g2 1065 X2 Y2 k) : lw_St l p e s m below meth c b D t g g2 399 X Y k := by
  intro H ls hP hQ hS hl
  obtain ⟨FC, FM, hX, hbl, hg, hg2, hL⟩ := id Fx
  have hx := FC.1
  have hb := FC.2.1
  obtain ⟨r, X2, Y2, m1, m2, hR2⟩ := lc_state (gC l D g t) (gM l D g2 t) hR hk (xs (6 * k + 1)) (xs (6 * k + 2))
  refine lv_aload_n hx hb dL_law_399 rfl (lv_at hl 2 rfl) ?_
  refine lw_arg (j := 1) Fx hS hl (by omega) rfl dL_law_400 dL_law_401 dL_law_402 dL_law_403 dL_law_404 ?_
  refine lw_arg (j := 2) Fx hS hl (by omega) rfl dL_law_405 dL_law_406 dL_law_407 dL_law_408 dL_law_409 ?_
  refine pd_callV (kd := 0) (i := 0) (as := [pf_I (xs (6 * k + 1)), pf_I (xs (6 * k + 2))]) (rest := []) FC rfl lk_L_53 (Nat.le_of_ble_eq_true rfl) (Nat.le_of_ble_eq_true rfl) m1 lw_okC (lw_okI [(xs (6 * k + 1)), (xs (6 * k + 2))]) hP (lw_AC Fx) hS hl.1 (Nat.le_of_ble_eq_true rfl) (Nat.le_of_ble_eq_true rfl) (Nat.le_of_ble_eq_true rfl) rfl dL_law_410 (fun H1 locs hP1 hz hkk hS1 => ?_)
  refine va_forget (fun q hq => hS1.2.2 q hq) ?_
  have hS : va_S (lw_A s) s.heap H1 [] := ⟨hS1.1, hS1.2.1, fun _ h => by cases h⟩
  have hQ := lw_keepM Fx hQ hkk
  have hP := hP1
  refine W.eq (g2 := F0 m 413 ls [.int r]) rfl ?_
  refine lv_aload_n hx hb dL_law_413 rfl (lv_at hl 1 rfl) ?_
  refine lw_arg (j := 1) Fx hS hl (by omega) rfl dL_law_414 dL_law_415 dL_law_416 dL_law_417 dL_law_418 ?_
  refine lw_arg (j := 2) Fx hS hl (by omega) rfl dL_law_419 dL_law_420 dL_law_421 dL_law_422 dL_law_423 ?_
  refine pd_callV (kd := 40) (i := 0) (as := [pf_I (xs (6 * k + 1)), pf_I (xs (6 * k + 2))]) (rest := [.int r]) FM rfl lk_L_56 (Nat.le_of_ble_eq_true rfl) (Nat.le_of_ble_eq_true rfl) m2 lw_okM (lw_okI [(xs (6 * k + 1)), (xs (6 * k + 2))]) hQ (lw_AC2 Fx) hS hl.1 (Nat.le_of_ble_eq_true rfl) (Nat.le_of_ble_eq_true rfl) (Nat.le_of_ble_eq_true rfl) rfl dL_law_424 (fun H2 locs hQ1 hz hkk hS1 => ?_)
  refine va_forget (fun q hq => hS1.2.2 q hq) ?_
  have hS : va_S (lw_A s) s.heap H2 [] := ⟨hS1.1, hS1.2.1, fun _ h => by cases h⟩
  have hP := lw_keepC Fx hP hkk
  have hQ := hQ1
  refine W.eq (g2 := F0 m 427 ls [.int r, .int r]) rfl ?_
  refine lv_icmp_eq (tgt := 1065) hx hb dL_law_427 (by decide) (fun _ => ?_) (fun h => absurd rfl h)
  exact kk X2 Y2 hR2 H2 ls hP hQ hS hl
set_option maxHeartbeats 1000000 in
set_option maxRecDepth 100000 in
theorem lw_c_map (Fx : lw_Fx l p s m c b L xs D t g g2) (h6 : 6 * k + 6 ≤ L) (hR : sRR X Y k) (hk : k ≤ 512) (kk : ∀ X2 Y2, sRR X2 Y2 (k + 1) → lw_St l p e s m below meth c b D t g g2 1065 X2 Y2 k) : lw_St l p e s m below meth c b D t g g2 432 X Y k := by
  intro H ls hP hQ hS hl
  obtain ⟨FC, FM, hX, hbl, hg, hg2, hL⟩ := id Fx
  have hx := FC.1
  have hb := FC.2.1
  obtain ⟨r, X2, Y2, m1, m2, hR2⟩ := lc_map (gC l D g t) (gM l D g2 t) hR hk (xs (6 * k + 1)) (xs (6 * k + 2)) (xs (6 * k + 3)) (xs (6 * k + 4)) (xs (6 * k + 5))
  refine lv_aload_n hx hb dL_law_432 rfl (lv_at hl 2 rfl) ?_
  refine lw_arg (j := 1) Fx hS hl (by omega) rfl dL_law_433 dL_law_434 dL_law_435 dL_law_436 dL_law_437 ?_
  refine lw_arg (j := 2) Fx hS hl (by omega) rfl dL_law_438 dL_law_439 dL_law_440 dL_law_441 dL_law_442 ?_
  refine lw_arg (j := 3) Fx hS hl (by omega) rfl dL_law_443 dL_law_444 dL_law_445 dL_law_446 dL_law_447 ?_
  refine lw_arg (j := 4) Fx hS hl (by omega) rfl dL_law_448 dL_law_449 dL_law_450 dL_law_451 dL_law_452 ?_
  refine lw_arg (j := 5) Fx hS hl (by omega) rfl dL_law_453 dL_law_454 dL_law_455 dL_law_456 dL_law_457 ?_
  refine pd_callV (kd := 0) (i := 0) (as := [pf_I (xs (6 * k + 1)), pf_I (xs (6 * k + 2)), pf_I (xs (6 * k + 3)), pf_I (xs (6 * k + 4)), pf_I (xs (6 * k + 5))]) (rest := []) FC rfl lk_L_57 (Nat.le_of_ble_eq_true rfl) (Nat.le_of_ble_eq_true rfl) m1 lw_okC (lw_okI [(xs (6 * k + 1)), (xs (6 * k + 2)), (xs (6 * k + 3)), (xs (6 * k + 4)), (xs (6 * k + 5))]) hP (lw_AC Fx) hS hl.1 (Nat.le_of_ble_eq_true rfl) (Nat.le_of_ble_eq_true rfl) (Nat.le_of_ble_eq_true rfl) rfl dL_law_458 (fun H1 locs hP1 hz hkk hS1 => ?_)
  refine va_forget (fun q hq => hS1.2.2 q hq) ?_
  have hS : va_S (lw_A s) s.heap H1 [] := ⟨hS1.1, hS1.2.1, fun _ h => by cases h⟩
  have hQ := lw_keepM Fx hQ hkk
  have hP := hP1
  refine W.eq (g2 := F0 m 461 ls [.int r]) rfl ?_
  refine lv_aload_n hx hb dL_law_461 rfl (lv_at hl 1 rfl) ?_
  refine lw_arg (j := 1) Fx hS hl (by omega) rfl dL_law_462 dL_law_463 dL_law_464 dL_law_465 dL_law_466 ?_
  refine lw_arg (j := 2) Fx hS hl (by omega) rfl dL_law_467 dL_law_468 dL_law_469 dL_law_470 dL_law_471 ?_
  refine lw_arg (j := 3) Fx hS hl (by omega) rfl dL_law_472 dL_law_473 dL_law_474 dL_law_475 dL_law_476 ?_
  refine lw_arg (j := 4) Fx hS hl (by omega) rfl dL_law_477 dL_law_478 dL_law_479 dL_law_480 dL_law_481 ?_
  refine lw_arg (j := 5) Fx hS hl (by omega) rfl dL_law_482 dL_law_483 dL_law_484 dL_law_485 dL_law_486 ?_
  refine pd_callV (kd := 40) (i := 0) (as := [pf_I (xs (6 * k + 1)), pf_I (xs (6 * k + 2)), pf_I (xs (6 * k + 3)), pf_I (xs (6 * k + 4)), pf_I (xs (6 * k + 5))]) (rest := [.int r]) FM rfl lk_L_61 (Nat.le_of_ble_eq_true rfl) (Nat.le_of_ble_eq_true rfl) m2 lw_okM (lw_okI [(xs (6 * k + 1)), (xs (6 * k + 2)), (xs (6 * k + 3)), (xs (6 * k + 4)), (xs (6 * k + 5))]) hQ (lw_AC2 Fx) hS hl.1 (Nat.le_of_ble_eq_true rfl) (Nat.le_of_ble_eq_true rfl) (Nat.le_of_ble_eq_true rfl) rfl dL_law_487 (fun H2 locs hQ1 hz hkk hS1 => ?_)
  refine va_forget (fun q hq => hS1.2.2 q hq) ?_
  have hS : va_S (lw_A s) s.heap H2 [] := ⟨hS1.1, hS1.2.1, fun _ h => by cases h⟩
  have hP := lw_keepC Fx hP hkk
  have hQ := hQ1
  refine W.eq (g2 := F0 m 490 ls [.int r, .int r]) rfl ?_
  refine lv_icmp_eq (tgt := 1065) hx hb dL_law_490 (by decide) (fun _ => ?_) (fun h => absurd rfl h)
  exact kk X2 Y2 hR2 H2 ls hP hQ hS hl
set_option maxHeartbeats 1000000 in
set_option maxRecDepth 100000 in
theorem lw_c_unmap (Fx : lw_Fx l p s m c b L xs D t g g2) (h6 : 6 * k + 6 ≤ L) (hR : sRR X Y k) (hk : k ≤ 512) (kk : ∀ X2 Y2, sRR X2 Y2 (k + 1) → lw_St l p e s m below meth c b D t g g2 1065 X2 Y2 k) : lw_St l p e s m below meth c b D t g g2 495 X Y k := by
  intro H ls hP hQ hS hl
  obtain ⟨FC, FM, hX, hbl, hg, hg2, hL⟩ := id Fx
  have hx := FC.1
  have hb := FC.2.1
  obtain ⟨r, X2, Y2, m1, m2, hR2⟩ := lc_unmap (gC l D g t) (gM l D g2 t) hR hk (xs (6 * k + 1)) (xs (6 * k + 2))
  refine lv_aload_n hx hb dL_law_495 rfl (lv_at hl 2 rfl) ?_
  refine lw_arg (j := 1) Fx hS hl (by omega) rfl dL_law_496 dL_law_497 dL_law_498 dL_law_499 dL_law_500 ?_
  refine lw_arg (j := 2) Fx hS hl (by omega) rfl dL_law_501 dL_law_502 dL_law_503 dL_law_504 dL_law_505 ?_
  refine pd_callV (kd := 0) (i := 0) (as := [pf_I (xs (6 * k + 1)), pf_I (xs (6 * k + 2))]) (rest := []) FC rfl lk_L_62 (Nat.le_of_ble_eq_true rfl) (Nat.le_of_ble_eq_true rfl) m1 lw_okC (lw_okI [(xs (6 * k + 1)), (xs (6 * k + 2))]) hP (lw_AC Fx) hS hl.1 (Nat.le_of_ble_eq_true rfl) (Nat.le_of_ble_eq_true rfl) (Nat.le_of_ble_eq_true rfl) rfl dL_law_506 (fun H1 locs hP1 hz hkk hS1 => ?_)
  refine va_forget (fun q hq => hS1.2.2 q hq) ?_
  have hS : va_S (lw_A s) s.heap H1 [] := ⟨hS1.1, hS1.2.1, fun _ h => by cases h⟩
  have hQ := lw_keepM Fx hQ hkk
  have hP := hP1
  refine W.eq (g2 := F0 m 509 ls [.int r]) rfl ?_
  refine lv_aload_n hx hb dL_law_509 rfl (lv_at hl 1 rfl) ?_
  refine lw_arg (j := 1) Fx hS hl (by omega) rfl dL_law_510 dL_law_511 dL_law_512 dL_law_513 dL_law_514 ?_
  refine lw_arg (j := 2) Fx hS hl (by omega) rfl dL_law_515 dL_law_516 dL_law_517 dL_law_518 dL_law_519 ?_
  refine pd_callV (kd := 40) (i := 0) (as := [pf_I (xs (6 * k + 1)), pf_I (xs (6 * k + 2))]) (rest := [.int r]) FM rfl lk_L_65 (Nat.le_of_ble_eq_true rfl) (Nat.le_of_ble_eq_true rfl) m2 lw_okM (lw_okI [(xs (6 * k + 1)), (xs (6 * k + 2))]) hQ (lw_AC2 Fx) hS hl.1 (Nat.le_of_ble_eq_true rfl) (Nat.le_of_ble_eq_true rfl) (Nat.le_of_ble_eq_true rfl) rfl dL_law_520 (fun H2 locs hQ1 hz hkk hS1 => ?_)
  refine va_forget (fun q hq => hS1.2.2 q hq) ?_
  have hS : va_S (lw_A s) s.heap H2 [] := ⟨hS1.1, hS1.2.1, fun _ h => by cases h⟩
  have hP := lw_keepC Fx hP hkk
  have hQ := hQ1
  refine W.eq (g2 := F0 m 523 ls [.int r, .int r]) rfl ?_
  refine lv_icmp_eq (tgt := 1065) hx hb dL_law_523 (by decide) (fun _ => ?_) (fun h => absurd rfl h)
  exact kk X2 Y2 hR2 H2 ls hP hQ hS hl
set_option maxHeartbeats 1000000 in
set_option maxRecDepth 100000 in
theorem lw_c_mapped (Fx : lw_Fx l p s m c b L xs D t g g2) (h6 : 6 * k + 6 ≤ L) (hR : sRR X Y k) (hk : k ≤ 512) (kk : ∀ X2 Y2, sRR X2 Y2 (k + 1) → lw_St l p e s m below meth c b D t g g2 1065 X2 Y2 k) : lw_St l p e s m below meth c b D t g g2 528 X Y k := by
  intro H ls hP hQ hS hl
  obtain ⟨FC, FM, hX, hbl, hg, hg2, hL⟩ := id Fx
  have hx := FC.1
  have hb := FC.2.1
  obtain ⟨r, X2, Y2, m1, m2, hR2⟩ := lc_mapped (gC l D g t) (gM l D g2 t) hR hk (xs (6 * k + 1)) (xs (6 * k + 2)) (xs (6 * k + 3))
  refine lv_aload_n hx hb dL_law_528 rfl (lv_at hl 2 rfl) ?_
  refine lw_arg (j := 1) Fx hS hl (by omega) rfl dL_law_529 dL_law_530 dL_law_531 dL_law_532 dL_law_533 ?_
  refine lw_arg (j := 2) Fx hS hl (by omega) rfl dL_law_534 dL_law_535 dL_law_536 dL_law_537 dL_law_538 ?_
  refine lw_arg (j := 3) Fx hS hl (by omega) rfl dL_law_539 dL_law_540 dL_law_541 dL_law_542 dL_law_543 ?_
  refine pd_callV (kd := 0) (i := 0) (as := [pf_I (xs (6 * k + 1)), pf_I (xs (6 * k + 2)), pf_I (xs (6 * k + 3))]) (rest := []) FC rfl lk_L_66 (Nat.le_of_ble_eq_true rfl) (Nat.le_of_ble_eq_true rfl) m1 lw_okC (lw_okI [(xs (6 * k + 1)), (xs (6 * k + 2)), (xs (6 * k + 3))]) hP (lw_AC Fx) hS hl.1 (Nat.le_of_ble_eq_true rfl) (Nat.le_of_ble_eq_true rfl) (Nat.le_of_ble_eq_true rfl) rfl dL_law_544 (fun H1 locs hP1 hz hkk hS1 => ?_)
  refine va_forget (fun q hq => hS1.2.2 q hq) ?_
  have hS : va_S (lw_A s) s.heap H1 [] := ⟨hS1.1, hS1.2.1, fun _ h => by cases h⟩
  have hQ := lw_keepM Fx hQ hkk
  have hP := hP1
  refine W.eq (g2 := F0 m 547 ls [.int r]) rfl ?_
  refine lv_aload_n hx hb dL_law_547 rfl (lv_at hl 1 rfl) ?_
  refine lw_arg (j := 1) Fx hS hl (by omega) rfl dL_law_548 dL_law_549 dL_law_550 dL_law_551 dL_law_552 ?_
  refine lw_arg (j := 2) Fx hS hl (by omega) rfl dL_law_553 dL_law_554 dL_law_555 dL_law_556 dL_law_557 ?_
  refine lw_arg (j := 3) Fx hS hl (by omega) rfl dL_law_558 dL_law_559 dL_law_560 dL_law_561 dL_law_562 ?_
  refine pd_callV (kd := 40) (i := 0) (as := [pf_I (xs (6 * k + 1)), pf_I (xs (6 * k + 2)), pf_I (xs (6 * k + 3))]) (rest := [.int r]) FM rfl lk_L_69 (Nat.le_of_ble_eq_true rfl) (Nat.le_of_ble_eq_true rfl) m2 lw_okM (lw_okI [(xs (6 * k + 1)), (xs (6 * k + 2)), (xs (6 * k + 3))]) hQ (lw_AC2 Fx) hS hl.1 (Nat.le_of_ble_eq_true rfl) (Nat.le_of_ble_eq_true rfl) (Nat.le_of_ble_eq_true rfl) rfl dL_law_563 (fun H2 locs hQ1 hz hkk hS1 => ?_)
  refine va_forget (fun q hq => hS1.2.2 q hq) ?_
  have hS : va_S (lw_A s) s.heap H2 [] := ⟨hS1.1, hS1.2.1, fun _ h => by cases h⟩
  have hP := lw_keepC Fx hP hkk
  have hQ := hQ1
  refine W.eq (g2 := F0 m 566 ls [.int r, .int r]) rfl ?_
  refine lv_icmp_eq (tgt := 1065) hx hb dL_law_566 (by decide) (fun _ => ?_) (fun h => absurd rfl h)
  exact kk X2 Y2 hR2 H2 ls hP hQ hS hl
set_option maxHeartbeats 1000000 in
set_option maxRecDepth 100000 in
theorem lw_c_gram (Fx : lw_Fx l p s m c b L xs D t g g2) (h6 : 6 * k + 6 ≤ L) (hR : sRR X Y k) (hk : k ≤ 512) (kk : ∀ X2 Y2, sRR X2 Y2 (k + 1) → lw_St l p e s m below meth c b D t g g2 1065 X2 Y2 k) : lw_St l p e s m below meth c b D t g g2 571 X Y k := by
  intro H ls hP hQ hS hl
  obtain ⟨FC, FM, hX, hbl, hg, hg2, hL⟩ := id Fx
  have hx := FC.1
  have hb := FC.2.1
  obtain ⟨r, X2, Y2, m1, m2, hR2⟩ := lc_gram (gC l D g t) (gM l D g2 t) hR hk (xs (6 * k + 1)) (xs (6 * k + 2)) (xs (6 * k + 3)) (xs (6 * k + 4)) (xs (6 * k + 5))
  refine lv_aload_n hx hb dL_law_571 rfl (lv_at hl 2 rfl) ?_
  refine lw_arg (j := 1) Fx hS hl (by omega) rfl dL_law_572 dL_law_573 dL_law_574 dL_law_575 dL_law_576 ?_
  refine lw_arg (j := 2) Fx hS hl (by omega) rfl dL_law_577 dL_law_578 dL_law_579 dL_law_580 dL_law_581 ?_
  refine lw_arg (j := 3) Fx hS hl (by omega) rfl dL_law_582 dL_law_583 dL_law_584 dL_law_585 dL_law_586 ?_
  refine lw_arg (j := 4) Fx hS hl (by omega) rfl dL_law_587 dL_law_588 dL_law_589 dL_law_590 dL_law_591 ?_
  refine lw_arg (j := 5) Fx hS hl (by omega) rfl dL_law_592 dL_law_593 dL_law_594 dL_law_595 dL_law_596 ?_
  refine pd_callV (kd := 0) (i := 0) (as := [pf_I (xs (6 * k + 1)), pf_I (xs (6 * k + 2)), pf_I (xs (6 * k + 3)), pf_I (xs (6 * k + 4)), pf_I (xs (6 * k + 5))]) (rest := []) FC rfl lk_L_70 (Nat.le_of_ble_eq_true rfl) (Nat.le_of_ble_eq_true rfl) m1 lw_okC (lw_okI [(xs (6 * k + 1)), (xs (6 * k + 2)), (xs (6 * k + 3)), (xs (6 * k + 4)), (xs (6 * k + 5))]) hP (lw_AC Fx) hS hl.1 (Nat.le_of_ble_eq_true rfl) (Nat.le_of_ble_eq_true rfl) (Nat.le_of_ble_eq_true rfl) rfl dL_law_597 (fun H1 locs hP1 hz hkk hS1 => ?_)
  refine va_forget (fun q hq => hS1.2.2 q hq) ?_
  have hS : va_S (lw_A s) s.heap H1 [] := ⟨hS1.1, hS1.2.1, fun _ h => by cases h⟩
  have hQ := lw_keepM Fx hQ hkk
  have hP := hP1
  refine W.eq (g2 := F0 m 600 ls [.int r]) rfl ?_
  refine lv_aload_n hx hb dL_law_600 rfl (lv_at hl 1 rfl) ?_
  refine lw_arg (j := 1) Fx hS hl (by omega) rfl dL_law_601 dL_law_602 dL_law_603 dL_law_604 dL_law_605 ?_
  refine lw_arg (j := 2) Fx hS hl (by omega) rfl dL_law_606 dL_law_607 dL_law_608 dL_law_609 dL_law_610 ?_
  refine lw_arg (j := 3) Fx hS hl (by omega) rfl dL_law_611 dL_law_612 dL_law_613 dL_law_614 dL_law_615 ?_
  refine lw_arg (j := 4) Fx hS hl (by omega) rfl dL_law_616 dL_law_617 dL_law_618 dL_law_619 dL_law_620 ?_
  refine lw_arg (j := 5) Fx hS hl (by omega) rfl dL_law_621 dL_law_622 dL_law_623 dL_law_624 dL_law_625 ?_
  refine pd_callV (kd := 40) (i := 0) (as := [pf_I (xs (6 * k + 1)), pf_I (xs (6 * k + 2)), pf_I (xs (6 * k + 3)), pf_I (xs (6 * k + 4)), pf_I (xs (6 * k + 5))]) (rest := [.int r]) FM rfl lk_L_73 (Nat.le_of_ble_eq_true rfl) (Nat.le_of_ble_eq_true rfl) m2 lw_okM (lw_okI [(xs (6 * k + 1)), (xs (6 * k + 2)), (xs (6 * k + 3)), (xs (6 * k + 4)), (xs (6 * k + 5))]) hQ (lw_AC2 Fx) hS hl.1 (Nat.le_of_ble_eq_true rfl) (Nat.le_of_ble_eq_true rfl) (Nat.le_of_ble_eq_true rfl) rfl dL_law_626 (fun H2 locs hQ1 hz hkk hS1 => ?_)
  refine va_forget (fun q hq => hS1.2.2 q hq) ?_
  have hS : va_S (lw_A s) s.heap H2 [] := ⟨hS1.1, hS1.2.1, fun _ h => by cases h⟩
  have hP := lw_keepC Fx hP hkk
  have hQ := hQ1
  refine W.eq (g2 := F0 m 629 ls [.int r, .int r]) rfl ?_
  refine lv_icmp_eq (tgt := 1065) hx hb dL_law_629 (by decide) (fun _ => ?_) (fun h => absurd rfl h)
  exact kk X2 Y2 hR2 H2 ls hP hQ hS hl
set_option maxHeartbeats 1000000 in
set_option maxRecDepth 100000 in
theorem lw_c_clear (Fx : lw_Fx l p s m c b L xs D t g g2) (h6 : 6 * k + 6 ≤ L) (hR : sRR X Y k) (hk : k ≤ 512) (kk : ∀ X2 Y2, sRR X2 Y2 (k + 1) → lw_St l p e s m below meth c b D t g g2 1065 X2 Y2 k) : lw_St l p e s m below meth c b D t g g2 634 X Y k := by
  intro H ls hP hQ hS hl
  obtain ⟨FC, FM, hX, hbl, hg, hg2, hL⟩ := id Fx
  have hx := FC.1
  have hb := FC.2.1
  obtain ⟨r, X2, Y2, m1, m2, hR2⟩ := lc_clear (gC l D g t) (gM l D g2 t) hR hk (xs (6 * k + 1))
  refine lv_aload_n hx hb dL_law_634 rfl (lv_at hl 2 rfl) ?_
  refine lw_arg (j := 1) Fx hS hl (by omega) rfl dL_law_635 dL_law_636 dL_law_637 dL_law_638 dL_law_639 ?_
  refine pd_callV (kd := 0) (i := 0) (as := [pf_I (xs (6 * k + 1))]) (rest := []) FC rfl lk_L_74 (Nat.le_of_ble_eq_true rfl) (Nat.le_of_ble_eq_true rfl) m1 lw_okC (lw_okI [(xs (6 * k + 1))]) hP (lw_AC Fx) hS hl.1 (Nat.le_of_ble_eq_true rfl) (Nat.le_of_ble_eq_true rfl) (Nat.le_of_ble_eq_true rfl) rfl dL_law_640 (fun H1 locs hP1 hz hkk hS1 => ?_)
  refine va_forget (fun q hq => hS1.2.2 q hq) ?_
  have hS : va_S (lw_A s) s.heap H1 [] := ⟨hS1.1, hS1.2.1, fun _ h => by cases h⟩
  have hQ := lw_keepM Fx hQ hkk
  have hP := hP1
  refine W.eq (g2 := F0 m 643 ls [.int r]) rfl ?_
  refine lv_aload_n hx hb dL_law_643 rfl (lv_at hl 1 rfl) ?_
  refine lw_arg (j := 1) Fx hS hl (by omega) rfl dL_law_644 dL_law_645 dL_law_646 dL_law_647 dL_law_648 ?_
  refine pd_callV (kd := 40) (i := 0) (as := [pf_I (xs (6 * k + 1))]) (rest := [.int r]) FM rfl lk_L_77 (Nat.le_of_ble_eq_true rfl) (Nat.le_of_ble_eq_true rfl) m2 lw_okM (lw_okI [(xs (6 * k + 1))]) hQ (lw_AC2 Fx) hS hl.1 (Nat.le_of_ble_eq_true rfl) (Nat.le_of_ble_eq_true rfl) (Nat.le_of_ble_eq_true rfl) rfl dL_law_649 (fun H2 locs hQ1 hz hkk hS1 => ?_)
  refine va_forget (fun q hq => hS1.2.2 q hq) ?_
  have hS : va_S (lw_A s) s.heap H2 [] := ⟨hS1.1, hS1.2.1, fun _ h => by cases h⟩
  have hP := lw_keepC Fx hP hkk
  have hQ := hQ1
  refine W.eq (g2 := F0 m 652 ls [.int r, .int r]) rfl ?_
  refine lv_icmp_eq (tgt := 1065) hx hb dL_law_652 (by decide) (fun _ => ?_) (fun h => absurd rfl h)
  exact kk X2 Y2 hR2 H2 ls hP hQ hS hl
set_option maxHeartbeats 1000000 in
set_option maxRecDepth 100000 in
theorem lw_c_put (Fx : lw_Fx l p s m c b L xs D t g g2) (h6 : 6 * k + 6 ≤ L) (hR : sRR X Y k) (hk : k ≤ 512) (kk : ∀ X2 Y2, sRR X2 Y2 (k + 1) → lw_St l p e s m below meth c b D t g g2 1065 X2 Y2 k) : lw_St l p e s m below meth c b D t g g2 657 X Y k := by
  intro H ls hP hQ hS hl
  obtain ⟨FC, FM, hX, hbl, hg, hg2, hL⟩ := id Fx
  have hx := FC.1
  have hb := FC.2.1
  obtain ⟨r, X2, Y2, m1, m2, hR2⟩ := lc_put (gC l D g t) (gM l D g2 t) hR hk (xs (6 * k + 1)) (xs (6 * k + 2)) (xs (6 * k + 3))
  refine lv_aload_n hx hb dL_law_657 rfl (lv_at hl 2 rfl) ?_
  refine lw_arg (j := 1) Fx hS hl (by omega) rfl dL_law_658 dL_law_659 dL_law_660 dL_law_661 dL_law_662 ?_
  refine lw_arg (j := 2) Fx hS hl (by omega) rfl dL_law_663 dL_law_664 dL_law_665 dL_law_666 dL_law_667 ?_
  refine lw_arg (j := 3) Fx hS hl (by omega) rfl dL_law_668 dL_law_669 dL_law_670 dL_law_671 dL_law_672 ?_
  refine pd_callV (kd := 0) (i := 0) (as := [pf_I (xs (6 * k + 1)), pf_I (xs (6 * k + 2)), pf_I (xs (6 * k + 3))]) (rest := []) FC rfl lk_L_78 (Nat.le_of_ble_eq_true rfl) (Nat.le_of_ble_eq_true rfl) m1 lw_okC (lw_okI [(xs (6 * k + 1)), (xs (6 * k + 2)), (xs (6 * k + 3))]) hP (lw_AC Fx) hS hl.1 (Nat.le_of_ble_eq_true rfl) (Nat.le_of_ble_eq_true rfl) (Nat.le_of_ble_eq_true rfl) rfl dL_law_673 (fun H1 locs hP1 hz hkk hS1 => ?_)
  refine va_forget (fun q hq => hS1.2.2 q hq) ?_
  have hS : va_S (lw_A s) s.heap H1 [] := ⟨hS1.1, hS1.2.1, fun _ h => by cases h⟩
  have hQ := lw_keepM Fx hQ hkk
  have hP := hP1
  refine W.eq (g2 := F0 m 676 ls [.int r]) rfl ?_
  refine lv_aload_n hx hb dL_law_676 rfl (lv_at hl 1 rfl) ?_
  refine lw_arg (j := 1) Fx hS hl (by omega) rfl dL_law_677 dL_law_678 dL_law_679 dL_law_680 dL_law_681 ?_
  refine lw_arg (j := 2) Fx hS hl (by omega) rfl dL_law_682 dL_law_683 dL_law_684 dL_law_685 dL_law_686 ?_
  refine lw_arg (j := 3) Fx hS hl (by omega) rfl dL_law_687 dL_law_688 dL_law_689 dL_law_690 dL_law_691 ?_
  refine pd_callV (kd := 40) (i := 0) (as := [pf_I (xs (6 * k + 1)), pf_I (xs (6 * k + 2)), pf_I (xs (6 * k + 3))]) (rest := [.int r]) FM rfl lk_L_81 (Nat.le_of_ble_eq_true rfl) (Nat.le_of_ble_eq_true rfl) m2 lw_okM (lw_okI [(xs (6 * k + 1)), (xs (6 * k + 2)), (xs (6 * k + 3))]) hQ (lw_AC2 Fx) hS hl.1 (Nat.le_of_ble_eq_true rfl) (Nat.le_of_ble_eq_true rfl) (Nat.le_of_ble_eq_true rfl) rfl dL_law_692 (fun H2 locs hQ1 hz hkk hS1 => ?_)
  refine va_forget (fun q hq => hS1.2.2 q hq) ?_
  have hS : va_S (lw_A s) s.heap H2 [] := ⟨hS1.1, hS1.2.1, fun _ h => by cases h⟩
  have hP := lw_keepC Fx hP hkk
  have hQ := hQ1
  refine W.eq (g2 := F0 m 695 ls [.int r, .int r]) rfl ?_
  refine lv_icmp_eq (tgt := 1065) hx hb dL_law_695 (by decide) (fun _ => ?_) (fun h => absurd rfl h)
  exact kk X2 Y2 hR2 H2 ls hP hQ hS hl
set_option maxHeartbeats 1000000 in
set_option maxRecDepth 100000 in
theorem lw_c_send (Fx : lw_Fx l p s m c b L xs D t g g2) (h6 : 6 * k + 6 ≤ L) (hR : sRR X Y k) (hk : k ≤ 512) (kk : ∀ X2 Y2, sRR X2 Y2 (k + 1) → lw_St l p e s m below meth c b D t g g2 1065 X2 Y2 k) : lw_St l p e s m below meth c b D t g g2 700 X Y k := by
  intro H ls hP hQ hS hl
  obtain ⟨FC, FM, hX, hbl, hg, hg2, hL⟩ := id Fx
  have hx := FC.1
  have hb := FC.2.1
  obtain ⟨r, X2, Y2, m1, m2, hR2⟩ := lc_send (gC l D g t) (gM l D g2 t) hR hk
  refine lv_aload_n hx hb dL_law_700 rfl (lv_at hl 2 rfl) ?_
  refine pd_callV (kd := 0) (i := 0) (as := []) (rest := []) FC rfl lk_L_82 (Nat.le_of_ble_eq_true rfl) (Nat.le_of_ble_eq_true rfl) m1 lw_okC (lw_okI []) hP (lw_AC Fx) hS hl.1 (Nat.le_of_ble_eq_true rfl) (Nat.le_of_ble_eq_true rfl) (Nat.le_of_ble_eq_true rfl) rfl dL_law_701 (fun H1 locs hP1 hz hkk hS1 => ?_)
  refine va_forget (fun q hq => hS1.2.2 q hq) ?_
  have hS : va_S (lw_A s) s.heap H1 [] := ⟨hS1.1, hS1.2.1, fun _ h => by cases h⟩
  have hQ := lw_keepM Fx hQ hkk
  have hP := hP1
  refine W.eq (g2 := F0 m 704 ls [.int r]) rfl ?_
  refine lv_aload_n hx hb dL_law_704 rfl (lv_at hl 1 rfl) ?_
  refine pd_callV (kd := 40) (i := 0) (as := []) (rest := [.int r]) FM rfl lk_L_85 (Nat.le_of_ble_eq_true rfl) (Nat.le_of_ble_eq_true rfl) m2 lw_okM (lw_okI []) hQ (lw_AC2 Fx) hS hl.1 (Nat.le_of_ble_eq_true rfl) (Nat.le_of_ble_eq_true rfl) (Nat.le_of_ble_eq_true rfl) rfl dL_law_705 (fun H2 locs hQ1 hz hkk hS1 => ?_)
  refine va_forget (fun q hq => hS1.2.2 q hq) ?_
  have hS : va_S (lw_A s) s.heap H2 [] := ⟨hS1.1, hS1.2.1, fun _ h => by cases h⟩
  have hP := lw_keepC Fx hP hkk
  have hQ := hQ1
  refine W.eq (g2 := F0 m 708 ls [.int r, .int r]) rfl ?_
  refine lv_icmp_eq (tgt := 1065) hx hb dL_law_708 (by decide) (fun _ => ?_) (fun h => absurd rfl h)
  exact kk X2 Y2 hR2 H2 ls hP hQ hS hl
set_option maxHeartbeats 1000000 in
set_option maxRecDepth 100000 in
theorem lw_c_home (Fx : lw_Fx l p s m c b L xs D t g g2) (h6 : 6 * k + 6 ≤ L) (hR : sRR X Y k) (hk : k ≤ 512) (kk : ∀ X2 Y2, sRR X2 Y2 (k + 1) → lw_St l p e s m below meth c b D t g g2 1065 X2 Y2 k) : lw_St l p e s m below meth c b D t g g2 713 X Y k := by
  intro H ls hP hQ hS hl
  obtain ⟨FC, FM, hX, hbl, hg, hg2, hL⟩ := id Fx
  have hx := FC.1
  have hb := FC.2.1
  obtain ⟨r, X2, Y2, m1, m2, hR2⟩ := lc_home (gC l D g t) (gM l D g2 t) hR hk (xs (6 * k + 1)) (xs (6 * k + 2))
  refine lv_aload_n hx hb dL_law_713 rfl (lv_at hl 2 rfl) ?_
  refine lw_arg (j := 1) Fx hS hl (by omega) rfl dL_law_714 dL_law_715 dL_law_716 dL_law_717 dL_law_718 ?_
  refine lw_arg (j := 2) Fx hS hl (by omega) rfl dL_law_719 dL_law_720 dL_law_721 dL_law_722 dL_law_723 ?_
  refine pd_callV (kd := 0) (i := 0) (as := [pf_I (xs (6 * k + 1)), pf_I (xs (6 * k + 2))]) (rest := []) FC rfl lk_L_86 (Nat.le_of_ble_eq_true rfl) (Nat.le_of_ble_eq_true rfl) m1 lw_okC (lw_okI [(xs (6 * k + 1)), (xs (6 * k + 2))]) hP (lw_AC Fx) hS hl.1 (Nat.le_of_ble_eq_true rfl) (Nat.le_of_ble_eq_true rfl) (Nat.le_of_ble_eq_true rfl) rfl dL_law_724 (fun H1 locs hP1 hz hkk hS1 => ?_)
  refine va_forget (fun q hq => hS1.2.2 q hq) ?_
  have hS : va_S (lw_A s) s.heap H1 [] := ⟨hS1.1, hS1.2.1, fun _ h => by cases h⟩
  have hQ := lw_keepM Fx hQ hkk
  have hP := hP1
  refine W.eq (g2 := F0 m 727 ls [.int r]) rfl ?_
  refine lv_aload_n hx hb dL_law_727 rfl (lv_at hl 1 rfl) ?_
  refine lw_arg (j := 1) Fx hS hl (by omega) rfl dL_law_728 dL_law_729 dL_law_730 dL_law_731 dL_law_732 ?_
  refine lw_arg (j := 2) Fx hS hl (by omega) rfl dL_law_733 dL_law_734 dL_law_735 dL_law_736 dL_law_737 ?_
  refine pd_callV (kd := 40) (i := 0) (as := [pf_I (xs (6 * k + 1)), pf_I (xs (6 * k + 2))]) (rest := [.int r]) FM rfl lk_L_89 (Nat.le_of_ble_eq_true rfl) (Nat.le_of_ble_eq_true rfl) m2 lw_okM (lw_okI [(xs (6 * k + 1)), (xs (6 * k + 2))]) hQ (lw_AC2 Fx) hS hl.1 (Nat.le_of_ble_eq_true rfl) (Nat.le_of_ble_eq_true rfl) (Nat.le_of_ble_eq_true rfl) rfl dL_law_738 (fun H2 locs hQ1 hz hkk hS1 => ?_)
  refine va_forget (fun q hq => hS1.2.2 q hq) ?_
  have hS : va_S (lw_A s) s.heap H2 [] := ⟨hS1.1, hS1.2.1, fun _ h => by cases h⟩
  have hP := lw_keepC Fx hP hkk
  have hQ := hQ1
  refine W.eq (g2 := F0 m 741 ls [.int r, .int r]) rfl ?_
  refine lv_icmp_eq (tgt := 1065) hx hb dL_law_741 (by decide) (fun _ => ?_) (fun h => absurd rfl h)
  exact kk X2 Y2 hR2 H2 ls hP hQ hS hl
set_option maxHeartbeats 1000000 in
set_option maxRecDepth 100000 in
theorem lw_c_expected (Fx : lw_Fx l p s m c b L xs D t g g2) (h6 : 6 * k + 6 ≤ L) (hR : sRR X Y k) (hk : k ≤ 512) (kk : ∀ X2 Y2, sRR X2 Y2 (k + 1) → lw_St l p e s m below meth c b D t g g2 1065 X2 Y2 k) : lw_St l p e s m below meth c b D t g g2 746 X Y k := by
  intro H ls hP hQ hS hl
  obtain ⟨FC, FM, hX, hbl, hg, hg2, hL⟩ := id Fx
  have hx := FC.1
  have hb := FC.2.1
  obtain ⟨r, X2, Y2, m1, m2, hR2⟩ := lc_expected (gC l D g t) (gM l D g2 t) hR hk (xs (6 * k + 1))
  refine lv_aload_n hx hb dL_law_746 rfl (lv_at hl 2 rfl) ?_
  refine lw_arg (j := 1) Fx hS hl (by omega) rfl dL_law_747 dL_law_748 dL_law_749 dL_law_750 dL_law_751 ?_
  refine pd_callV (kd := 0) (i := 0) (as := [pf_I (xs (6 * k + 1))]) (rest := []) FC rfl lk_L_90 (Nat.le_of_ble_eq_true rfl) (Nat.le_of_ble_eq_true rfl) m1 lw_okC (lw_okI [(xs (6 * k + 1))]) hP (lw_AC Fx) hS hl.1 (Nat.le_of_ble_eq_true rfl) (Nat.le_of_ble_eq_true rfl) (Nat.le_of_ble_eq_true rfl) rfl dL_law_752 (fun H1 locs hP1 hz hkk hS1 => ?_)
  refine va_forget (fun q hq => hS1.2.2 q hq) ?_
  have hS : va_S (lw_A s) s.heap H1 [] := ⟨hS1.1, hS1.2.1, fun _ h => by cases h⟩
  have hQ := lw_keepM Fx hQ hkk
  have hP := hP1
  refine W.eq (g2 := F0 m 755 ls [.int r]) rfl ?_
  refine lv_aload_n hx hb dL_law_755 rfl (lv_at hl 1 rfl) ?_
  refine lw_arg (j := 1) Fx hS hl (by omega) rfl dL_law_756 dL_law_757 dL_law_758 dL_law_759 dL_law_760 ?_
  refine pd_callV (kd := 40) (i := 0) (as := [pf_I (xs (6 * k + 1))]) (rest := [.int r]) FM rfl lk_L_93 (Nat.le_of_ble_eq_true rfl) (Nat.le_of_ble_eq_true rfl) m2 lw_okM (lw_okI [(xs (6 * k + 1))]) hQ (lw_AC2 Fx) hS hl.1 (Nat.le_of_ble_eq_true rfl) (Nat.le_of_ble_eq_true rfl) (Nat.le_of_ble_eq_true rfl) rfl dL_law_761 (fun H2 locs hQ1 hz hkk hS1 => ?_)
  refine va_forget (fun q hq => hS1.2.2 q hq) ?_
  have hS : va_S (lw_A s) s.heap H2 [] := ⟨hS1.1, hS1.2.1, fun _ h => by cases h⟩
  have hP := lw_keepC Fx hP hkk
  have hQ := hQ1
  refine W.eq (g2 := F0 m 764 ls [.int r, .int r]) rfl ?_
  refine lv_icmp_eq (tgt := 1065) hx hb dL_law_764 (by decide) (fun _ => ?_) (fun h => absurd rfl h)
  exact kk X2 Y2 hR2 H2 ls hP hQ hS hl
set_option maxHeartbeats 1000000 in
set_option maxRecDepth 100000 in
theorem lw_c_tell (Fx : lw_Fx l p s m c b L xs D t g g2) (h6 : 6 * k + 6 ≤ L) (hR : sRR X Y k) (hk : k ≤ 512) (kk : ∀ X2 Y2, sRR X2 Y2 (k + 1) → lw_St l p e s m below meth c b D t g g2 1065 X2 Y2 k) : lw_St l p e s m below meth c b D t g g2 769 X Y k := by
  intro H ls hP hQ hS hl
  obtain ⟨FC, FM, hX, hbl, hg, hg2, hL⟩ := id Fx
  have hx := FC.1
  have hb := FC.2.1
  obtain ⟨r, X2, Y2, m1, m2, hR2⟩ := lc_tell (gC l D g t) (gM l D g2 t) hR hk (xs (6 * k + 1)) (xs (6 * k + 2))
  refine lv_aload_n hx hb dL_law_769 rfl (lv_at hl 2 rfl) ?_
  refine lw_arg (j := 1) Fx hS hl (by omega) rfl dL_law_770 dL_law_771 dL_law_772 dL_law_773 dL_law_774 ?_
  refine lw_arg (j := 2) Fx hS hl (by omega) rfl dL_law_775 dL_law_776 dL_law_777 dL_law_778 dL_law_779 ?_
  refine pd_callV (kd := 0) (i := 0) (as := [pf_I (xs (6 * k + 1)), pf_I (xs (6 * k + 2))]) (rest := []) FC rfl lk_L_94 (Nat.le_of_ble_eq_true rfl) (Nat.le_of_ble_eq_true rfl) m1 lw_okC (lw_okI [(xs (6 * k + 1)), (xs (6 * k + 2))]) hP (lw_AC Fx) hS hl.1 (Nat.le_of_ble_eq_true rfl) (Nat.le_of_ble_eq_true rfl) (Nat.le_of_ble_eq_true rfl) rfl dL_law_780 (fun H1 locs hP1 hz hkk hS1 => ?_)
  refine va_forget (fun q hq => hS1.2.2 q hq) ?_
  have hS : va_S (lw_A s) s.heap H1 [] := ⟨hS1.1, hS1.2.1, fun _ h => by cases h⟩
  have hQ := lw_keepM Fx hQ hkk
  have hP := hP1
  refine W.eq (g2 := F0 m 783 ls [.int r]) rfl ?_
  refine lv_aload_n hx hb dL_law_783 rfl (lv_at hl 1 rfl) ?_
  refine lw_arg (j := 1) Fx hS hl (by omega) rfl dL_law_784 dL_law_785 dL_law_786 dL_law_787 dL_law_788 ?_
  refine lw_arg (j := 2) Fx hS hl (by omega) rfl dL_law_789 dL_law_790 dL_law_791 dL_law_792 dL_law_793 ?_
  refine pd_callV (kd := 40) (i := 0) (as := [pf_I (xs (6 * k + 1)), pf_I (xs (6 * k + 2))]) (rest := [.int r]) FM rfl lk_L_97 (Nat.le_of_ble_eq_true rfl) (Nat.le_of_ble_eq_true rfl) m2 lw_okM (lw_okI [(xs (6 * k + 1)), (xs (6 * k + 2))]) hQ (lw_AC2 Fx) hS hl.1 (Nat.le_of_ble_eq_true rfl) (Nat.le_of_ble_eq_true rfl) (Nat.le_of_ble_eq_true rfl) rfl dL_law_794 (fun H2 locs hQ1 hz hkk hS1 => ?_)
  refine va_forget (fun q hq => hS1.2.2 q hq) ?_
  have hS : va_S (lw_A s) s.heap H2 [] := ⟨hS1.1, hS1.2.1, fun _ h => by cases h⟩
  have hP := lw_keepC Fx hP hkk
  have hQ := hQ1
  refine W.eq (g2 := F0 m 797 ls [.int r, .int r]) rfl ?_
  refine lv_icmp_eq (tgt := 1065) hx hb dL_law_797 (by decide) (fun _ => ?_) (fun h => absurd rfl h)
  exact kk X2 Y2 hR2 H2 ls hP hQ hS hl
set_option maxHeartbeats 1000000 in
set_option maxRecDepth 100000 in
theorem lw_c_take (Fx : lw_Fx l p s m c b L xs D t g g2) (h6 : 6 * k + 6 ≤ L) (hR : sRR X Y k) (hk : k ≤ 512) (kk : ∀ X2 Y2, sRR X2 Y2 (k + 1) → lw_St l p e s m below meth c b D t g g2 1065 X2 Y2 k) : lw_St l p e s m below meth c b D t g g2 802 X Y k := by
  intro H ls hP hQ hS hl
  obtain ⟨FC, FM, hX, hbl, hg, hg2, hL⟩ := id Fx
  have hx := FC.1
  have hb := FC.2.1
  obtain ⟨r, X2, Y2, m1, m2, hR2⟩ := lc_take (gC l D g t) (gM l D g2 t) hR hk (xs (6 * k + 1))
  refine lv_aload_n hx hb dL_law_802 rfl (lv_at hl 2 rfl) ?_
  refine lw_arg (j := 1) Fx hS hl (by omega) rfl dL_law_803 dL_law_804 dL_law_805 dL_law_806 dL_law_807 ?_
  refine pd_callV (kd := 0) (i := 0) (as := [pf_I (xs (6 * k + 1))]) (rest := []) FC rfl lk_L_98 (Nat.le_of_ble_eq_true rfl) (Nat.le_of_ble_eq_true rfl) m1 lw_okC (lw_okI [(xs (6 * k + 1))]) hP (lw_AC Fx) hS hl.1 (Nat.le_of_ble_eq_true rfl) (Nat.le_of_ble_eq_true rfl) (Nat.le_of_ble_eq_true rfl) rfl dL_law_808 (fun H1 locs hP1 hz hkk hS1 => ?_)
  refine va_forget (fun q hq => hS1.2.2 q hq) ?_
  have hS : va_S (lw_A s) s.heap H1 [] := ⟨hS1.1, hS1.2.1, fun _ h => by cases h⟩
  have hQ := lw_keepM Fx hQ hkk
  have hP := hP1
  refine W.eq (g2 := F0 m 811 ls [.int r]) rfl ?_
  refine lv_aload_n hx hb dL_law_811 rfl (lv_at hl 1 rfl) ?_
  refine lw_arg (j := 1) Fx hS hl (by omega) rfl dL_law_812 dL_law_813 dL_law_814 dL_law_815 dL_law_816 ?_
  refine pd_callV (kd := 40) (i := 0) (as := [pf_I (xs (6 * k + 1))]) (rest := [.int r]) FM rfl lk_L_101 (Nat.le_of_ble_eq_true rfl) (Nat.le_of_ble_eq_true rfl) m2 lw_okM (lw_okI [(xs (6 * k + 1))]) hQ (lw_AC2 Fx) hS hl.1 (Nat.le_of_ble_eq_true rfl) (Nat.le_of_ble_eq_true rfl) (Nat.le_of_ble_eq_true rfl) rfl dL_law_817 (fun H2 locs hQ1 hz hkk hS1 => ?_)
  refine va_forget (fun q hq => hS1.2.2 q hq) ?_
  have hS : va_S (lw_A s) s.heap H2 [] := ⟨hS1.1, hS1.2.1, fun _ h => by cases h⟩
  have hP := lw_keepC Fx hP hkk
  have hQ := hQ1
  refine W.eq (g2 := F0 m 820 ls [.int r, .int r]) rfl ?_
  refine lv_icmp_eq (tgt := 1065) hx hb dL_law_820 (by decide) (fun _ => ?_) (fun h => absurd rfl h)
  exact kk X2 Y2 hR2 H2 ls hP hQ hS hl
set_option maxHeartbeats 1000000 in
set_option maxRecDepth 100000 in
theorem lw_c_fetch (Fx : lw_Fx l p s m c b L xs D t g g2) (h6 : 6 * k + 6 ≤ L) (hR : sRR X Y k) (hk : k ≤ 512) (kk : ∀ X2 Y2, sRR X2 Y2 (k + 1) → lw_St l p e s m below meth c b D t g g2 1065 X2 Y2 k) : lw_St l p e s m below meth c b D t g g2 825 X Y k := by
  intro H ls hP hQ hS hl
  obtain ⟨FC, FM, hX, hbl, hg, hg2, hL⟩ := id Fx
  have hx := FC.1
  have hb := FC.2.1
  obtain ⟨r, X2, Y2, m1, m2, hR2⟩ := lc_fetch (gC l D g t) (gM l D g2 t) hR hk (xs (6 * k + 1))
  refine lv_aload_n hx hb dL_law_825 rfl (lv_at hl 2 rfl) ?_
  refine lw_arg (j := 1) Fx hS hl (by omega) rfl dL_law_826 dL_law_827 dL_law_828 dL_law_829 dL_law_830 ?_
  refine pd_callV (kd := 0) (i := 0) (as := [pf_I (xs (6 * k + 1))]) (rest := []) FC rfl lk_L_102 (Nat.le_of_ble_eq_true rfl) (Nat.le_of_ble_eq_true rfl) m1 lw_okC (lw_okI [(xs (6 * k + 1))]) hP (lw_AC Fx) hS hl.1 (Nat.le_of_ble_eq_true rfl) (Nat.le_of_ble_eq_true rfl) (Nat.le_of_ble_eq_true rfl) rfl dL_law_831 (fun H1 locs hP1 hz hkk hS1 => ?_)
  refine va_forget (fun q hq => hS1.2.2 q hq) ?_
  have hS : va_S (lw_A s) s.heap H1 [] := ⟨hS1.1, hS1.2.1, fun _ h => by cases h⟩
  have hQ := lw_keepM Fx hQ hkk
  have hP := hP1
  refine W.eq (g2 := F0 m 834 ls [.int r]) rfl ?_
  refine lv_aload_n hx hb dL_law_834 rfl (lv_at hl 1 rfl) ?_
  refine lw_arg (j := 1) Fx hS hl (by omega) rfl dL_law_835 dL_law_836 dL_law_837 dL_law_838 dL_law_839 ?_
  refine pd_callV (kd := 40) (i := 0) (as := [pf_I (xs (6 * k + 1))]) (rest := [.int r]) FM rfl lk_L_105 (Nat.le_of_ble_eq_true rfl) (Nat.le_of_ble_eq_true rfl) m2 lw_okM (lw_okI [(xs (6 * k + 1))]) hQ (lw_AC2 Fx) hS hl.1 (Nat.le_of_ble_eq_true rfl) (Nat.le_of_ble_eq_true rfl) (Nat.le_of_ble_eq_true rfl) rfl dL_law_840 (fun H2 locs hQ1 hz hkk hS1 => ?_)
  refine va_forget (fun q hq => hS1.2.2 q hq) ?_
  have hS : va_S (lw_A s) s.heap H2 [] := ⟨hS1.1, hS1.2.1, fun _ h => by cases h⟩
  have hP := lw_keepC Fx hP hkk
  have hQ := hQ1
  refine W.eq (g2 := F0 m 843 ls [.int r, .int r]) rfl ?_
  refine lv_icmp_eq (tgt := 1065) hx hb dL_law_843 (by decide) (fun _ => ?_) (fun h => absurd rfl h)
  exact kk X2 Y2 hR2 H2 ls hP hQ hS hl
set_option maxHeartbeats 1000000 in
set_option maxRecDepth 100000 in
theorem lw_c_push (Fx : lw_Fx l p s m c b L xs D t g g2) (h6 : 6 * k + 6 ≤ L) (hR : sRR X Y k) (hk : k ≤ 512) (kk : ∀ X2 Y2, sRR X2 Y2 (k + 1) → lw_St l p e s m below meth c b D t g g2 1065 X2 Y2 k) : lw_St l p e s m below meth c b D t g g2 848 X Y k := by
  intro H ls hP hQ hS hl
  obtain ⟨FC, FM, hX, hbl, hg, hg2, hL⟩ := id Fx
  have hx := FC.1
  have hb := FC.2.1
  obtain ⟨r, X2, Y2, m1, m2, hR2⟩ := lc_push (gC l D g t) (gM l D g2 t) hR hk (xs (6 * k + 1)) (xs (6 * k + 2))
  refine lv_aload_n hx hb dL_law_848 rfl (lv_at hl 2 rfl) ?_
  refine lw_arg (j := 1) Fx hS hl (by omega) rfl dL_law_849 dL_law_850 dL_law_851 dL_law_852 dL_law_853 ?_
  refine lw_arg (j := 2) Fx hS hl (by omega) rfl dL_law_854 dL_law_855 dL_law_856 dL_law_857 dL_law_858 ?_
  refine pd_callV (kd := 0) (i := 0) (as := [pf_I (xs (6 * k + 1)), pf_I (xs (6 * k + 2))]) (rest := []) FC rfl lk_L_106 (Nat.le_of_ble_eq_true rfl) (Nat.le_of_ble_eq_true rfl) m1 lw_okC (lw_okI [(xs (6 * k + 1)), (xs (6 * k + 2))]) hP (lw_AC Fx) hS hl.1 (Nat.le_of_ble_eq_true rfl) (Nat.le_of_ble_eq_true rfl) (Nat.le_of_ble_eq_true rfl) rfl dL_law_859 (fun H1 locs hP1 hz hkk hS1 => ?_)
  refine va_forget (fun q hq => hS1.2.2 q hq) ?_
  have hS : va_S (lw_A s) s.heap H1 [] := ⟨hS1.1, hS1.2.1, fun _ h => by cases h⟩
  have hQ := lw_keepM Fx hQ hkk
  have hP := hP1
  refine W.eq (g2 := F0 m 862 ls [.int r]) rfl ?_
  refine lv_aload_n hx hb dL_law_862 rfl (lv_at hl 1 rfl) ?_
  refine lw_arg (j := 1) Fx hS hl (by omega) rfl dL_law_863 dL_law_864 dL_law_865 dL_law_866 dL_law_867 ?_
  refine lw_arg (j := 2) Fx hS hl (by omega) rfl dL_law_868 dL_law_869 dL_law_870 dL_law_871 dL_law_872 ?_
  refine pd_callV (kd := 40) (i := 0) (as := [pf_I (xs (6 * k + 1)), pf_I (xs (6 * k + 2))]) (rest := [.int r]) FM rfl lk_L_109 (Nat.le_of_ble_eq_true rfl) (Nat.le_of_ble_eq_true rfl) m2 lw_okM (lw_okI [(xs (6 * k + 1)), (xs (6 * k + 2))]) hQ (lw_AC2 Fx) hS hl.1 (Nat.le_of_ble_eq_true rfl) (Nat.le_of_ble_eq_true rfl) (Nat.le_of_ble_eq_true rfl) rfl dL_law_873 (fun H2 locs hQ1 hz hkk hS1 => ?_)
  refine va_forget (fun q hq => hS1.2.2 q hq) ?_
  have hS : va_S (lw_A s) s.heap H2 [] := ⟨hS1.1, hS1.2.1, fun _ h => by cases h⟩
  have hP := lw_keepC Fx hP hkk
  have hQ := hQ1
  refine W.eq (g2 := F0 m 876 ls [.int r, .int r]) rfl ?_
  refine lv_icmp_eq (tgt := 1065) hx hb dL_law_876 (by decide) (fun _ => ?_) (fun h => absurd rfl h)
  exact kk X2 Y2 hR2 H2 ls hP hQ hS hl
set_option maxHeartbeats 1000000 in
set_option maxRecDepth 100000 in
theorem lw_c_again (Fx : lw_Fx l p s m c b L xs D t g g2) (h6 : 6 * k + 6 ≤ L) (hR : sRR X Y k) (hk : k ≤ 512) (kk : ∀ X2 Y2, sRR X2 Y2 (k + 1) → lw_St l p e s m below meth c b D t g g2 1065 X2 Y2 k) : lw_St l p e s m below meth c b D t g g2 881 X Y k := by
  intro H ls hP hQ hS hl
  obtain ⟨FC, FM, hX, hbl, hg, hg2, hL⟩ := id Fx
  have hx := FC.1
  have hb := FC.2.1
  obtain ⟨r, X2, Y2, m1, m2, hR2⟩ := lc_again (gC l D g t) (gM l D g2 t) hR hk (xs (6 * k + 1))
  refine lv_aload_n hx hb dL_law_881 rfl (lv_at hl 2 rfl) ?_
  refine lw_arg (j := 1) Fx hS hl (by omega) rfl dL_law_882 dL_law_883 dL_law_884 dL_law_885 dL_law_886 ?_
  refine pd_callV (kd := 0) (i := 0) (as := [pf_I (xs (6 * k + 1))]) (rest := []) FC rfl lk_L_110 (Nat.le_of_ble_eq_true rfl) (Nat.le_of_ble_eq_true rfl) m1 lw_okC (lw_okI [(xs (6 * k + 1))]) hP (lw_AC Fx) hS hl.1 (Nat.le_of_ble_eq_true rfl) (Nat.le_of_ble_eq_true rfl) (Nat.le_of_ble_eq_true rfl) rfl dL_law_887 (fun H1 locs hP1 hz hkk hS1 => ?_)
  refine va_forget (fun q hq => hS1.2.2 q hq) ?_
  have hS : va_S (lw_A s) s.heap H1 [] := ⟨hS1.1, hS1.2.1, fun _ h => by cases h⟩
  have hQ := lw_keepM Fx hQ hkk
  have hP := hP1
  refine W.eq (g2 := F0 m 890 ls [.int r]) rfl ?_
  refine lv_aload_n hx hb dL_law_890 rfl (lv_at hl 1 rfl) ?_
  refine lw_arg (j := 1) Fx hS hl (by omega) rfl dL_law_891 dL_law_892 dL_law_893 dL_law_894 dL_law_895 ?_
  refine pd_callV (kd := 40) (i := 0) (as := [pf_I (xs (6 * k + 1))]) (rest := [.int r]) FM rfl lk_L_113 (Nat.le_of_ble_eq_true rfl) (Nat.le_of_ble_eq_true rfl) m2 lw_okM (lw_okI [(xs (6 * k + 1))]) hQ (lw_AC2 Fx) hS hl.1 (Nat.le_of_ble_eq_true rfl) (Nat.le_of_ble_eq_true rfl) (Nat.le_of_ble_eq_true rfl) rfl dL_law_896 (fun H2 locs hQ1 hz hkk hS1 => ?_)
  refine va_forget (fun q hq => hS1.2.2 q hq) ?_
  have hS : va_S (lw_A s) s.heap H2 [] := ⟨hS1.1, hS1.2.1, fun _ h => by cases h⟩
  have hP := lw_keepC Fx hP hkk
  have hQ := hQ1
  refine W.eq (g2 := F0 m 899 ls [.int r, .int r]) rfl ?_
  refine lv_icmp_eq (tgt := 1065) hx hb dL_law_899 (by decide) (fun _ => ?_) (fun h => absurd rfl h)
  exact kk X2 Y2 hR2 H2 ls hP hQ hS hl
set_option maxHeartbeats 1000000 in
set_option maxRecDepth 100000 in
theorem lw_c_box (Fx : lw_Fx l p s m c b L xs D t g g2) (h6 : 6 * k + 6 ≤ L) (hR : sRR X Y k) (hk : k ≤ 512) (kk : ∀ X2 Y2, sRR X2 Y2 (k + 1) → lw_St l p e s m below meth c b D t g g2 1065 X2 Y2 k) : lw_St l p e s m below meth c b D t g g2 904 X Y k := by
  intro H ls hP hQ hS hl
  obtain ⟨FC, FM, hX, hbl, hg, hg2, hL⟩ := id Fx
  have hx := FC.1
  have hb := FC.2.1
  obtain ⟨r, X2, Y2, m1, m2, hR2⟩ := lc_box (gC l D g t) (gM l D g2 t) hR hk (xs (6 * k + 1)) (xs (6 * k + 2))
  refine lv_aload_n hx hb dL_law_904 rfl (lv_at hl 2 rfl) ?_
  refine lw_arg (j := 1) Fx hS hl (by omega) rfl dL_law_905 dL_law_906 dL_law_907 dL_law_908 dL_law_909 ?_
  refine lw_arg (j := 2) Fx hS hl (by omega) rfl dL_law_910 dL_law_911 dL_law_912 dL_law_913 dL_law_914 ?_
  refine pd_callV (kd := 0) (i := 0) (as := [pf_I (xs (6 * k + 1)), pf_I (xs (6 * k + 2))]) (rest := []) FC rfl lk_L_114 (Nat.le_of_ble_eq_true rfl) (Nat.le_of_ble_eq_true rfl) m1 lw_okC (lw_okI [(xs (6 * k + 1)), (xs (6 * k + 2))]) hP (lw_AC Fx) hS hl.1 (Nat.le_of_ble_eq_true rfl) (Nat.le_of_ble_eq_true rfl) (Nat.le_of_ble_eq_true rfl) rfl dL_law_915 (fun H1 locs hP1 hz hkk hS1 => ?_)
  refine va_forget (fun q hq => hS1.2.2 q hq) ?_
  have hS : va_S (lw_A s) s.heap H1 [] := ⟨hS1.1, hS1.2.1, fun _ h => by cases h⟩
  have hQ := lw_keepM Fx hQ hkk
  have hP := hP1
  refine W.eq (g2 := F0 m 918 ls [.int r]) rfl ?_
  refine lv_aload_n hx hb dL_law_918 rfl (lv_at hl 1 rfl) ?_
  refine lw_arg (j := 1) Fx hS hl (by omega) rfl dL_law_919 dL_law_920 dL_law_921 dL_law_922 dL_law_923 ?_
  refine lw_arg (j := 2) Fx hS hl (by omega) rfl dL_law_924 dL_law_925 dL_law_926 dL_law_927 dL_law_928 ?_
  refine pd_callV (kd := 40) (i := 0) (as := [pf_I (xs (6 * k + 1)), pf_I (xs (6 * k + 2))]) (rest := [.int r]) FM rfl lk_L_117 (Nat.le_of_ble_eq_true rfl) (Nat.le_of_ble_eq_true rfl) m2 lw_okM (lw_okI [(xs (6 * k + 1)), (xs (6 * k + 2))]) hQ (lw_AC2 Fx) hS hl.1 (Nat.le_of_ble_eq_true rfl) (Nat.le_of_ble_eq_true rfl) (Nat.le_of_ble_eq_true rfl) rfl dL_law_929 (fun H2 locs hQ1 hz hkk hS1 => ?_)
  refine va_forget (fun q hq => hS1.2.2 q hq) ?_
  have hS : va_S (lw_A s) s.heap H2 [] := ⟨hS1.1, hS1.2.1, fun _ h => by cases h⟩
  have hP := lw_keepC Fx hP hkk
  have hQ := hQ1
  refine W.eq (g2 := F0 m 932 ls [.int r, .int r]) rfl ?_
  refine lv_icmp_eq (tgt := 1065) hx hb dL_law_932 (by decide) (fun _ => ?_) (fun h => absurd rfl h)
  exact kk X2 Y2 hR2 H2 ls hP hQ hS hl
set_option maxHeartbeats 1000000 in
set_option maxRecDepth 100000 in
theorem lw_c_later (Fx : lw_Fx l p s m c b L xs D t g g2) (h6 : 6 * k + 6 ≤ L) (hR : sRR X Y k) (hk : k ≤ 512) (kk : ∀ X2 Y2, sRR X2 Y2 (k + 1) → lw_St l p e s m below meth c b D t g g2 1065 X2 Y2 k) : lw_St l p e s m below meth c b D t g g2 937 X Y k := by
  intro H ls hP hQ hS hl
  obtain ⟨FC, FM, hX, hbl, hg, hg2, hL⟩ := id Fx
  have hx := FC.1
  have hb := FC.2.1
  obtain ⟨r, X2, Y2, m1, m2, hR2⟩ := lc_later (gC l D g t) (gM l D g2 t) hR hk (xs (6 * k + 1))
  refine lv_aload_n hx hb dL_law_937 rfl (lv_at hl 2 rfl) ?_
  refine lw_arg (j := 1) Fx hS hl (by omega) rfl dL_law_938 dL_law_939 dL_law_940 dL_law_941 dL_law_942 ?_
  refine pd_callV (kd := 0) (i := 0) (as := [pf_I (xs (6 * k + 1))]) (rest := []) FC rfl lk_L_118 (Nat.le_of_ble_eq_true rfl) (Nat.le_of_ble_eq_true rfl) m1 lw_okC (lw_okI [(xs (6 * k + 1))]) hP (lw_AC Fx) hS hl.1 (Nat.le_of_ble_eq_true rfl) (Nat.le_of_ble_eq_true rfl) (Nat.le_of_ble_eq_true rfl) rfl dL_law_943 (fun H1 locs hP1 hz hkk hS1 => ?_)
  refine va_forget (fun q hq => hS1.2.2 q hq) ?_
  have hS : va_S (lw_A s) s.heap H1 [] := ⟨hS1.1, hS1.2.1, fun _ h => by cases h⟩
  have hQ := lw_keepM Fx hQ hkk
  have hP := hP1
  refine W.eq (g2 := F0 m 946 ls [.int r]) rfl ?_
  refine lv_aload_n hx hb dL_law_946 rfl (lv_at hl 1 rfl) ?_
  refine lw_arg (j := 1) Fx hS hl (by omega) rfl dL_law_947 dL_law_948 dL_law_949 dL_law_950 dL_law_951 ?_
  refine pd_callV (kd := 40) (i := 0) (as := [pf_I (xs (6 * k + 1))]) (rest := [.int r]) FM rfl lk_L_121 (Nat.le_of_ble_eq_true rfl) (Nat.le_of_ble_eq_true rfl) m2 lw_okM (lw_okI [(xs (6 * k + 1))]) hQ (lw_AC2 Fx) hS hl.1 (Nat.le_of_ble_eq_true rfl) (Nat.le_of_ble_eq_true rfl) (Nat.le_of_ble_eq_true rfl) rfl dL_law_952 (fun H2 locs hQ1 hz hkk hS1 => ?_)
  refine va_forget (fun q hq => hS1.2.2 q hq) ?_
  have hS : va_S (lw_A s) s.heap H2 [] := ⟨hS1.1, hS1.2.1, fun _ h => by cases h⟩
  have hP := lw_keepC Fx hP hkk
  have hQ := hQ1
  refine W.eq (g2 := F0 m 955 ls [.int r, .int r]) rfl ?_
  refine lv_icmp_eq (tgt := 1065) hx hb dL_law_955 (by decide) (fun _ => ?_) (fun h => absurd rfl h)
  exact kk X2 Y2 hR2 H2 ls hP hQ hS hl
set_option maxHeartbeats 1000000 in
set_option maxRecDepth 100000 in
theorem lw_c_level (Fx : lw_Fx l p s m c b L xs D t g g2) (h6 : 6 * k + 6 ≤ L) (hR : sRR X Y k) (hk : k ≤ 512) (kk : ∀ X2 Y2, sRR X2 Y2 (k + 1) → lw_St l p e s m below meth c b D t g g2 1065 X2 Y2 k) : lw_St l p e s m below meth c b D t g g2 960 X Y k := by
  intro H ls hP hQ hS hl
  obtain ⟨FC, FM, hX, hbl, hg, hg2, hL⟩ := id Fx
  have hx := FC.1
  have hb := FC.2.1
  obtain ⟨r, X2, Y2, m1, m2, hR2⟩ := lc_level (gC l D g t) (gM l D g2 t) hR hk
  refine lv_aload_n hx hb dL_law_960 rfl (lv_at hl 2 rfl) ?_
  refine pd_callV (kd := 0) (i := 0) (as := []) (rest := []) FC rfl lk_L_122 (Nat.le_of_ble_eq_true rfl) (Nat.le_of_ble_eq_true rfl) m1 lw_okC (lw_okI []) hP (lw_AC Fx) hS hl.1 (Nat.le_of_ble_eq_true rfl) (Nat.le_of_ble_eq_true rfl) (Nat.le_of_ble_eq_true rfl) rfl dL_law_961 (fun H1 locs hP1 hz hkk hS1 => ?_)
  refine va_forget (fun q hq => hS1.2.2 q hq) ?_
  have hS : va_S (lw_A s) s.heap H1 [] := ⟨hS1.1, hS1.2.1, fun _ h => by cases h⟩
  have hQ := lw_keepM Fx hQ hkk
  have hP := hP1
  refine W.eq (g2 := F0 m 964 ls [.int r]) rfl ?_
  refine lv_aload_n hx hb dL_law_964 rfl (lv_at hl 1 rfl) ?_
  refine pd_callV (kd := 40) (i := 0) (as := []) (rest := [.int r]) FM rfl lk_L_125 (Nat.le_of_ble_eq_true rfl) (Nat.le_of_ble_eq_true rfl) m2 lw_okM (lw_okI []) hQ (lw_AC2 Fx) hS hl.1 (Nat.le_of_ble_eq_true rfl) (Nat.le_of_ble_eq_true rfl) (Nat.le_of_ble_eq_true rfl) rfl dL_law_965 (fun H2 locs hQ1 hz hkk hS1 => ?_)
  refine va_forget (fun q hq => hS1.2.2 q hq) ?_
  have hS : va_S (lw_A s) s.heap H2 [] := ⟨hS1.1, hS1.2.1, fun _ h => by cases h⟩
  have hP := lw_keepC Fx hP hkk
  have hQ := hQ1
  refine W.eq (g2 := F0 m 968 ls [.int r, .int r]) rfl ?_
  refine lv_icmp_eq (tgt := 1065) hx hb dL_law_968 (by decide) (fun _ => ?_) (fun h => absurd rfl h)
  exact kk X2 Y2 hR2 H2 ls hP hQ hS hl
set_option maxHeartbeats 1000000 in
set_option maxRecDepth 100000 in
theorem lw_c_steer (Fx : lw_Fx l p s m c b L xs D t g g2) (h6 : 6 * k + 6 ≤ L) (hR : sRR X Y k) (hk : k ≤ 512) (kk : ∀ X2 Y2, sRR X2 Y2 (k + 1) → lw_St l p e s m below meth c b D t g g2 1065 X2 Y2 k) : lw_St l p e s m below meth c b D t g g2 973 X Y k := by
  intro H ls hP hQ hS hl
  obtain ⟨FC, FM, hX, hbl, hg, hg2, hL⟩ := id Fx
  have hx := FC.1
  have hb := FC.2.1
  obtain ⟨r, X2, Y2, m1, m2, hR2⟩ := lc_steer (gC l D g t) (gM l D g2 t) hR hk (xs (6 * k + 1))
  refine lv_aload_n hx hb dL_law_973 rfl (lv_at hl 2 rfl) ?_
  refine lw_arg (j := 1) Fx hS hl (by omega) rfl dL_law_974 dL_law_975 dL_law_976 dL_law_977 dL_law_978 ?_
  refine pd_callV (kd := 0) (i := 0) (as := [pf_I (xs (6 * k + 1))]) (rest := []) FC rfl lk_L_126 (Nat.le_of_ble_eq_true rfl) (Nat.le_of_ble_eq_true rfl) m1 lw_okC (lw_okI [(xs (6 * k + 1))]) hP (lw_AC Fx) hS hl.1 (Nat.le_of_ble_eq_true rfl) (Nat.le_of_ble_eq_true rfl) (Nat.le_of_ble_eq_true rfl) rfl dL_law_979 (fun H1 locs hP1 hz hkk hS1 => ?_)
  refine va_forget (fun q hq => hS1.2.2 q hq) ?_
  have hS : va_S (lw_A s) s.heap H1 [] := ⟨hS1.1, hS1.2.1, fun _ h => by cases h⟩
  have hQ := lw_keepM Fx hQ hkk
  have hP := hP1
  refine W.eq (g2 := F0 m 982 ls [.int r]) rfl ?_
  refine lv_aload_n hx hb dL_law_982 rfl (lv_at hl 1 rfl) ?_
  refine lw_arg (j := 1) Fx hS hl (by omega) rfl dL_law_983 dL_law_984 dL_law_985 dL_law_986 dL_law_987 ?_
  refine pd_callV (kd := 40) (i := 0) (as := [pf_I (xs (6 * k + 1))]) (rest := [.int r]) FM rfl lk_L_129 (Nat.le_of_ble_eq_true rfl) (Nat.le_of_ble_eq_true rfl) m2 lw_okM (lw_okI [(xs (6 * k + 1))]) hQ (lw_AC2 Fx) hS hl.1 (Nat.le_of_ble_eq_true rfl) (Nat.le_of_ble_eq_true rfl) (Nat.le_of_ble_eq_true rfl) rfl dL_law_988 (fun H2 locs hQ1 hz hkk hS1 => ?_)
  refine va_forget (fun q hq => hS1.2.2 q hq) ?_
  have hS : va_S (lw_A s) s.heap H2 [] := ⟨hS1.1, hS1.2.1, fun _ h => by cases h⟩
  have hP := lw_keepC Fx hP hkk
  have hQ := hQ1
  refine W.eq (g2 := F0 m 991 ls [.int r, .int r]) rfl ?_
  refine lv_icmp_eq (tgt := 1065) hx hb dL_law_991 (by decide) (fun _ => ?_) (fun h => absurd rfl h)
  exact kk X2 Y2 hR2 H2 ls hP hQ hS hl
set_option maxHeartbeats 1000000 in
set_option maxRecDepth 100000 in
theorem lw_c_clock (Fx : lw_Fx l p s m c b L xs D t g g2) (h6 : 6 * k + 6 ≤ L) (hR : sRR X Y k) (hk : k ≤ 512) (kk : ∀ X2 Y2, sRR X2 Y2 (k + 1) → lw_St l p e s m below meth c b D t g g2 1065 X2 Y2 k) : lw_St l p e s m below meth c b D t g g2 996 X Y k := by
  intro H ls hP hQ hS hl
  obtain ⟨FC, FM, hX, hbl, hg, hg2, hL⟩ := id Fx
  have hx := FC.1
  have hb := FC.2.1
  obtain ⟨r, X2, Y2, m1, m2, hR2⟩ := lc_clock (gC l D g t) (gM l D g2 t) hR hk (xs (6 * k + 1)) (xs (6 * k + 2))
  refine lv_aload_n hx hb dL_law_996 rfl (lv_at hl 2 rfl) ?_
  refine lw_arg (j := 1) Fx hS hl (by omega) rfl dL_law_997 dL_law_998 dL_law_999 dL_law_1000 dL_law_1001 ?_
  refine lw_arg (j := 2) Fx hS hl (by omega) rfl dL_law_1002 dL_law_1003 dL_law_1004 dL_law_1005 dL_law_1006 ?_
  refine pd_callV (kd := 0) (i := 0) (as := [pf_I (xs (6 * k + 1)), pf_I (xs (6 * k + 2))]) (rest := []) FC rfl lk_L_130 (Nat.le_of_ble_eq_true rfl) (Nat.le_of_ble_eq_true rfl) m1 lw_okC (lw_okI [(xs (6 * k + 1)), (xs (6 * k + 2))]) hP (lw_AC Fx) hS hl.1 (Nat.le_of_ble_eq_true rfl) (Nat.le_of_ble_eq_true rfl) (Nat.le_of_ble_eq_true rfl) rfl dL_law_1007 (fun H1 locs hP1 hz hkk hS1 => ?_)
  refine va_forget (fun q hq => hS1.2.2 q hq) ?_
  have hS : va_S (lw_A s) s.heap H1 [] := ⟨hS1.1, hS1.2.1, fun _ h => by cases h⟩
  have hQ := lw_keepM Fx hQ hkk
  have hP := hP1
  refine W.eq (g2 := F0 m 1010 ls [.int r]) rfl ?_
  refine lv_aload_n hx hb dL_law_1010 rfl (lv_at hl 1 rfl) ?_
  refine lw_arg (j := 1) Fx hS hl (by omega) rfl dL_law_1011 dL_law_1012 dL_law_1013 dL_law_1014 dL_law_1015 ?_
  refine lw_arg (j := 2) Fx hS hl (by omega) rfl dL_law_1016 dL_law_1017 dL_law_1018 dL_law_1019 dL_law_1020 ?_
  refine pd_callV (kd := 40) (i := 0) (as := [pf_I (xs (6 * k + 1)), pf_I (xs (6 * k + 2))]) (rest := [.int r]) FM rfl lk_L_133 (Nat.le_of_ble_eq_true rfl) (Nat.le_of_ble_eq_true rfl) m2 lw_okM (lw_okI [(xs (6 * k + 1)), (xs (6 * k + 2))]) hQ (lw_AC2 Fx) hS hl.1 (Nat.le_of_ble_eq_true rfl) (Nat.le_of_ble_eq_true rfl) (Nat.le_of_ble_eq_true rfl) rfl dL_law_1021 (fun H2 locs hQ1 hz hkk hS1 => ?_)
  refine va_forget (fun q hq => hS1.2.2 q hq) ?_
  have hS : va_S (lw_A s) s.heap H2 [] := ⟨hS1.1, hS1.2.1, fun _ h => by cases h⟩
  have hP := lw_keepC Fx hP hkk
  have hQ := hQ1
  refine W.eq (g2 := F0 m 1024 ls [.int r, .int r]) rfl ?_
  refine lv_icmp_eq (tgt := 1065) hx hb dL_law_1024 (by decide) (fun _ => ?_) (fun h => absurd rfl h)
  exact kk X2 Y2 hR2 H2 ls hP hQ hS hl
set_option maxHeartbeats 1000000 in
set_option maxRecDepth 100000 in
theorem lw_c_apart (Fx : lw_Fx l p s m c b L xs D t g g2) (h6 : 6 * k + 6 ≤ L) (hR : sRR X Y k) (hk : k ≤ 512) (kk : ∀ X2 Y2, sRR X2 Y2 (k + 1) → lw_St l p e s m below meth c b D t g g2 1065 X2 Y2 k) : lw_St l p e s m below meth c b D t g g2 1029 X Y k := by
  intro H ls hP hQ hS hl
  obtain ⟨FC, FM, hX, hbl, hg, hg2, hL⟩ := id Fx
  have hx := FC.1
  have hb := FC.2.1
  obtain ⟨r, X2, Y2, m1, m2, hR2⟩ := lc_apart (gC l D g t) (gM l D g2 t) hR hk
  refine lv_aload_n hx hb dL_law_1029 rfl (lv_at hl 2 rfl) ?_
  refine pd_callV (kd := 0) (i := 0) (as := []) (rest := []) FC rfl lk_L_134 (Nat.le_of_ble_eq_true rfl) (Nat.le_of_ble_eq_true rfl) m1 lw_okC (lw_okI []) hP (lw_AC Fx) hS hl.1 (Nat.le_of_ble_eq_true rfl) (Nat.le_of_ble_eq_true rfl) (Nat.le_of_ble_eq_true rfl) rfl dL_law_1030 (fun H1 locs hP1 hz hkk hS1 => ?_)
  refine va_forget (fun q hq => hS1.2.2 q hq) ?_
  have hS : va_S (lw_A s) s.heap H1 [] := ⟨hS1.1, hS1.2.1, fun _ h => by cases h⟩
  have hQ := lw_keepM Fx hQ hkk
  have hP := hP1
  refine W.eq (g2 := F0 m 1033 ls [.int r]) rfl ?_
  refine lv_aload_n hx hb dL_law_1033 rfl (lv_at hl 1 rfl) ?_
  refine pd_callV (kd := 40) (i := 0) (as := []) (rest := [.int r]) FM rfl lk_L_137 (Nat.le_of_ble_eq_true rfl) (Nat.le_of_ble_eq_true rfl) m2 lw_okM (lw_okI []) hQ (lw_AC2 Fx) hS hl.1 (Nat.le_of_ble_eq_true rfl) (Nat.le_of_ble_eq_true rfl) (Nat.le_of_ble_eq_true rfl) rfl dL_law_1034 (fun H2 locs hQ1 hz hkk hS1 => ?_)
  refine va_forget (fun q hq => hS1.2.2 q hq) ?_
  have hS : va_S (lw_A s) s.heap H2 [] := ⟨hS1.1, hS1.2.1, fun _ h => by cases h⟩
  have hP := lw_keepC Fx hP hkk
  have hQ := hQ1
  refine W.eq (g2 := F0 m 1037 ls [.int r, .int r]) rfl ?_
  refine lv_icmp_eq (tgt := 1065) hx hb dL_law_1037 (by decide) (fun _ => ?_) (fun h => absurd rfl h)
  exact kk X2 Y2 hR2 H2 ls hP hQ hS hl
set_option maxHeartbeats 1000000 in
set_option maxRecDepth 100000 in
theorem lw_c_count (Fx : lw_Fx l p s m c b L xs D t g g2) (h6 : 6 * k + 6 ≤ L) (hR : sRR X Y k) (hk : k ≤ 512) (kk : ∀ X2 Y2, sRR X2 Y2 (k + 1) → lw_St l p e s m below meth c b D t g g2 1065 X2 Y2 k) : lw_St l p e s m below meth c b D t g g2 1042 X Y k := by
  intro H ls hP hQ hS hl
  obtain ⟨FC, FM, hX, hbl, hg, hg2, hL⟩ := id Fx
  have hx := FC.1
  have hb := FC.2.1
  obtain ⟨r, X2, Y2, m1, m2, hR2⟩ := lc_count (gC l D g t) (gM l D g2 t) hR hk (xs (6 * k + 1))
  refine lv_aload_n hx hb dL_law_1042 rfl (lv_at hl 2 rfl) ?_
  refine lw_arg (j := 1) Fx hS hl (by omega) rfl dL_law_1043 dL_law_1044 dL_law_1045 dL_law_1046 dL_law_1047 ?_
  refine pd_callV (kd := 0) (i := 0) (as := [pf_I (xs (6 * k + 1))]) (rest := []) FC rfl lk_L_138 (Nat.le_of_ble_eq_true rfl) (Nat.le_of_ble_eq_true rfl) m1 lw_okC (lw_okI [(xs (6 * k + 1))]) hP (lw_AC Fx) hS hl.1 (Nat.le_of_ble_eq_true rfl) (Nat.le_of_ble_eq_true rfl) (Nat.le_of_ble_eq_true rfl) rfl dL_law_1048 (fun H1 locs hP1 hz hkk hS1 => ?_)
  refine va_forget (fun q hq => hS1.2.2 q hq) ?_
  have hS : va_S (lw_A s) s.heap H1 [] := ⟨hS1.1, hS1.2.1, fun _ h => by cases h⟩
  have hQ := lw_keepM Fx hQ hkk
  have hP := hP1
  refine W.eq (g2 := F0 m 1051 ls [.int r]) rfl ?_
  refine lv_aload_n hx hb dL_law_1051 rfl (lv_at hl 1 rfl) ?_
  refine lw_arg (j := 1) Fx hS hl (by omega) rfl dL_law_1052 dL_law_1053 dL_law_1054 dL_law_1055 dL_law_1056 ?_
  refine pd_callV (kd := 40) (i := 0) (as := [pf_I (xs (6 * k + 1))]) (rest := [.int r]) FM rfl lk_L_141 (Nat.le_of_ble_eq_true rfl) (Nat.le_of_ble_eq_true rfl) m2 lw_okM (lw_okI [(xs (6 * k + 1))]) hQ (lw_AC2 Fx) hS hl.1 (Nat.le_of_ble_eq_true rfl) (Nat.le_of_ble_eq_true rfl) (Nat.le_of_ble_eq_true rfl) rfl dL_law_1057 (fun H2 locs hQ1 hz hkk hS1 => ?_)
  refine va_forget (fun q hq => hS1.2.2 q hq) ?_
  have hS : va_S (lw_A s) s.heap H2 [] := ⟨hS1.1, hS1.2.1, fun _ h => by cases h⟩
  have hP := lw_keepC Fx hP hkk
  have hQ := hQ1
  refine W.eq (g2 := F0 m 1060 ls [.int r, .int r]) rfl ?_
  refine lv_icmp_eq (tgt := 1065) hx hb dL_law_1060 (by decide) (fun _ => ?_) (fun h => absurd rfl h)
  exact kk X2 Y2 hR2 H2 ls hP hQ hS hl
end
