def pf_Fl (own : String) (idx ci k : Nat) (ty : FieldType) (fin : Bool) : Prop := ∃ (C : String) (T : u_T) (N : Nat) (ty0 : Nat → FieldType), vwCl[ci]? = some (C, T, N) ∧ pf_nf ci = N ∧ k < N ∧ (∀ w ∈ u_ws C T N, w ∈ pf_tb) ∧ (∀ k, k < N → parseFieldDescriptor (T k).2.2.1 = some (ty0 k)) ∧ (∀ a, a < N → ∀ b, b < N → a ≠ b → (T a).2.1 ≠ (T b).2.1) ∧ parseFieldDescriptor (T k).2.2.1 = some ty ∧ (T k).2.2.2 = fin ∧
  (Cond.fieldLink own idx (T k).1 (T k).2.1 (T k).2.2.1 ∈ pf_tb ∨ ∃ host, Cond.fieldLinkNest own idx (T k).1 (T k).2.1 (T k).2.2.1 host ∈ pf_nw)
def pf_LkB (y : MethodName) (cc : ByteArray) (nL : Nat) (ret : Option FieldType) (n : Nat) : Prop :=
  Cond.initialized y.cls ∈ pf_tb ∧ Cond.code y cc nL ret ∈ pf_tb ∧ (y.cls ≠ "java/lang/invoke/MethodHandle" ∧ y.cls ≠ "java/lang/invoke/VarHandle") ∧ (parseMethodDescriptor y.desc).map (fun d => d.parameters.length) = some n
def pf_LkV (own : String) (idx ci : Nat) (y : MethodName) (cc : ByteArray) (nL : Nat) (ret : Option FieldType) (n : Nat) : Prop :=
  pf_LkB y cc nL ret n ∧ (∃ (T : u_T) (N : Nat), vwCl[ci]? = some (y.cls, T, N)) ∧ Cond.instanceMethod y ∈ pf_tb ∧ Cond.selects y.cls y y ∈ pf_tb ∧ (Cond.methodLink own idx y ∈ pf_tb ∨ ∃ host, Cond.methodLinkNest own idx y host ∈ pf_nw)
def pf_LkS (own : String) (idx : Nat) (y : MethodName) (cc : ByteArray) (nL : Nat) (ret : Option FieldType) (n : Nat) : Prop :=
  pf_LkB y cc nL ret n ∧ Cond.static y ∈ pf_tb ∧ (Cond.methodLink own idx y ∈ pf_tb ∨ ∃ host, Cond.methodLinkNest own idx y host ∈ pf_nw)
def pf_LkA (own : String) (idx : Nat) : Prop := Cond.methodLink own idx arraycopyName ∈ pf_tb ∧ Cond.native arraycopyName ∈ pf_tb ∧ Cond.static arraycopyName ∈ pf_tb ∧ Cond.initialized "java/lang/System" ∈ pf_tb
def pf_cmp (c : ClassFile.Cond) (x y : Int32) : Prop := match c with
  | .eq => x = y
  | .ne => ¬ x = y
  | .lt => x < y
  | .ge => y ≤ x
  | .gt => y < x
  | .le => x ≤ y
def pf_intK (kd n : Nat) : Prop := pf_ci kd = none ∧ pf_ar kd = some (0, n)
def pf_wd (r : List pf_V) : Nat := (r.map pf_cat).sum
/-- what an instruction asks of the states behind it -/
def pf_step (G : pf_G) (own : String) (FR LO : Nat) (ret : Option FieldType) (r0 : Option pf_V) (M0 : pf_M) (K : Nat → List pf_V → List pf_V → pf_M → Prop) (pc len : Nat) (lo st : List pf_V) (M : pf_M) (ins : Instr) : Prop := match ins with
  | .aconst_null => len = 1 ∧ K (pc + 1) lo (pf_N :: st) M
  | .iconst n => len = 1 ∧ K (pc + 1) lo (pf_I (Int32.ofInt n) :: st) M
  | .bipush n => len = 2 ∧ K (pc + 2) lo (pf_I (Int8.ofInt n).toInt32 :: st) M
  | .sipush n => len = 3 ∧ K (pc + 3) lo (pf_I (Int16.ofInt n).toInt32 :: st) M
  | .lconst n => len = 1 ∧ K (pc + 1) lo (pf_L (Int64.ofNat (n : Nat)) :: st) M
  | .ldc idx => ∃ v, len = 2 ∧ Cond.constant own idx v ∈ pf_tb ∧ K (pc + 2) lo (pf_I v :: st) M
  | .ldc_w idx => ∃ v, len = 3 ∧ Cond.constant own idx v ∈ pf_tb ∧ K (pc + 3) lo (pf_I v :: st) M
  | .ldc2_w idx => ∃ v, len = 3 ∧ Cond.constantLong own idx v ∈ pf_tb ∧ K (pc + 3) lo (pf_L v :: st) M
  | .iload_n n => ∃ x, len = 1 ∧ lo[(n : Nat)]? = some (pf_I x) ∧ K (pc + 1) lo (pf_I x :: st) M
  | .iload i => ∃ x, len = 2 ∧ lo[i]? = some (pf_I x) ∧ K (pc + 2) lo (pf_I x :: st) M
  | .lload_n n => ∃ x, len = 1 ∧ lo[(n : Nat)]? = some (pf_L x) ∧ K (pc + 1) lo (pf_L x :: st) M
  | .lload i => ∃ x, len = 2 ∧ lo[i]? = some (pf_L x) ∧ K (pc + 2) lo (pf_L x :: st) M
  | .aload_n n => ∃ q, len = 1 ∧ lo[(n : Nat)]? = some (.inr (.inr (.inl q))) ∧ K (pc + 1) lo (.inr (.inr (.inl q)) :: st) M
  | .aload i => ∃ q, len = 2 ∧ lo[i]? = some (.inr (.inr (.inl q))) ∧ K (pc + 2) lo (.inr (.inr (.inl q)) :: st) M
  | .istore_n n => ∃ x r, len = 1 ∧ st = pf_I x :: r ∧ (n : Nat) < lo.length ∧ K (pc + 1) (pf_st1 lo (n : Nat) (pf_I x)) r M
  | .istore i => ∃ x r, len = 2 ∧ st = pf_I x :: r ∧ i < lo.length ∧ K (pc + 2) (pf_st1 lo i (pf_I x)) r M
  | .astore_n n => ∃ q r, len = 1 ∧ st = .inr (.inr (.inl q)) :: r ∧ (n : Nat) < lo.length ∧ K (pc + 1) (pf_st1 lo (n : Nat) (.inr (.inr (.inl q)))) r M
  | .astore i => ∃ q r, len = 2 ∧ st = .inr (.inr (.inl q)) :: r ∧ i < lo.length ∧ K (pc + 2) (pf_st1 lo i (.inr (.inr (.inl q)))) r M
  | .lstore_n n => ∃ x r, len = 1 ∧ st = pf_L x :: r ∧ (n : Nat) + 1 < lo.length ∧ K (pc + 1) (pf_st2 lo (n : Nat) (pf_L x)) r M
  | .lstore i => ∃ x r, len = 2 ∧ st = pf_L x :: r ∧ i + 1 < lo.length ∧ K (pc + 2) (pf_st2 lo i (pf_L x)) r M
  | .iinc i n => ∃ x, len = 3 ∧ lo[i]? = some (pf_I x) ∧ K (pc + 3) (pf_st1 lo i (pf_I (x + Int32.ofInt n))) st M
  | .iadd => ∃ x y r, len = 1 ∧ st = pf_I y :: pf_I x :: r ∧ K (pc + 1) lo (pf_I (x + y) :: r) M
  | .isub => ∃ x y r, len = 1 ∧ st = pf_I y :: pf_I x :: r ∧ K (pc + 1) lo (pf_I (x - y) :: r) M
  | .imul => ∃ x y r, len = 1 ∧ st = pf_I y :: pf_I x :: r ∧ K (pc + 1) lo (pf_I (x * y) :: r) M
  | .ior => ∃ x y r, len = 1 ∧ st = pf_I y :: pf_I x :: r ∧ K (pc + 1) lo (pf_I (x ||| y) :: r) M
  | .iand => ∃ x y r, len = 1 ∧ st = pf_I y :: pf_I x :: r ∧ K (pc + 1) lo (pf_I (x &&& y) :: r) M
  | .ixor => ∃ x y r, len = 1 ∧ st = pf_I y :: pf_I x :: r ∧ K (pc + 1) lo (pf_I (x ^^^ y) :: r) M
  | .idiv => ∃ x y r, len = 1 ∧ st = pf_I y :: pf_I x :: r ∧ ¬ y = 0 ∧ K (pc + 1) lo (pf_I (x / y) :: r) M
  | .irem => ∃ x y r, len = 1 ∧ st = pf_I y :: pf_I x :: r ∧ ¬ y = 0 ∧ K (pc + 1) lo (pf_I (x - x / y * y) :: r) M
  | .ineg => ∃ x r, len = 1 ∧ st = pf_I x :: r ∧ K (pc + 1) lo (pf_I (-x) :: r) M
  | .ladd => ∃ x y r, len = 1 ∧ st = pf_L y :: pf_L x :: r ∧ K (pc + 1) lo (pf_L (x + y) :: r) M
  | .lsub => ∃ x y r, len = 1 ∧ st = pf_L y :: pf_L x :: r ∧ K (pc + 1) lo (pf_L (x - y) :: r) M
  | .lmul => ∃ x y r, len = 1 ∧ st = pf_L y :: pf_L x :: r ∧ K (pc + 1) lo (pf_L (x * y) :: r) M
  | .ldiv => ∃ x y r, len = 1 ∧ st = pf_L y :: pf_L x :: r ∧ ¬ y = 0 ∧ K (pc + 1) lo (pf_L (x / y) :: r) M
  | .lrem => ∃ x y r, len = 1 ∧ st = pf_L y :: pf_L x :: r ∧ ¬ y = 0 ∧ K (pc + 1) lo (pf_L (x - x / y * y) :: r) M
  | .lneg => ∃ x r, len = 1 ∧ st = pf_L x :: r ∧ K (pc + 1) lo (pf_L (-x) :: r) M
  | .lcmp => ∃ x y r, len = 1 ∧ st = pf_L y :: pf_L x :: r ∧ K (pc + 1) lo (pf_I (lg_cmp x y) :: r) M
  | .i2l => ∃ x r, len = 1 ∧ st = pf_I x :: r ∧ K (pc + 1) lo (pf_L x.toInt64 :: r) M
  | .l2i => ∃ x r, len = 1 ∧ st = pf_L x :: r ∧ K (pc + 1) lo (pf_I x.toInt32 :: r) M
  | .i2c => ∃ x r, len = 1 ∧ st = pf_I x :: r ∧ K (pc + 1) lo (pf_I (x.toUInt32 % 65536).toInt32 :: r) M
  | .dup => ∃ v r, len = 1 ∧ st = v :: r ∧ pf_cat v = 1 ∧ K (pc + 1) lo (v :: v :: r) M
  | .dup2 => ∃ v w r, len = 1 ∧ st = v :: w :: r ∧ pf_cat v = 1 ∧ pf_cat w = 1 ∧ K (pc + 1) lo (v :: w :: v :: w :: r) M
  | .pop => ∃ v r, len = 1 ∧ st = v :: r ∧ pf_cat v = 1 ∧ K (pc + 1) lo r M
  | .goto off => ∃ tgt : Nat, len = 3 ∧ (pc : Int) + off = (tgt : Int) ∧ K tgt lo st M
  | .if_icmp c off => ∃ (x y : Int32) (r : List pf_V) (tgt : Nat), len = 3 ∧ st = pf_I y :: pf_I x :: r ∧ (pc : Int) + off = (tgt : Int) ∧ (pf_cmp c x y → K tgt lo r M) ∧ (¬ pf_cmp c x y → K (pc + 3) lo r M)
  | .ifCond c off => ∃ (x : Int32) (r : List pf_V) (tgt : Nat), len = 3 ∧ st = pf_I x :: r ∧ (pc : Int) + off = (tgt : Int) ∧ (pf_cmp c x 0 → K tgt lo r M) ∧ (¬ pf_cmp c x 0 → K (pc + 3) lo r M)
  | .ifnull off => ∃ (q : Option (Nat × Nat)) (r : List pf_V) (tgt : Nat), len = 3 ∧ st = .inr (.inr (.inl q)) :: r ∧ (pc : Int) + off = (tgt : Int) ∧ (q = none → K tgt lo r M) ∧ (¬ q = none → K (pc + 3) lo r M)
  | .ifnonnull off => ∃ (q : Option (Nat × Nat)) (r : List pf_V) (tgt : Nat), len = 3 ∧ st = .inr (.inr (.inl q)) :: r ∧ (pc : Int) + off = (tgt : Int) ∧ (q = none → K (pc + 3) lo r M) ∧ (¬ q = none → K tgt lo r M)
  | .tableswitch dflt low high offs => ∃ (x : Int32) (r : List pf_V) (tgt : Nat), st = pf_I x :: r ∧ (((x.toInt < low ∨ high < x.toInt) ∧ (pc : Int) + dflt = (tgt : Int)) ∨ ∃ off, ¬ x.toInt < low ∧ ¬ high < x.toInt ∧ offs[(x.toInt - low).toNat]? = some off ∧ (pc : Int) + off = (tgt : Int)) ∧ K tgt lo r M
  | .getfield idx => ∃ (kd i k ci : Nat) (ty : FieldType) (fin : Bool) (r : List pf_V), len = 3 ∧ st = pf_R kd i :: r ∧ pf_ci kd = some ci ∧ pf_Fl own idx ci k ty fin ∧ K (pc + 3) lo (pf_fv kd i k (M kd i) :: r) M
  | .putfield idx => ∃ (kd i k ci : Nat) (ty : FieldType) (x : Int32) (r : List pf_V), len = 3 ∧ st = pf_I x :: pf_R kd i :: r ∧ pf_ci kd = some ci ∧ pf_rs kd i k = none ∧ pf_Fl own idx ci k ty false ∧ narrow ty (.int x) = .int x ∧ fits ty (.int x) = true ∧ K (pc + 3) lo r (pf_up M kd i k x)
  | .iaload => ∃ (kd i n : Nat) (j : Int32) (r : List pf_V), len = 1 ∧ st = pf_I j :: pf_R kd i :: r ∧ pf_intK kd n ∧ vp_in j n ∧ K (pc + 1) lo (pf_I (M kd i j.toNatClampNeg) :: r) M
  | .iastore => ∃ (kd i n : Nat) (j x : Int32) (r : List pf_V), len = 1 ∧ st = pf_I x :: pf_I j :: pf_R kd i :: r ∧ pf_intK kd n ∧ vp_in j n ∧ K (pc + 1) lo r (pf_up M kd i j.toNatClampNeg x)
  | .caload => ∃ (kd i n : Nat) (j : Int32) (r : List pf_V), len = 1 ∧ st = pf_I j :: pf_R kd i :: r ∧ pf_ci kd = none ∧ pf_ar kd = some (1, n) ∧ vp_in j n ∧ K (pc + 1) lo (pf_I (M kd i j.toNatClampNeg) :: r) M
  | .castore => ∃ (kd i n : Nat) (j x : Int32) (r : List pf_V), len = 1 ∧ st = pf_I x :: pf_I j :: pf_R kd i :: r ∧ pf_ci kd = none ∧ pf_ar kd = some (1, n) ∧ vp_in j n ∧ K (pc + 1) lo r (pf_up M kd i j.toNatClampNeg (vp_nar .char x))
  | .aaload => ∃ (kd i n t e : Nat) (j : Int32) (r : List pf_V), len = 1 ∧ st = pf_I j :: pf_R kd i :: r ∧ pf_ci kd = none ∧ pf_ar kd = none ∧ pf_ra kd = some (t, n, e) ∧ vp_in j n ∧ K (pc + 1) lo (pf_R e j.toNatClampNeg :: r) M
  | .arraylength => ∃ (kd i n : Nat) (r : List pf_V), len = 1 ∧ st = pf_R kd i :: r ∧ pf_intK kd n ∧ K (pc + 1) lo (pf_I (Int32.ofNat n) :: r) M
  | .ireturn => ∃ (x : Int32) (ty : FieldType), len = 1 ∧ st = [pf_I x] ∧ ret = some ty ∧ narrow ty (.int x) = .int x ∧ r0 = some (pf_I x) ∧ M = M0
  | .lreturn => ∃ (x : Int64), len = 1 ∧ st = [pf_L x] ∧ ret = some .long ∧ r0 = some (pf_L x) ∧ M = M0
  | .areturn => ∃ (q : Option (Nat × Nat)) (n : String), len = 1 ∧ st = [.inr (.inr (.inl q))] ∧ ret = some (.object n) ∧ r0 = some (.inr (.inr (.inl q))) ∧ M = M0
  | .return_ => len = 1 ∧ st = [] ∧ ret = none ∧ r0 = none ∧ M = M0
  | .invokevirtual idx => ∃ (y : MethodName) (cc : ByteArray) (nL : Nat) (rt : Option FieldType) (fr lo' : Nat) (as : List pf_V) (kd i ci : Nat) (r : List pf_V) (v : Option pf_V) (M' : pf_M), len = 3 ∧ st = as.reverse ++ pf_R kd i :: r ∧ pf_wd r ≤ 8 ∧ pf_ci kd = some ci ∧ pf_LkV own idx ci y cc nL rt as.length ∧ fr + 1 ≤ FR ∧ 8 + (nL + 11) + lo' ≤ LO ∧ pf_Met G y cc nL rt fr lo' (pf_R kd i :: as) M v M' ∧ K (pc + 3) lo (v.toList ++ r) M'
  | .invokestatic idx => (∃ (y : MethodName) (cc : ByteArray) (nL : Nat) (rt : Option FieldType) (fr lo' : Nat) (as : List pf_V) (r : List pf_V) (v : Option pf_V) (M' : pf_M), len = 3 ∧ st = as.reverse ++ r ∧ pf_wd r ≤ 8 ∧ pf_LkS own idx y cc nL rt as.length ∧ fr + 1 ≤ FR ∧ 8 + (nL + 11) + lo' ≤ LO ∧ pf_Met G y cc nL rt fr lo' as M v M' ∧ K (pc + 3) lo (v.toList ++ r) M') ∨
      (∃ (n dp sp : Int32) (k1 i1 k0 i0 n0 n1 : Nat) (r : List pf_V), len = 3 ∧ st = pf_I n :: pf_I dp :: pf_R k1 i1 :: pf_I sp :: pf_R k0 i0 :: r ∧ pf_LkA own idx ∧ pf_intK k0 n0 ∧ pf_intK k1 n1 ∧ ¬ sp < 0 ∧ ¬ dp < 0 ∧ ¬ n < 0 ∧ sp.toNatClampNeg + n.toNatClampNeg ≤ n0 ∧ dp.toNatClampNeg + n.toNatClampNeg ≤ n1 ∧ 1 ≤ FR ∧ pf_wd r + (nativeFrameWords "java/lang/System" "arraycopy" 5 + 11) ≤ LO ∧ K (pc + 3) lo r (pf_upf M k1 i1 (va_cpy (M k0 i0) (M k1 i1) sp.toNatClampNeg dp.toNatClampNeg n.toNatClampNeg)))
  | _ => False
def pf_fg : List Bool → List pf_V → List pf_V
  | _, [] => []
  | [], v :: r => v :: r
  | true :: m, v :: r => v :: pf_fg m r
  | false :: m, _ :: r => pf_U :: pf_fg m r
def pf_RU (G : pf_G) (cc : ByteArray) (own : String) (FR LO : Nat) (ret : Option FieldType) (r0 : Option pf_V) (M0 : pf_M) (K : Nat → List pf_V → List pf_V → pf_M → Prop) : Prop :=
  (∀ (pc len : Nat) (ins : Instr), decode cc pc = .ok (ins, len) → ∀ (lo st : List pf_V) (M : pf_M), pf_step G own FR LO ret r0 M0 K pc len lo st M ins → K pc lo st M) ∧ ∀ (pc : Nat) (mask : List Bool) (lo st : List pf_V) (M : pf_M), K pc (pf_fg mask lo) st M → K pc lo st M
theorem pf_fg_len : ∀ (mask : List Bool) (lo : List pf_V), (pf_fg mask lo).length = lo.length
  | _, [] => by simp [pf_fg]
  | [], v :: r => rfl
  | true :: m, v :: r => by simp [pf_fg, pf_fg_len m r]
  | false :: m, v :: r => by simp [pf_fg, pf_fg_len m r]
theorem pf_fg_get : ∀ (mask : List Bool) (lo : List pf_V) (i : Nat) (w : pf_V), (pf_fg mask lo)[i]? = some w → w = pf_U ∨ lo[i]? = some w
  | _, [], i, w => fun h => by simp [pf_fg] at h
  | [], v :: r, i, w => fun h => Or.inr h
  | true :: m, v :: r, i, w => fun h => by
    cases i with
    | zero => simp [pf_fg] at h; exact Or.inr (by simp [h])
    | succ i => simp [pf_fg] at h; simpa using pf_fg_get m r i w h
  | false :: m, v :: r, i, w => fun h => by
    cases i with
    | zero => simp [pf_fg] at h; exact Or.inl h.symm
    | succ i => simp [pf_fg] at h; simpa using pf_fg_get m r i w h
def pf_rb (k : Nat) (o : Option (Nat × Nat)) : Bool := match o with
  | some q => decide (q.2 < pf_cnt q.1) && (pf_sys q.1 == pf_sys k)
  | none => true
theorem pf_rs_ok0 : ∀ k, k < 78 → ∀ i, i < 16 → i < pf_cnt k → ∀ j, j < 50 → pf_rb k (pf_rs k i j) = true := by decide +kernel
theorem pf_rs_ok {sy : Bool} {k i j : Nat} (h : pf_ok sy k i) (hj : j < 50) {q : Nat × Nat} (hq : pf_rs k i j = some q) : pf_ok sy q.1 q.2 := by
  obtain ⟨h1, h2⟩ := h
  obtain ⟨h3, h4⟩ := pf_cnt_lt h1
  have := pf_rs_ok0 k h3 i h4 h1 j hj
  rw [hq] at this
  simp only [pf_rb, Bool.and_eq_true, decide_eq_true_eq, beq_iff_eq] at this
  exact ⟨this.1, this.2.trans h2⟩
theorem pf_fv_ok {G : pf_G} {k i j : Nat} {g : Nat → Int32} (h : pf_ok G.2.2.2.2 k i) (hj : j < 50) : pf_okv G (pf_fv k i j g) := by
  unfold pf_fv
  cases hq : pf_rs k i j with
  | none => trivial
  | some q => exact pf_rs_ok h hj hq
theorem pf_nf_le (ci : Nat) : pf_nf ci ≤ 50 := by
  unfold pf_nf
  split <;> decide
theorem pf_cx_obj {G : pf_G} {k i ci : Nat} {g : Nat → Int32} (h : pf_ci k = some ci) : pf_cx G k i g = .inr (ci, (List.range (pf_nf ci)).map fun j => pf_cv G (pf_fv k i j g)) := by
  unfold pf_cx
  rw [h]
theorem pf_cx_int {G : pf_G} {k i n : Nat} {g : Nat → Int32} (h : pf_intK k n) : pf_cx G k i g = .inl (G.2.2.2.1.1, n, .inl g) := by
  unfold pf_cx
  rw [h.1, h.2]
  rfl
theorem pf_cx_chr {G : pf_G} {k i n : Nat} {g : Nat → Int32} (h1 : pf_ci k = none) (h2 : pf_ar k = some (1, n)) : pf_cx G k i g = .inl (G.2.2.2.1.2.1, n, .inl g) := by
  unfold pf_cx
  rw [h1, h2]
  rfl
