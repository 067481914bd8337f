section
variable {G : pf_G} {cc : ByteArray} {own : String} {FR LO : Nat} {ret : Option FieldType} {r0 : Option pf_V} {M0 : pf_M} {K : Nat → List pf_V → List pf_V → pf_M → Prop} {lo lo' st r : List pf_V} {M : pf_M} {pc : Nat}

theorem r_aconst_null (R : pf_RU G cc own FR LO ret r0 M0 K) (pc' : Nat) (d : decode cc pc = .ok (.aconst_null, 1)) (hp : pc + 1 = pc') (k : K pc' lo (pf_N :: st) M) : K pc lo (st) M := by
  subst hp
  exact R.1 _ _ _ d _ _ _ ⟨rfl, k⟩
theorem r_iconst (R : pf_RU G cc own FR LO ret r0 M0 K) (pc' : Nat) {n : Int} {v : Int32} (d : decode cc pc = .ok (.iconst n, 1)) (hp : pc + 1 = pc') (hv : Int32.ofInt n = v) (k : K pc' lo (pf_I v :: st) M) : K pc lo (st) M := by
  subst hp
  exact R.1 _ _ _ d _ _ _ ⟨rfl, hv ▸ k⟩
theorem r_bipush (R : pf_RU G cc own FR LO ret r0 M0 K) (pc' : Nat) {n : Int} {v : Int32} (d : decode cc pc = .ok (.bipush n, 2)) (hp : pc + 2 = pc') (hv : (Int8.ofInt n).toInt32 = v) (k : K pc' lo (pf_I v :: st) M) : K pc lo (st) M := by
  subst hp
  exact R.1 _ _ _ d _ _ _ ⟨rfl, hv ▸ k⟩
theorem r_sipush (R : pf_RU G cc own FR LO ret r0 M0 K) (pc' : Nat) {n : Int} {v : Int32} (d : decode cc pc = .ok (.sipush n, 3)) (hp : pc + 3 = pc') (hv : (Int16.ofInt n).toInt32 = v) (k : K pc' lo (pf_I v :: st) M) : K pc lo (st) M := by
  subst hp
  exact R.1 _ _ _ d _ _ _ ⟨rfl, hv ▸ k⟩
theorem r_lconst (R : pf_RU G cc own FR LO ret r0 M0 K) (pc' : Nat) {n : Fin 2} {v : Int64} (d : decode cc pc = .ok (.lconst n, 1)) (hp : pc + 1 = pc') (hv : Int64.ofNat (n : Nat) = v) (k : K pc' lo (pf_L v :: st) M) : K pc lo (st) M := by
  subst hp
  exact R.1 _ _ _ d _ _ _ ⟨rfl, hv ▸ k⟩
theorem r_ldc (R : pf_RU G cc own FR LO ret r0 M0 K) (pc' : Nat) {idx : Nat} {v : Int32} (d : decode cc pc = .ok (.ldc idx, 2)) (hp : pc + 2 = pc') (hv : Cond.constant own idx v ∈ pf_tb) (k : K pc' lo (pf_I v :: st) M) : K pc lo (st) M := by
  subst hp
  exact R.1 _ _ _ d _ _ _ ⟨v, rfl, hv, k⟩
theorem r_ldc_w (R : pf_RU G cc own FR LO ret r0 M0 K) (pc' : Nat) {idx : Nat} {v : Int32} (d : decode cc pc = .ok (.ldc_w idx, 3)) (hp : pc + 3 = pc') (hv : Cond.constant own idx v ∈ pf_tb) (k : K pc' lo (pf_I v :: st) M) : K pc lo (st) M := by
  subst hp
  exact R.1 _ _ _ d _ _ _ ⟨v, rfl, hv, k⟩
theorem r_ldc2_w (R : pf_RU G cc own FR LO ret r0 M0 K) (pc' : Nat) {idx : Nat} {v : Int64} (d : decode cc pc = .ok (.ldc2_w idx, 3)) (hp : pc + 3 = pc') (hv : Cond.constantLong own idx v ∈ pf_tb) (k : K pc' lo (pf_L v :: st) M) : K pc lo (st) M := by
  subst hp
  exact R.1 _ _ _ d _ _ _ ⟨v, rfl, hv, k⟩
theorem r_iload_n (R : pf_RU G cc own FR LO ret r0 M0 K) (pc' : Nat) {n : Fin 4} {x : Int32} (d : decode cc pc = .ok (.iload_n n, 1)) (hp : pc + 1 = pc') (hg : lo[(n : Nat)]? = some (pf_I x)) (k : K pc' lo (pf_I x :: st) M) : K pc lo (st) M := by
  subst hp
  exact R.1 _ _ _ d _ _ _ ⟨x, rfl, hg, k⟩
theorem r_iload (R : pf_RU G cc own FR LO ret r0 M0 K) (pc' : Nat) {n : Nat} {x : Int32} (d : decode cc pc = .ok (.iload n, 2)) (hp : pc + 2 = pc') (hg : lo[n]? = some (pf_I x)) (k : K pc' lo (pf_I x :: st) M) : K pc lo (st) M := by
  subst hp
  exact R.1 _ _ _ d _ _ _ ⟨x, rfl, hg, k⟩
theorem r_lload_n (R : pf_RU G cc own FR LO ret r0 M0 K) (pc' : Nat) {n : Fin 4} {x : Int64} (d : decode cc pc = .ok (.lload_n n, 1)) (hp : pc + 1 = pc') (hg : lo[(n : Nat)]? = some (pf_L x)) (k : K pc' lo (pf_L x :: st) M) : K pc lo (st) M := by
  subst hp
  exact R.1 _ _ _ d _ _ _ ⟨x, rfl, hg, k⟩
theorem r_lload (R : pf_RU G cc own FR LO ret r0 M0 K) (pc' : Nat) {n : Nat} {x : Int64} (d : decode cc pc = .ok (.lload n, 2)) (hp : pc + 2 = pc') (hg : lo[n]? = some (pf_L x)) (k : K pc' lo (pf_L x :: st) M) : K pc lo (st) M := by
  subst hp
  exact R.1 _ _ _ d _ _ _ ⟨x, rfl, hg, k⟩
theorem r_aload_n (R : pf_RU G cc own FR LO ret r0 M0 K) (pc' : Nat) {n : Fin 4} {q : Option (Nat × Nat)} (d : decode cc pc = .ok (.aload_n n, 1)) (hp : pc + 1 = pc') (hg : lo[(n : Nat)]? = some (.inr (.inr (.inl q)))) (k : K pc' lo (.inr (.inr (.inl q)) :: st) M) : K pc lo (st) M := by
  subst hp
  exact R.1 _ _ _ d _ _ _ ⟨q, rfl, hg, k⟩
theorem r_aload (R : pf_RU G cc own FR LO ret r0 M0 K) (pc' : Nat) {n : Nat} {q : Option (Nat × Nat)} (d : decode cc pc = .ok (.aload n, 2)) (hp : pc + 2 = pc') (hg : lo[n]? = some (.inr (.inr (.inl q)))) (k : K pc' lo (.inr (.inr (.inl q)) :: st) M) : K pc lo (st) M := by
  subst hp
  exact R.1 _ _ _ d _ _ _ ⟨q, rfl, hg, k⟩
theorem r_istore_n (R : pf_RU G cc own FR LO ret r0 M0 K) (pc' : Nat) {n : Fin 4} {x : Int32} (d : decode cc pc = .ok (.istore_n n, 1)) (hp : pc + 1 = pc') (hi : Nat.ble ((n : Nat) + 1) lo.length = true) (hs : pf_st1 lo (n : Nat) (pf_I x) = lo') (k : K pc' lo' (st) M) : K pc lo (pf_I x :: st) M := by
  subst hp
  exact R.1 _ _ _ d _ _ _ ⟨x, st, rfl, rfl, Nat.le_of_ble_eq_true hi, hs ▸ k⟩
theorem r_istore (R : pf_RU G cc own FR LO ret r0 M0 K) (pc' : Nat) {n : Nat} {x : Int32} (d : decode cc pc = .ok (.istore n, 2)) (hp : pc + 2 = pc') (hi : Nat.ble (n + 1) lo.length = true) (hs : pf_st1 lo n (pf_I x) = lo') (k : K pc' lo' (st) M) : K pc lo (pf_I x :: st) M := by
  subst hp
  exact R.1 _ _ _ d _ _ _ ⟨x, st, rfl, rfl, Nat.le_of_ble_eq_true hi, hs ▸ k⟩
theorem r_astore_n (R : pf_RU G cc own FR LO ret r0 M0 K) (pc' : Nat) {n : Fin 4} {q : Option (Nat × Nat)} (d : decode cc pc = .ok (.astore_n n, 1)) (hp : pc + 1 = pc') (hi : Nat.ble ((n : Nat) + 1) lo.length = true) (hs : pf_st1 lo (n : Nat) (.inr (.inr (.inl q))) = lo') (k : K pc' lo' (st) M) : K pc lo (.inr (.inr (.inl q)) :: st) M := by
  subst hp
  exact R.1 _ _ _ d _ _ _ ⟨q, st, rfl, rfl, Nat.le_of_ble_eq_true hi, hs ▸ k⟩
theorem r_astore (R : pf_RU G cc own FR LO ret r0 M0 K) (pc' : Nat) {n : Nat} {q : Option (Nat × Nat)} (d : decode cc pc = .ok (.astore n, 2)) (hp : pc + 2 = pc') (hi : Nat.ble (n + 1) lo.length = true) (hs : pf_st1 lo n (.inr (.inr (.inl q))) = lo') (k : K pc' lo' (st) M) : K pc lo (.inr (.inr (.inl q)) :: st) M := by
  subst hp
  exact R.1 _ _ _ d _ _ _ ⟨q, st, rfl, rfl, Nat.le_of_ble_eq_true hi, hs ▸ k⟩
theorem r_lstore_n (R : pf_RU G cc own FR LO ret r0 M0 K) (pc' : Nat) {n : Fin 4} {x : Int64} (d : decode cc pc = .ok (.lstore_n n, 1)) (hp : pc + 1 = pc') (hi : Nat.ble ((n : Nat) + 2) lo.length = true) (hs : pf_st2 lo (n : Nat) (pf_L x) = lo') (k : K pc' lo' (st) M) : K pc lo (pf_L x :: st) M := by
  subst hp
  exact R.1 _ _ _ d _ _ _ ⟨x, st, rfl, rfl, Nat.le_of_ble_eq_true hi, hs ▸ k⟩
theorem r_lstore (R : pf_RU G cc own FR LO ret r0 M0 K) (pc' : Nat) {n : Nat} {x : Int64} (d : decode cc pc = .ok (.lstore n, 2)) (hp : pc + 2 = pc') (hi : Nat.ble (n + 2) lo.length = true) (hs : pf_st2 lo n (pf_L x) = lo') (k : K pc' lo' (st) M) : K pc lo (pf_L x :: st) M := by
  subst hp
  exact R.1 _ _ _ d _ _ _ ⟨x, st, rfl, rfl, Nat.le_of_ble_eq_true hi, hs ▸ k⟩
theorem r_iinc (R : pf_RU G cc own FR LO ret r0 M0 K) (pc' : Nat) {i : Nat} {n : Int} {x v : Int32} (d : decode cc pc = .ok (.iinc i n, 3)) (hp : pc + 3 = pc') (hg : lo[i]? = some (pf_I x)) (hv : Int32.ofInt n = v) (hs : pf_st1 lo i (pf_I (x + v)) = lo') (k : K pc' lo' (st) M) : K pc lo (st) M := by
  subst hp
  exact R.1 _ _ _ d _ _ _ ⟨x, rfl, hg, by rw [hv, hs]; exact k⟩
theorem r_iadd (R : pf_RU G cc own FR LO ret r0 M0 K) (pc' : Nat) {x y : Int32} (d : decode cc pc = .ok (.iadd, 1)) (hp : pc + 1 = pc') (k : K pc' lo (pf_I (x + y) :: st) M) : K pc lo (pf_I y :: pf_I x :: st) M := by
  subst hp
  exact R.1 _ _ _ d _ _ _ ⟨x, y, st, rfl, rfl, k⟩
theorem r_isub (R : pf_RU G cc own FR LO ret r0 M0 K) (pc' : Nat) {x y : Int32} (d : decode cc pc = .ok (.isub, 1)) (hp : pc + 1 = pc') (k : K pc' lo (pf_I (x - y) :: st) M) : K pc lo (pf_I y :: pf_I x :: st) M := by
  subst hp
  exact R.1 _ _ _ d _ _ _ ⟨x, y, st, rfl, rfl, k⟩
theorem r_imul (R : pf_RU G cc own FR LO ret r0 M0 K) (pc' : Nat) {x y : Int32} (d : decode cc pc = .ok (.imul, 1)) (hp : pc + 1 = pc') (k : K pc' lo (pf_I (x * y) :: st) M) : K pc lo (pf_I y :: pf_I x :: st) M := by
  subst hp
  exact R.1 _ _ _ d _ _ _ ⟨x, y, st, rfl, rfl, k⟩
theorem r_ior (R : pf_RU G cc own FR LO ret r0 M0 K) (pc' : Nat) {x y : Int32} (d : decode cc pc = .ok (.ior, 1)) (hp : pc + 1 = pc') (k : K pc' lo (pf_I (x ||| y) :: st) M) : K pc lo (pf_I y :: pf_I x :: st) M := by
  subst hp
  exact R.1 _ _ _ d _ _ _ ⟨x, y, st, rfl, rfl, k⟩
theorem r_iand (R : pf_RU G cc own FR LO ret r0 M0 K) (pc' : Nat) {x y : Int32} (d : decode cc pc = .ok (.iand, 1)) (hp : pc + 1 = pc') (k : K pc' lo (pf_I (x &&& y) :: st) M) : K pc lo (pf_I y :: pf_I x :: st) M := by
  subst hp
  exact R.1 _ _ _ d _ _ _ ⟨x, y, st, rfl, rfl, k⟩
theorem r_ixor (R : pf_RU G cc own FR LO ret r0 M0 K) (pc' : Nat) {x y : Int32} (d : decode cc pc = .ok (.ixor, 1)) (hp : pc + 1 = pc') (k : K pc' lo (pf_I (x ^^^ y) :: st) M) : K pc lo (pf_I y :: pf_I x :: st) M := by
  subst hp
  exact R.1 _ _ _ d _ _ _ ⟨x, y, st, rfl, rfl, k⟩
theorem r_ladd (R : pf_RU G cc own FR LO ret r0 M0 K) (pc' : Nat) {x y : Int64} (d : decode cc pc = .ok (.ladd, 1)) (hp : pc + 1 = pc') (k : K pc' lo (pf_L (x + y) :: st) M) : K pc lo (pf_L y :: pf_L x :: st) M := by
  subst hp
  exact R.1 _ _ _ d _ _ _ ⟨x, y, st, rfl, rfl, k⟩
theorem r_lsub (R : pf_RU G cc own FR LO ret r0 M0 K) (pc' : Nat) {x y : Int64} (d : decode cc pc = .ok (.lsub, 1)) (hp : pc + 1 = pc') (k : K pc' lo (pf_L (x - y) :: st) M) : K pc lo (pf_L y :: pf_L x :: st) M := by
  subst hp
  exact R.1 _ _ _ d _ _ _ ⟨x, y, st, rfl, rfl, k⟩
theorem r_lmul (R : pf_RU G cc own FR LO ret r0 M0 K) (pc' : Nat) {x y : Int64} (d : decode cc pc = .ok (.lmul, 1)) (hp : pc + 1 = pc') (k : K pc' lo (pf_L (x * y) :: st) M) : K pc lo (pf_L y :: pf_L x :: st) M := by
  subst hp
  exact R.1 _ _ _ d _ _ _ ⟨x, y, st, rfl, rfl, k⟩
theorem r_idiv (R : pf_RU G cc own FR LO ret r0 M0 K) (pc' : Nat) {x y : Int32} (d : decode cc pc = .ok (.idiv, 1)) (hp : pc + 1 = pc') (hne : ¬ y = 0) (k : K pc' lo (pf_I (x / y) :: st) M) : K pc lo (pf_I y :: pf_I x :: st) M := by
  subst hp
  exact R.1 _ _ _ d _ _ _ ⟨x, y, st, rfl, rfl, hne, k⟩
theorem r_irem (R : pf_RU G cc own FR LO ret r0 M0 K) (pc' : Nat) {x y : Int32} (d : decode cc pc = .ok (.irem, 1)) (hp : pc + 1 = pc') (hne : ¬ y = 0) (k : K pc' lo (pf_I (x - x / y * y) :: st) M) : K pc lo (pf_I y :: pf_I x :: st) M := by
  subst hp
  exact R.1 _ _ _ d _ _ _ ⟨x, y, st, rfl, rfl, hne, k⟩
theorem r_ldiv (R : pf_RU G cc own FR LO ret r0 M0 K) (pc' : Nat) {x y : Int64} (d : decode cc pc = .ok (.ldiv, 1)) (hp : pc + 1 = pc') (hne : ¬ y = 0) (k : K pc' lo (pf_L (x / y) :: st) M) : K pc lo (pf_L y :: pf_L x :: st) M := by
  subst hp
  exact R.1 _ _ _ d _ _ _ ⟨x, y, st, rfl, rfl, hne, k⟩
theorem r_lrem (R : pf_RU G cc own FR LO ret r0 M0 K) (pc' : Nat) {x y : Int64} (d : decode cc pc = .ok (.lrem, 1)) (hp : pc + 1 = pc') (hne : ¬ y = 0) (k : K pc' lo (pf_L (x - x / y * y) :: st) M) : K pc lo (pf_L y :: pf_L x :: st) M := by
  subst hp
  exact R.1 _ _ _ d _ _ _ ⟨x, y, st, rfl, rfl, hne, k⟩
theorem r_ineg (R : pf_RU G cc own FR LO ret r0 M0 K) (pc' : Nat) {x : Int32} (d : decode cc pc = .ok (.ineg, 1)) (hp : pc + 1 = pc') (k : K pc' lo (pf_I (-x) :: st) M) : K pc lo (pf_I x :: st) M := by
  subst hp
  exact R.1 _ _ _ d _ _ _ ⟨x, st, rfl, rfl, k⟩
theorem r_lneg (R : pf_RU G cc own FR LO ret r0 M0 K) (pc' : Nat) {x : Int64} (d : decode cc pc = .ok (.lneg, 1)) (hp : pc + 1 = pc') (k : K pc' lo (pf_L (-x) :: st) M) : K pc lo (pf_L x :: st) M := by
  subst hp
  exact R.1 _ _ _ d _ _ _ ⟨x, st, rfl, rfl, k⟩
theorem r_lcmp (R : pf_RU G cc own FR LO ret r0 M0 K) (pc' : Nat) {x y : Int64} (d : decode cc pc = .ok (.lcmp, 1)) (hp : pc + 1 = pc') (k : K pc' lo (pf_I (lg_cmp x y) :: st) M) : K pc lo (pf_L y :: pf_L x :: st) M := by
  subst hp
  exact R.1 _ _ _ d _ _ _ ⟨x, y, st, rfl, rfl, k⟩
theorem r_i2l (R : pf_RU G cc own FR LO ret r0 M0 K) (pc' : Nat) {x : Int32} (d : decode cc pc = .ok (.i2l, 1)) (hp : pc + 1 = pc') (k : K pc' lo (pf_L x.toInt64 :: st) M) : K pc lo (pf_I x :: st) M := by
  subst hp
  exact R.1 _ _ _ d _ _ _ ⟨x, st, rfl, rfl, k⟩
theorem r_l2i (R : pf_RU G cc own FR LO ret r0 M0 K) (pc' : Nat) {x : Int64} (d : decode cc pc = .ok (.l2i, 1)) (hp : pc + 1 = pc') (k : K pc' lo (pf_I x.toInt32 :: st) M) : K pc lo (pf_L x :: st) M := by
  subst hp
  exact R.1 _ _ _ d _ _ _ ⟨x, st, rfl, rfl, k⟩
theorem r_i2c (R : pf_RU G cc own FR LO ret r0 M0 K) (pc' : Nat) {x : Int32} (d : decode cc pc = .ok (.i2c, 1)) (hp : pc + 1 = pc') (k : K pc' lo (pf_I (x.toUInt32 % 65536).toInt32 :: st) M) : K pc lo (pf_I x :: st) M := by
  subst hp
  exact R.1 _ _ _ d _ _ _ ⟨x, st, rfl, rfl, k⟩
theorem r_dup (R : pf_RU G cc own FR LO ret r0 M0 K) (pc' : Nat) {v : pf_V} (d : decode cc pc = .ok (.dup, 1)) (hp : pc + 1 = pc') (hc : pf_cat v = 1) (k : K pc' lo (v :: v :: st) M) : K pc lo (v :: st) M := by
  subst hp
  exact R.1 _ _ _ d _ _ _ ⟨v, st, rfl, rfl, hc, k⟩
theorem r_dup2 (R : pf_RU G cc own FR LO ret r0 M0 K) (pc' : Nat) {v w : pf_V} (d : decode cc pc = .ok (.dup2, 1)) (hp : pc + 1 = pc') (hc : pf_cat v = 1) (hc2 : pf_cat w = 1) (k : K pc' lo (v :: w :: v :: w :: st) M) : K pc lo (v :: w :: st) M := by
  subst hp
  exact R.1 _ _ _ d _ _ _ ⟨v, w, st, rfl, rfl, hc, hc2, k⟩
theorem r_pop (R : pf_RU G cc own FR LO ret r0 M0 K) (pc' : Nat) {v : pf_V} (d : decode cc pc = .ok (.pop, 1)) (hp : pc + 1 = pc') (hc : pf_cat v = 1) (k : K pc' lo (st) M) : K pc lo (v :: st) M := by
  subst hp
  exact R.1 _ _ _ d _ _ _ ⟨v, st, rfl, rfl, hc, k⟩
theorem r_goto (R : pf_RU G cc own FR LO ret r0 M0 K) (tgt : Nat) {off : Int} (d : decode cc pc = .ok (.goto off, 3)) (ht : (pc : Int) + off = (tgt : Int)) (k : K tgt lo st M) : K pc lo st M := R.1 _ _ _ d _ _ _ ⟨tgt, rfl, ht, k⟩
theorem r_icmp_eq (R : pf_RU G cc own FR LO ret r0 M0 K) (pc' tgt : Nat) {off : Int} {x y : Int32} (d : decode cc pc = .ok (.if_icmp .eq off, 3)) (hp : pc + 3 = pc') (ht : (pc : Int) + off = (tgt : Int)) (k1 : x = y → K tgt lo st M) (k2 : ¬ x = y → K pc' lo st M) : K pc lo (pf_I y :: pf_I x :: st) M := by
  subst hp
  exact R.1 _ _ _ d _ _ _ ⟨x, y, st, tgt, rfl, rfl, ht, k1, k2⟩
theorem r_if_eq (R : pf_RU G cc own FR LO ret r0 M0 K) (pc' tgt : Nat) {off : Int} {x : Int32} (d : decode cc pc = .ok (.ifCond .eq off, 3)) (hp : pc + 3 = pc') (ht : (pc : Int) + off = (tgt : Int)) (k1 : x = 0 → K tgt lo st M) (k2 : ¬ x = 0 → K pc' lo st M) : K pc lo (pf_I x :: st) M := by
  subst hp
  exact R.1 _ _ _ d _ _ _ ⟨x, st, tgt, rfl, rfl, ht, k1, k2⟩
theorem r_icmp_ne (R : pf_RU G cc own FR LO ret r0 M0 K) (pc' tgt : Nat) {off : Int} {x y : Int32} (d : decode cc pc = .ok (.if_icmp .ne off, 3)) (hp : pc + 3 = pc') (ht : (pc : Int) + off = (tgt : Int)) (k2 : x = y → K pc' lo st M) (k1 : ¬ x = y → K tgt lo st M) : K pc lo (pf_I y :: pf_I x :: st) M := by
  subst hp
  exact R.1 _ _ _ d _ _ _ ⟨x, y, st, tgt, rfl, rfl, ht, k1, fun h => k2 (Decidable.not_not.mp h)⟩
theorem r_if_ne (R : pf_RU G cc own FR LO ret r0 M0 K) (pc' tgt : Nat) {off : Int} {x : Int32} (d : decode cc pc = .ok (.ifCond .ne off, 3)) (hp : pc + 3 = pc') (ht : (pc : Int) + off = (tgt : Int)) (k2 : x = 0 → K pc' lo st M) (k1 : ¬ x = 0 → K tgt lo st M) : K pc lo (pf_I x :: st) M := by
  subst hp
  exact R.1 _ _ _ d _ _ _ ⟨x, st, tgt, rfl, rfl, ht, k1, fun h => k2 (Decidable.not_not.mp h)⟩
theorem r_icmp_lt (R : pf_RU G cc own FR LO ret r0 M0 K) (pc' tgt : Nat) {off : Int} {x y : Int32} (d : decode cc pc = .ok (.if_icmp .lt off, 3)) (hp : pc + 3 = pc') (ht : (pc : Int) + off = (tgt : Int)) (k1 : x < y → K tgt lo st M) (k2 : ¬ x < y → K pc' lo st M) : K pc lo (pf_I y :: pf_I x :: st) M := by
  subst hp
  exact R.1 _ _ _ d _ _ _ ⟨x, y, st, tgt, rfl, rfl, ht, k1, k2⟩
theorem r_if_lt (R : pf_RU G cc own FR LO ret r0 M0 K) (pc' tgt : Nat) {off : Int} {x : Int32} (d : decode cc pc = .ok (.ifCond .lt off, 3)) (hp : pc + 3 = pc') (ht : (pc : Int) + off = (tgt : Int)) (k1 : x < 0 → K tgt lo st M) (k2 : ¬ x < 0 → K pc' lo st M) : K pc lo (pf_I x :: st) M := by
  subst hp
  exact R.1 _ _ _ d _ _ _ ⟨x, st, tgt, rfl, rfl, ht, k1, k2⟩
theorem r_icmp_ge (R : pf_RU G cc own FR LO ret r0 M0 K) (pc' tgt : Nat) {off : Int} {x y : Int32} (d : decode cc pc = .ok (.if_icmp .ge off, 3)) (hp : pc + 3 = pc') (ht : (pc : Int) + off = (tgt : Int)) (k1 : y ≤ x → K tgt lo st M) (k2 : ¬ y ≤ x → K pc' lo st M) : K pc lo (pf_I y :: pf_I x :: st) M := by
  subst hp
  exact R.1 _ _ _ d _ _ _ ⟨x, y, st, tgt, rfl, rfl, ht, k1, k2⟩
theorem r_if_ge (R : pf_RU G cc own FR LO ret r0 M0 K) (pc' tgt : Nat) {off : Int} {x : Int32} (d : decode cc pc = .ok (.ifCond .ge off, 3)) (hp : pc + 3 = pc') (ht : (pc : Int) + off = (tgt : Int)) (k1 : 0 ≤ x → K tgt lo st M) (k2 : ¬ 0 ≤ x → K pc' lo st M) : K pc lo (pf_I x :: st) M := by
  subst hp
  exact R.1 _ _ _ d _ _ _ ⟨x, st, tgt, rfl, rfl, ht, k1, k2⟩
theorem r_icmp_gt (R : pf_RU G cc own FR LO ret r0 M0 K) (pc' tgt : Nat) {off : Int} {x y : Int32} (d : decode cc pc = .ok (.if_icmp .gt off, 3)) (hp : pc + 3 = pc') (ht : (pc : Int) + off = (tgt : Int)) (k1 : y < x → K tgt lo st M) (k2 : ¬ y < x → K pc' lo st M) : K pc lo (pf_I y :: pf_I x :: st) M := by
  subst hp
  exact R.1 _ _ _ d _ _ _ ⟨x, y, st, tgt, rfl, rfl, ht, k1, k2⟩
theorem r_if_gt (R : pf_RU G cc own FR LO ret r0 M0 K) (pc' tgt : Nat) {off : Int} {x : Int32} (d : decode cc pc = .ok (.ifCond .gt off, 3)) (hp : pc + 3 = pc') (ht : (pc : Int) + off = (tgt : Int)) (k1 : 0 < x → K tgt lo st M) (k2 : ¬ 0 < x → K pc' lo st M) : K pc lo (pf_I x :: st) M := by
  subst hp
  exact R.1 _ _ _ d _ _ _ ⟨x, st, tgt, rfl, rfl, ht, k1, k2⟩
theorem r_icmp_le (R : pf_RU G cc own FR LO ret r0 M0 K) (pc' tgt : Nat) {off : Int} {x y : Int32} (d : decode cc pc = .ok (.if_icmp .le off, 3)) (hp : pc + 3 = pc') (ht : (pc : Int) + off = (tgt : Int)) (k1 : x ≤ y → K tgt lo st M) (k2 : ¬ x ≤ y → K pc' lo st M) : K pc lo (pf_I y :: pf_I x :: st) M := by
  subst hp
  exact R.1 _ _ _ d _ _ _ ⟨x, y, st, tgt, rfl, rfl, ht, k1, k2⟩
theorem r_if_le (R : pf_RU G cc own FR LO ret r0 M0 K) (pc' tgt : Nat) {off : Int} {x : Int32} (d : decode cc pc = .ok (.ifCond .le off, 3)) (hp : pc + 3 = pc') (ht : (pc : Int) + off = (tgt : Int)) (k1 : x ≤ 0 → K tgt lo st M) (k2 : ¬ x ≤ 0 → K pc' lo st M) : K pc lo (pf_I x :: st) M := by
  subst hp
  exact R.1 _ _ _ d _ _ _ ⟨x, st, tgt, rfl, rfl, ht, k1, k2⟩
theorem r_ifnull_t (R : pf_RU G cc own FR LO ret r0 M0 K) (tgt : Nat) {off : Int} (d : decode cc pc = .ok (.ifnull off, 3)) (ht : (pc : Int) + off = (tgt : Int)) (k : K tgt lo st M) : K pc lo (pf_N :: st) M := R.1 _ _ _ d _ _ _ ⟨none, st, tgt, rfl, rfl, ht, fun _ => k, fun h => absurd rfl h⟩
theorem r_ifnull_f (R : pf_RU G cc own FR LO ret r0 M0 K) (pc' tgt : Nat) {off : Int} {kd i : Nat} (d : decode cc pc = .ok (.ifnull off, 3)) (hp : pc + 3 = pc') (ht : (pc : Int) + off = (tgt : Int)) (k : K pc' lo st M) : K pc lo (pf_R kd i :: st) M := by
  subst hp
  exact R.1 _ _ _ d _ _ _ ⟨some (kd, i), st, tgt, rfl, rfl, ht, fun h => (by cases h), fun _ => k⟩
theorem r_ifnonnull_f (R : pf_RU G cc own FR LO ret r0 M0 K) (pc' tgt : Nat) {off : Int} (d : decode cc pc = .ok (.ifnonnull off, 3)) (hp : pc + 3 = pc') (ht : (pc : Int) + off = (tgt : Int)) (k : K pc' lo st M) : K pc lo (pf_N :: st) M := by
  subst hp
  exact R.1 _ _ _ d _ _ _ ⟨none, st, tgt, rfl, rfl, ht, fun _ => k, fun h => absurd rfl h⟩
theorem r_ifnonnull_t (R : pf_RU G cc own FR LO ret r0 M0 K) (tgt : Nat) {off : Int} {kd i : Nat} (d : decode cc pc = .ok (.ifnonnull off, 3)) (ht : (pc : Int) + off = (tgt : Int)) (k : K tgt lo st M) : K pc lo (pf_R kd i :: st) M := R.1 _ _ _ d _ _ _ ⟨some (kd, i), st, tgt, rfl, rfl, ht, fun h => (by cases h), fun _ => k⟩
theorem r_swIn (R : pf_RU G cc own FR LO ret r0 M0 K) (tgt : Nat) {dflt low high : Int} {offs : Array Int} {len : Nat} {x : Int32} (off : Int) (d : decode cc pc = .ok (.tableswitch dflt low high offs, len)) (h1 : ¬ x.toInt < low) (h2 : ¬ high < x.toInt) (ho : offs[(x.toInt - low).toNat]? = some off) (ht : (pc : Int) + off = (tgt : Int)) (k : K tgt lo st M) : K pc lo (pf_I x :: st) M := R.1 _ _ _ d _ _ _ ⟨x, st, tgt, rfl, Or.inr ⟨off, h1, h2, ho, ht⟩, k⟩
theorem r_swOut (R : pf_RU G cc own FR LO ret r0 M0 K) (tgt : Nat) {dflt low high : Int} {offs : Array Int} {len : Nat} {x : Int32} (d : decode cc pc = .ok (.tableswitch dflt low high offs, len)) (h1 : x.toInt < low ∨ high < x.toInt) (ht : (pc : Int) + dflt = (tgt : Int)) (k : K tgt lo st M) : K pc lo (pf_I x :: st) M := R.1 _ _ _ d _ _ _ ⟨x, st, tgt, rfl, Or.inl ⟨h1, ht⟩, k⟩
theorem pf_swo {x : Int32} (n : Nat) (hn : n < 1000) (h : ∀ k : Nat, k < n → ¬ x = Int32.ofNat k) : x.toInt < 0 ∨ (n : Int) - 1 < x.toInt := by
  rcases Int.lt_or_le x.toInt 0 with q | q
  · exact Or.inl q
  · refine Or.inr ?_
    rcases Int.lt_or_le ((n : Int) - 1) x.toInt with z | z
    · exact z
    · exfalso
      refine h x.toInt.toNat (by omega) ?_
      apply Int32.toInt_inj.mp
      rw [Int32.toInt_ofNat_small (by omega)]
      omega
theorem r_getfield (R : pf_RU G cc own FR LO ret r0 M0 K) (pc' : Nat) {kd i k0 ci idx : Nat} {ty : FieldType} {fin : Bool} {v : pf_V} (d : decode cc pc = .ok (.getfield idx, 3)) (hp : pc + 3 = pc') (hF : pf_Fl own idx ci k0 ty fin) (hci : pf_ci kd = some ci) (hv : pf_fv kd i k0 (M kd i) = v) (k : K pc' lo (v :: st) M) : K pc lo (pf_R kd i :: st) M := by
  subst hp
  exact R.1 _ _ _ d _ _ _ ⟨kd, i, k0, ci, ty, fin, st, rfl, rfl, hci, hF, hv ▸ k⟩
theorem r_putfield (R : pf_RU G cc own FR LO ret r0 M0 K) (pc' : Nat) {kd i k0 ci idx : Nat} {ty : FieldType} {x : Int32} (d : decode cc pc = .ok (.putfield idx, 3)) (hp : pc + 3 = pc') (hF : pf_Fl own idx ci k0 ty false) (hci : pf_ci kd = some ci) (hr : pf_rs kd i k0 = none) (hn : narrow ty (.int x) = .int x) (hf : fits ty (.int x) = true) (k : K pc' lo (st) (pf_up M kd i k0 x)) : K pc lo (pf_I x :: pf_R kd i :: st) M := by
  subst hp
  exact R.1 _ _ _ d _ _ _ ⟨kd, i, k0, ci, ty, x, st, rfl, rfl, hci, hr, hF, hn, hf, k⟩
theorem r_iaload (R : pf_RU G cc own FR LO ret r0 M0 K) (pc' : Nat) {kd i n : Nat} {j : Int32} (d : decode cc pc = .ok (.iaload, 1)) (hp : pc + 1 = pc') (hk : pf_intK kd n) (hin : vp_in j n) (k : K pc' lo (pf_I (M kd i j.toNatClampNeg) :: st) M) : K pc lo (pf_I j :: pf_R kd i :: st) M := by
  subst hp
  exact R.1 _ _ _ d _ _ _ ⟨kd, i, n, j, st, rfl, rfl, hk, hin, k⟩
theorem r_iastore (R : pf_RU G cc own FR LO ret r0 M0 K) (pc' : Nat) {kd i n : Nat} {j x : Int32} (d : decode cc pc = .ok (.iastore, 1)) (hp : pc + 1 = pc') (hk : pf_intK kd n) (hin : vp_in j n) (k : K pc' lo (st) (pf_up M kd i j.toNatClampNeg x)) : K pc lo (pf_I x :: pf_I j :: pf_R kd i :: st) M := by
  subst hp
  exact R.1 _ _ _ d _ _ _ ⟨kd, i, n, j, x, st, rfl, rfl, hk, hin, k⟩
theorem r_caload (R : pf_RU G cc own FR LO ret r0 M0 K) (pc' : Nat) {kd i n : Nat} {j : Int32} (d : decode cc pc = .ok (.caload, 1)) (hp : pc + 1 = pc') (hk : pf_ci kd = none) (hk2 : pf_ar kd = some (1, n)) (hin : vp_in j n) (k : K pc' lo (pf_I (M kd i j.toNatClampNeg) :: st) M) : K pc lo (pf_I j :: pf_R kd i :: st) M := by
  subst hp
  exact R.1 _ _ _ d _ _ _ ⟨kd, i, n, j, st, rfl, rfl, hk, hk2, hin, k⟩
theorem r_castore (R : pf_RU G cc own FR LO ret r0 M0 K) (pc' : Nat) {kd i n : Nat} {j x : Int32} (d : decode cc pc = .ok (.castore, 1)) (hp : pc + 1 = pc') (hk : pf_ci kd = none) (hk2 : pf_ar kd = some (1, n)) (hin : vp_in j n) (k : K pc' lo (st) (pf_up M kd i j.toNatClampNeg (vp_nar .char x))) : K pc lo (pf_I x :: pf_I j :: pf_R kd i :: st) M := by
  subst hp
  exact R.1 _ _ _ d _ _ _ ⟨kd, i, n, j, x, st, rfl, rfl, hk, hk2, hin, k⟩
theorem r_aaload (R : pf_RU G cc own FR LO ret r0 M0 K) (pc' : Nat) {kd i n t el : Nat} {j : Int32} (d : decode cc pc = .ok (.aaload, 1)) (hp : pc + 1 = pc') (hk : pf_ci kd = none) (hk2 : pf_ar kd = none) (hk3 : pf_ra kd = some (t, n, el)) (hin : vp_in j n) (k : K pc' lo (pf_R el j.toNatClampNeg :: st) M) : K pc lo (pf_I j :: pf_R kd i :: st) M := by
  subst hp
  exact R.1 _ _ _ d _ _ _ ⟨kd, i, n, t, el, j, st, rfl, rfl, hk, hk2, hk3, hin, k⟩
theorem r_arraylength (R : pf_RU G cc own FR LO ret r0 M0 K) (pc' : Nat) {kd i n : Nat} (d : decode cc pc = .ok (.arraylength, 1)) (hp : pc + 1 = pc') (hk : pf_intK kd n) (k : K pc' lo (pf_I (Int32.ofNat n) :: st) M) : K pc lo (pf_R kd i :: st) M := by
  subst hp
  exact R.1 _ _ _ d _ _ _ ⟨kd, i, n, st, rfl, rfl, hk, k⟩
theorem r_ireturn (R : pf_RU G cc own FR LO ret r0 M0 K) {x : Int32} {ty : FieldType} (d : decode cc pc = .ok (.ireturn, 1)) (hr : ret = some ty) (hn : narrow ty (.int x) = .int x) (h0 : r0 = some (pf_I x)) (hM : M = M0) : K pc lo [pf_I x] M := R.1 _ _ _ d _ _ _ ⟨x, ty, rfl, rfl, hr, hn, h0, hM⟩
theorem r_lreturn (R : pf_RU G cc own FR LO ret r0 M0 K) {x : Int64} (d : decode cc pc = .ok (.lreturn, 1)) (hr : ret = some .long) (h0 : r0 = some (pf_L x)) (hM : M = M0) : K pc lo [pf_L x] M := R.1 _ _ _ d _ _ _ ⟨x, rfl, rfl, hr, h0, hM⟩
theorem r_areturn (R : pf_RU G cc own FR LO ret r0 M0 K) {q : Option (Nat × Nat)} {n : String} (d : decode cc pc = .ok (.areturn, 1)) (hr : ret = some (.object n)) (h0 : r0 = some (.inr (.inr (.inl q)))) (hM : M = M0) : K pc lo [.inr (.inr (.inl q))] M := R.1 _ _ _ d _ _ _ ⟨q, n, rfl, rfl, hr, h0, hM⟩
theorem r_return_ (R : pf_RU G cc own FR LO ret r0 M0 K) (d : decode cc pc = .ok (.return_, 1)) (hr : ret = none) (h0 : r0 = none) (hM : M = M0) : K pc lo [] M := R.1 _ _ _ d _ _ _ ⟨rfl, rfl, hr, h0, hM⟩
theorem r_fg (R : pf_RU G cc own FR LO ret r0 M0 K) (mask : List Bool) (h : pf_fg mask lo = lo') (k : K pc lo' st M) : K pc lo st M := R.2 pc mask lo st M (h ▸ k)
theorem r_cvI0 (R : pf_RU G cc own FR LO ret r0 M0 K) (pc' : Nat) {idx nL fr lo2 kd i ci : Nat} {y : MethodName} {c2 : ByteArray} {rt : Option FieldType} {M' : pf_M} {x : Int32} (d : decode cc pc = .ok (.invokevirtual idx, 3)) (hp : pc + 3 = pc') (hL : pf_LkV own idx ci y c2 nL rt 0) (hci : pf_ci kd = some ci) (hM : pf_Met G y c2 nL rt fr lo2 (pf_R kd i :: []) M (some (pf_I x)) M') (hw : Nat.ble (pf_wd st) 8 = true) (h1 : Nat.ble (fr + 1) FR = true) (h2 : Nat.ble (8 + (nL + 11) + lo2) LO = true) (k : K pc' lo (pf_I x :: st) M') : K pc lo (pf_R kd i :: st) M := by
  subst hp
  exact R.1 _ _ _ d _ _ _ ⟨y, c2, nL, rt, fr, lo2, [], kd, i, ci, st, _, M', rfl, rfl, Nat.le_of_ble_eq_true hw, hci, hL, Nat.le_of_ble_eq_true h1, Nat.le_of_ble_eq_true h2, hM, k⟩
theorem r_cvL0 (R : pf_RU G cc own FR LO ret r0 M0 K) (pc' : Nat) {idx nL fr lo2 kd i ci : Nat} {y : MethodName} {c2 : ByteArray} {rt : Option FieldType} {M' : pf_M} {x : Int64} (d : decode cc pc = .ok (.invokevirtual idx, 3)) (hp : pc + 3 = pc') (hL : pf_LkV own idx ci y c2 nL rt 0) (hci : pf_ci kd = some ci) (hM : pf_Met G y c2 nL rt fr lo2 (pf_R kd i :: []) M (some (pf_L x)) M') (hw : Nat.ble (pf_wd st) 8 = true) (h1 : Nat.ble (fr + 1) FR = true) (h2 : Nat.ble (8 + (nL + 11) + lo2) LO = true) (k : K pc' lo (pf_L x :: st) M') : K pc lo (pf_R kd i :: st) M := by
  subst hp
  exact R.1 _ _ _ d _ _ _ ⟨y, c2, nL, rt, fr, lo2, [], kd, i, ci, st, _, M', rfl, rfl, Nat.le_of_ble_eq_true hw, hci, hL, Nat.le_of_ble_eq_true h1, Nat.le_of_ble_eq_true h2, hM, k⟩
theorem r_cvQ0 (R : pf_RU G cc own FR LO ret r0 M0 K) (pc' : Nat) {idx nL fr lo2 kd i ci : Nat} {y : MethodName} {c2 : ByteArray} {rt : Option FieldType} {M' : pf_M} {x : Option (Nat × Nat)} (d : decode cc pc = .ok (.invokevirtual idx, 3)) (hp : pc + 3 = pc') (hL : pf_LkV own idx ci y c2 nL rt 0) (hci : pf_ci kd = some ci) (hM : pf_Met G y c2 nL rt fr lo2 (pf_R kd i :: []) M (some (.inr (.inr (.inl x)))) M') (hw : Nat.ble (pf_wd st) 8 = true) (h1 : Nat.ble (fr + 1) FR = true) (h2 : Nat.ble (8 + (nL + 11) + lo2) LO = true) (k : K pc' lo (.inr (.inr (.inl x)) :: st) M') : K pc lo (pf_R kd i :: st) M := by
  subst hp
  exact R.1 _ _ _ d _ _ _ ⟨y, c2, nL, rt, fr, lo2, [], kd, i, ci, st, _, M', rfl, rfl, Nat.le_of_ble_eq_true hw, hci, hL, Nat.le_of_ble_eq_true h1, Nat.le_of_ble_eq_true h2, hM, k⟩
theorem r_cvV0 (R : pf_RU G cc own FR LO ret r0 M0 K) (pc' : Nat) {idx nL fr lo2 kd i ci : Nat} {y : MethodName} {c2 : ByteArray} {rt : Option FieldType} {M' : pf_M} (d : decode cc pc = .ok (.invokevirtual idx, 3)) (hp : pc + 3 = pc') (hL : pf_LkV own idx ci y c2 nL rt 0) (hci : pf_ci kd = some ci) (hM : pf_Met G y c2 nL rt fr lo2 (pf_R kd i :: []) M (none) M') (hw : Nat.ble (pf_wd st) 8 = true) (h1 : Nat.ble (fr + 1) FR = true) (h2 : Nat.ble (8 + (nL + 11) + lo2) LO = true) (k : K pc' lo (st) M') : K pc lo (pf_R kd i :: st) M := by
  subst hp
  exact R.1 _ _ _ d _ _ _ ⟨y, c2, nL, rt, fr, lo2, [], kd, i, ci, st, _, M', rfl, rfl, Nat.le_of_ble_eq_true hw, hci, hL, Nat.le_of_ble_eq_true h1, Nat.le_of_ble_eq_true h2, hM, k⟩
theorem r_cvI1 (R : pf_RU G cc own FR LO ret r0 M0 K) (pc' : Nat) {idx nL fr lo2 kd i ci : Nat} {y : MethodName} {c2 : ByteArray} {rt : Option FieldType} {M' : pf_M} {a0 : pf_V} {x : Int32} (d : decode cc pc = .ok (.invokevirtual idx, 3)) (hp : pc + 3 = pc') (hL : pf_LkV own idx ci y c2 nL rt 1) (hci : pf_ci kd = some ci) (hM : pf_Met G y c2 nL rt fr lo2 (pf_R kd i :: [a0]) M (some (pf_I x)) M') (hw : Nat.ble (pf_wd st) 8 = true) (h1 : Nat.ble (fr + 1) FR = true) (h2 : Nat.ble (8 + (nL + 11) + lo2) LO = true) (k : K pc' lo (pf_I x :: st) M') : K pc lo (a0 :: pf_R kd i :: st) M := by
  subst hp
  exact R.1 _ _ _ d _ _ _ ⟨y, c2, nL, rt, fr, lo2, [a0], kd, i, ci, st, _, M', rfl, rfl, Nat.le_of_ble_eq_true hw, hci, hL, Nat.le_of_ble_eq_true h1, Nat.le_of_ble_eq_true h2, hM, k⟩
theorem r_cvL1 (R : pf_RU G cc own FR LO ret r0 M0 K) (pc' : Nat) {idx nL fr lo2 kd i ci : Nat} {y : MethodName} {c2 : ByteArray} {rt : Option FieldType} {M' : pf_M} {a0 : pf_V} {x : Int64} (d : decode cc pc = .ok (.invokevirtual idx, 3)) (hp : pc + 3 = pc') (hL : pf_LkV own idx ci y c2 nL rt 1) (hci : pf_ci kd = some ci) (hM : pf_Met G y c2 nL rt fr lo2 (pf_R kd i :: [a0]) M (some (pf_L x)) M') (hw : Nat.ble (pf_wd st) 8 = true) (h1 : Nat.ble (fr + 1) FR = true) (h2 : Nat.ble (8 + (nL + 11) + lo2) LO = true) (k : K pc' lo (pf_L x :: st) M') : K pc lo (a0 :: pf_R kd i :: st) M := by
  subst hp
  exact R.1 _ _ _ d _ _ _ ⟨y, c2, nL, rt, fr, lo2, [a0], kd, i, ci, st, _, M', rfl, rfl, Nat.le_of_ble_eq_true hw, hci, hL, Nat.le_of_ble_eq_true h1, Nat.le_of_ble_eq_true h2, hM, k⟩
theorem r_cvQ1 (R : pf_RU G cc own FR LO ret r0 M0 K) (pc' : Nat) {idx nL fr lo2 kd i ci : Nat} {y : MethodName} {c2 : ByteArray} {rt : Option FieldType} {M' : pf_M} {a0 : pf_V} {x : Option (Nat × Nat)} (d : decode cc pc = .ok (.invokevirtual idx, 3)) (hp : pc + 3 = pc') (hL : pf_LkV own idx ci y c2 nL rt 1) (hci : pf_ci kd = some ci) (hM : pf_Met G y c2 nL rt fr lo2 (pf_R kd i :: [a0]) M (some (.inr (.inr (.inl x)))) M') (hw : Nat.ble (pf_wd st) 8 = true) (h1 : Nat.ble (fr + 1) FR = true) (h2 : Nat.ble (8 + (nL + 11) + lo2) LO = true) (k : K pc' lo (.inr (.inr (.inl x)) :: st) M') : K pc lo (a0 :: pf_R kd i :: st) M := by
  subst hp
  exact R.1 _ _ _ d _ _ _ ⟨y, c2, nL, rt, fr, lo2, [a0], kd, i, ci, st, _, M', rfl, rfl, Nat.le_of_ble_eq_true hw, hci, hL, Nat.le_of_ble_eq_true h1, Nat.le_of_ble_eq_true h2, hM, k⟩
theorem r_cvV1 (R : pf_RU G cc own FR LO ret r0 M0 K) (pc' : Nat) {idx nL fr lo2 kd i ci : Nat} {y : MethodName} {c2 : ByteArray} {rt : Option FieldType} {M' : pf_M} {a0 : pf_V} (d : decode cc pc = .ok (.invokevirtual idx, 3)) (hp : pc + 3 = pc') (hL : pf_LkV own idx ci y c2 nL rt 1) (hci : pf_ci kd = some ci) (hM : pf_Met G y c2 nL rt fr lo2 (pf_R kd i :: [a0]) M (none) M') (hw : Nat.ble (pf_wd st) 8 = true) (h1 : Nat.ble (fr + 1) FR = true) (h2 : Nat.ble (8 + (nL + 11) + lo2) LO = true) (k : K pc' lo (st) M') : K pc lo (a0 :: pf_R kd i :: st) M := by
  subst hp
  exact R.1 _ _ _ d _ _ _ ⟨y, c2, nL, rt, fr, lo2, [a0], kd, i, ci, st, _, M', rfl, rfl, Nat.le_of_ble_eq_true hw, hci, hL, Nat.le_of_ble_eq_true h1, Nat.le_of_ble_eq_true h2, hM, k⟩
theorem r_cvI2 (R : pf_RU G cc own FR LO ret r0 M0 K) (pc' : Nat) {idx nL fr lo2 kd i ci : Nat} {y : MethodName} {c2 : ByteArray} {rt : Option FieldType} {M' : pf_M} {a0 a1 : pf_V} {x : Int32} (d : decode cc pc = .ok (.invokevirtual idx, 3)) (hp : pc + 3 = pc') (hL : pf_LkV own idx ci y c2 nL rt 2) (hci : pf_ci kd = some ci) (hM : pf_Met G y c2 nL rt fr lo2 (pf_R kd i :: [a0, a1]) M (some (pf_I x)) M') (hw : Nat.ble (pf_wd st) 8 = true) (h1 : Nat.ble (fr + 1) FR = true) (h2 : Nat.ble (8 + (nL + 11) + lo2) LO = true) (k : K pc' lo (pf_I x :: st) M') : K pc lo (a1 :: a0 :: pf_R kd i :: st) M := by
  subst hp
  exact R.1 _ _ _ d _ _ _ ⟨y, c2, nL, rt, fr, lo2, [a0, a1], kd, i, ci, st, _, M', rfl, rfl, Nat.le_of_ble_eq_true hw, hci, hL, Nat.le_of_ble_eq_true h1, Nat.le_of_ble_eq_true h2, hM, k⟩
theorem r_cvL2 (R : pf_RU G cc own FR LO ret r0 M0 K) (pc' : Nat) {idx nL fr lo2 kd i ci : Nat} {y : MethodName} {c2 : ByteArray} {rt : Option FieldType} {M' : pf_M} {a0 a1 : pf_V} {x : Int64} (d : decode cc pc = .ok (.invokevirtual idx, 3)) (hp : pc + 3 = pc') (hL : pf_LkV own idx ci y c2 nL rt 2) (hci : pf_ci kd = some ci) (hM : pf_Met G y c2 nL rt fr lo2 (pf_R kd i :: [a0, a1]) M (some (pf_L x)) M') (hw : Nat.ble (pf_wd st) 8 = true) (h1 : Nat.ble (fr + 1) FR = true) (h2 : Nat.ble (8 + (nL + 11) + lo2) LO = true) (k : K pc' lo (pf_L x :: st) M') : K pc lo (a1 :: a0 :: pf_R kd i :: st) M := by
  subst hp
  exact R.1 _ _ _ d _ _ _ ⟨y, c2, nL, rt, fr, lo2, [a0, a1], kd, i, ci, st, _, M', rfl, rfl, Nat.le_of_ble_eq_true hw, hci, hL, Nat.le_of_ble_eq_true h1, Nat.le_of_ble_eq_true h2, hM, k⟩
theorem r_cvQ2 (R : pf_RU G cc own FR LO ret r0 M0 K) (pc' : Nat) {idx nL fr lo2 kd i ci : Nat} {y : MethodName} {c2 : ByteArray} {rt : Option FieldType} {M' : pf_M} {a0 a1 : pf_V} {x : Option (Nat × Nat)} (d : decode cc pc = .ok (.invokevirtual idx, 3)) (hp : pc + 3 = pc') (hL : pf_LkV own idx ci y c2 nL rt 2) (hci : pf_ci kd = some ci) (hM : pf_Met G y c2 nL rt fr lo2 (pf_R kd i :: [a0, a1]) M (some (.inr (.inr (.inl x)))) M') (hw : Nat.ble (pf_wd st) 8 = true) (h1 : Nat.ble (fr + 1) FR = true) (h2 : Nat.ble (8 + (nL + 11) + lo2) LO = true) (k : K pc' lo (.inr (.inr (.inl x)) :: st) M') : K pc lo (a1 :: a0 :: pf_R kd i :: st) M := by
  subst hp
  exact R.1 _ _ _ d _ _ _ ⟨y, c2, nL, rt, fr, lo2, [a0, a1], kd, i, ci, st, _, M', rfl, rfl, Nat.le_of_ble_eq_true hw, hci, hL, Nat.le_of_ble_eq_true h1, Nat.le_of_ble_eq_true h2, hM, k⟩
theorem r_cvV2 (R : pf_RU G cc own FR LO ret r0 M0 K) (pc' : Nat) {idx nL fr lo2 kd i ci : Nat} {y : MethodName} {c2 : ByteArray} {rt : Option FieldType} {M' : pf_M} {a0 a1 : pf_V} (d : decode cc pc = .ok (.invokevirtual idx, 3)) (hp : pc + 3 = pc') (hL : pf_LkV own idx ci y c2 nL rt 2) (hci : pf_ci kd = some ci) (hM : pf_Met G y c2 nL rt fr lo2 (pf_R kd i :: [a0, a1]) M (none) M') (hw : Nat.ble (pf_wd st) 8 = true) (h1 : Nat.ble (fr + 1) FR = true) (h2 : Nat.ble (8 + (nL + 11) + lo2) LO = true) (k : K pc' lo (st) M') : K pc lo (a1 :: a0 :: pf_R kd i :: st) M := by
  subst hp
  exact R.1 _ _ _ d _ _ _ ⟨y, c2, nL, rt, fr, lo2, [a0, a1], kd, i, ci, st, _, M', rfl, rfl, Nat.le_of_ble_eq_true hw, hci, hL, Nat.le_of_ble_eq_true h1, Nat.le_of_ble_eq_true h2, hM, k⟩
theorem r_cvI3 (R : pf_RU G cc own FR LO ret r0 M0 K) (pc' : Nat) {idx nL fr lo2 kd i ci : Nat} {y : MethodName} {c2 : ByteArray} {rt : Option FieldType} {M' : pf_M} {a0 a1 a2 : pf_V} {x : Int32} (d : decode cc pc = .ok (.invokevirtual idx, 3)) (hp : pc + 3 = pc') (hL : pf_LkV own idx ci y c2 nL rt 3) (hci : pf_ci kd = some ci) (hM : pf_Met G y c2 nL rt fr lo2 (pf_R kd i :: [a0, a1, a2]) M (some (pf_I x)) M') (hw : Nat.ble (pf_wd st) 8 = true) (h1 : Nat.ble (fr + 1) FR = true) (h2 : Nat.ble (8 + (nL + 11) + lo2) LO = true) (k : K pc' lo (pf_I x :: st) M') : K pc lo (a2 :: a1 :: a0 :: pf_R kd i :: st) M := by
  subst hp
  exact R.1 _ _ _ d _ _ _ ⟨y, c2, nL, rt, fr, lo2, [a0, a1, a2], kd, i, ci, st, _, M', rfl, rfl, Nat.le_of_ble_eq_true hw, hci, hL, Nat.le_of_ble_eq_true h1, Nat.le_of_ble_eq_true h2, hM, k⟩
theorem r_cvL3 (R : pf_RU G cc own FR LO ret r0 M0 K) (pc' : Nat) {idx nL fr lo2 kd i ci : Nat} {y : MethodName} {c2 : ByteArray} {rt : Option FieldType} {M' : pf_M} {a0 a1 a2 : pf_V} {x : Int64} (d : decode cc pc = .ok (.invokevirtual idx, 3)) (hp : pc + 3 = pc') (hL : pf_LkV own idx ci y c2 nL rt 3) (hci : pf_ci kd = some ci) (hM : pf_Met G y c2 nL rt fr lo2 (pf_R kd i :: [a0, a1, a2]) M (some (pf_L x)) M') (hw : Nat.ble (pf_wd st) 8 = true) (h1 : Nat.ble (fr + 1) FR = true) (h2 : Nat.ble (8 + (nL + 11) + lo2) LO = true) (k : K pc' lo (pf_L x :: st) M') : K pc lo (a2 :: a1 :: a0 :: pf_R kd i :: st) M := by
  subst hp
  exact R.1 _ _ _ d _ _ _ ⟨y, c2, nL, rt, fr, lo2, [a0, a1, a2], kd, i, ci, st, _, M', rfl, rfl, Nat.le_of_ble_eq_true hw, hci, hL, Nat.le_of_ble_eq_true h1, Nat.le_of_ble_eq_true h2, hM, k⟩
theorem r_cvQ3 (R : pf_RU G cc own FR LO ret r0 M0 K) (pc' : Nat) {idx nL fr lo2 kd i ci : Nat} {y : MethodName} {c2 : ByteArray} {rt : Option FieldType} {M' : pf_M} {a0 a1 a2 : pf_V} {x : Option (Nat × Nat)} (d : decode cc pc = .ok (.invokevirtual idx, 3)) (hp : pc + 3 = pc') (hL : pf_LkV own idx ci y c2 nL rt 3) (hci : pf_ci kd = some ci) (hM : pf_Met G y c2 nL rt fr lo2 (pf_R kd i :: [a0, a1, a2]) M (some (.inr (.inr (.inl x)))) M') (hw : Nat.ble (pf_wd st) 8 = true) (h1 : Nat.ble (fr + 1) FR = true) (h2 : Nat.ble (8 + (nL + 11) + lo2) LO = true) (k : K pc' lo (.inr (.inr (.inl x)) :: st) M') : K pc lo (a2 :: a1 :: a0 :: pf_R kd i :: st) M := by
  subst hp
  exact R.1 _ _ _ d _ _ _ ⟨y, c2, nL, rt, fr, lo2, [a0, a1, a2], kd, i, ci, st, _, M', rfl, rfl, Nat.le_of_ble_eq_true hw, hci, hL, Nat.le_of_ble_eq_true h1, Nat.le_of_ble_eq_true h2, hM, k⟩
theorem r_cvV3 (R : pf_RU G cc own FR LO ret r0 M0 K) (pc' : Nat) {idx nL fr lo2 kd i ci : Nat} {y : MethodName} {c2 : ByteArray} {rt : Option FieldType} {M' : pf_M} {a0 a1 a2 : pf_V} (d : decode cc pc = .ok (.invokevirtual idx, 3)) (hp : pc + 3 = pc') (hL : pf_LkV own idx ci y c2 nL rt 3) (hci : pf_ci kd = some ci) (hM : pf_Met G y c2 nL rt fr lo2 (pf_R kd i :: [a0, a1, a2]) M (none) M') (hw : Nat.ble (pf_wd st) 8 = true) (h1 : Nat.ble (fr + 1) FR = true) (h2 : Nat.ble (8 + (nL + 11) + lo2) LO = true) (k : K pc' lo (st) M') : K pc lo (a2 :: a1 :: a0 :: pf_R kd i :: st) M := by
  subst hp
  exact R.1 _ _ _ d _ _ _ ⟨y, c2, nL, rt, fr, lo2, [a0, a1, a2], kd, i, ci, st, _, M', rfl, rfl, Nat.le_of_ble_eq_true hw, hci, hL, Nat.le_of_ble_eq_true h1, Nat.le_of_ble_eq_true h2, hM, k⟩
theorem r_cvI4 (R : pf_RU G cc own FR LO ret r0 M0 K) (pc' : Nat) {idx nL fr lo2 kd i ci : Nat} {y : MethodName} {c2 : ByteArray} {rt : Option FieldType} {M' : pf_M} {a0 a1 a2 a3 : pf_V} {x : Int32} (d : decode cc pc = .ok (.invokevirtual idx, 3)) (hp : pc + 3 = pc') (hL : pf_LkV own idx ci y c2 nL rt 4) (hci : pf_ci kd = some ci) (hM : pf_Met G y c2 nL rt fr lo2 (pf_R kd i :: [a0, a1, a2, a3]) M (some (pf_I x)) M') (hw : Nat.ble (pf_wd st) 8 = true) (h1 : Nat.ble (fr + 1) FR = true) (h2 : Nat.ble (8 + (nL + 11) + lo2) LO = true) (k : K pc' lo (pf_I x :: st) M') : K pc lo (a3 :: a2 :: a1 :: a0 :: pf_R kd i :: st) M := by
  subst hp
  exact R.1 _ _ _ d _ _ _ ⟨y, c2, nL, rt, fr, lo2, [a0, a1, a2, a3], kd, i, ci, st, _, M', rfl, rfl, Nat.le_of_ble_eq_true hw, hci, hL, Nat.le_of_ble_eq_true h1, Nat.le_of_ble_eq_true h2, hM, k⟩
theorem r_cvL4 (R : pf_RU G cc own FR LO ret r0 M0 K) (pc' : Nat) {idx nL fr lo2 kd i ci : Nat} {y : MethodName} {c2 : ByteArray} {rt : Option FieldType} {M' : pf_M} {a0 a1 a2 a3 : pf_V} {x : Int64} (d : decode cc pc = .ok (.invokevirtual idx, 3)) (hp : pc + 3 = pc') (hL : pf_LkV own idx ci y c2 nL rt 4) (hci : pf_ci kd = some ci) (hM : pf_Met G y c2 nL rt fr lo2 (pf_R kd i :: [a0, a1, a2, a3]) M (some (pf_L x)) M') (hw : Nat.ble (pf_wd st) 8 = true) (h1 : Nat.ble (fr + 1) FR = true) (h2 : Nat.ble (8 + (nL + 11) + lo2) LO = true) (k : K pc' lo (pf_L x :: st) M') : K pc lo (a3 :: a2 :: a1 :: a0 :: pf_R kd i :: st) M := by
  subst hp
  exact R.1 _ _ _ d _ _ _ ⟨y, c2, nL, rt, fr, lo2, [a0, a1, a2, a3], kd, i, ci, st, _, M', rfl, rfl, Nat.le_of_ble_eq_true hw, hci, hL, Nat.le_of_ble_eq_true h1, Nat.le_of_ble_eq_true h2, hM, k⟩
theorem r_cvQ4 (R : pf_RU G cc own FR LO ret r0 M0 K) (pc' : Nat) {idx nL fr lo2 kd i ci : Nat} {y : MethodName} {c2 : ByteArray} {rt : Option FieldType} {M' : pf_M} {a0 a1 a2 a3 : pf_V} {x : Option (Nat × Nat)} (d : decode cc pc = .ok (.invokevirtual idx, 3)) (hp : pc + 3 = pc') (hL : pf_LkV own idx ci y c2 nL rt 4) (hci : pf_ci kd = some ci) (hM : pf_Met G y c2 nL rt fr lo2 (pf_R kd i :: [a0, a1, a2, a3]) M (some (.inr (.inr (.inl x)))) M') (hw : Nat.ble (pf_wd st) 8 = true) (h1 : Nat.ble (fr + 1) FR = true) (h2 : Nat.ble (8 + (nL + 11) + lo2) LO = true) (k : K pc' lo (.inr (.inr (.inl x)) :: st) M') : K pc lo (a3 :: a2 :: a1 :: a0 :: pf_R kd i :: st) M := by
  subst hp
  exact R.1 _ _ _ d _ _ _ ⟨y, c2, nL, rt, fr, lo2, [a0, a1, a2, a3], kd, i, ci, st, _, M', rfl, rfl, Nat.le_of_ble_eq_true hw, hci, hL, Nat.le_of_ble_eq_true h1, Nat.le_of_ble_eq_true h2, hM, k⟩
theorem r_cvV4 (R : pf_RU G cc own FR LO ret r0 M0 K) (pc' : Nat) {idx nL fr lo2 kd i ci : Nat} {y : MethodName} {c2 : ByteArray} {rt : Option FieldType} {M' : pf_M} {a0 a1 a2 a3 : pf_V} (d : decode cc pc = .ok (.invokevirtual idx, 3)) (hp : pc + 3 = pc') (hL : pf_LkV own idx ci y c2 nL rt 4) (hci : pf_ci kd = some ci) (hM : pf_Met G y c2 nL rt fr lo2 (pf_R kd i :: [a0, a1, a2, a3]) M (none) M') (hw : Nat.ble (pf_wd st) 8 = true) (h1 : Nat.ble (fr + 1) FR = true) (h2 : Nat.ble (8 + (nL + 11) + lo2) LO = true) (k : K pc' lo (st) M') : K pc lo (a3 :: a2 :: a1 :: a0 :: pf_R kd i :: st) M := by
  subst hp
  exact R.1 _ _ _ d _ _ _ ⟨y, c2, nL, rt, fr, lo2, [a0, a1, a2, a3], kd, i, ci, st, _, M', rfl, rfl, Nat.le_of_ble_eq_true hw, hci, hL, Nat.le_of_ble_eq_true h1, Nat.le_of_ble_eq_true h2, hM, k⟩
theorem r_cvI5 (R : pf_RU G cc own FR LO ret r0 M0 K) (pc' : Nat) {idx nL fr lo2 kd i ci : Nat} {y : MethodName} {c2 : ByteArray} {rt : Option FieldType} {M' : pf_M} {a0 a1 a2 a3 a4 : pf_V} {x : Int32} (d : decode cc pc = .ok (.invokevirtual idx, 3)) (hp : pc + 3 = pc') (hL : pf_LkV own idx ci y c2 nL rt 5) (hci : pf_ci kd = some ci) (hM : pf_Met G y c2 nL rt fr lo2 (pf_R kd i :: [a0, a1, a2, a3, a4]) M (some (pf_I x)) M') (hw : Nat.ble (pf_wd st) 8 = true) (h1 : Nat.ble (fr + 1) FR = true) (h2 : Nat.ble (8 + (nL + 11) + lo2) LO = true) (k : K pc' lo (pf_I x :: st) M') : K pc lo (a4 :: a3 :: a2 :: a1 :: a0 :: pf_R kd i :: st) M := by
  subst hp
  exact R.1 _ _ _ d _ _ _ ⟨y, c2, nL, rt, fr, lo2, [a0, a1, a2, a3, a4], kd, i, ci, st, _, M', rfl, rfl, Nat.le_of_ble_eq_true hw, hci, hL, Nat.le_of_ble_eq_true h1, Nat.le_of_ble_eq_true h2, hM, k⟩
theorem r_cvL5 (R : pf_RU G cc own FR LO ret r0 M0 K) (pc' : Nat) {idx nL fr lo2 kd i ci : Nat} {y : MethodName} {c2 : ByteArray} {rt : Option FieldType} {M' : pf_M} {a0 a1 a2 a3 a4 : pf_V} {x : Int64} (d : decode cc pc = .ok (.invokevirtual idx, 3)) (hp : pc + 3 = pc') (hL : pf_LkV own idx ci y c2 nL rt 5) (hci : pf_ci kd = some ci) (hM : pf_Met G y c2 nL rt fr lo2 (pf_R kd i :: [a0, a1, a2, a3, a4]) M (some (pf_L x)) M') (hw : Nat.ble (pf_wd st) 8 = true) (h1 : Nat.ble (fr + 1) FR = true) (h2 : Nat.ble (8 + (nL + 11) + lo2) LO = true) (k : K pc' lo (pf_L x :: st) M') : K pc lo (a4 :: a3 :: a2 :: a1 :: a0 :: pf_R kd i :: st) M := by
  subst hp
  exact R.1 _ _ _ d _ _ _ ⟨y, c2, nL, rt, fr, lo2, [a0, a1, a2, a3, a4], kd, i, ci, st, _, M', rfl, rfl, Nat.le_of_ble_eq_true hw, hci, hL, Nat.le_of_ble_eq_true h1, Nat.le_of_ble_eq_true h2, hM, k⟩
theorem r_cvQ5 (R : pf_RU G cc own FR LO ret r0 M0 K) (pc' : Nat) {idx nL fr lo2 kd i ci : Nat} {y : MethodName} {c2 : ByteArray} {rt : Option FieldType} {M' : pf_M} {a0 a1 a2 a3 a4 : pf_V} {x : Option (Nat × Nat)} (d : decode cc pc = .ok (.invokevirtual idx, 3)) (hp : pc + 3 = pc') (hL : pf_LkV own idx ci y c2 nL rt 5) (hci : pf_ci kd = some ci) (hM : pf_Met G y c2 nL rt fr lo2 (pf_R kd i :: [a0, a1, a2, a3, a4]) M (some (.inr (.inr (.inl x)))) M') (hw : Nat.ble (pf_wd st) 8 = true) (h1 : Nat.ble (fr + 1) FR = true) (h2 : Nat.ble (8 + (nL + 11) + lo2) LO = true) (k : K pc' lo (.inr (.inr (.inl x)) :: st) M') : K pc lo (a4 :: a3 :: a2 :: a1 :: a0 :: pf_R kd i :: st) M := by
  subst hp
  exact R.1 _ _ _ d _ _ _ ⟨y, c2, nL, rt, fr, lo2, [a0, a1, a2, a3, a4], kd, i, ci, st, _, M', rfl, rfl, Nat.le_of_ble_eq_true hw, hci, hL, Nat.le_of_ble_eq_true h1, Nat.le_of_ble_eq_true h2, hM, k⟩
theorem r_cvV5 (R : pf_RU G cc own FR LO ret r0 M0 K) (pc' : Nat) {idx nL fr lo2 kd i ci : Nat} {y : MethodName} {c2 : ByteArray} {rt : Option FieldType} {M' : pf_M} {a0 a1 a2 a3 a4 : pf_V} (d : decode cc pc = .ok (.invokevirtual idx, 3)) (hp : pc + 3 = pc') (hL : pf_LkV own idx ci y c2 nL rt 5) (hci : pf_ci kd = some ci) (hM : pf_Met G y c2 nL rt fr lo2 (pf_R kd i :: [a0, a1, a2, a3, a4]) M (none) M') (hw : Nat.ble (pf_wd st) 8 = true) (h1 : Nat.ble (fr + 1) FR = true) (h2 : Nat.ble (8 + (nL + 11) + lo2) LO = true) (k : K pc' lo (st) M') : K pc lo (a4 :: a3 :: a2 :: a1 :: a0 :: pf_R kd i :: st) M := by
  subst hp
  exact R.1 _ _ _ d _ _ _ ⟨y, c2, nL, rt, fr, lo2, [a0, a1, a2, a3, a4], kd, i, ci, st, _, M', rfl, rfl, Nat.le_of_ble_eq_true hw, hci, hL, Nat.le_of_ble_eq_true h1, Nat.le_of_ble_eq_true h2, hM, k⟩
theorem r_csI0 (R : pf_RU G cc own FR LO ret r0 M0 K) (pc' : Nat) {idx nL fr lo2 : Nat} {y : MethodName} {c2 : ByteArray} {rt : Option FieldType} {M' : pf_M} {x : Int32} (d : decode cc pc = .ok (.invokestatic idx, 3)) (hp : pc + 3 = pc') (hL : pf_LkS own idx y c2 nL rt 0) (hM : pf_Met G y c2 nL rt fr lo2 [] M (some (pf_I x)) M') (hw : Nat.ble (pf_wd st) 8 = true) (h1 : Nat.ble (fr + 1) FR = true) (h2 : Nat.ble (8 + (nL + 11) + lo2) LO = true) (k : K pc' lo (pf_I x :: st) M') : K pc lo (st) M := by
  subst hp
  exact R.1 _ _ _ d _ _ _ (Or.inl ⟨y, c2, nL, rt, fr, lo2, [], st, _, M', rfl, rfl, Nat.le_of_ble_eq_true hw, hL, Nat.le_of_ble_eq_true h1, Nat.le_of_ble_eq_true h2, hM, k⟩)
theorem r_csL0 (R : pf_RU G cc own FR LO ret r0 M0 K) (pc' : Nat) {idx nL fr lo2 : Nat} {y : MethodName} {c2 : ByteArray} {rt : Option FieldType} {M' : pf_M} {x : Int64} (d : decode cc pc = .ok (.invokestatic idx, 3)) (hp : pc + 3 = pc') (hL : pf_LkS own idx y c2 nL rt 0) (hM : pf_Met G y c2 nL rt fr lo2 [] M (some (pf_L x)) M') (hw : Nat.ble (pf_wd st) 8 = true) (h1 : Nat.ble (fr + 1) FR = true) (h2 : Nat.ble (8 + (nL + 11) + lo2) LO = true) (k : K pc' lo (pf_L x :: st) M') : K pc lo (st) M := by
  subst hp
  exact R.1 _ _ _ d _ _ _ (Or.inl ⟨y, c2, nL, rt, fr, lo2, [], st, _, M', rfl, rfl, Nat.le_of_ble_eq_true hw, hL, Nat.le_of_ble_eq_true h1, Nat.le_of_ble_eq_true h2, hM, k⟩)
theorem r_csQ0 (R : pf_RU G cc own FR LO ret r0 M0 K) (pc' : Nat) {idx nL fr lo2 : Nat} {y : MethodName} {c2 : ByteArray} {rt : Option FieldType} {M' : pf_M} {x : Option (Nat × Nat)} (d : decode cc pc = .ok (.invokestatic idx, 3)) (hp : pc + 3 = pc') (hL : pf_LkS own idx y c2 nL rt 0) (hM : pf_Met G y c2 nL rt fr lo2 [] M (some (.inr (.inr (.inl x)))) M') (hw : Nat.ble (pf_wd st) 8 = true) (h1 : Nat.ble (fr + 1) FR = true) (h2 : Nat.ble (8 + (nL + 11) + lo2) LO = true) (k : K pc' lo (.inr (.inr (.inl x)) :: st) M') : K pc lo (st) M := by
  subst hp
  exact R.1 _ _ _ d _ _ _ (Or.inl ⟨y, c2, nL, rt, fr, lo2, [], st, _, M', rfl, rfl, Nat.le_of_ble_eq_true hw, hL, Nat.le_of_ble_eq_true h1, Nat.le_of_ble_eq_true h2, hM, k⟩)
theorem r_csV0 (R : pf_RU G cc own FR LO ret r0 M0 K) (pc' : Nat) {idx nL fr lo2 : Nat} {y : MethodName} {c2 : ByteArray} {rt : Option FieldType} {M' : pf_M} (d : decode cc pc = .ok (.invokestatic idx, 3)) (hp : pc + 3 = pc') (hL : pf_LkS own idx y c2 nL rt 0) (hM : pf_Met G y c2 nL rt fr lo2 [] M (none) M') (hw : Nat.ble (pf_wd st) 8 = true) (h1 : Nat.ble (fr + 1) FR = true) (h2 : Nat.ble (8 + (nL + 11) + lo2) LO = true) (k : K pc' lo (st) M') : K pc lo (st) M := by
  subst hp
  exact R.1 _ _ _ d _ _ _ (Or.inl ⟨y, c2, nL, rt, fr, lo2, [], st, _, M', rfl, rfl, Nat.le_of_ble_eq_true hw, hL, Nat.le_of_ble_eq_true h1, Nat.le_of_ble_eq_true h2, hM, k⟩)
theorem r_csI1 (R : pf_RU G cc own FR LO ret r0 M0 K) (pc' : Nat) {idx nL fr lo2 : Nat} {y : MethodName} {c2 : ByteArray} {rt : Option FieldType} {M' : pf_M} {a0 : pf_V} {x : Int32} (d : decode cc pc = .ok (.invokestatic idx, 3)) (hp : pc + 3 = pc') (hL : pf_LkS own idx y c2 nL rt 1) (hM : pf_Met G y c2 nL rt fr lo2 [a0] M (some (pf_I x)) M') (hw : Nat.ble (pf_wd st) 8 = true) (h1 : Nat.ble (fr + 1) FR = true) (h2 : Nat.ble (8 + (nL + 11) + lo2) LO = true) (k : K pc' lo (pf_I x :: st) M') : K pc lo (a0 :: st) M := by
  subst hp
  exact R.1 _ _ _ d _ _ _ (Or.inl ⟨y, c2, nL, rt, fr, lo2, [a0], st, _, M', rfl, rfl, Nat.le_of_ble_eq_true hw, hL, Nat.le_of_ble_eq_true h1, Nat.le_of_ble_eq_true h2, hM, k⟩)
theorem r_csL1 (R : pf_RU G cc own FR LO ret r0 M0 K) (pc' : Nat) {idx nL fr lo2 : Nat} {y : MethodName} {c2 : ByteArray} {rt : Option FieldType} {M' : pf_M} {a0 : pf_V} {x : Int64} (d : decode cc pc = .ok (.invokestatic idx, 3)) (hp : pc + 3 = pc') (hL : pf_LkS own idx y c2 nL rt 1) (hM : pf_Met G y c2 nL rt fr lo2 [a0] M (some (pf_L x)) M') (hw : Nat.ble (pf_wd st) 8 = true) (h1 : Nat.ble (fr + 1) FR = true) (h2 : Nat.ble (8 + (nL + 11) + lo2) LO = true) (k : K pc' lo (pf_L x :: st) M') : K pc lo (a0 :: st) M := by
  subst hp
  exact R.1 _ _ _ d _ _ _ (Or.inl ⟨y, c2, nL, rt, fr, lo2, [a0], st, _, M', rfl, rfl, Nat.le_of_ble_eq_true hw, hL, Nat.le_of_ble_eq_true h1, Nat.le_of_ble_eq_true h2, hM, k⟩)
theorem r_csQ1 (R : pf_RU G cc own FR LO ret r0 M0 K) (pc' : Nat) {idx nL fr lo2 : Nat} {y : MethodName} {c2 : ByteArray} {rt : Option FieldType} {M' : pf_M} {a0 : pf_V} {x : Option (Nat × Nat)} (d : decode cc pc = .ok (.invokestatic idx, 3)) (hp : pc + 3 = pc') (hL : pf_LkS own idx y c2 nL rt 1) (hM : pf_Met G y c2 nL rt fr lo2 [a0] M (some (.inr (.inr (.inl x)))) M') (hw : Nat.ble (pf_wd st) 8 = true) (h1 : Nat.ble (fr + 1) FR = true) (h2 : Nat.ble (8 + (nL + 11) + lo2) LO = true) (k : K pc' lo (.inr (.inr (.inl x)) :: st) M') : K pc lo (a0 :: st) M := by
  subst hp
  exact R.1 _ _ _ d _ _ _ (Or.inl ⟨y, c2, nL, rt, fr, lo2, [a0], st, _, M', rfl, rfl, Nat.le_of_ble_eq_true hw, hL, Nat.le_of_ble_eq_true h1, Nat.le_of_ble_eq_true h2, hM, k⟩)
theorem r_csV1 (R : pf_RU G cc own FR LO ret r0 M0 K) (pc' : Nat) {idx nL fr lo2 : Nat} {y : MethodName} {c2 : ByteArray} {rt : Option FieldType} {M' : pf_M} {a0 : pf_V} (d : decode cc pc = .ok (.invokestatic idx, 3)) (hp : pc + 3 = pc') (hL : pf_LkS own idx y c2 nL rt 1) (hM : pf_Met G y c2 nL rt fr lo2 [a0] M (none) M') (hw : Nat.ble (pf_wd st) 8 = true) (h1 : Nat.ble (fr + 1) FR = true) (h2 : Nat.ble (8 + (nL + 11) + lo2) LO = true) (k : K pc' lo (st) M') : K pc lo (a0 :: st) M := by
  subst hp
  exact R.1 _ _ _ d _ _ _ (Or.inl ⟨y, c2, nL, rt, fr, lo2, [a0], st, _, M', rfl, rfl, Nat.le_of_ble_eq_true hw, hL, Nat.le_of_ble_eq_true h1, Nat.le_of_ble_eq_true h2, hM, k⟩)
theorem r_csI2 (R : pf_RU G cc own FR LO ret r0 M0 K) (pc' : Nat) {idx nL fr lo2 : Nat} {y : MethodName} {c2 : ByteArray} {rt : Option FieldType} {M' : pf_M} {a0 a1 : pf_V} {x : Int32} (d : decode cc pc = .ok (.invokestatic idx, 3)) (hp : pc + 3 = pc') (hL : pf_LkS own idx y c2 nL rt 2) (hM : pf_Met G y c2 nL rt fr lo2 [a0, a1] M (some (pf_I x)) M') (hw : Nat.ble (pf_wd st) 8 = true) (h1 : Nat.ble (fr + 1) FR = true) (h2 : Nat.ble (8 + (nL + 11) + lo2) LO = true) (k : K pc' lo (pf_I x :: st) M') : K pc lo (a1 :: a0 :: st) M := by
  subst hp
  exact R.1 _ _ _ d _ _ _ (Or.inl ⟨y, c2, nL, rt, fr, lo2, [a0, a1], st, _, M', rfl, rfl, Nat.le_of_ble_eq_true hw, hL, Nat.le_of_ble_eq_true h1, Nat.le_of_ble_eq_true h2, hM, k⟩)
theorem r_csL2 (R : pf_RU G cc own FR LO ret r0 M0 K) (pc' : Nat) {idx nL fr lo2 : Nat} {y : MethodName} {c2 : ByteArray} {rt : Option FieldType} {M' : pf_M} {a0 a1 : pf_V} {x : Int64} (d : decode cc pc = .ok (.invokestatic idx, 3)) (hp : pc + 3 = pc') (hL : pf_LkS own idx y c2 nL rt 2) (hM : pf_Met G y c2 nL rt fr lo2 [a0, a1] M (some (pf_L x)) M') (hw : Nat.ble (pf_wd st) 8 = true) (h1 : Nat.ble (fr + 1) FR = true) (h2 : Nat.ble (8 + (nL + 11) + lo2) LO = true) (k : K pc' lo (pf_L x :: st) M') : K pc lo (a1 :: a0 :: st) M := by
  subst hp
  exact R.1 _ _ _ d _ _ _ (Or.inl ⟨y, c2, nL, rt, fr, lo2, [a0, a1], st, _, M', rfl, rfl, Nat.le_of_ble_eq_true hw, hL, Nat.le_of_ble_eq_true h1, Nat.le_of_ble_eq_true h2, hM, k⟩)
theorem r_csQ2 (R : pf_RU G cc own FR LO ret r0 M0 K) (pc' : Nat) {idx nL fr lo2 : Nat} {y : MethodName} {c2 : ByteArray} {rt : Option FieldType} {M' : pf_M} {a0 a1 : pf_V} {x : Option (Nat × Nat)} (d : decode cc pc = .ok (.invokestatic idx, 3)) (hp : pc + 3 = pc') (hL : pf_LkS own idx y c2 nL rt 2) (hM : pf_Met G y c2 nL rt fr lo2 [a0, a1] M (some (.inr (.inr (.inl x)))) M') (hw : Nat.ble (pf_wd st) 8 = true) (h1 : Nat.ble (fr + 1) FR = true) (h2 : Nat.ble (8 + (nL + 11) + lo2) LO = true) (k : K pc' lo (.inr (.inr (.inl x)) :: st) M') : K pc lo (a1 :: a0 :: st) M := by
  subst hp
  exact R.1 _ _ _ d _ _ _ (Or.inl ⟨y, c2, nL, rt, fr, lo2, [a0, a1], st, _, M', rfl, rfl, Nat.le_of_ble_eq_true hw, hL, Nat.le_of_ble_eq_true h1, Nat.le_of_ble_eq_true h2, hM, k⟩)
theorem r_csV2 (R : pf_RU G cc own FR LO ret r0 M0 K) (pc' : Nat) {idx nL fr lo2 : Nat} {y : MethodName} {c2 : ByteArray} {rt : Option FieldType} {M' : pf_M} {a0 a1 : pf_V} (d : decode cc pc = .ok (.invokestatic idx, 3)) (hp : pc + 3 = pc') (hL : pf_LkS own idx y c2 nL rt 2) (hM : pf_Met G y c2 nL rt fr lo2 [a0, a1] M (none) M') (hw : Nat.ble (pf_wd st) 8 = true) (h1 : Nat.ble (fr + 1) FR = true) (h2 : Nat.ble (8 + (nL + 11) + lo2) LO = true) (k : K pc' lo (st) M') : K pc lo (a1 :: a0 :: st) M := by
  subst hp
  exact R.1 _ _ _ d _ _ _ (Or.inl ⟨y, c2, nL, rt, fr, lo2, [a0, a1], st, _, M', rfl, rfl, Nat.le_of_ble_eq_true hw, hL, Nat.le_of_ble_eq_true h1, Nat.le_of_ble_eq_true h2, hM, k⟩)
theorem r_csI3 (R : pf_RU G cc own FR LO ret r0 M0 K) (pc' : Nat) {idx nL fr lo2 : Nat} {y : MethodName} {c2 : ByteArray} {rt : Option FieldType} {M' : pf_M} {a0 a1 a2 : pf_V} {x : Int32} (d : decode cc pc = .ok (.invokestatic idx, 3)) (hp : pc + 3 = pc') (hL : pf_LkS own idx y c2 nL rt 3) (hM : pf_Met G y c2 nL rt fr lo2 [a0, a1, a2] M (some (pf_I x)) M') (hw : Nat.ble (pf_wd st) 8 = true) (h1 : Nat.ble (fr + 1) FR = true) (h2 : Nat.ble (8 + (nL + 11) + lo2) LO = true) (k : K pc' lo (pf_I x :: st) M') : K pc lo (a2 :: a1 :: a0 :: st) M := by
  subst hp
  exact R.1 _ _ _ d _ _ _ (Or.inl ⟨y, c2, nL, rt, fr, lo2, [a0, a1, a2], st, _, M', rfl, rfl, Nat.le_of_ble_eq_true hw, hL, Nat.le_of_ble_eq_true h1, Nat.le_of_ble_eq_true h2, hM, k⟩)
theorem r_csL3 (R : pf_RU G cc own FR LO ret r0 M0 K) (pc' : Nat) {idx nL fr lo2 : Nat} {y : MethodName} {c2 : ByteArray} {rt : Option FieldType} {M' : pf_M} {a0 a1 a2 : pf_V} {x : Int64} (d : decode cc pc = .ok (.invokestatic idx, 3)) (hp : pc + 3 = pc') (hL : pf_LkS own idx y c2 nL rt 3) (hM : pf_Met G y c2 nL rt fr lo2 [a0, a1, a2] M (some (pf_L x)) M') (hw : Nat.ble (pf_wd st) 8 = true) (h1 : Nat.ble (fr + 1) FR = true) (h2 : Nat.ble (8 + (nL + 11) + lo2) LO = true) (k : K pc' lo (pf_L x :: st) M') : K pc lo (a2 :: a1 :: a0 :: st) M := by
  subst hp
  exact R.1 _ _ _ d _ _ _ (Or.inl ⟨y, c2, nL, rt, fr, lo2, [a0, a1, a2], st, _, M', rfl, rfl, Nat.le_of_ble_eq_true hw, hL, Nat.le_of_ble_eq_true h1, Nat.le_of_ble_eq_true h2, hM, k⟩)
theorem r_csQ3 (R : pf_RU G cc own FR LO ret r0 M0 K) (pc' : Nat) {idx nL fr lo2 : Nat} {y : MethodName} {c2 : ByteArray} {rt : Option FieldType} {M' : pf_M} {a0 a1 a2 : pf_V} {x : Option (Nat × Nat)} (d : decode cc pc = .ok (.invokestatic idx, 3)) (hp : pc + 3 = pc') (hL : pf_LkS own idx y c2 nL rt 3) (hM : pf_Met G y c2 nL rt fr lo2 [a0, a1, a2] M (some (.inr (.inr (.inl x)))) M') (hw : Nat.ble (pf_wd st) 8 = true) (h1 : Nat.ble (fr + 1) FR = true) (h2 : Nat.ble (8 + (nL + 11) + lo2) LO = true) (k : K pc' lo (.inr (.inr (.inl x)) :: st) M') : K pc lo (a2 :: a1 :: a0 :: st) M := by
  subst hp
  exact R.1 _ _ _ d _ _ _ (Or.inl ⟨y, c2, nL, rt, fr, lo2, [a0, a1, a2], st, _, M', rfl, rfl, Nat.le_of_ble_eq_true hw, hL, Nat.le_of_ble_eq_true h1, Nat.le_of_ble_eq_true h2, hM, k⟩)
theorem r_csV3 (R : pf_RU G cc own FR LO ret r0 M0 K) (pc' : Nat) {idx nL fr lo2 : Nat} {y : MethodName} {c2 : ByteArray} {rt : Option FieldType} {M' : pf_M} {a0 a1 a2 : pf_V} (d : decode cc pc = .ok (.invokestatic idx, 3)) (hp : pc + 3 = pc') (hL : pf_LkS own idx y c2 nL rt 3) (hM : pf_Met G y c2 nL rt fr lo2 [a0, a1, a2] M (none) M') (hw : Nat.ble (pf_wd st) 8 = true) (h1 : Nat.ble (fr + 1) FR = true) (h2 : Nat.ble (8 + (nL + 11) + lo2) LO = true) (k : K pc' lo (st) M') : K pc lo (a2 :: a1 :: a0 :: st) M := by
  subst hp
  exact R.1 _ _ _ d _ _ _ (Or.inl ⟨y, c2, nL, rt, fr, lo2, [a0, a1, a2], st, _, M', rfl, rfl, Nat.le_of_ble_eq_true hw, hL, Nat.le_of_ble_eq_true h1, Nat.le_of_ble_eq_true h2, hM, k⟩)
theorem r_csI4 (R : pf_RU G cc own FR LO ret r0 M0 K) (pc' : Nat) {idx nL fr lo2 : Nat} {y : MethodName} {c2 : ByteArray} {rt : Option FieldType} {M' : pf_M} {a0 a1 a2 a3 : pf_V} {x : Int32} (d : decode cc pc = .ok (.invokestatic idx, 3)) (hp : pc + 3 = pc') (hL : pf_LkS own idx y c2 nL rt 4) (hM : pf_Met G y c2 nL rt fr lo2 [a0, a1, a2, a3] M (some (pf_I x)) M') (hw : Nat.ble (pf_wd st) 8 = true) (h1 : Nat.ble (fr + 1) FR = true) (h2 : Nat.ble (8 + (nL + 11) + lo2) LO = true) (k : K pc' lo (pf_I x :: st) M') : K pc lo (a3 :: a2 :: a1 :: a0 :: st) M := by
  subst hp
  exact R.1 _ _ _ d _ _ _ (Or.inl ⟨y, c2, nL, rt, fr, lo2, [a0, a1, a2, a3], st, _, M', rfl, rfl, Nat.le_of_ble_eq_true hw, hL, Nat.le_of_ble_eq_true h1, Nat.le_of_ble_eq_true h2, hM, k⟩)
theorem r_csL4 (R : pf_RU G cc own FR LO ret r0 M0 K) (pc' : Nat) {idx nL fr lo2 : Nat} {y : MethodName} {c2 : ByteArray} {rt : Option FieldType} {M' : pf_M} {a0 a1 a2 a3 : pf_V} {x : Int64} (d : decode cc pc = .ok (.invokestatic idx, 3)) (hp : pc + 3 = pc') (hL : pf_LkS own idx y c2 nL rt 4) (hM : pf_Met G y c2 nL rt fr lo2 [a0, a1, a2, a3] M (some (pf_L x)) M') (hw : Nat.ble (pf_wd st) 8 = true) (h1 : Nat.ble (fr + 1) FR = true) (h2 : Nat.ble (8 + (nL + 11) + lo2) LO = true) (k : K pc' lo (pf_L x :: st) M') : K pc lo (a3 :: a2 :: a1 :: a0 :: st) M := by
  subst hp
  exact R.1 _ _ _ d _ _ _ (Or.inl ⟨y, c2, nL, rt, fr, lo2, [a0, a1, a2, a3], st, _, M', rfl, rfl, Nat.le_of_ble_eq_true hw, hL, Nat.le_of_ble_eq_true h1, Nat.le_of_ble_eq_true h2, hM, k⟩)
theorem r_csQ4 (R : pf_RU G cc own FR LO ret r0 M0 K) (pc' : Nat) {idx nL fr lo2 : Nat} {y : MethodName} {c2 : ByteArray} {rt : Option FieldType} {M' : pf_M} {a0 a1 a2 a3 : pf_V} {x : Option (Nat × Nat)} (d : decode cc pc = .ok (.invokestatic idx, 3)) (hp : pc + 3 = pc') (hL : pf_LkS own idx y c2 nL rt 4) (hM : pf_Met G y c2 nL rt fr lo2 [a0, a1, a2, a3] M (some (.inr (.inr (.inl x)))) M') (hw : Nat.ble (pf_wd st) 8 = true) (h1 : Nat.ble (fr + 1) FR = true) (h2 : Nat.ble (8 + (nL + 11) + lo2) LO = true) (k : K pc' lo (.inr (.inr (.inl x)) :: st) M') : K pc lo (a3 :: a2 :: a1 :: a0 :: st) M := by
  subst hp
  exact R.1 _ _ _ d _ _ _ (Or.inl ⟨y, c2, nL, rt, fr, lo2, [a0, a1, a2, a3], st, _, M', rfl, rfl, Nat.le_of_ble_eq_true hw, hL, Nat.le_of_ble_eq_true h1, Nat.le_of_ble_eq_true h2, hM, k⟩)
theorem r_csV4 (R : pf_RU G cc own FR LO ret r0 M0 K) (pc' : Nat) {idx nL fr lo2 : Nat} {y : MethodName} {c2 : ByteArray} {rt : Option FieldType} {M' : pf_M} {a0 a1 a2 a3 : pf_V} (d : decode cc pc = .ok (.invokestatic idx, 3)) (hp : pc + 3 = pc') (hL : pf_LkS own idx y c2 nL rt 4) (hM : pf_Met G y c2 nL rt fr lo2 [a0, a1, a2, a3] M (none) M') (hw : Nat.ble (pf_wd st) 8 = true) (h1 : Nat.ble (fr + 1) FR = true) (h2 : Nat.ble (8 + (nL + 11) + lo2) LO = true) (k : K pc' lo (st) M') : K pc lo (a3 :: a2 :: a1 :: a0 :: st) M := by
  subst hp
  exact R.1 _ _ _ d _ _ _ (Or.inl ⟨y, c2, nL, rt, fr, lo2, [a0, a1, a2, a3], st, _, M', rfl, rfl, Nat.le_of_ble_eq_true hw, hL, Nat.le_of_ble_eq_true h1, Nat.le_of_ble_eq_true h2, hM, k⟩)
theorem r_csI5 (R : pf_RU G cc own FR LO ret r0 M0 K) (pc' : Nat) {idx nL fr lo2 : Nat} {y : MethodName} {c2 : ByteArray} {rt : Option FieldType} {M' : pf_M} {a0 a1 a2 a3 a4 : pf_V} {x : Int32} (d : decode cc pc = .ok (.invokestatic idx, 3)) (hp : pc + 3 = pc') (hL : pf_LkS own idx y c2 nL rt 5) (hM : pf_Met G y c2 nL rt fr lo2 [a0, a1, a2, a3, a4] M (some (pf_I x)) M') (hw : Nat.ble (pf_wd st) 8 = true) (h1 : Nat.ble (fr + 1) FR = true) (h2 : Nat.ble (8 + (nL + 11) + lo2) LO = true) (k : K pc' lo (pf_I x :: st) M') : K pc lo (a4 :: a3 :: a2 :: a1 :: a0 :: st) M := by
  subst hp
  exact R.1 _ _ _ d _ _ _ (Or.inl ⟨y, c2, nL, rt, fr, lo2, [a0, a1, a2, a3, a4], st, _, M', rfl, rfl, Nat.le_of_ble_eq_true hw, hL, Nat.le_of_ble_eq_true h1, Nat.le_of_ble_eq_true h2, hM, k⟩)
theorem r_csL5 (R : pf_RU G cc own FR LO ret r0 M0 K) (pc' : Nat) {idx nL fr lo2 : Nat} {y : MethodName} {c2 : ByteArray} {rt : Option FieldType} {M' : pf_M} {a0 a1 a2 a3 a4 : pf_V} {x : Int64} (d : decode cc pc = .ok (.invokestatic idx, 3)) (hp : pc + 3 = pc') (hL : pf_LkS own idx y c2 nL rt 5) (hM : pf_Met G y c2 nL rt fr lo2 [a0, a1, a2, a3, a4] M (some (pf_L x)) M') (hw : Nat.ble (pf_wd st) 8 = true) (h1 : Nat.ble (fr + 1) FR = true) (h2 : Nat.ble (8 + (nL + 11) + lo2) LO = true) (k : K pc' lo (pf_L x :: st) M') : K pc lo (a4 :: a3 :: a2 :: a1 :: a0 :: st) M := by
  subst hp
  exact R.1 _ _ _ d _ _ _ (Or.inl ⟨y, c2, nL, rt, fr, lo2, [a0, a1, a2, a3, a4], st, _, M', rfl, rfl, Nat.le_of_ble_eq_true hw, hL, Nat.le_of_ble_eq_true h1, Nat.le_of_ble_eq_true h2, hM, k⟩)
theorem r_csQ5 (R : pf_RU G cc own FR LO ret r0 M0 K) (pc' : Nat) {idx nL fr lo2 : Nat} {y : MethodName} {c2 : ByteArray} {rt : Option FieldType} {M' : pf_M} {a0 a1 a2 a3 a4 : pf_V} {x : Option (Nat × Nat)} (d : decode cc pc = .ok (.invokestatic idx, 3)) (hp : pc + 3 = pc') (hL : pf_LkS own idx y c2 nL rt 5) (hM : pf_Met G y c2 nL rt fr lo2 [a0, a1, a2, a3, a4] M (some (.inr (.inr (.inl x)))) M') (hw : Nat.ble (pf_wd st) 8 = true) (h1 : Nat.ble (fr + 1) FR = true) (h2 : Nat.ble (8 + (nL + 11) + lo2) LO = true) (k : K pc' lo (.inr (.inr (.inl x)) :: st) M') : K pc lo (a4 :: a3 :: a2 :: a1 :: a0 :: st) M := by
  subst hp
  exact R.1 _ _ _ d _ _ _ (Or.inl ⟨y, c2, nL, rt, fr, lo2, [a0, a1, a2, a3, a4], st, _, M', rfl, rfl, Nat.le_of_ble_eq_true hw, hL, Nat.le_of_ble_eq_true h1, Nat.le_of_ble_eq_true h2, hM, k⟩)
theorem r_csV5 (R : pf_RU G cc own FR LO ret r0 M0 K) (pc' : Nat) {idx nL fr lo2 : Nat} {y : MethodName} {c2 : ByteArray} {rt : Option FieldType} {M' : pf_M} {a0 a1 a2 a3 a4 : pf_V} (d : decode cc pc = .ok (.invokestatic idx, 3)) (hp : pc + 3 = pc') (hL : pf_LkS own idx y c2 nL rt 5) (hM : pf_Met G y c2 nL rt fr lo2 [a0, a1, a2, a3, a4] M (none) M') (hw : Nat.ble (pf_wd st) 8 = true) (h1 : Nat.ble (fr + 1) FR = true) (h2 : Nat.ble (8 + (nL + 11) + lo2) LO = true) (k : K pc' lo (st) M') : K pc lo (a4 :: a3 :: a2 :: a1 :: a0 :: st) M := by
  subst hp
  exact R.1 _ _ _ d _ _ _ (Or.inl ⟨y, c2, nL, rt, fr, lo2, [a0, a1, a2, a3, a4], st, _, M', rfl, rfl, Nat.le_of_ble_eq_true hw, hL, Nat.le_of_ble_eq_true h1, Nat.le_of_ble_eq_true h2, hM, k⟩)
theorem r_copy (R : pf_RU G cc own FR LO ret r0 M0 K) (pc' : Nat) {idx k1 i1 k0 i0 n0 n1 : Nat} {n dp sp : Int32} (d : decode cc pc = .ok (.invokestatic idx, 3)) (hp : pc + 3 = pc') (hA : pf_LkA own idx) (h0 : pf_intK k0 n0) (h1 : pf_intK k1 n1) (hc : (¬ sp < 0 ∧ ¬ dp < 0 ∧ ¬ n < 0) ∧ sp.toNatClampNeg + n.toNatClampNeg ≤ n0 ∧ dp.toNatClampNeg + n.toNatClampNeg ≤ n1) (hf : Nat.ble 1 FR = true) (hl : Nat.ble (pf_wd st + (nativeFrameWords "java/lang/System" "arraycopy" 5 + 11)) LO = true) (k : K pc' lo st (pf_upf M k1 i1 (va_cpy (M k0 i0) (M k1 i1) sp.toNatClampNeg dp.toNatClampNeg n.toNatClampNeg))) : K pc lo (pf_I n :: pf_I dp :: pf_R k1 i1 :: pf_I sp :: pf_R k0 i0 :: st) M := by
  subst hp
  exact R.1 _ _ _ d _ _ _ (Or.inr ⟨n, dp, sp, k1, i1, k0, i0, n0, n1, st, rfl, rfl, hA, h0, h1, hc.1.1, hc.1.2.1, hc.1.2.2, hc.2.1, hc.2.2, Nat.le_of_ble_eq_true hf, Nat.le_of_ble_eq_true hl, k⟩)
end
theorem pf_ifp {α : Type} {c : Prop} {d : Decidable c} {a b r : α} (hc : c) (h : @ite α c d a b = r) : a = r := (if_pos hc).symm.trans h
theorem pf_ifn {α : Type} {c : Prop} {d : Decidable c} {a b r : α} (hc : ¬ c) (h : @ite α c d a b = r) : b = r := (if_neg hc).symm.trans h
def pf_in (j : Int32) (n : Nat) : Bool := decide (¬ (j < 0 ∨ n ≤ j.toNatClampNeg))
theorem pf_in_iff {j : Int32} {n : Nat} : pf_in j n = true ↔ vp_in j n := by
  unfold pf_in vp_in
  exact decide_eq_true_iff
theorem pf_gd {α : Type} {c : Bool} {a : Option α} {q : α} (h : (if c = true then a else none) = some q) : c = true ∧ a = some q := by
  by_cases hc : c = true
  · exact ⟨hc, (if_pos hc).symm.trans h⟩
  · rw [if_neg hc] at h; cases h
theorem pf_bd {α β : Type} {o : Option α} {f : α → Option β} {q : β} (h : o.bind f = some q) : ∃ a, o = some a ∧ f a = some q := by
  cases o with
  | none => cases h
  | some a => exact ⟨a, rfl, h⟩
theorem pf_bool {x : Int32} (h : x = 0 ∨ x = 1) : narrow .boolean (.int x) = .int x := by
  rcases h with rfl | rfl <;> rfl
