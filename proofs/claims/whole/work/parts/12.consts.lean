theorem ic_bipush_m5 : (Int8.ofInt (-5)).toInt32 = (-5 : Int32) := by decide +kernel
theorem ic_bipush_m4 : (Int8.ofInt (-4)).toInt32 = (-4 : Int32) := by decide +kernel
theorem ic_bipush_m3 : (Int8.ofInt (-3)).toInt32 = (-3 : Int32) := by decide +kernel
theorem ic_bipush_m2 : (Int8.ofInt (-2)).toInt32 = (-2 : Int32) := by decide +kernel
theorem ic_bipush_6 : (Int8.ofInt (6)).toInt32 = (6 : Int32) := by decide +kernel
theorem ic_bipush_7 : (Int8.ofInt (7)).toInt32 = (7 : Int32) := by decide +kernel
theorem ic_bipush_8 : (Int8.ofInt (8)).toInt32 = (8 : Int32) := by decide +kernel
theorem ic_bipush_9 : (Int8.ofInt (9)).toInt32 = (9 : Int32) := by decide +kernel
theorem ic_bipush_10 : (Int8.ofInt (10)).toInt32 = (10 : Int32) := by decide +kernel
theorem ic_bipush_12 : (Int8.ofInt (12)).toInt32 = (12 : Int32) := by decide +kernel
theorem ic_bipush_15 : (Int8.ofInt (15)).toInt32 = (15 : Int32) := by decide +kernel
theorem ic_bipush_16 : (Int8.ofInt (16)).toInt32 = (16 : Int32) := by decide +kernel
theorem ic_bipush_25 : (Int8.ofInt (25)).toInt32 = (25 : Int32) := by decide +kernel
theorem ic_bipush_32 : (Int8.ofInt (32)).toInt32 = (32 : Int32) := by decide +kernel
theorem ic_bipush_48 : (Int8.ofInt (48)).toInt32 = (48 : Int32) := by decide +kernel
theorem ic_bipush_57 : (Int8.ofInt (57)).toInt32 = (57 : Int32) := by decide +kernel
theorem ic_bipush_59 : (Int8.ofInt (59)).toInt32 = (59 : Int32) := by decide +kernel
theorem ic_bipush_99 : (Int8.ofInt (99)).toInt32 = (99 : Int32) := by decide +kernel
theorem ic_bipush_100 : (Int8.ofInt (100)).toInt32 = (100 : Int32) := by decide +kernel
theorem ic_bipush_101 : (Int8.ofInt (101)).toInt32 = (101 : Int32) := by decide +kernel
theorem ic_bipush_126 : (Int8.ofInt (126)).toInt32 = (126 : Int32) := by decide +kernel
theorem ic_iconst_m1 : Int32.ofInt (-1) = (-1 : Int32) := by decide +kernel
theorem ic_iconst_0 : Int32.ofInt (0) = (0 : Int32) := by decide +kernel
theorem ic_iconst_1 : Int32.ofInt (1) = (1 : Int32) := by decide +kernel
theorem ic_iconst_2 : Int32.ofInt (2) = (2 : Int32) := by decide +kernel
theorem ic_iconst_3 : Int32.ofInt (3) = (3 : Int32) := by decide +kernel
theorem ic_iconst_4 : Int32.ofInt (4) = (4 : Int32) := by decide +kernel
theorem ic_iconst_5 : Int32.ofInt (5) = (5 : Int32) := by decide +kernel
theorem ic_iconst_9 : Int32.ofInt (9) = (9 : Int32) := by decide +kernel
theorem ic_sipush_128 : (Int16.ofInt (128)).toInt32 = (128 : Int32) := by decide +kernel
theorem ic_sipush_200 : (Int16.ofInt (200)).toInt32 = (200 : Int32) := by decide +kernel
theorem ic_sipush_255 : (Int16.ofInt (255)).toInt32 = (255 : Int32) := by decide +kernel
theorem ic_sipush_256 : (Int16.ofInt (256)).toInt32 = (256 : Int32) := by decide +kernel
theorem ic_sipush_9999 : (Int16.ofInt (9999)).toInt32 = (9999 : Int32) := by decide +kernel
theorem lc_0 : Int64.ofNat ((0 : Fin 2) : Nat) = (0 : Int64) := by decide +kernel
theorem lc_1 : Int64.ofNat ((1 : Fin 2) : Nat) = (1 : Int64) := by decide +kernel
def pf_fu : Nat := 1000
def pf_nz (y : Int32) : Bool := decide (¬ y = 0)
theorem pf_nz_iff {y : Int32} : pf_nz y = true ↔ ¬ y = 0 := by
  unfold pf_nz
  exact decide_eq_true_iff
def pf_b (x : Int32) : Bool := decide (x = 0 ∨ x = 1)
theorem pf_b_iff {x : Int32} : pf_b x = true ↔ (x = 0 ∨ x = 1) := by
  unfold pf_b
  exact decide_eq_true_iff
