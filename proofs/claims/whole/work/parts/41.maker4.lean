/-! ===== PairSorts.Maker: relation ===== -/
/-- how many of the lowest k digits to the base b are unlike -/
def dd (b : Nat) : Nat → Nat → Nat → Nat
  | 0, _, _ => 0
  | k + 1, x, y => (if x % b = y % b then 0 else 1) + dd b k (x / b) (y / b)
theorem dd_0 (b : Nat) : ∀ k, dd b k 0 0 = 0 := by
  intro k
  induction k with
  | zero => rfl
  | succ k ih => show (if 0 % b = 0 % b then 0 else 1) + dd b k (0 / b) (0 / b) = 0; rw [if_pos rfl, Nat.zero_div, ih]
theorem dd_more {b : Nat} (hb : 2 ≤ b) (k : Nat) : ∀ a x y, x < b ^ a → y < b ^ a → dd b (a + k) x y = dd b a x y := by
  intro a
  induction a with
  | zero =>
    intro x y hx hy
    rw [Nat.pow_zero] at hx hy
    rw [show x = 0 by omega, show y = 0 by omega, dd_0, dd_0]
  | succ a ih =>
    intro x y hx hy
    rw [show a + 1 + k = (a + k) + 1 by omega]
    show (if x % b = y % b then 0 else 1) + dd b (a + k) (x / b) (y / b) = (if x % b = y % b then 0 else 1) + dd b a (x / b) (y / b)
    rw [ih _ _ (Nat.div_lt_of_lt_mul (by rw [Nat.mul_comm]; exact hx)) (Nat.div_lt_of_lt_mul (by rw [Nat.mul_comm]; exact hy))]
theorem dd_le (b : Nat) : ∀ k x y, dd b k x y ≤ k := by
  intro k
  induction k with
  | zero => intro x y; exact Nat.le_refl _
  | succ k ih =>
    intro x y
    have := ih (x / b) (y / b)
    show (if x % b = y % b then 0 else 1) + dd b k (x / b) (y / b) ≤ k + 1
    split <;> omega
theorem dd_pos {b : Nat} (hb : 2 ≤ b) : ∀ a x y, x < b ^ a → y < b ^ a → x ≠ y → 1 ≤ dd b a x y := by
  intro a
  induction a with
  | zero => intro x y hx hy h; rw [Nat.pow_zero] at hx hy; omega
  | succ a ih =>
    intro x y hx hy h
    show 1 ≤ (if x % b = y % b then 0 else 1) + dd b a (x / b) (y / b)
    by_cases e : x % b = y % b
    · have hd : x / b ≠ y / b := fun q => h (by rw [← Nat.div_add_mod x b, ← Nat.div_add_mod y b, q, e])
      have := ih _ _ (Nat.div_lt_of_lt_mul (by rw [Nat.mul_comm]; exact hx)) (Nat.div_lt_of_lt_mul (by rw [Nat.mul_comm]; exact hy)) hd
      omega
    · rw [if_neg e]; omega
theorem dd_sy (b : Nat) : ∀ k x y, dd b k x y = dd b k y x := by
  intro k
  induction k with
  | zero => intro x y; rfl
  | succ k ih =>
    intro x y
    show (if x % b = y % b then 0 else 1) + dd b k (x / b) (y / b) = (if y % b = x % b then 0 else 1) + dd b k (y / b) (x / b)
    rw [ih (x / b)]
    by_cases e : x % b = y % b
    · rw [if_pos e, if_pos e.symm]
    · rw [if_neg e, if_neg (fun q => e q.symm)]
theorem c_differentDigits {w : aW} {x y b : Nat} (hx : x ≤ 13) (hy : y ≤ 13) (hb : 2 ≤ b) (hb2 : b ≤ 13) : Ct 1 30 [.int (Int32.ofInt x), .int (Int32.ofInt y), .int (Int32.ofInt b)] w (fun r w' => r = some (.int (Int32.ofInt ((dd b 3 x y : Nat) : Int))) ∧ w' = w) := by
  have hz : ¬ Int32.ofInt (b : Int) = 0 := by rw [ia_0, ia_eq ⟨by omega, by omega⟩ rg_0]; omega
  refine Ct.of (fun d hd Q hQ => cl_at (M := m_30) (L := [.int (Int32.ofInt x), .int (Int32.ofInt y), .int (Int32.ofInt b), .null, .null, .null, .null]) rfl (Nat.le_of_ble_eq_true rfl) rfl (fun E hE => ?_))
  refine ru_at (b := k_30_0) (cl_mono _ _ _ _) rfl ?_
  simp only [k_30_0, x_iload_0, x_iload_1, x_iload_2, x_iload_3, x_iload_4, x_iload_5, x_iload_6, x_iload_7, x_iload_8, x_iload_9, x_iload_10, x_iload_11, x_lload_0, x_lload_1, x_lload_2, x_lload_3, x_lload_4, x_lload_5, x_lload_6, x_lload_7, x_lload_8, x_lload_9, x_lload_10, x_lload_11, x_aload_0, x_aload_1, x_aload_2, x_aload_3, x_aload_4, x_aload_5, x_aload_6, x_aload_7, x_aload_8, x_aload_9, x_aload_10, x_aload_11, x_istore_0, x_istore_1, x_istore_2, x_istore_3, x_istore_4, x_istore_5, x_istore_6, x_istore_7, x_istore_8, x_istore_9, x_istore_10, x_istore_11, x_astore_0, x_astore_1, x_astore_2, x_astore_3, x_astore_4, x_astore_5, x_astore_6, x_astore_7, x_astore_8, x_astore_9, x_astore_10, x_astore_11, x_lstore_0, x_lstore_1, x_lstore_2, x_lstore_3, x_lstore_4, x_lstore_5, x_lstore_6, x_lstore_7, x_lstore_8, x_lstore_9, x_lstore_10, x_iinc_0, x_iinc_1, x_iinc_2, x_iinc_3, x_iinc_4, x_iinc_5, x_iinc_6, x_iinc_7, x_iinc_8, x_iinc_9, x_iinc_10, x_iinc_11, x_iconst, x_bipush, x_sipush, x_lconst, x_ldc_w, x_ldc2_w, x_iadd, x_isub, x_imul, x_iand, x_ior, x_ixor, x_ishl, x_ishr, x_iushr, x_ladd, x_lsub, x_lmul, x_ineg, x_lneg, x_lcmp, x_i2l, x_l2i, x_idiv, x_irem, x_ldiv, x_lrem, x_dup_int, x_pop_int, x_dup_ref, x_pop_ref, x_dup2, x_goto, x_nop, x_if_eq, x_if_ne, x_if_lt, x_if_ge, x_if_gt, x_if_le, x_icmp_eq, x_icmp_ne, x_icmp_lt, x_icmp_ge, x_icmp_gt, x_icmp_le, x_getfield, x_putfield, x_iaload, x_baload, x_laload, x_iastore, x_bastore, x_lastore, x_arraylength, x_virtual_0, x_virtual_1, x_virtual_2, x_virtual_3, x_virtual_4, x_virtual_5, x_static_0, x_static_1, x_static_2, x_static_3, x_static_4, x_static_5, x_static_6, x_min, x_max, x_abs, x_labs, x_tsw, oM_some, k_int, k_ref, k_long, k_null, vc_nil, vc_int, vc_ref, vc_long, tl_some, tl_none, x_ireturn (M := m_30) rfl]
  refine up_to (R := fun i => ∀ l r c : Nat, l ≤ 13 → r ≤ 13 → c ≤ i → c + dd b (3 - i) l r = dd b 3 x y → Ru pD pY E (cL d) m_30 Q 11 [.int (Int32.ofInt x), .int (Int32.ofInt y), .int (Int32.ofInt b), .int (Int32.ofInt (c : Int)), .int (Int32.ofInt (l : Int)), .int (Int32.ofInt (r : Int)), .int (Int32.ofInt (i : Int))] [] w) (lo := 0) (hi := 3) (Nat.zero_le _) (fun i _ hi ih => ?_) ?_ x y 0 hx hy (Nat.le_refl _) (Nat.zero_add _)
  · intro l r c hl hr hc hs
    have hlb : l / b ≤ 13 := Nat.le_trans (Nat.div_le_self _ _) hl
    have hrb : r / b ≤ 13 := Nat.le_trans (Nat.div_le_self _ _) hr
    have hlm : l % b < b := Nat.mod_lt _ (by omega)
    have hrm : r % b < b := Nat.mod_lt _ (by omega)
    have hdd : dd b (3 - i) l r = (if l % b = r % b then 0 else 1) + dd b (3 - (i + 1)) (l / b) (r / b) := by
      rw [show 3 - i = (3 - (i + 1)) + 1 by omega]
      rfl
    have r31 : ∀ c : Nat, c ≤ i + 1 → c + dd b (3 - (i + 1)) (l / b) (r / b) = dd b 3 x y → Ru pD pY E (cL d) m_30 Q 31 [.int (Int32.ofInt x), .int (Int32.ofInt y), .int (Int32.ofInt b), .int (Int32.ofInt (c : Int)), .int (Int32.ofInt (l : Int)), .int (Int32.ofInt (r : Int)), .int (Int32.ofInt (i : Int))] [] w := by
      intro c hc hs
      refine ru_at (b := k_30_31) (cl_mono _ _ _ _) rfl ?_
      simp only [k_30_31, x_iload_0, x_iload_1, x_iload_2, x_iload_3, x_iload_4, x_iload_5, x_iload_6, x_iload_7, x_iload_8, x_iload_9, x_iload_10, x_iload_11, x_lload_0, x_lload_1, x_lload_2, x_lload_3, x_lload_4, x_lload_5, x_lload_6, x_lload_7, x_lload_8, x_lload_9, x_lload_10, x_lload_11, x_aload_0, x_aload_1, x_aload_2, x_aload_3, x_aload_4, x_aload_5, x_aload_6, x_aload_7, x_aload_8, x_aload_9, x_aload_10, x_aload_11, x_istore_0, x_istore_1, x_istore_2, x_istore_3, x_istore_4, x_istore_5, x_istore_6, x_istore_7, x_istore_8, x_istore_9, x_istore_10, x_istore_11, x_astore_0, x_astore_1, x_astore_2, x_astore_3, x_astore_4, x_astore_5, x_astore_6, x_astore_7, x_astore_8, x_astore_9, x_astore_10, x_astore_11, x_lstore_0, x_lstore_1, x_lstore_2, x_lstore_3, x_lstore_4, x_lstore_5, x_lstore_6, x_lstore_7, x_lstore_8, x_lstore_9, x_lstore_10, x_iinc_0, x_iinc_1, x_iinc_2, x_iinc_3, x_iinc_4, x_iinc_5, x_iinc_6, x_iinc_7, x_iinc_8, x_iinc_9, x_iinc_10, x_iinc_11, x_iconst, x_bipush, x_sipush, x_lconst, x_ldc_w, x_ldc2_w, x_iadd, x_isub, x_imul, x_iand, x_ior, x_ixor, x_ishl, x_ishr, x_iushr, x_ladd, x_lsub, x_lmul, x_ineg, x_lneg, x_lcmp, x_i2l, x_l2i, x_idiv, x_irem, x_ldiv, x_lrem, x_dup_int, x_pop_int, x_dup_ref, x_pop_ref, x_dup2, x_goto, x_nop, x_if_eq, x_if_ne, x_if_lt, x_if_ge, x_if_gt, x_if_le, x_icmp_eq, x_icmp_ne, x_icmp_lt, x_icmp_ge, x_icmp_gt, x_icmp_le, x_getfield, x_putfield, x_iaload, x_baload, x_laload, x_iastore, x_bastore, x_lastore, x_arraylength, x_virtual_0, x_virtual_1, x_virtual_2, x_virtual_3, x_virtual_4, x_virtual_5, x_static_0, x_static_1, x_static_2, x_static_3, x_static_4, x_static_5, x_static_6, x_min, x_max, x_abs, x_labs, x_tsw, oM_some, k_int, k_ref, k_long, k_null, vc_nil, vc_int, vc_ref, vc_long, tl_some, tl_none, hz, ne_eq, not_false_iff, true_and, ia_add, ia_div (show l < 2147483648 by omega) (show b < 2147483648 by omega), ia_div (show r < 2147483648 by omega) (show b < 2147483648 by omega), x_ireturn (M := m_30) rfl]
      exact ih _ _ c hlb hrb hc hs
    refine ru_at (b := k_30_11) (cl_mono _ _ _ _) rfl ?_
    simp only [k_30_11, x_iload_0, x_iload_1, x_iload_2, x_iload_3, x_iload_4, x_iload_5, x_iload_6, x_iload_7, x_iload_8, x_iload_9, x_iload_10, x_iload_11, x_lload_0, x_lload_1, x_lload_2, x_lload_3, x_lload_4, x_lload_5, x_lload_6, x_lload_7, x_lload_8, x_lload_9, x_lload_10, x_lload_11, x_aload_0, x_aload_1, x_aload_2, x_aload_3, x_aload_4, x_aload_5, x_aload_6, x_aload_7, x_aload_8, x_aload_9, x_aload_10, x_aload_11, x_istore_0, x_istore_1, x_istore_2, x_istore_3, x_istore_4, x_istore_5, x_istore_6, x_istore_7, x_istore_8, x_istore_9, x_istore_10, x_istore_11, x_astore_0, x_astore_1, x_astore_2, x_astore_3, x_astore_4, x_astore_5, x_astore_6, x_astore_7, x_astore_8, x_astore_9, x_astore_10, x_astore_11, x_lstore_0, x_lstore_1, x_lstore_2, x_lstore_3, x_lstore_4, x_lstore_5, x_lstore_6, x_lstore_7, x_lstore_8, x_lstore_9, x_lstore_10, x_iinc_0, x_iinc_1, x_iinc_2, x_iinc_3, x_iinc_4, x_iinc_5, x_iinc_6, x_iinc_7, x_iinc_8, x_iinc_9, x_iinc_10, x_iinc_11, x_iconst, x_bipush, x_sipush, x_lconst, x_ldc_w, x_ldc2_w, x_iadd, x_isub, x_imul, x_iand, x_ior, x_ixor, x_ishl, x_ishr, x_iushr, x_ladd, x_lsub, x_lmul, x_ineg, x_lneg, x_lcmp, x_i2l, x_l2i, x_idiv, x_irem, x_ldiv, x_lrem, x_dup_int, x_pop_int, x_dup_ref, x_pop_ref, x_dup2, x_goto, x_nop, x_if_eq, x_if_ne, x_if_lt, x_if_ge, x_if_gt, x_if_le, x_icmp_eq, x_icmp_ne, x_icmp_lt, x_icmp_ge, x_icmp_gt, x_icmp_le, x_getfield, x_putfield, x_iaload, x_baload, x_laload, x_iastore, x_bastore, x_lastore, x_arraylength, x_virtual_0, x_virtual_1, x_virtual_2, x_virtual_3, x_virtual_4, x_virtual_5, x_static_0, x_static_1, x_static_2, x_static_3, x_static_4, x_static_5, x_static_6, x_min, x_max, x_abs, x_labs, x_tsw, oM_some, k_int, k_ref, k_long, k_null, vc_nil, vc_int, vc_ref, vc_long, tl_some, tl_none, hz, ne_eq, not_false_iff, true_and, ia_add, ia_mod (show l < 2147483648 by omega) (show b < 2147483648 by omega), ia_mod (show r < 2147483648 by omega) (show b < 2147483648 by omega), x_ireturn (M := m_30) rfl]
    refine if_le ⟨by omega, by omega⟩ ⟨by omega, by omega⟩ (fun hcc => absurd hcc (by omega)) (fun hcc => ?_)
    refine if_eq (ia_rgn _ (by omega)) (ia_rgn _ (by omega)) (fun q => ?_) (fun q => ?_)
    · rw [if_pos (by omega)] at hdd
      exact r31 c (by omega) (by omega)
    · rw [if_neg (by omega)] at hdd
      exact r31 (c + 1) (by omega) (by omega)
  · intro l r c hl hr hc hs
    refine ru_at (b := k_30_11) (cl_mono _ _ _ _) rfl ?_
    simp only [k_30_11, x_iload_0, x_iload_1, x_iload_2, x_iload_3, x_iload_4, x_iload_5, x_iload_6, x_iload_7, x_iload_8, x_iload_9, x_iload_10, x_iload_11, x_lload_0, x_lload_1, x_lload_2, x_lload_3, x_lload_4, x_lload_5, x_lload_6, x_lload_7, x_lload_8, x_lload_9, x_lload_10, x_lload_11, x_aload_0, x_aload_1, x_aload_2, x_aload_3, x_aload_4, x_aload_5, x_aload_6, x_aload_7, x_aload_8, x_aload_9, x_aload_10, x_aload_11, x_istore_0, x_istore_1, x_istore_2, x_istore_3, x_istore_4, x_istore_5, x_istore_6, x_istore_7, x_istore_8, x_istore_9, x_istore_10, x_istore_11, x_astore_0, x_astore_1, x_astore_2, x_astore_3, x_astore_4, x_astore_5, x_astore_6, x_astore_7, x_astore_8, x_astore_9, x_astore_10, x_astore_11, x_lstore_0, x_lstore_1, x_lstore_2, x_lstore_3, x_lstore_4, x_lstore_5, x_lstore_6, x_lstore_7, x_lstore_8, x_lstore_9, x_lstore_10, x_iinc_0, x_iinc_1, x_iinc_2, x_iinc_3, x_iinc_4, x_iinc_5, x_iinc_6, x_iinc_7, x_iinc_8, x_iinc_9, x_iinc_10, x_iinc_11, x_iconst, x_bipush, x_sipush, x_lconst, x_ldc_w, x_ldc2_w, x_iadd, x_isub, x_imul, x_iand, x_ior, x_ixor, x_ishl, x_ishr, x_iushr, x_ladd, x_lsub, x_lmul, x_ineg, x_lneg, x_lcmp, x_i2l, x_l2i, x_idiv, x_irem, x_ldiv, x_lrem, x_dup_int, x_pop_int, x_dup_ref, x_pop_ref, x_dup2, x_goto, x_nop, x_if_eq, x_if_ne, x_if_lt, x_if_ge, x_if_gt, x_if_le, x_icmp_eq, x_icmp_ne, x_icmp_lt, x_icmp_ge, x_icmp_gt, x_icmp_le, x_getfield, x_putfield, x_iaload, x_baload, x_laload, x_iastore, x_bastore, x_lastore, x_arraylength, x_virtual_0, x_virtual_1, x_virtual_2, x_virtual_3, x_virtual_4, x_virtual_5, x_static_0, x_static_1, x_static_2, x_static_3, x_static_4, x_static_5, x_static_6, x_min, x_max, x_abs, x_labs, x_tsw, oM_some, k_int, k_ref, k_long, k_null, vc_nil, vc_int, vc_ref, vc_long, tl_some, tl_none, x_ireturn (M := m_30) rfl]
    refine if_le ⟨by omega, by omega⟩ ⟨by omega, by omega⟩ (fun hcc => ?_) (fun hcc => absurd hcc (by omega))
    refine ru_at (b := k_30_49) (cl_mono _ _ _ _) rfl ?_
    simp only [k_30_49, x_iload_0, x_iload_1, x_iload_2, x_iload_3, x_iload_4, x_iload_5, x_iload_6, x_iload_7, x_iload_8, x_iload_9, x_iload_10, x_iload_11, x_lload_0, x_lload_1, x_lload_2, x_lload_3, x_lload_4, x_lload_5, x_lload_6, x_lload_7, x_lload_8, x_lload_9, x_lload_10, x_lload_11, x_aload_0, x_aload_1, x_aload_2, x_aload_3, x_aload_4, x_aload_5, x_aload_6, x_aload_7, x_aload_8, x_aload_9, x_aload_10, x_aload_11, x_istore_0, x_istore_1, x_istore_2, x_istore_3, x_istore_4, x_istore_5, x_istore_6, x_istore_7, x_istore_8, x_istore_9, x_istore_10, x_istore_11, x_astore_0, x_astore_1, x_astore_2, x_astore_3, x_astore_4, x_astore_5, x_astore_6, x_astore_7, x_astore_8, x_astore_9, x_astore_10, x_astore_11, x_lstore_0, x_lstore_1, x_lstore_2, x_lstore_3, x_lstore_4, x_lstore_5, x_lstore_6, x_lstore_7, x_lstore_8, x_lstore_9, x_lstore_10, x_iinc_0, x_iinc_1, x_iinc_2, x_iinc_3, x_iinc_4, x_iinc_5, x_iinc_6, x_iinc_7, x_iinc_8, x_iinc_9, x_iinc_10, x_iinc_11, x_iconst, x_bipush, x_sipush, x_lconst, x_ldc_w, x_ldc2_w, x_iadd, x_isub, x_imul, x_iand, x_ior, x_ixor, x_ishl, x_ishr, x_iushr, x_ladd, x_lsub, x_lmul, x_ineg, x_lneg, x_lcmp, x_i2l, x_l2i, x_idiv, x_irem, x_ldiv, x_lrem, x_dup_int, x_pop_int, x_dup_ref, x_pop_ref, x_dup2, x_goto, x_nop, x_if_eq, x_if_ne, x_if_lt, x_if_ge, x_if_gt, x_if_le, x_icmp_eq, x_icmp_ne, x_icmp_lt, x_icmp_ge, x_icmp_gt, x_icmp_le, x_getfield, x_putfield, x_iaload, x_baload, x_laload, x_iastore, x_bastore, x_lastore, x_arraylength, x_virtual_0, x_virtual_1, x_virtual_2, x_virtual_3, x_virtual_4, x_virtual_5, x_static_0, x_static_1, x_static_2, x_static_3, x_static_4, x_static_5, x_static_6, x_min, x_max, x_abs, x_labs, x_tsw, oM_some, k_int, k_ref, k_long, k_null, vc_nil, vc_int, vc_ref, vc_long, tl_some, tl_none, x_ireturn (M := m_30) rfl]
    refine hQ _ _ ⟨?_, rfl⟩
    rw [← hs]
    rfl
theorem ia_sub3 {s t : Nat} (hs : s < 8192) : Int32.ofInt (s : Int) &&& (Int32.ofInt (t : Int) ^^^ Int32.ofInt (-1)) = Int32.ofInt ((s &&& (t ^^^ 8191) : Nat) : Int) := by
  rw [ia_nat, ia_nat, ia_nat]
  apply Int32.toBitVec_inj.1
  show BitVec.ofNat 32 s &&& (BitVec.ofNat 32 t ^^^ BitVec.ofInt 32 (-1)) = BitVec.ofNat 32 (s &&& (t ^^^ 8191))
  apply BitVec.eq_of_getLsbD_eq
  intro i hi
  have h1 : (BitVec.ofInt 32 (-1)).getLsbD i = true := by
    rw [show BitVec.ofInt 32 (-1) = BitVec.allOnes 32 by decide, BitVec.getLsbD_allOnes]
    exact decide_eq_true hi
  rw [BitVec.getLsbD_and, BitVec.getLsbD_xor, h1, BitVec.getLsbD_ofNat, BitVec.getLsbD_ofNat, BitVec.getLsbD_ofNat, Nat.testBit_and, Nat.testBit_xor]
  have h8 : Nat.testBit 8191 i = decide (i < 13) := Nat.testBit_two_pow_sub_one 13 i
  rw [h8]
  by_cases h13 : i < 13
  · simp [hi, h13]
  · have : s.testBit i = false := Nat.testBit_lt_two_pow (Nat.lt_of_lt_of_le hs (show 8192 ≤ 2 ^ i from Nat.pow_le_pow_right (n := 2) (i := 13) (by omega) (by omega)))
    simp [this]
theorem pcs_split {s t : Nat} : ∀ i, i ≤ 13 → pcs (s &&& (t ^^^ 8191)) i + pcs (s &&& t) i = pcs s i := by
  intro i
  induction i with
  | zero => intro _; rfl
  | succ i ih =>
    intro hi
    have := ih (by omega)
    show pcs (s &&& (t ^^^ 8191)) i + (s &&& (t ^^^ 8191)) / 2 ^ i % 2 + (pcs (s &&& t) i + (s &&& t) / 2 ^ i % 2) = pcs s i + s / 2 ^ i % 2
    have e : (s &&& (t ^^^ 8191)) / 2 ^ i % 2 + (s &&& t) / 2 ^ i % 2 = s / 2 ^ i % 2 := by
      have h8 : Nat.testBit 8191 i = true := by rw [show Nat.testBit 8191 i = decide (i < 13) from Nat.testBit_two_pow_sub_one 13 i]; simp; omega
      have b1 := bitp_tb (s &&& (t ^^^ 8191)) i
      have b2 := bitp_tb (s &&& t) i
      have b3 := bitp_tb s i
      rw [Nat.testBit_and, Nat.testBit_xor, h8] at b1
      rw [Nat.testBit_and] at b2
      unfold bitp at b1 b2 b3
      cases hs : s.testBit i <;> cases ht : t.testBit i <;> simp only [hs, ht] at b1 b2 b3 <;> simp at b1 b2 b3 <;> omega
    omega
theorem pc_split (s t : Nat) : pc (s &&& (t ^^^ 8191)) = pc s - pc (s &&& t) := by
  have := pcs_split (s := s) (t := t) 13 (by omega)
  unfold pc
  omega
