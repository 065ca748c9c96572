/-! ===== counting bits ===== -/
def pcs (k : Nat) : Nat → Nat
  | 0 => 0
  | i + 1 => pcs k i + k / 2 ^ i % 2
/-- how many of the lowest 13 bits are set -/
def pc (k : Nat) : Nat := pcs k 13
def ush (x : Int32) (s : Int) : Int32 := (x.toUInt32 >>> ((Int32.ofInt s).toUInt32 &&& Int32.toUInt32 31)).toInt32
def bc1 (x : Int32) : Int32 := x - (ush x 1 &&& Int32.ofInt 1431655765)
def bc2 (x : Int32) : Int32 := (x &&& Int32.ofInt 858993459) + (ush x 2 &&& Int32.ofInt 858993459)
def bc3 (x : Int32) : Int32 := (x + ush x 4) &&& Int32.ofInt 252645135
def bc4 (x : Int32) : Int32 := x + ush x 8
def bc5 (x : Int32) : Int32 := x + ush x 16
def bcf (x : Int32) : Int32 := bc5 (bc4 (bc3 (bc2 (bc1 x)))) &&& Int32.ofInt 63
def bcAll (lo : Nat) : Nat → Bool
  | 0 => true
  | k + 1 => decide (bcf (Int32.ofInt ((lo + k : Nat) : Int)) = Int32.ofInt ((pc (lo + k) : Nat) : Int)) && bcAll lo k
theorem bcAll_is {lo : Nat} : ∀ {k : Nat}, bcAll lo k = true → ∀ j, j < k → bcf (Int32.ofInt ((lo + j : Nat) : Int)) = Int32.ofInt ((pc (lo + j) : Nat) : Int) := by
  intro k
  induction k with
  | zero => intro _ j hj; omega
  | succ k ih =>
    intro h j hj
    simp only [bcAll, Bool.and_eq_true, decide_eq_true_eq] at h
    by_cases e : j = k
    · subst e; exact h.1
    · exact ih h.2 j (by omega)
set_option maxRecDepth 20000 in
theorem bcf_0 : bcAll 0 512 = true := by decide +kernel
set_option maxRecDepth 20000 in
theorem bcf_1 : bcAll 512 512 = true := by decide +kernel
set_option maxRecDepth 20000 in
theorem bcf_2 : bcAll 1024 512 = true := by decide +kernel
set_option maxRecDepth 20000 in
theorem bcf_3 : bcAll 1536 512 = true := by decide +kernel
set_option maxRecDepth 20000 in
theorem bcf_4 : bcAll 2048 512 = true := by decide +kernel
set_option maxRecDepth 20000 in
theorem bcf_5 : bcAll 2560 512 = true := by decide +kernel
set_option maxRecDepth 20000 in
theorem bcf_6 : bcAll 3072 512 = true := by decide +kernel
set_option maxRecDepth 20000 in
theorem bcf_7 : bcAll 3584 512 = true := by decide +kernel
set_option maxRecDepth 20000 in
theorem bcf_8 : bcAll 4096 512 = true := by decide +kernel
set_option maxRecDepth 20000 in
theorem bcf_9 : bcAll 4608 512 = true := by decide +kernel
set_option maxRecDepth 20000 in
theorem bcf_10 : bcAll 5120 512 = true := by decide +kernel
set_option maxRecDepth 20000 in
theorem bcf_11 : bcAll 5632 512 = true := by decide +kernel
set_option maxRecDepth 20000 in
theorem bcf_12 : bcAll 6144 512 = true := by decide +kernel
set_option maxRecDepth 20000 in
theorem bcf_13 : bcAll 6656 512 = true := by decide +kernel
set_option maxRecDepth 20000 in
theorem bcf_14 : bcAll 7168 512 = true := by decide +kernel
set_option maxRecDepth 20000 in
theorem bcf_15 : bcAll 7680 512 = true := by decide +kernel
theorem bcf_is {k : Nat} (hk : k < 8192) : bcf (Int32.ofInt (k : Int)) = Int32.ofInt ((pc k : Nat) : Int) := by
  have key : ∀ lo, bcAll lo 512 = true → lo ≤ k → k < lo + 512 → bcf (Int32.ofInt (k : Int)) = Int32.ofInt ((pc k : Nat) : Int) := by
    intro lo h h1 h2
    have := bcAll_is h (k - lo) (by omega)
    rwa [show lo + (k - lo) = k by omega] at this
  by_cases h0 : k < 512
  · exact key 0 bcf_0 (by omega) (by omega)
  by_cases h1 : k < 1024
  · exact key 512 bcf_1 (by omega) (by omega)
  by_cases h2 : k < 1536
  · exact key 1024 bcf_2 (by omega) (by omega)
  by_cases h3 : k < 2048
  · exact key 1536 bcf_3 (by omega) (by omega)
  by_cases h4 : k < 2560
  · exact key 2048 bcf_4 (by omega) (by omega)
  by_cases h5 : k < 3072
  · exact key 2560 bcf_5 (by omega) (by omega)
  by_cases h6 : k < 3584
  · exact key 3072 bcf_6 (by omega) (by omega)
  by_cases h7 : k < 4096
  · exact key 3584 bcf_7 (by omega) (by omega)
  by_cases h8 : k < 4608
  · exact key 4096 bcf_8 (by omega) (by omega)
  by_cases h9 : k < 5120
  · exact key 4608 bcf_9 (by omega) (by omega)
  by_cases h10 : k < 5632
  · exact key 5120 bcf_10 (by omega) (by omega)
  by_cases h11 : k < 6144
  · exact key 5632 bcf_11 (by omega) (by omega)
  by_cases h12 : k < 6656
  · exact key 6144 bcf_12 (by omega) (by omega)
  by_cases h13 : k < 7168
  · exact key 6656 bcf_13 (by omega) (by omega)
  by_cases h14 : k < 7680
  · exact key 7168 bcf_14 (by omega) (by omega)
  exact key 7680 bcf_15 (by omega) (by omega)
def onAll (lo : Nat) : Nat → Bool
  | 0 => true
  | k + 1 => (decide (lo + k = 0) || decide (pc ((lo + k) &&& (lo + k - 1)) + 1 = pc (lo + k) ∧ (lo + k) &&& (lo + k - 1) < lo + k)) && onAll lo k
theorem onAll_is {lo : Nat} : ∀ {k : Nat}, onAll lo k = true → ∀ j, j < k → lo + j = 0 ∨ (pc ((lo + j) &&& (lo + j - 1)) + 1 = pc (lo + j) ∧ (lo + j) &&& (lo + j - 1) < lo + j) := by
  intro k
  induction k with
  | zero => intro _ j hj; omega
  | succ k ih =>
    intro h j hj
    simp only [onAll, Bool.and_eq_true, Bool.or_eq_true, decide_eq_true_eq] at h
    by_cases e : j = k
    · subst e; exact h.1
    · exact ih h.2 j (by omega)
set_option maxRecDepth 20000 in
theorem onf_0 : onAll 0 512 = true := by decide +kernel
set_option maxRecDepth 20000 in
theorem onf_1 : onAll 512 512 = true := by decide +kernel
set_option maxRecDepth 20000 in
theorem onf_2 : onAll 1024 512 = true := by decide +kernel
set_option maxRecDepth 20000 in
theorem onf_3 : onAll 1536 512 = true := by decide +kernel
set_option maxRecDepth 20000 in
theorem onf_4 : onAll 2048 512 = true := by decide +kernel
set_option maxRecDepth 20000 in
theorem onf_5 : onAll 2560 512 = true := by decide +kernel
set_option maxRecDepth 20000 in
theorem onf_6 : onAll 3072 512 = true := by decide +kernel
set_option maxRecDepth 20000 in
theorem onf_7 : onAll 3584 512 = true := by decide +kernel
set_option maxRecDepth 20000 in
theorem onf_8 : onAll 4096 512 = true := by decide +kernel
set_option maxRecDepth 20000 in
theorem onf_9 : onAll 4608 512 = true := by decide +kernel
set_option maxRecDepth 20000 in
theorem onf_10 : onAll 5120 512 = true := by decide +kernel
set_option maxRecDepth 20000 in
theorem onf_11 : onAll 5632 512 = true := by decide +kernel
set_option maxRecDepth 20000 in
theorem onf_12 : onAll 6144 512 = true := by decide +kernel
set_option maxRecDepth 20000 in
theorem onf_13 : onAll 6656 512 = true := by decide +kernel
set_option maxRecDepth 20000 in
theorem onf_14 : onAll 7168 512 = true := by decide +kernel
set_option maxRecDepth 20000 in
theorem onf_15 : onAll 7680 512 = true := by decide +kernel
theorem onf_is {k : Nat} (hk : k < 8192) (h0 : k ≠ 0) : pc (k &&& (k - 1)) + 1 = pc k ∧ k &&& (k - 1) < k := by
  have key : ∀ lo, onAll lo 512 = true → lo ≤ k → k < lo + 512 → pc (k &&& (k - 1)) + 1 = pc k ∧ k &&& (k - 1) < k := by
    intro lo h h1 h2
    have := onAll_is h (k - lo) (by omega)
    rw [show lo + (k - lo) = k by omega] at this
    exact this.resolve_left h0
  by_cases h0 : k < 512
  · exact key 0 onf_0 (by omega) (by omega)
  by_cases h1 : k < 1024
  · exact key 512 onf_1 (by omega) (by omega)
  by_cases h2 : k < 1536
  · exact key 1024 onf_2 (by omega) (by omega)
  by_cases h3 : k < 2048
  · exact key 1536 onf_3 (by omega) (by omega)
  by_cases h4 : k < 2560
  · exact key 2048 onf_4 (by omega) (by omega)
  by_cases h5 : k < 3072
  · exact key 2560 onf_5 (by omega) (by omega)
  by_cases h6 : k < 3584
  · exact key 3072 onf_6 (by omega) (by omega)
  by_cases h7 : k < 4096
  · exact key 3584 onf_7 (by omega) (by omega)
  by_cases h8 : k < 4608
  · exact key 4096 onf_8 (by omega) (by omega)
  by_cases h9 : k < 5120
  · exact key 4608 onf_9 (by omega) (by omega)
  by_cases h10 : k < 5632
  · exact key 5120 onf_10 (by omega) (by omega)
  by_cases h11 : k < 6144
  · exact key 5632 onf_11 (by omega) (by omega)
  by_cases h12 : k < 6656
  · exact key 6144 onf_12 (by omega) (by omega)
  by_cases h13 : k < 7168
  · exact key 6656 onf_13 (by omega) (by omega)
  by_cases h14 : k < 7680
  · exact key 7168 onf_14 (by omega) (by omega)
  exact key 7680 onf_15 (by omega) (by omega)
abbrev bitp (S i : Nat) : Prop := S / 2 ^ i % 2 = 1
theorem bitp_01 (S i : Nat) : S / 2 ^ i % 2 = 0 ∨ S / 2 ^ i % 2 = 1 := by omega
theorem bitp_tb (S i : Nat) : bitp S i ↔ S.testBit i = true := by
  unfold bitp
  rw [Nat.testBit_eq_decide_div_mod_eq, decide_eq_true_eq]
theorem bitp_big {S i : Nat} (h : S < 2 ^ i) : ¬ bitp S i := by
  unfold bitp
  rw [Nat.div_eq_of_lt h]
  omega
theorem bitp_and (S T i : Nat) : bitp (S &&& T) i ↔ bitp S i ∧ bitp T i := by
  simp only [bitp_tb, Nat.testBit_and, Bool.and_eq_true]
theorem bitp_or (S T i : Nat) : bitp (S ||| T) i ↔ bitp S i ∨ bitp T i := by
  simp only [bitp_tb, Nat.testBit_or, Bool.or_eq_true]
theorem bitp_pow (p i : Nat) : bitp (2 ^ p) i ↔ p = i := by
  simp only [bitp_tb, Nat.testBit_two_pow, decide_eq_true_eq]
theorem bitp_mod (S p i : Nat) : bitp (S % 2 ^ p) i ↔ i < p ∧ bitp S i := by
  simp only [bitp_tb, Nat.testBit_mod_two_pow, Bool.and_eq_true, decide_eq_true_eq]
theorem bitp_ext {S T : Nat} (h : ∀ i, bitp S i ↔ bitp T i) : S = T := by
  apply Nat.eq_of_testBit_eq
  intro i
  have := h i
  rw [bitp_tb, bitp_tb] at this
  cases h1 : S.testBit i <;> cases h2 : T.testBit i <;> simp_all
theorem pcs_le {S : Nat} : ∀ i, pcs S i ≤ i := by
  intro i
  induction i with
  | zero => exact Nat.le_refl _
  | succ i ih => unfold pcs; omega
theorem pc_le (S : Nat) : pc S ≤ 13 := pcs_le 13
theorem pcs_sum {S T U : Nat} : ∀ i, (∀ j, j < i → bitp S j → bitp T j ∨ bitp U j) → pcs S i ≤ pcs T i + pcs U i := by
  intro i
  induction i with
  | zero => intro _; exact Nat.le_refl _
  | succ i ih =>
    intro h
    have h1 := ih (fun j hj => h j (by omega))
    have h2 := h i (by omega)
    rw [show pcs S (i + 1) = pcs S i + S / 2 ^ i % 2 from rfl, show pcs T (i + 1) = pcs T i + T / 2 ^ i % 2 from rfl, show pcs U (i + 1) = pcs U i + U / 2 ^ i % 2 from rfl]
    rcases bitp_01 S i with e | e
    · omega
    · rcases h2 e with q | q <;> omega
theorem c_bitCount {w : aW} {k : Nat} (hk : k < 8192) : Ct 1 0 [.int (Int32.ofInt k)] w (fun r w' => r = some (.int (Int32.ofInt (pc k))) ∧ w' = w) := by
  refine Ct.of (fun d hd Q hQ => cl_at (M := m_0) (L := [.int (Int32.ofInt k)]) rfl (Nat.le_of_ble_eq_true rfl) rfl (fun E hE => ?_))
  refine ru_at (b := k_0_0) (cl_mono _ _ _ _) rfl ?_
  simp only [k_0_0, x_iload_0, x_iload_1, x_iload_2, x_iload_3, x_iload_4, x_iload_5, x_iload_6, x_iload_7, x_iload_8, x_iload_9, x_iload_10, x_iload_11, x_lload_0, x_lload_1, x_lload_2, x_lload_3, x_lload_4, x_lload_5, x_lload_6, x_lload_7, x_lload_8, x_lload_9, x_lload_10, x_lload_11, x_aload_0, x_aload_1, x_aload_2, x_aload_3, x_aload_4, x_aload_5, x_aload_6, x_aload_7, x_aload_8, x_aload_9, x_aload_10, x_aload_11, x_istore_0, x_istore_1, x_istore_2, x_istore_3, x_istore_4, x_istore_5, x_istore_6, x_istore_7, x_istore_8, x_istore_9, x_istore_10, x_istore_11, x_astore_0, x_astore_1, x_astore_2, x_astore_3, x_astore_4, x_astore_5, x_astore_6, x_astore_7, x_astore_8, x_astore_9, x_astore_10, x_astore_11, x_lstore_0, x_lstore_1, x_lstore_2, x_lstore_3, x_lstore_4, x_lstore_5, x_lstore_6, x_lstore_7, x_lstore_8, x_lstore_9, x_lstore_10, x_iinc_0, x_iinc_1, x_iinc_2, x_iinc_3, x_iinc_4, x_iinc_5, x_iinc_6, x_iinc_7, x_iinc_8, x_iinc_9, x_iinc_10, x_iinc_11, x_iconst, x_bipush, x_sipush, x_lconst, x_ldc_w, x_ldc2_w, x_iadd, x_isub, x_imul, x_iand, x_ior, x_ixor, x_ishl, x_ishr, x_iushr, x_ladd, x_lsub, x_lmul, x_ineg, x_lneg, x_lcmp, x_i2l, x_l2i, x_idiv, x_irem, x_ldiv, x_lrem, x_dup_int, x_pop_int, x_dup_ref, x_pop_ref, x_dup2, x_goto, x_nop, x_if_eq, x_if_ne, x_if_lt, x_if_ge, x_if_gt, x_if_le, x_icmp_eq, x_icmp_ne, x_icmp_lt, x_icmp_ge, x_icmp_gt, x_icmp_le, x_getfield, x_putfield, x_iaload, x_baload, x_laload, x_iastore, x_bastore, x_lastore, x_arraylength, x_virtual_0, x_virtual_1, x_virtual_2, x_virtual_3, x_virtual_4, x_virtual_5, x_static_0, x_static_1, x_static_2, x_static_3, x_static_4, x_static_5, x_static_6, x_min, x_max, x_abs, x_labs, x_tsw, oM_some, k_int, k_ref, k_long, k_null, vc_nil, vc_int, vc_ref, vc_long, tl_some, tl_none, x_ireturn (M := m_0) rfl]
  exact hQ _ _ ⟨congrArg (fun x => some (Value.int x)) (bcf_is hk), rfl⟩
theorem r_ones {w : aW} {k : Nat} (hk : k < 8192) : Ct 1 162 [.int (Int32.ofInt k)] w (fun r w' => r = some (.int (Int32.ofInt (pc k))) ∧ w' = w) := by
  refine Ct.of (fun d hd Q hQ => cl_at (M := m_162) (L := [.int (Int32.ofInt k), .null, .null]) rfl (Nat.le_of_ble_eq_true rfl) rfl (fun E hE => ?_))
  refine ru_at (b := k_162_0) (cl_mono _ _ _ _) rfl ?_
  simp only [k_162_0, x_iload_0, x_iload_1, x_iload_2, x_iload_3, x_iload_4, x_iload_5, x_iload_6, x_iload_7, x_iload_8, x_iload_9, x_iload_10, x_iload_11, x_lload_0, x_lload_1, x_lload_2, x_lload_3, x_lload_4, x_lload_5, x_lload_6, x_lload_7, x_lload_8, x_lload_9, x_lload_10, x_lload_11, x_aload_0, x_aload_1, x_aload_2, x_aload_3, x_aload_4, x_aload_5, x_aload_6, x_aload_7, x_aload_8, x_aload_9, x_aload_10, x_aload_11, x_istore_0, x_istore_1, x_istore_2, x_istore_3, x_istore_4, x_istore_5, x_istore_6, x_istore_7, x_istore_8, x_istore_9, x_istore_10, x_istore_11, x_astore_0, x_astore_1, x_astore_2, x_astore_3, x_astore_4, x_astore_5, x_astore_6, x_astore_7, x_astore_8, x_astore_9, x_astore_10, x_astore_11, x_lstore_0, x_lstore_1, x_lstore_2, x_lstore_3, x_lstore_4, x_lstore_5, x_lstore_6, x_lstore_7, x_lstore_8, x_lstore_9, x_lstore_10, x_iinc_0, x_iinc_1, x_iinc_2, x_iinc_3, x_iinc_4, x_iinc_5, x_iinc_6, x_iinc_7, x_iinc_8, x_iinc_9, x_iinc_10, x_iinc_11, x_iconst, x_bipush, x_sipush, x_lconst, x_ldc_w, x_ldc2_w, x_iadd, x_isub, x_imul, x_iand, x_ior, x_ixor, x_ishl, x_ishr, x_iushr, x_ladd, x_lsub, x_lmul, x_ineg, x_lneg, x_lcmp, x_i2l, x_l2i, x_idiv, x_irem, x_ldiv, x_lrem, x_dup_int, x_pop_int, x_dup_ref, x_pop_ref, x_dup2, x_goto, x_nop, x_if_eq, x_if_ne, x_if_lt, x_if_ge, x_if_gt, x_if_le, x_icmp_eq, x_icmp_ne, x_icmp_lt, x_icmp_ge, x_icmp_gt, x_icmp_le, x_getfield, x_putfield, x_iaload, x_baload, x_laload, x_iastore, x_bastore, x_lastore, x_arraylength, x_virtual_0, x_virtual_1, x_virtual_2, x_virtual_3, x_virtual_4, x_virtual_5, x_static_0, x_static_1, x_static_2, x_static_3, x_static_4, x_static_5, x_static_6, x_min, x_max, x_abs, x_labs, x_tsw, oM_some, k_int, k_ref, k_long, k_null, vc_nil, vc_int, vc_ref, vc_long, tl_some, tl_none, x_ireturn (M := m_162) rfl]
  have key : ∀ m l c : Nat, l ≤ m → l < 8192 → c + pc l = pc k → Ru pD pY E (cL d) m_162 Q 4 [.int (Int32.ofInt k), .int (Int32.ofInt (c : Int)), .int (Int32.ofInt (l : Int))] [] w := by
    intro m
    induction m with
    | zero =>
      intro l c h1 h2 h3
      have e : l = 0 := by omega
      subst e
      refine ru_at (b := k_162_4) (cl_mono _ _ _ _) rfl ?_
      simp only [k_162_4, x_iload_0, x_iload_1, x_iload_2, x_iload_3, x_iload_4, x_iload_5, x_iload_6, x_iload_7, x_iload_8, x_iload_9, x_iload_10, x_iload_11, x_lload_0, x_lload_1, x_lload_2, x_lload_3, x_lload_4, x_lload_5, x_lload_6, x_lload_7, x_lload_8, x_lload_9, x_lload_10, x_lload_11, x_aload_0, x_aload_1, x_aload_2, x_aload_3, x_aload_4, x_aload_5, x_aload_6, x_aload_7, x_aload_8, x_aload_9, x_aload_10, x_aload_11, x_istore_0, x_istore_1, x_istore_2, x_istore_3, x_istore_4, x_istore_5, x_istore_6, x_istore_7, x_istore_8, x_istore_9, x_istore_10, x_istore_11, x_astore_0, x_astore_1, x_astore_2, x_astore_3, x_astore_4, x_astore_5, x_astore_6, x_astore_7, x_astore_8, x_astore_9, x_astore_10, x_astore_11, x_lstore_0, x_lstore_1, x_lstore_2, x_lstore_3, x_lstore_4, x_lstore_5, x_lstore_6, x_lstore_7, x_lstore_8, x_lstore_9, x_lstore_10, x_iinc_0, x_iinc_1, x_iinc_2, x_iinc_3, x_iinc_4, x_iinc_5, x_iinc_6, x_iinc_7, x_iinc_8, x_iinc_9, x_iinc_10, x_iinc_11, x_iconst, x_bipush, x_sipush, x_lconst, x_ldc_w, x_ldc2_w, x_iadd, x_isub, x_imul, x_iand, x_ior, x_ixor, x_ishl, x_ishr, x_iushr, x_ladd, x_lsub, x_lmul, x_ineg, x_lneg, x_lcmp, x_i2l, x_l2i, x_idiv, x_irem, x_ldiv, x_lrem, x_dup_int, x_pop_int, x_dup_ref, x_pop_ref, x_dup2, x_goto, x_nop, x_if_eq, x_if_ne, x_if_lt, x_if_ge, x_if_gt, x_if_le, x_icmp_eq, x_icmp_ne, x_icmp_lt, x_icmp_ge, x_icmp_gt, x_icmp_le, x_getfield, x_putfield, x_iaload, x_baload, x_laload, x_iastore, x_bastore, x_lastore, x_arraylength, x_virtual_0, x_virtual_1, x_virtual_2, x_virtual_3, x_virtual_4, x_virtual_5, x_static_0, x_static_1, x_static_2, x_static_3, x_static_4, x_static_5, x_static_6, x_min, x_max, x_abs, x_labs, x_tsw, oM_some, k_int, k_ref, k_long, k_null, vc_nil, vc_int, vc_ref, vc_long, tl_some, tl_none, ia_10, ia_00, not_true, not_false_iff, if_true, if_false, x_ireturn (M := m_162) rfl]
      rw [if_pos (by decide)]
      refine ru_at (b := k_162_20) (cl_mono _ _ _ _) rfl ?_
      simp only [k_162_20, x_iload_0, x_iload_1, x_iload_2, x_iload_3, x_iload_4, x_iload_5, x_iload_6, x_iload_7, x_iload_8, x_iload_9, x_iload_10, x_iload_11, x_lload_0, x_lload_1, x_lload_2, x_lload_3, x_lload_4, x_lload_5, x_lload_6, x_lload_7, x_lload_8, x_lload_9, x_lload_10, x_lload_11, x_aload_0, x_aload_1, x_aload_2, x_aload_3, x_aload_4, x_aload_5, x_aload_6, x_aload_7, x_aload_8, x_aload_9, x_aload_10, x_aload_11, x_istore_0, x_istore_1, x_istore_2, x_istore_3, x_istore_4, x_istore_5, x_istore_6, x_istore_7, x_istore_8, x_istore_9, x_istore_10, x_istore_11, x_astore_0, x_astore_1, x_astore_2, x_astore_3, x_astore_4, x_astore_5, x_astore_6, x_astore_7, x_astore_8, x_astore_9, x_astore_10, x_astore_11, x_lstore_0, x_lstore_1, x_lstore_2, x_lstore_3, x_lstore_4, x_lstore_5, x_lstore_6, x_lstore_7, x_lstore_8, x_lstore_9, x_lstore_10, x_iinc_0, x_iinc_1, x_iinc_2, x_iinc_3, x_iinc_4, x_iinc_5, x_iinc_6, x_iinc_7, x_iinc_8, x_iinc_9, x_iinc_10, x_iinc_11, x_iconst, x_bipush, x_sipush, x_lconst, x_ldc_w, x_ldc2_w, x_iadd, x_isub, x_imul, x_iand, x_ior, x_ixor, x_ishl, x_ishr, x_iushr, x_ladd, x_lsub, x_lmul, x_ineg, x_lneg, x_lcmp, x_i2l, x_l2i, x_idiv, x_irem, x_ldiv, x_lrem, x_dup_int, x_pop_int, x_dup_ref, x_pop_ref, x_dup2, x_goto, x_nop, x_if_eq, x_if_ne, x_if_lt, x_if_ge, x_if_gt, x_if_le, x_icmp_eq, x_icmp_ne, x_icmp_lt, x_icmp_ge, x_icmp_gt, x_icmp_le, x_getfield, x_putfield, x_iaload, x_baload, x_laload, x_iastore, x_bastore, x_lastore, x_arraylength, x_virtual_0, x_virtual_1, x_virtual_2, x_virtual_3, x_virtual_4, x_virtual_5, x_static_0, x_static_1, x_static_2, x_static_3, x_static_4, x_static_5, x_static_6, x_min, x_max, x_abs, x_labs, x_tsw, oM_some, k_int, k_ref, k_long, k_null, vc_nil, vc_int, vc_ref, vc_long, tl_some, tl_none, x_ireturn (M := m_162) rfl]
      refine hQ _ _ ⟨?_, rfl⟩
      rw [show c = pc k by have : pc 0 = 0 := by decide +kernel
                           omega]
    | succ m ih =>
      intro l c h1 h2 h3
      by_cases e : l = 0
      · exact ih l c (by omega) h2 h3
      · obtain ⟨q1, q2⟩ := onf_is h2 e
        have e1 : (l : Int) - 1 = ((l - 1 : Nat) : Int) := by omega
        refine ru_at (b := k_162_4) (cl_mono _ _ _ _) rfl ?_
        simp only [k_162_4, x_iload_0, x_iload_1, x_iload_2, x_iload_3, x_iload_4, x_iload_5, x_iload_6, x_iload_7, x_iload_8, x_iload_9, x_iload_10, x_iload_11, x_lload_0, x_lload_1, x_lload_2, x_lload_3, x_lload_4, x_lload_5, x_lload_6, x_lload_7, x_lload_8, x_lload_9, x_lload_10, x_lload_11, x_aload_0, x_aload_1, x_aload_2, x_aload_3, x_aload_4, x_aload_5, x_aload_6, x_aload_7, x_aload_8, x_aload_9, x_aload_10, x_aload_11, x_istore_0, x_istore_1, x_istore_2, x_istore_3, x_istore_4, x_istore_5, x_istore_6, x_istore_7, x_istore_8, x_istore_9, x_istore_10, x_istore_11, x_astore_0, x_astore_1, x_astore_2, x_astore_3, x_astore_4, x_astore_5, x_astore_6, x_astore_7, x_astore_8, x_astore_9, x_astore_10, x_astore_11, x_lstore_0, x_lstore_1, x_lstore_2, x_lstore_3, x_lstore_4, x_lstore_5, x_lstore_6, x_lstore_7, x_lstore_8, x_lstore_9, x_lstore_10, x_iinc_0, x_iinc_1, x_iinc_2, x_iinc_3, x_iinc_4, x_iinc_5, x_iinc_6, x_iinc_7, x_iinc_8, x_iinc_9, x_iinc_10, x_iinc_11, x_iconst, x_bipush, x_sipush, x_lconst, x_ldc_w, x_ldc2_w, x_iadd, x_isub, x_imul, x_iand, x_ior, x_ixor, x_ishl, x_ishr, x_iushr, x_ladd, x_lsub, x_lmul, x_ineg, x_lneg, x_lcmp, x_i2l, x_l2i, x_idiv, x_irem, x_ldiv, x_lrem, x_dup_int, x_pop_int, x_dup_ref, x_pop_ref, x_dup2, x_goto, x_nop, x_if_eq, x_if_ne, x_if_lt, x_if_ge, x_if_gt, x_if_le, x_icmp_eq, x_icmp_ne, x_icmp_lt, x_icmp_ge, x_icmp_gt, x_icmp_le, x_getfield, x_putfield, x_iaload, x_baload, x_laload, x_iastore, x_bastore, x_lastore, x_arraylength, x_virtual_0, x_virtual_1, x_virtual_2, x_virtual_3, x_virtual_4, x_virtual_5, x_static_0, x_static_1, x_static_2, x_static_3, x_static_4, x_static_5, x_static_6, x_min, x_max, x_abs, x_labs, x_tsw, oM_some, k_int, k_ref, k_long, k_null, vc_nil, vc_int, vc_ref, vc_long, tl_some, tl_none, ia_add, ia_sub, e1, ia_and, x_ireturn (M := m_162) rfl]
        refine if_eq0 ⟨by omega, by omega⟩ (fun hc => absurd hc (by omega)) (fun _ => ?_)
        exact ih (l &&& (l - 1)) (c + 1) (by omega) (by omega) (by omega)
  exact key k k 0 (Nat.le_refl _) hk (by omega)
