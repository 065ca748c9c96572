/-! ===== better bounds; PairSortsModel: isWhole, crosses ===== -/
def nsm (k : Nat → Nat) : Nat → Nat
  | 0 => 0
  | i + 1 => nsm k i + k i
theorem nsm_sg (k : Nat → Nat) : ∀ m, sg (fun i => (k i : Int)) m = (nsm k m : Int) := by
  intro m
  induction m with
  | zero => rfl
  | succ m ih => rw [sg_s, ih]; rfl
theorem two_k {k : Nat} (h : 1 ≤ k) : k * 2 ≤ 2 ^ k := by
  induction k with
  | zero => omega
  | succ k ih =>
    by_cases e : k = 0
    · subst e; decide
    · have := ih (by omega)
      rw [Nat.pow_succ]
      omega
theorem prd_two {k : Nat → Nat} : ∀ {m : Nat}, (∀ i, i < m → 1 ≤ k i) → prd k m * 2 ^ m ≤ 2 ^ nsm k m := by
  intro m
  induction m with
  | zero => intro _; exact Nat.le_refl _
  | succ m ih =>
    intro h
    have h1 := ih (fun i hi => h i (by omega))
    have h2 := two_k (h m (by omega))
    unfold prd nsm
    rw [Nat.pow_add 2 (nsm k m) (k m), Nat.pow_succ, show prd k m * k m * (2 ^ m * 2) = (prd k m * 2 ^ m) * (k m * 2) by simp only [Nat.mul_assoc, Nat.mul_comm, Nat.mul_left_comm]]
    exact Nat.mul_le_mul h1 h2
theorem prK_4 {n : Nat} {R : Nat → Nat → Nat} (hR : tOK n R) (hs : isSc n R) : prK n R ≤ 4096 := by
  have h1 := prd_two (k := kv n R) (m := gry R n + 1) (fun i hi => kv_pos hR hs (by omega))
  have h2 : nsm (kv n R) (gry R n + 1) = n := by
    have := kv_sum hR hs
    rw [nsm_sg] at this
    omega
  rw [h2] at h1
  have h3 : 2 ^ n ≤ 8192 := pow_13 hR.2.1
  have h4 : 2 ≤ 2 ^ (gry R n + 1) := by
    have := Nat.pow_le_pow_right (n := 2) (by omega) (show 1 ≤ gry R n + 1 by omega)
    omega
  have h5 : prK n R * 2 ≤ prK n R * 2 ^ (gry R n + 1) := Nat.mul_le_mul_left _ h4
  unfold prK at h5 ⊢
  omega
theorem shK_4 {n : Nat} {R : Nat → Nat → Nat} (hR : tOK n R) (hs : isSc n R) (i : Nat) : shK n R i ≤ 4096 := Nat.le_trans (Nat.div_le_self _ _) (prK_4 hR hs)
theorem mul_b {x y X Y : Int} (hX : 0 ≤ X) (hY : 0 ≤ Y) (hx : -X ≤ x ∧ x ≤ X) (hy : -Y ≤ y ∧ y ≤ Y) : -(X * Y) ≤ x * y ∧ x * y ≤ X * Y := by
  have h1 : 0 ≤ (X - x) * (Y - y) := Int.mul_nonneg (by omega) (by omega)
  have h2 : 0 ≤ (X + x) * (Y + y) := Int.mul_nonneg (by omega) (by omega)
  have h3 : 0 ≤ (X - x) * (Y + y) := Int.mul_nonneg (by omega) (by omega)
  have h4 : 0 ≤ (X + x) * (Y - y) := Int.mul_nonneg (by omega) (by omega)
  have e1 : (X - x) * (Y - y) = X * Y - X * y - x * Y + x * y := by rw [Int.sub_mul, Int.mul_sub, Int.mul_sub]; omega
  have e2 : (X + x) * (Y + y) = X * Y + X * y + x * Y + x * y := by rw [Int.add_mul, Int.mul_add, Int.mul_add]; omega
  have e3 : (X - x) * (Y + y) = X * Y + X * y - x * Y - x * y := by rw [Int.sub_mul, Int.mul_add, Int.mul_add]; omega
  have e4 : (X + x) * (Y - y) = X * Y - X * y + x * Y - x * y := by rw [Int.add_mul, Int.mul_sub, Int.mul_sub]; omega
  omega
/-- a row is met at least once, and no more often than there are points -/
theorem tmF_13 {n : Nat} {R : Nat → Nat → Nat} (hR : tOK n R) (hs : isSc n R) {a : Nat → Int} (h : a ∈ RwL n R) : 1 ≤ tmF n R a ∧ tmF n R a ≤ 13 := by
  obtain ⟨-, h0, hb, -⟩ := RwL_mem h
  have hip := ipr_pos hR hs h0
  have k0 := kv_0 hR hs
  have hp := prK_pos hR hs
  have s0 : shK n R 0 = prK n R := by unfold shK; rw [k0, Nat.div_one]
  have hge : (prK n R : Int) ≤ ipr n R a a := by
    have h1 : (fun i => a i * a i * (shK n R i : Int)) 0 ≤ ipr n R a a := sg_one (fun k _ => Int.mul_nonneg (sq_nn _) (by omega)) 0 (by omega)
    simp only [h0, s0] at h1
    omega
  have hle : ipr n R a a ≤ (n : Int) * (prK n R : Int) := by
    have e : sg (fun i => (kv n R i : Int) * (prK n R : Int)) (gry R n + 1) = (n : Int) * (prK n R : Int) := by rw [sg_mur, kv_sum hR hs]
    rw [← e]
    refine sg_le (fun i hi => ?_)
    have hk : (kv n R i : Int) * (shK n R i : Int) = (prK n R : Int) := by exact_mod_cast shK_k (by omega)
    have hai : -(kv n R i : Int) ≤ a i ∧ a i ≤ kv n R i := by
      by_cases e : i = 0
      · rw [e, h0, k0]; omega
      · exact hb i (by omega) (by omega)
    have hsq := (mul_b (by omega) (by omega) hai hai).2
    have := Int.mul_le_mul_of_nonneg_right hsq (show (0 : Int) ≤ shK n R i by omega)
    rw [Int.mul_assoc (kv n R i : Int), hk] at this
    exact this
  have h13 := hR.2.1
  have hnn : 0 ≤ (n : Int) * (prK n R : Int) := Int.mul_nonneg (by omega) (by omega)
  unfold tmF
  rw [Int.tdiv_eq_ediv_of_nonneg hnn]
  constructor
  · exact Int.le_ediv_of_mul_le hip (by omega)
  · have h2 : (n : Int) * (prK n R : Int) ≤ 13 * ipr n R a a := by
      have q1 : (n : Int) * (prK n R : Int) ≤ 13 * (prK n R : Int) := Int.mul_le_mul_of_nonneg_right (by omega) (by omega)
      omega
    exact Int.ediv_le_of_le_mul hip h2
/-- the sum in the Krein parameter of three rows -/
def kre (n : Nat) (R : Nat → Nat → Nat) (a b c : Nat → Int) : Int := sg (fun i => a i * b i * c i * ((shK n R i : Int) * (shK n R i : Int))) (gry R n + 1)
theorem kre_b {n : Nat} {R : Nat → Nat → Nat} (hR : tOK n R) (hs : isSc n R) {a b c : Nat → Int} (ha : smA n R a) (hb : smA n R b) (hc : smA n R c) : ∀ m, m ≤ gry R n + 1 → -(2197 * 16777216 * 6) ≤ sg (fun i => a i * b i * c i * ((shK n R i : Int) * (shK n R i : Int))) m ∧ sg (fun i => a i * b i * c i * ((shK n R i : Int) * (shK n R i : Int))) m ≤ 2197 * 16777216 * 6 := by
  intro m hm
  have hL := gr_le hR
  have := sg_b (C := 2197 * 16777216) (by decide) (f := fun i => a i * b i * c i * ((shK n R i : Int) * (shK n R i : Int))) (m := m) (fun k hk => by
    have h1 := ab_13 (ha k (by omega)) (hb k (by omega))
    have h2 := mul_b (X := 169) (Y := 13) (by omega) (by omega) h1 (hc k (by omega))
    have h3 := shK_4 hR hs k
    have h4 := mul_b (x := (shK n R k : Int)) (y := (shK n R k : Int)) (X := 4096) (Y := 4096) (by omega) (by omega) ⟨by omega, by omega⟩ ⟨by omega, by omega⟩
    exact mul_b (X := 2197) (Y := 16777216) (by omega) (by omega) ⟨by omega, by omega⟩ ⟨by omega, by omega⟩)
  have e : (2197 * 16777216 : Int) * (m : Int) ≤ 2197 * 16777216 * 6 := Int.mul_le_mul_of_nonneg_left (by omega) (by decide)
  omega
def isW (σ : St) : Prop := isSc σ.1 σ.2.1 ∧ (rwA σ).length = gry σ.2.1 σ.1 + 1
theorem r_isWhole {v w : aW} {s : Nat → Int32} {l : Nat → Int64} {A : Nat → Nat → Int32} {B : Nat → Nat → Int64} {σ : St} (h : RX v w s l A B) (hk : RK s A σ) : Ct 9 207 [.ref 62] w (fun r w' => ∃ s' A', RX v w' s' l A' B ∧ RK s' A' σ ∧ ((r = some (.int (Int32.ofInt 0)) ∧ ¬ isW σ) ∨ (r = some (.int (Int32.ofInt 1)) ∧ isW σ ∧ rRw s' A' σ.1 σ.2.1 ∧ rPa A' σ.1 σ.2.1))) := by
  have hL := gr_le hk.2.1
  refine Ct.of (fun d hd Q hQ => cl_at (M := m_207) (L := [.ref 62]) rfl (Nat.le_of_ble_eq_true rfl) rfl (fun E hE => ?_))
  refine ru_at (b := k_207_0) (cl_mono _ _ _ _) rfl ?_
  simp only [k_207_0, x_iload_0, x_iload_1, x_iload_2, x_iload_3, x_iload_4, x_iload_5, x_iload_6, x_iload_7, x_iload_8, x_iload_9, x_iload_10, x_iload_11, x_lload_0, x_lload_1, x_lload_2, x_lload_3, x_lload_4, x_lload_5, x_lload_6, x_lload_7, x_lload_8, x_lload_9, x_lload_10, x_lload_11, x_aload_0, x_aload_1, x_aload_2, x_aload_3, x_aload_4, x_aload_5, x_aload_6, x_aload_7, x_aload_8, x_aload_9, x_aload_10, x_aload_11, x_istore_0, x_istore_1, x_istore_2, x_istore_3, x_istore_4, x_istore_5, x_istore_6, x_istore_7, x_istore_8, x_istore_9, x_istore_10, x_istore_11, x_astore_0, x_astore_1, x_astore_2, x_astore_3, x_astore_4, x_astore_5, x_astore_6, x_astore_7, x_astore_8, x_astore_9, x_astore_10, x_astore_11, x_lstore_0, x_lstore_1, x_lstore_2, x_lstore_3, x_lstore_4, x_lstore_5, x_lstore_6, x_lstore_7, x_lstore_8, x_lstore_9, x_lstore_10, x_iinc_0, x_iinc_1, x_iinc_2, x_iinc_3, x_iinc_4, x_iinc_5, x_iinc_6, x_iinc_7, x_iinc_8, x_iinc_9, x_iinc_10, x_iinc_11, x_iconst, x_bipush, x_sipush, x_lconst, x_ldc_w, x_ldc2_w, x_iadd, x_isub, x_imul, x_iand, x_ior, x_ixor, x_ishl, x_ishr, x_iushr, x_ladd, x_lsub, x_lmul, x_ineg, x_lneg, x_lcmp, x_i2l, x_l2i, x_idiv, x_irem, x_ldiv, x_lrem, x_dup_int, x_pop_int, x_dup_ref, x_pop_ref, x_dup2, x_goto, x_nop, x_if_eq, x_if_ne, x_if_lt, x_if_ge, x_if_gt, x_if_le, x_icmp_eq, x_icmp_ne, x_icmp_lt, x_icmp_ge, x_icmp_gt, x_icmp_le, x_getfield, x_putfield, x_iaload, x_baload, x_laload, x_iastore, x_bastore, x_lastore, x_arraylength, x_virtual_0, x_virtual_1, x_virtual_2, x_virtual_3, x_virtual_4, x_virtual_5, x_static_0, x_static_1, x_static_2, x_static_3, x_static_4, x_static_5, x_static_6, x_min, x_max, x_abs, x_labs, x_tsw, oM_some, k_int, k_ref, k_long, k_null, vc_nil, vc_int, vc_ref, vc_long, tl_some, tl_none, h.o, List.getElem?_cons_succ, List.getElem?_cons_zero, List.length_cons, List.length_nil, List.set_cons_zero, List.set_cons_succ, true_and, and_true, x_zreturn (M := m_207) rfl]
  refine ⟨by decide, (r_findsRows h hk.1 hk.2.1).go (by omega) (fun r w1 hr => ?_)⟩
  obtain ⟨s1, A1, hW1, hE1, h68, hs1, hr⟩ := hr
  have hk1 := hk.rows hE1 h68 hs1
  have no : ¬ isW σ → Ru pD pY E (cL d) m_207 Q 24 [.ref 62] [] w1 := by
    intro q
    refine ru_at (b := k_207_24) (cl_mono _ _ _ _) rfl ?_
    simp only [k_207_24, x_iload_0, x_iload_1, x_iload_2, x_iload_3, x_iload_4, x_iload_5, x_iload_6, x_iload_7, x_iload_8, x_iload_9, x_iload_10, x_iload_11, x_lload_0, x_lload_1, x_lload_2, x_lload_3, x_lload_4, x_lload_5, x_lload_6, x_lload_7, x_lload_8, x_lload_9, x_lload_10, x_lload_11, x_aload_0, x_aload_1, x_aload_2, x_aload_3, x_aload_4, x_aload_5, x_aload_6, x_aload_7, x_aload_8, x_aload_9, x_aload_10, x_aload_11, x_istore_0, x_istore_1, x_istore_2, x_istore_3, x_istore_4, x_istore_5, x_istore_6, x_istore_7, x_istore_8, x_istore_9, x_istore_10, x_istore_11, x_astore_0, x_astore_1, x_astore_2, x_astore_3, x_astore_4, x_astore_5, x_astore_6, x_astore_7, x_astore_8, x_astore_9, x_astore_10, x_astore_11, x_lstore_0, x_lstore_1, x_lstore_2, x_lstore_3, x_lstore_4, x_lstore_5, x_lstore_6, x_lstore_7, x_lstore_8, x_lstore_9, x_lstore_10, x_iinc_0, x_iinc_1, x_iinc_2, x_iinc_3, x_iinc_4, x_iinc_5, x_iinc_6, x_iinc_7, x_iinc_8, x_iinc_9, x_iinc_10, x_iinc_11, x_iconst, x_bipush, x_sipush, x_lconst, x_ldc_w, x_ldc2_w, x_iadd, x_isub, x_imul, x_iand, x_ior, x_ixor, x_ishl, x_ishr, x_iushr, x_ladd, x_lsub, x_lmul, x_ineg, x_lneg, x_lcmp, x_i2l, x_l2i, x_idiv, x_irem, x_ldiv, x_lrem, x_dup_int, x_pop_int, x_dup_ref, x_pop_ref, x_dup2, x_goto, x_nop, x_if_eq, x_if_ne, x_if_lt, x_if_ge, x_if_gt, x_if_le, x_icmp_eq, x_icmp_ne, x_icmp_lt, x_icmp_ge, x_icmp_gt, x_icmp_le, x_getfield, x_putfield, x_iaload, x_baload, x_laload, x_iastore, x_bastore, x_lastore, x_arraylength, x_virtual_0, x_virtual_1, x_virtual_2, x_virtual_3, x_virtual_4, x_virtual_5, x_static_0, x_static_1, x_static_2, x_static_3, x_static_4, x_static_5, x_static_6, x_min, x_max, x_abs, x_labs, x_tsw, oM_some, k_int, k_ref, k_long, k_null, vc_nil, vc_int, vc_ref, vc_long, tl_some, tl_none, x_zreturn (M := m_207) rfl]
    refine ru_at (b := k_207_25) (cl_mono _ _ _ _) rfl ?_
    simp only [k_207_25, x_iload_0, x_iload_1, x_iload_2, x_iload_3, x_iload_4, x_iload_5, x_iload_6, x_iload_7, x_iload_8, x_iload_9, x_iload_10, x_iload_11, x_lload_0, x_lload_1, x_lload_2, x_lload_3, x_lload_4, x_lload_5, x_lload_6, x_lload_7, x_lload_8, x_lload_9, x_lload_10, x_lload_11, x_aload_0, x_aload_1, x_aload_2, x_aload_3, x_aload_4, x_aload_5, x_aload_6, x_aload_7, x_aload_8, x_aload_9, x_aload_10, x_aload_11, x_istore_0, x_istore_1, x_istore_2, x_istore_3, x_istore_4, x_istore_5, x_istore_6, x_istore_7, x_istore_8, x_istore_9, x_istore_10, x_istore_11, x_astore_0, x_astore_1, x_astore_2, x_astore_3, x_astore_4, x_astore_5, x_astore_6, x_astore_7, x_astore_8, x_astore_9, x_astore_10, x_astore_11, x_lstore_0, x_lstore_1, x_lstore_2, x_lstore_3, x_lstore_4, x_lstore_5, x_lstore_6, x_lstore_7, x_lstore_8, x_lstore_9, x_lstore_10, x_iinc_0, x_iinc_1, x_iinc_2, x_iinc_3, x_iinc_4, x_iinc_5, x_iinc_6, x_iinc_7, x_iinc_8, x_iinc_9, x_iinc_10, x_iinc_11, x_iconst, x_bipush, x_sipush, x_lconst, x_ldc_w, x_ldc2_w, x_iadd, x_isub, x_imul, x_iand, x_ior, x_ixor, x_ishl, x_ishr, x_iushr, x_ladd, x_lsub, x_lmul, x_ineg, x_lneg, x_lcmp, x_i2l, x_l2i, x_idiv, x_irem, x_ldiv, x_lrem, x_dup_int, x_pop_int, x_dup_ref, x_pop_ref, x_dup2, x_goto, x_nop, x_if_eq, x_if_ne, x_if_lt, x_if_ge, x_if_gt, x_if_le, x_icmp_eq, x_icmp_ne, x_icmp_lt, x_icmp_ge, x_icmp_gt, x_icmp_le, x_getfield, x_putfield, x_iaload, x_baload, x_laload, x_iastore, x_bastore, x_lastore, x_arraylength, x_virtual_0, x_virtual_1, x_virtual_2, x_virtual_3, x_virtual_4, x_virtual_5, x_static_0, x_static_1, x_static_2, x_static_3, x_static_4, x_static_5, x_static_6, x_min, x_max, x_abs, x_labs, x_tsw, oM_some, k_int, k_ref, k_long, k_null, vc_nil, vc_int, vc_ref, vc_long, tl_some, tl_none, x_zreturn (M := m_207) rfl]
    exact ⟨Or.inl rfl, hQ _ _ ⟨s1, A1, hW1, hk1, Or.inl ⟨rfl, q⟩⟩⟩
  rcases hr with ⟨rfl, hn⟩ | ⟨rfl, hs, hrw, hpa⟩
  · simp only [x_iload_0, x_iload_1, x_iload_2, x_iload_3, x_iload_4, x_iload_5, x_iload_6, x_iload_7, x_iload_8, x_iload_9, x_iload_10, x_iload_11, x_lload_0, x_lload_1, x_lload_2, x_lload_3, x_lload_4, x_lload_5, x_lload_6, x_lload_7, x_lload_8, x_lload_9, x_lload_10, x_lload_11, x_aload_0, x_aload_1, x_aload_2, x_aload_3, x_aload_4, x_aload_5, x_aload_6, x_aload_7, x_aload_8, x_aload_9, x_aload_10, x_aload_11, x_istore_0, x_istore_1, x_istore_2, x_istore_3, x_istore_4, x_istore_5, x_istore_6, x_istore_7, x_istore_8, x_istore_9, x_istore_10, x_istore_11, x_astore_0, x_astore_1, x_astore_2, x_astore_3, x_astore_4, x_astore_5, x_astore_6, x_astore_7, x_astore_8, x_astore_9, x_astore_10, x_astore_11, x_lstore_0, x_lstore_1, x_lstore_2, x_lstore_3, x_lstore_4, x_lstore_5, x_lstore_6, x_lstore_7, x_lstore_8, x_lstore_9, x_lstore_10, x_iinc_0, x_iinc_1, x_iinc_2, x_iinc_3, x_iinc_4, x_iinc_5, x_iinc_6, x_iinc_7, x_iinc_8, x_iinc_9, x_iinc_10, x_iinc_11, x_iconst, x_bipush, x_sipush, x_lconst, x_ldc_w, x_ldc2_w, x_iadd, x_isub, x_imul, x_iand, x_ior, x_ixor, x_ishl, x_ishr, x_iushr, x_ladd, x_lsub, x_lmul, x_ineg, x_lneg, x_lcmp, x_i2l, x_l2i, x_idiv, x_irem, x_ldiv, x_lrem, x_dup_int, x_pop_int, x_dup_ref, x_pop_ref, x_dup2, x_goto, x_nop, x_if_eq, x_if_ne, x_if_lt, x_if_ge, x_if_gt, x_if_le, x_icmp_eq, x_icmp_ne, x_icmp_lt, x_icmp_ge, x_icmp_gt, x_icmp_le, x_getfield, x_putfield, x_iaload, x_baload, x_laload, x_iastore, x_bastore, x_lastore, x_arraylength, x_virtual_0, x_virtual_1, x_virtual_2, x_virtual_3, x_virtual_4, x_virtual_5, x_static_0, x_static_1, x_static_2, x_static_3, x_static_4, x_static_5, x_static_6, x_min, x_max, x_abs, x_labs, x_tsw, oM_some, k_int, k_ref, k_long, k_null, vc_nil, vc_int, vc_ref, vc_long, tl_some, tl_none, ia_10, ia_00, not_true, not_false_iff, if_true, if_false]
    exact no (fun q => hn q.1)
  · have hlen := RwL_len hk.2.1 hs
    simp only [x_iload_0, x_iload_1, x_iload_2, x_iload_3, x_iload_4, x_iload_5, x_iload_6, x_iload_7, x_iload_8, x_iload_9, x_iload_10, x_iload_11, x_lload_0, x_lload_1, x_lload_2, x_lload_3, x_lload_4, x_lload_5, x_lload_6, x_lload_7, x_lload_8, x_lload_9, x_lload_10, x_lload_11, x_aload_0, x_aload_1, x_aload_2, x_aload_3, x_aload_4, x_aload_5, x_aload_6, x_aload_7, x_aload_8, x_aload_9, x_aload_10, x_aload_11, x_istore_0, x_istore_1, x_istore_2, x_istore_3, x_istore_4, x_istore_5, x_istore_6, x_istore_7, x_istore_8, x_istore_9, x_istore_10, x_istore_11, x_astore_0, x_astore_1, x_astore_2, x_astore_3, x_astore_4, x_astore_5, x_astore_6, x_astore_7, x_astore_8, x_astore_9, x_astore_10, x_astore_11, x_lstore_0, x_lstore_1, x_lstore_2, x_lstore_3, x_lstore_4, x_lstore_5, x_lstore_6, x_lstore_7, x_lstore_8, x_lstore_9, x_lstore_10, x_iinc_0, x_iinc_1, x_iinc_2, x_iinc_3, x_iinc_4, x_iinc_5, x_iinc_6, x_iinc_7, x_iinc_8, x_iinc_9, x_iinc_10, x_iinc_11, x_iconst, x_bipush, x_sipush, x_lconst, x_ldc_w, x_ldc2_w, x_iadd, x_isub, x_imul, x_iand, x_ior, x_ixor, x_ishl, x_ishr, x_iushr, x_ladd, x_lsub, x_lmul, x_ineg, x_lneg, x_lcmp, x_i2l, x_l2i, x_idiv, x_irem, x_ldiv, x_lrem, x_dup_int, x_pop_int, x_dup_ref, x_pop_ref, x_dup2, x_goto, x_nop, x_if_eq, x_if_ne, x_if_lt, x_if_ge, x_if_gt, x_if_le, x_icmp_eq, x_icmp_ne, x_icmp_lt, x_icmp_ge, x_icmp_gt, x_icmp_le, x_getfield, x_putfield, x_iaload, x_baload, x_laload, x_iastore, x_bastore, x_lastore, x_arraylength, x_virtual_0, x_virtual_1, x_virtual_2, x_virtual_3, x_virtual_4, x_virtual_5, x_static_0, x_static_1, x_static_2, x_static_3, x_static_4, x_static_5, x_static_6, x_min, x_max, x_abs, x_labs, x_tsw, oM_some, k_int, k_ref, k_long, k_null, vc_nil, vc_int, vc_ref, vc_long, tl_some, tl_none, ia_10, ia_00, not_true, not_false_iff, if_true, if_false, hW1.o, rF, List.getElem?_cons_succ, List.getElem?_cons_zero, List.length_cons, List.length_nil, List.set_cons_zero, List.set_cons_succ, true_and, and_true, hrw.2.2.1, hrw.1, ia_add]
    refine if_ne (ia_rgn _ (by omega)) ⟨by omega, by omega⟩ (fun q => no (fun p => q (by have := p.2; unfold rwA at this; omega))) (fun q => ?_)
    refine ru_at (b := k_207_25) (cl_mono _ _ _ _) rfl ?_
    simp only [k_207_25, x_iload_0, x_iload_1, x_iload_2, x_iload_3, x_iload_4, x_iload_5, x_iload_6, x_iload_7, x_iload_8, x_iload_9, x_iload_10, x_iload_11, x_lload_0, x_lload_1, x_lload_2, x_lload_3, x_lload_4, x_lload_5, x_lload_6, x_lload_7, x_lload_8, x_lload_9, x_lload_10, x_lload_11, x_aload_0, x_aload_1, x_aload_2, x_aload_3, x_aload_4, x_aload_5, x_aload_6, x_aload_7, x_aload_8, x_aload_9, x_aload_10, x_aload_11, x_istore_0, x_istore_1, x_istore_2, x_istore_3, x_istore_4, x_istore_5, x_istore_6, x_istore_7, x_istore_8, x_istore_9, x_istore_10, x_istore_11, x_astore_0, x_astore_1, x_astore_2, x_astore_3, x_astore_4, x_astore_5, x_astore_6, x_astore_7, x_astore_8, x_astore_9, x_astore_10, x_astore_11, x_lstore_0, x_lstore_1, x_lstore_2, x_lstore_3, x_lstore_4, x_lstore_5, x_lstore_6, x_lstore_7, x_lstore_8, x_lstore_9, x_lstore_10, x_iinc_0, x_iinc_1, x_iinc_2, x_iinc_3, x_iinc_4, x_iinc_5, x_iinc_6, x_iinc_7, x_iinc_8, x_iinc_9, x_iinc_10, x_iinc_11, x_iconst, x_bipush, x_sipush, x_lconst, x_ldc_w, x_ldc2_w, x_iadd, x_isub, x_imul, x_iand, x_ior, x_ixor, x_ishl, x_ishr, x_iushr, x_ladd, x_lsub, x_lmul, x_ineg, x_lneg, x_lcmp, x_i2l, x_l2i, x_idiv, x_irem, x_ldiv, x_lrem, x_dup_int, x_pop_int, x_dup_ref, x_pop_ref, x_dup2, x_goto, x_nop, x_if_eq, x_if_ne, x_if_lt, x_if_ge, x_if_gt, x_if_le, x_icmp_eq, x_icmp_ne, x_icmp_lt, x_icmp_ge, x_icmp_gt, x_icmp_le, x_getfield, x_putfield, x_iaload, x_baload, x_laload, x_iastore, x_bastore, x_lastore, x_arraylength, x_virtual_0, x_virtual_1, x_virtual_2, x_virtual_3, x_virtual_4, x_virtual_5, x_static_0, x_static_1, x_static_2, x_static_3, x_static_4, x_static_5, x_static_6, x_min, x_max, x_abs, x_labs, x_tsw, oM_some, k_int, k_ref, k_long, k_null, vc_nil, vc_int, vc_ref, vc_long, tl_some, tl_none, x_zreturn (M := m_207) rfl]
    exact ⟨Or.inr rfl, hQ _ _ ⟨s1, A1, hW1, hk1, Or.inr ⟨rfl, ⟨hs, by unfold rwA; omega⟩, hrw, hpa⟩⟩⟩
