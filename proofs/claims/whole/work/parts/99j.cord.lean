/-! ===== PairSorts.Characters: what is asked of it; orders by steps ===== -/
/-- the class has found the rows of the scheme -/
def CR (w : aW) (n : Nat) (R : Nat → Nat → Nat) : Prop := CC w w n R (RwL n R) 0 a00
theorem CC.cr {v w : aW} {n : Nat} {R : Nat → Nat → Nat} (h : CC v w n R (RwL n R) 0 a00) : CR w n R := by
  obtain ⟨va, mu, vl, at_, h1, h2, h3, h4, h5⟩ := h
  exact ⟨va, mu, vl, at_, h1, eqr.rf _ _ _, h3, h4, h5⟩
theorem CR.keep {w w' : aW} {n : Nat} {R : Nat → Nat → Nat} {lo hi : Nat} (h : CR w n R) (q : eqr lo hi w w') (hs : 30 < lo ∨ hi < 26) : CR w' n R := by
  obtain ⟨va, mu, vl, at_, h1, h2, h3, h4, h5⟩ := h
  exact ⟨va, mu, vl, at_, h1.keep q hs, eqr.rf _ _ _, h3, h4, h5⟩
theorem c_value {w : aW} {n : Nat} {R : Nat → Nat → Nat} (h : CR w n R) (hR : tOK n R) (hs : isSc n R) {r i : Nat} (hr : r < (RwL n R).length) (hi : i ≤ gry R n) : Ct 1 83 [.ref 26, .int (Int32.ofInt r), .int (Int32.ofInt i)] w (fun q w' => q = some (.int (Int32.ofInt (rowN n R r i))) ∧ w' = w) := by
  obtain ⟨va, mu, vl, at_, h1, h2, h3, h4, h5⟩ := h
  have hL := gr_le hR
  have hl := RwL_len hR hs
  have e1 : tn (Int32.ofInt (6 * (r : Int) + (i : Int))) = 6 * r + i := tn_of (by omega) (by omega)
  refine Ct.of (fun d hd Q hQ => cl_at (M := m_83) (L := [.ref 26, .int (Int32.ofInt r), .int (Int32.ofInt i)]) rfl (Nat.le_of_ble_eq_true rfl) rfl (fun E hE => ?_))
  refine ru_at (b := k_83_0) (cl_mono _ _ _ _) rfl ?_
  simp only [k_83_0, x_iload_0, x_iload_1, x_iload_2, x_iload_3, x_iload_4, x_iload_5, x_iload_6, x_iload_7, x_iload_8, x_iload_9, x_iload_10, x_iload_11, x_lload_0, x_lload_1, x_lload_2, x_lload_3, x_lload_4, x_lload_5, x_lload_6, x_lload_7, x_lload_8, x_lload_9, x_lload_10, x_lload_11, x_aload_0, x_aload_1, x_aload_2, x_aload_3, x_aload_4, x_aload_5, x_aload_6, x_aload_7, x_aload_8, x_aload_9, x_aload_10, x_aload_11, x_istore_0, x_istore_1, x_istore_2, x_istore_3, x_istore_4, x_istore_5, x_istore_6, x_istore_7, x_istore_8, x_istore_9, x_istore_10, x_istore_11, x_astore_0, x_astore_1, x_astore_2, x_astore_3, x_astore_4, x_astore_5, x_astore_6, x_astore_7, x_astore_8, x_astore_9, x_astore_10, x_astore_11, x_lstore_0, x_lstore_1, x_lstore_2, x_lstore_3, x_lstore_4, x_lstore_5, x_lstore_6, x_lstore_7, x_lstore_8, x_lstore_9, x_lstore_10, x_iinc_0, x_iinc_1, x_iinc_2, x_iinc_3, x_iinc_4, x_iinc_5, x_iinc_6, x_iinc_7, x_iinc_8, x_iinc_9, x_iinc_10, x_iinc_11, x_iconst, x_bipush, x_sipush, x_lconst, x_ldc_w, x_ldc2_w, x_iadd, x_isub, x_imul, x_iand, x_ior, x_ixor, x_ishl, x_ishr, x_iushr, x_ladd, x_lsub, x_lmul, x_ineg, x_lneg, x_lcmp, x_i2l, x_l2i, x_idiv, x_irem, x_ldiv, x_lrem, x_dup_int, x_pop_int, x_dup_ref, x_pop_ref, x_dup2, x_goto, x_nop, x_if_eq, x_if_ne, x_if_lt, x_if_ge, x_if_gt, x_if_le, x_icmp_eq, x_icmp_ne, x_icmp_lt, x_icmp_ge, x_icmp_gt, x_icmp_le, x_getfield, x_putfield, x_iaload, x_baload, x_laload, x_iastore, x_bastore, x_lastore, x_arraylength, x_virtual_0, x_virtual_1, x_virtual_2, x_virtual_3, x_virtual_4, x_virtual_5, x_static_0, x_static_1, x_static_2, x_static_3, x_static_4, x_static_5, x_static_6, x_min, x_max, x_abs, x_labs, x_tsw, oM_some, k_int, k_ref, k_long, k_null, vc_nil, vc_int, vc_ref, vc_long, tl_some, tl_none, h1.1, h1.2.1, List.getElem?_cons_succ, List.getElem?_cons_zero, List.length_cons, List.length_nil, List.set_cons_zero, List.set_cons_succ, true_and, and_true, ia_mul, ia_add, e1, (h5 r _ (rowN_is hr)).1 i hi, x_ireturn (M := m_83) rfl]
  refine if_lt0 ⟨by omega, by omega⟩ (fun hcc => absurd hcc (by omega)) (fun hcc => ?_)
  refine if_le ⟨by omega, by omega⟩ ⟨by omega, by omega⟩ (fun hcc => absurd hcc (by omega)) (fun hcc => ?_)
  refine if_lt0 ⟨by omega, by omega⟩ (fun hcc => absurd hcc (by omega)) (fun hcc => ?_)
  refine if_le ⟨by omega, by omega⟩ ⟨by omega, by omega⟩ (fun hcc => absurd hcc (by omega)) (fun hcc => ?_)
  refine ⟨inb_of (by omega) (by omega) (by omega), ?_⟩
  refine ru_at (b := k_83_35) (cl_mono _ _ _ _) rfl ?_; simp only [k_83_35, x_iload_0, x_iload_1, x_iload_2, x_iload_3, x_iload_4, x_iload_5, x_iload_6, x_iload_7, x_iload_8, x_iload_9, x_iload_10, x_iload_11, x_lload_0, x_lload_1, x_lload_2, x_lload_3, x_lload_4, x_lload_5, x_lload_6, x_lload_7, x_lload_8, x_lload_9, x_lload_10, x_lload_11, x_aload_0, x_aload_1, x_aload_2, x_aload_3, x_aload_4, x_aload_5, x_aload_6, x_aload_7, x_aload_8, x_aload_9, x_aload_10, x_aload_11, x_istore_0, x_istore_1, x_istore_2, x_istore_3, x_istore_4, x_istore_5, x_istore_6, x_istore_7, x_istore_8, x_istore_9, x_istore_10, x_istore_11, x_astore_0, x_astore_1, x_astore_2, x_astore_3, x_astore_4, x_astore_5, x_astore_6, x_astore_7, x_astore_8, x_astore_9, x_astore_10, x_astore_11, x_lstore_0, x_lstore_1, x_lstore_2, x_lstore_3, x_lstore_4, x_lstore_5, x_lstore_6, x_lstore_7, x_lstore_8, x_lstore_9, x_lstore_10, x_iinc_0, x_iinc_1, x_iinc_2, x_iinc_3, x_iinc_4, x_iinc_5, x_iinc_6, x_iinc_7, x_iinc_8, x_iinc_9, x_iinc_10, x_iinc_11, x_iconst, x_bipush, x_sipush, x_lconst, x_ldc_w, x_ldc2_w, x_iadd, x_isub, x_imul, x_iand, x_ior, x_ixor, x_ishl, x_ishr, x_iushr, x_ladd, x_lsub, x_lmul, x_ineg, x_lneg, x_lcmp, x_i2l, x_l2i, x_idiv, x_irem, x_ldiv, x_lrem, x_dup_int, x_pop_int, x_dup_ref, x_pop_ref, x_dup2, x_goto, x_nop, x_if_eq, x_if_ne, x_if_lt, x_if_ge, x_if_gt, x_if_le, x_icmp_eq, x_icmp_ne, x_icmp_lt, x_icmp_ge, x_icmp_gt, x_icmp_le, x_getfield, x_putfield, x_iaload, x_baload, x_laload, x_iastore, x_bastore, x_lastore, x_arraylength, x_virtual_0, x_virtual_1, x_virtual_2, x_virtual_3, x_virtual_4, x_virtual_5, x_static_0, x_static_1, x_static_2, x_static_3, x_static_4, x_static_5, x_static_6, x_min, x_max, x_abs, x_labs, x_tsw, oM_some, k_int, k_ref, k_long, k_null, vc_nil, vc_int, vc_ref, vc_long, tl_some, tl_none, x_ireturn (M := m_83) rfl]
  exact hQ _ _ ⟨rfl, rfl⟩
theorem c_mult {w : aW} {n : Nat} {R : Nat → Nat → Nat} (h : CR w n R) (hR : tOK n R) (hs : isSc n R) {r : Nat} (hr : r < (RwL n R).length) : Ct 1 85 [.ref 26, .int (Int32.ofInt r)] w (fun q w' => q = some (.int (Int32.ofInt (tmF n R (rowN n R r)))) ∧ w' = w) := by
  obtain ⟨va, mu, vl, at_, h1, h2, h3, h4, h5⟩ := h
  have hL := gr_le hR
  have hl := RwL_len hR hs
  refine Ct.of (fun d hd Q hQ => cl_at (M := m_85) (L := [.ref 26, .int (Int32.ofInt r)]) rfl (Nat.le_of_ble_eq_true rfl) rfl (fun E hE => ?_))
  refine ru_at (b := k_85_0) (cl_mono _ _ _ _) rfl ?_
  simp only [k_85_0, x_iload_0, x_iload_1, x_iload_2, x_iload_3, x_iload_4, x_iload_5, x_iload_6, x_iload_7, x_iload_8, x_iload_9, x_iload_10, x_iload_11, x_lload_0, x_lload_1, x_lload_2, x_lload_3, x_lload_4, x_lload_5, x_lload_6, x_lload_7, x_lload_8, x_lload_9, x_lload_10, x_lload_11, x_aload_0, x_aload_1, x_aload_2, x_aload_3, x_aload_4, x_aload_5, x_aload_6, x_aload_7, x_aload_8, x_aload_9, x_aload_10, x_aload_11, x_istore_0, x_istore_1, x_istore_2, x_istore_3, x_istore_4, x_istore_5, x_istore_6, x_istore_7, x_istore_8, x_istore_9, x_istore_10, x_istore_11, x_astore_0, x_astore_1, x_astore_2, x_astore_3, x_astore_4, x_astore_5, x_astore_6, x_astore_7, x_astore_8, x_astore_9, x_astore_10, x_astore_11, x_lstore_0, x_lstore_1, x_lstore_2, x_lstore_3, x_lstore_4, x_lstore_5, x_lstore_6, x_lstore_7, x_lstore_8, x_lstore_9, x_lstore_10, x_iinc_0, x_iinc_1, x_iinc_2, x_iinc_3, x_iinc_4, x_iinc_5, x_iinc_6, x_iinc_7, x_iinc_8, x_iinc_9, x_iinc_10, x_iinc_11, x_iconst, x_bipush, x_sipush, x_lconst, x_ldc_w, x_ldc2_w, x_iadd, x_isub, x_imul, x_iand, x_ior, x_ixor, x_ishl, x_ishr, x_iushr, x_ladd, x_lsub, x_lmul, x_ineg, x_lneg, x_lcmp, x_i2l, x_l2i, x_idiv, x_irem, x_ldiv, x_lrem, x_dup_int, x_pop_int, x_dup_ref, x_pop_ref, x_dup2, x_goto, x_nop, x_if_eq, x_if_ne, x_if_lt, x_if_ge, x_if_gt, x_if_le, x_icmp_eq, x_icmp_ne, x_icmp_lt, x_icmp_ge, x_icmp_gt, x_icmp_le, x_getfield, x_putfield, x_iaload, x_baload, x_laload, x_iastore, x_bastore, x_lastore, x_arraylength, x_virtual_0, x_virtual_1, x_virtual_2, x_virtual_3, x_virtual_4, x_virtual_5, x_static_0, x_static_1, x_static_2, x_static_3, x_static_4, x_static_5, x_static_6, x_min, x_max, x_abs, x_labs, x_tsw, oM_some, k_int, k_ref, k_long, k_null, vc_nil, vc_int, vc_ref, vc_long, tl_some, tl_none, h1.1, h1.2.2.1, List.getElem?_cons_succ, List.getElem?_cons_zero, List.length_cons, List.length_nil, List.set_cons_zero, List.set_cons_succ, true_and, and_true, tn_of (show (r : Int) = (r : Nat) from rfl) (show r < 2147483648 by omega), (h5 r _ (rowN_is hr)).2, x_ireturn (M := m_85) rfl]
  refine if_lt0 ⟨by omega, by omega⟩ (fun hcc => absurd hcc (by omega)) (fun hcc => ?_)
  refine if_le ⟨by omega, by omega⟩ ⟨by omega, by omega⟩ (fun hcc => absurd hcc (by omega)) (fun hcc => ?_)
  refine ⟨inb_of (by omega) (by omega) (by omega), ?_⟩
  refine ru_at (b := k_85_20) (cl_mono _ _ _ _) rfl ?_; simp only [k_85_20, x_iload_0, x_iload_1, x_iload_2, x_iload_3, x_iload_4, x_iload_5, x_iload_6, x_iload_7, x_iload_8, x_iload_9, x_iload_10, x_iload_11, x_lload_0, x_lload_1, x_lload_2, x_lload_3, x_lload_4, x_lload_5, x_lload_6, x_lload_7, x_lload_8, x_lload_9, x_lload_10, x_lload_11, x_aload_0, x_aload_1, x_aload_2, x_aload_3, x_aload_4, x_aload_5, x_aload_6, x_aload_7, x_aload_8, x_aload_9, x_aload_10, x_aload_11, x_istore_0, x_istore_1, x_istore_2, x_istore_3, x_istore_4, x_istore_5, x_istore_6, x_istore_7, x_istore_8, x_istore_9, x_istore_10, x_istore_11, x_astore_0, x_astore_1, x_astore_2, x_astore_3, x_astore_4, x_astore_5, x_astore_6, x_astore_7, x_astore_8, x_astore_9, x_astore_10, x_astore_11, x_lstore_0, x_lstore_1, x_lstore_2, x_lstore_3, x_lstore_4, x_lstore_5, x_lstore_6, x_lstore_7, x_lstore_8, x_lstore_9, x_lstore_10, x_iinc_0, x_iinc_1, x_iinc_2, x_iinc_3, x_iinc_4, x_iinc_5, x_iinc_6, x_iinc_7, x_iinc_8, x_iinc_9, x_iinc_10, x_iinc_11, x_iconst, x_bipush, x_sipush, x_lconst, x_ldc_w, x_ldc2_w, x_iadd, x_isub, x_imul, x_iand, x_ior, x_ixor, x_ishl, x_ishr, x_iushr, x_ladd, x_lsub, x_lmul, x_ineg, x_lneg, x_lcmp, x_i2l, x_l2i, x_idiv, x_irem, x_ldiv, x_lrem, x_dup_int, x_pop_int, x_dup_ref, x_pop_ref, x_dup2, x_goto, x_nop, x_if_eq, x_if_ne, x_if_lt, x_if_ge, x_if_gt, x_if_le, x_icmp_eq, x_icmp_ne, x_icmp_lt, x_icmp_ge, x_icmp_gt, x_icmp_le, x_getfield, x_putfield, x_iaload, x_baload, x_laload, x_iastore, x_bastore, x_lastore, x_arraylength, x_virtual_0, x_virtual_1, x_virtual_2, x_virtual_3, x_virtual_4, x_virtual_5, x_static_0, x_static_1, x_static_2, x_static_3, x_static_4, x_static_5, x_static_6, x_min, x_max, x_abs, x_labs, x_tsw, oM_some, k_int, k_ref, k_long, k_null, vc_nil, vc_int, vc_ref, vc_long, tl_some, tl_none, x_ireturn (M := m_85) rfl]
  exact hQ _ _ ⟨rfl, rfl⟩
theorem c_valency {w : aW} {n : Nat} {R : Nat → Nat → Nat} (h : CR w n R) (hR : tOK n R) {i : Nat} (hi : i ≤ gry R n) : Ct 1 78 [.ref 26, .int (Int32.ofInt i)] w (fun q w' => q = some (.int (Int32.ofInt (kv n R i))) ∧ w' = w) := by
  obtain ⟨va, mu, vl, at_, h1, h2, h3, h4, h5⟩ := h
  exact c_vlc h1 hi (gr_le hR) (h3 i hi)
theorem c_krein {w : aW} {n : Nat} {R : Nat → Nat → Nat} (h : CR w n R) (hR : tOK n R) (hs : isSc n R) {x y z : Nat} (hx : x < (RwL n R).length) (hy : y < (RwL n R).length) (hz : z < (RwL n R).length) : Ct 3 91 [.ref 26, .int (Int32.ofInt x), .int (Int32.ofInt y), .int (Int32.ofInt z)] w (fun q w' => q = some (.long (Int64.ofInt (kre n R (rowN n R x) (rowN n R y) (rowN n R z)))) ∧ w' = w) := by
  obtain ⟨va, mu, vl, at_, h1, h2, h3, h4, h5⟩ := id h
  have hL := gr_le hR
  have sx := RwL_sm hR (List.mem_of_getElem? (rowN_is hx))
  have sy := RwL_sm hR (List.mem_of_getElem? (rowN_is hy))
  have sz := RwL_sm hR (List.mem_of_getElem? (rowN_is hz))
  refine Ct.of (fun d hd Q hQ => cl_at (M := m_91) (L := [.ref 26, .int (Int32.ofInt x), .int (Int32.ofInt y), .int (Int32.ofInt z), .null, .null, .null]) rfl (Nat.le_of_ble_eq_true rfl) rfl (fun E hE => ?_))
  refine ru_at (b := k_91_0) (cl_mono _ _ _ _) rfl ?_
  simp only [k_91_0, x_iload_0, x_iload_1, x_iload_2, x_iload_3, x_iload_4, x_iload_5, x_iload_6, x_iload_7, x_iload_8, x_iload_9, x_iload_10, x_iload_11, x_lload_0, x_lload_1, x_lload_2, x_lload_3, x_lload_4, x_lload_5, x_lload_6, x_lload_7, x_lload_8, x_lload_9, x_lload_10, x_lload_11, x_aload_0, x_aload_1, x_aload_2, x_aload_3, x_aload_4, x_aload_5, x_aload_6, x_aload_7, x_aload_8, x_aload_9, x_aload_10, x_aload_11, x_istore_0, x_istore_1, x_istore_2, x_istore_3, x_istore_4, x_istore_5, x_istore_6, x_istore_7, x_istore_8, x_istore_9, x_istore_10, x_istore_11, x_astore_0, x_astore_1, x_astore_2, x_astore_3, x_astore_4, x_astore_5, x_astore_6, x_astore_7, x_astore_8, x_astore_9, x_astore_10, x_astore_11, x_lstore_0, x_lstore_1, x_lstore_2, x_lstore_3, x_lstore_4, x_lstore_5, x_lstore_6, x_lstore_7, x_lstore_8, x_lstore_9, x_lstore_10, x_iinc_0, x_iinc_1, x_iinc_2, x_iinc_3, x_iinc_4, x_iinc_5, x_iinc_6, x_iinc_7, x_iinc_8, x_iinc_9, x_iinc_10, x_iinc_11, x_iconst, x_bipush, x_sipush, x_lconst, x_ldc_w, x_ldc2_w, x_iadd, x_isub, x_imul, x_iand, x_ior, x_ixor, x_ishl, x_ishr, x_iushr, x_ladd, x_lsub, x_lmul, x_ineg, x_lneg, x_lcmp, x_i2l, x_l2i, x_idiv, x_irem, x_ldiv, x_lrem, x_dup_int, x_pop_int, x_dup_ref, x_pop_ref, x_dup2, x_goto, x_nop, x_if_eq, x_if_ne, x_if_lt, x_if_ge, x_if_gt, x_if_le, x_icmp_eq, x_icmp_ne, x_icmp_lt, x_icmp_ge, x_icmp_gt, x_icmp_le, x_getfield, x_putfield, x_iaload, x_baload, x_laload, x_iastore, x_bastore, x_lastore, x_arraylength, x_virtual_0, x_virtual_1, x_virtual_2, x_virtual_3, x_virtual_4, x_virtual_5, x_static_0, x_static_1, x_static_2, x_static_3, x_static_4, x_static_5, x_static_6, x_min, x_max, x_abs, x_labs, x_tsw, oM_some, k_int, k_ref, k_long, k_null, vc_nil, vc_int, vc_ref, vc_long, tl_some, tl_none, jk_0, x_lreturn (M := m_91) rfl]
  refine up_to (R := fun i => Ru pD pY E (cL d) m_91 Q 6 [.ref 26, .int (Int32.ofInt x), .int (Int32.ofInt y), .int (Int32.ofInt z), .long (Int64.ofInt (sg (fun i => rowN n R x i * rowN n R y i * rowN n R z i * ((shK n R i : Int) * (shK n R i : Int))) i)), .null, .int (Int32.ofInt (i : Int))] [] w) (lo := 0) (hi := gry R n + 1) (Nat.zero_le _) (fun i _ hi ih => ?_) ?_
  · have b1 := ab_13 (sx i (by omega)) (sy i (by omega))
    have b2 := mul_b (X := 169) (Y := 13) (by omega) (by omega) b1 (sz i (by omega))
    refine ru_at (b := k_91_6) (cl_mono _ _ _ _) rfl ?_
    simp only [k_91_6, x_iload_0, x_iload_1, x_iload_2, x_iload_3, x_iload_4, x_iload_5, x_iload_6, x_iload_7, x_iload_8, x_iload_9, x_iload_10, x_iload_11, x_lload_0, x_lload_1, x_lload_2, x_lload_3, x_lload_4, x_lload_5, x_lload_6, x_lload_7, x_lload_8, x_lload_9, x_lload_10, x_lload_11, x_aload_0, x_aload_1, x_aload_2, x_aload_3, x_aload_4, x_aload_5, x_aload_6, x_aload_7, x_aload_8, x_aload_9, x_aload_10, x_aload_11, x_istore_0, x_istore_1, x_istore_2, x_istore_3, x_istore_4, x_istore_5, x_istore_6, x_istore_7, x_istore_8, x_istore_9, x_istore_10, x_istore_11, x_astore_0, x_astore_1, x_astore_2, x_astore_3, x_astore_4, x_astore_5, x_astore_6, x_astore_7, x_astore_8, x_astore_9, x_astore_10, x_astore_11, x_lstore_0, x_lstore_1, x_lstore_2, x_lstore_3, x_lstore_4, x_lstore_5, x_lstore_6, x_lstore_7, x_lstore_8, x_lstore_9, x_lstore_10, x_iinc_0, x_iinc_1, x_iinc_2, x_iinc_3, x_iinc_4, x_iinc_5, x_iinc_6, x_iinc_7, x_iinc_8, x_iinc_9, x_iinc_10, x_iinc_11, x_iconst, x_bipush, x_sipush, x_lconst, x_ldc_w, x_ldc2_w, x_iadd, x_isub, x_imul, x_iand, x_ior, x_ixor, x_ishl, x_ishr, x_iushr, x_ladd, x_lsub, x_lmul, x_ineg, x_lneg, x_lcmp, x_i2l, x_l2i, x_idiv, x_irem, x_ldiv, x_lrem, x_dup_int, x_pop_int, x_dup_ref, x_pop_ref, x_dup2, x_goto, x_nop, x_if_eq, x_if_ne, x_if_lt, x_if_ge, x_if_gt, x_if_le, x_icmp_eq, x_icmp_ne, x_icmp_lt, x_icmp_ge, x_icmp_gt, x_icmp_le, x_getfield, x_putfield, x_iaload, x_baload, x_laload, x_iastore, x_bastore, x_lastore, x_arraylength, x_virtual_0, x_virtual_1, x_virtual_2, x_virtual_3, x_virtual_4, x_virtual_5, x_static_0, x_static_1, x_static_2, x_static_3, x_static_4, x_static_5, x_static_6, x_min, x_max, x_abs, x_labs, x_tsw, oM_some, k_int, k_ref, k_long, k_null, vc_nil, vc_int, vc_ref, vc_long, tl_some, tl_none, h1.1, List.getElem?_cons_succ, List.getElem?_cons_zero, List.length_cons, List.length_nil, List.set_cons_zero, List.set_cons_succ, true_and, and_true, x_lreturn (M := m_91) rfl]
    refine if_lt ⟨by omega, by omega⟩ ⟨by omega, by omega⟩ (fun q => absurd q (by omega)) (fun _ => ?_)
    refine ⟨by decide, (c_value h hR hs hx (i := i) (by omega)).go (by omega) (fun r w_ hr => ?_)⟩
    obtain ⟨rfl, hw_⟩ := hr
    rw [hw_]
    clear hw_ w_
    simp only [x_iload_0, x_iload_1, x_iload_2, x_iload_3, x_iload_4, x_iload_5, x_iload_6, x_iload_7, x_iload_8, x_iload_9, x_iload_10, x_iload_11, x_lload_0, x_lload_1, x_lload_2, x_lload_3, x_lload_4, x_lload_5, x_lload_6, x_lload_7, x_lload_8, x_lload_9, x_lload_10, x_lload_11, x_aload_0, x_aload_1, x_aload_2, x_aload_3, x_aload_4, x_aload_5, x_aload_6, x_aload_7, x_aload_8, x_aload_9, x_aload_10, x_aload_11, x_istore_0, x_istore_1, x_istore_2, x_istore_3, x_istore_4, x_istore_5, x_istore_6, x_istore_7, x_istore_8, x_istore_9, x_istore_10, x_istore_11, x_astore_0, x_astore_1, x_astore_2, x_astore_3, x_astore_4, x_astore_5, x_astore_6, x_astore_7, x_astore_8, x_astore_9, x_astore_10, x_astore_11, x_lstore_0, x_lstore_1, x_lstore_2, x_lstore_3, x_lstore_4, x_lstore_5, x_lstore_6, x_lstore_7, x_lstore_8, x_lstore_9, x_lstore_10, x_iinc_0, x_iinc_1, x_iinc_2, x_iinc_3, x_iinc_4, x_iinc_5, x_iinc_6, x_iinc_7, x_iinc_8, x_iinc_9, x_iinc_10, x_iinc_11, x_iconst, x_bipush, x_sipush, x_lconst, x_ldc_w, x_ldc2_w, x_iadd, x_isub, x_imul, x_iand, x_ior, x_ixor, x_ishl, x_ishr, x_iushr, x_ladd, x_lsub, x_lmul, x_ineg, x_lneg, x_lcmp, x_i2l, x_l2i, x_idiv, x_irem, x_ldiv, x_lrem, x_dup_int, x_pop_int, x_dup_ref, x_pop_ref, x_dup2, x_goto, x_nop, x_if_eq, x_if_ne, x_if_lt, x_if_ge, x_if_gt, x_if_le, x_icmp_eq, x_icmp_ne, x_icmp_lt, x_icmp_ge, x_icmp_gt, x_icmp_le, x_getfield, x_putfield, x_iaload, x_baload, x_laload, x_iastore, x_bastore, x_lastore, x_arraylength, x_virtual_0, x_virtual_1, x_virtual_2, x_virtual_3, x_virtual_4, x_virtual_5, x_static_0, x_static_1, x_static_2, x_static_3, x_static_4, x_static_5, x_static_6, x_min, x_max, x_abs, x_labs, x_tsw, oM_some, k_int, k_ref, k_long, k_null, vc_nil, vc_int, vc_ref, vc_long, tl_some, tl_none, h1.1, List.getElem?_cons_succ, List.getElem?_cons_zero, List.length_cons, List.length_nil, List.set_cons_zero, List.set_cons_succ, true_and, and_true]
    refine ⟨by decide, (c_value h hR hs hy (i := i) (by omega)).go (by omega) (fun r w_ hr => ?_)⟩
    obtain ⟨rfl, hw_⟩ := hr
    rw [hw_]
    clear hw_ w_
    simp only [x_iload_0, x_iload_1, x_iload_2, x_iload_3, x_iload_4, x_iload_5, x_iload_6, x_iload_7, x_iload_8, x_iload_9, x_iload_10, x_iload_11, x_lload_0, x_lload_1, x_lload_2, x_lload_3, x_lload_4, x_lload_5, x_lload_6, x_lload_7, x_lload_8, x_lload_9, x_lload_10, x_lload_11, x_aload_0, x_aload_1, x_aload_2, x_aload_3, x_aload_4, x_aload_5, x_aload_6, x_aload_7, x_aload_8, x_aload_9, x_aload_10, x_aload_11, x_istore_0, x_istore_1, x_istore_2, x_istore_3, x_istore_4, x_istore_5, x_istore_6, x_istore_7, x_istore_8, x_istore_9, x_istore_10, x_istore_11, x_astore_0, x_astore_1, x_astore_2, x_astore_3, x_astore_4, x_astore_5, x_astore_6, x_astore_7, x_astore_8, x_astore_9, x_astore_10, x_astore_11, x_lstore_0, x_lstore_1, x_lstore_2, x_lstore_3, x_lstore_4, x_lstore_5, x_lstore_6, x_lstore_7, x_lstore_8, x_lstore_9, x_lstore_10, x_iinc_0, x_iinc_1, x_iinc_2, x_iinc_3, x_iinc_4, x_iinc_5, x_iinc_6, x_iinc_7, x_iinc_8, x_iinc_9, x_iinc_10, x_iinc_11, x_iconst, x_bipush, x_sipush, x_lconst, x_ldc_w, x_ldc2_w, x_iadd, x_isub, x_imul, x_iand, x_ior, x_ixor, x_ishl, x_ishr, x_iushr, x_ladd, x_lsub, x_lmul, x_ineg, x_lneg, x_lcmp, x_i2l, x_l2i, x_idiv, x_irem, x_ldiv, x_lrem, x_dup_int, x_pop_int, x_dup_ref, x_pop_ref, x_dup2, x_goto, x_nop, x_if_eq, x_if_ne, x_if_lt, x_if_ge, x_if_gt, x_if_le, x_icmp_eq, x_icmp_ne, x_icmp_lt, x_icmp_ge, x_icmp_gt, x_icmp_le, x_getfield, x_putfield, x_iaload, x_baload, x_laload, x_iastore, x_bastore, x_lastore, x_arraylength, x_virtual_0, x_virtual_1, x_virtual_2, x_virtual_3, x_virtual_4, x_virtual_5, x_static_0, x_static_1, x_static_2, x_static_3, x_static_4, x_static_5, x_static_6, x_min, x_max, x_abs, x_labs, x_tsw, oM_some, k_int, k_ref, k_long, k_null, vc_nil, vc_int, vc_ref, vc_long, tl_some, tl_none, h1.1, List.getElem?_cons_succ, List.getElem?_cons_zero, List.length_cons, List.length_nil, List.set_cons_zero, List.set_cons_succ, true_and, and_true, ia_mul]
    refine ⟨by decide, (c_value h hR hs hz (i := i) (by omega)).go (by omega) (fun r w_ hr => ?_)⟩
    obtain ⟨rfl, hw_⟩ := hr
    rw [hw_]
    clear hw_ w_
    simp only [x_iload_0, x_iload_1, x_iload_2, x_iload_3, x_iload_4, x_iload_5, x_iload_6, x_iload_7, x_iload_8, x_iload_9, x_iload_10, x_iload_11, x_lload_0, x_lload_1, x_lload_2, x_lload_3, x_lload_4, x_lload_5, x_lload_6, x_lload_7, x_lload_8, x_lload_9, x_lload_10, x_lload_11, x_aload_0, x_aload_1, x_aload_2, x_aload_3, x_aload_4, x_aload_5, x_aload_6, x_aload_7, x_aload_8, x_aload_9, x_aload_10, x_aload_11, x_istore_0, x_istore_1, x_istore_2, x_istore_3, x_istore_4, x_istore_5, x_istore_6, x_istore_7, x_istore_8, x_istore_9, x_istore_10, x_istore_11, x_astore_0, x_astore_1, x_astore_2, x_astore_3, x_astore_4, x_astore_5, x_astore_6, x_astore_7, x_astore_8, x_astore_9, x_astore_10, x_astore_11, x_lstore_0, x_lstore_1, x_lstore_2, x_lstore_3, x_lstore_4, x_lstore_5, x_lstore_6, x_lstore_7, x_lstore_8, x_lstore_9, x_lstore_10, x_iinc_0, x_iinc_1, x_iinc_2, x_iinc_3, x_iinc_4, x_iinc_5, x_iinc_6, x_iinc_7, x_iinc_8, x_iinc_9, x_iinc_10, x_iinc_11, x_iconst, x_bipush, x_sipush, x_lconst, x_ldc_w, x_ldc2_w, x_iadd, x_isub, x_imul, x_iand, x_ior, x_ixor, x_ishl, x_ishr, x_iushr, x_ladd, x_lsub, x_lmul, x_ineg, x_lneg, x_lcmp, x_i2l, x_l2i, x_idiv, x_irem, x_ldiv, x_lrem, x_dup_int, x_pop_int, x_dup_ref, x_pop_ref, x_dup2, x_goto, x_nop, x_if_eq, x_if_ne, x_if_lt, x_if_ge, x_if_gt, x_if_le, x_icmp_eq, x_icmp_ne, x_icmp_lt, x_icmp_ge, x_icmp_gt, x_icmp_le, x_getfield, x_putfield, x_iaload, x_baload, x_laload, x_iastore, x_bastore, x_lastore, x_arraylength, x_virtual_0, x_virtual_1, x_virtual_2, x_virtual_3, x_virtual_4, x_virtual_5, x_static_0, x_static_1, x_static_2, x_static_3, x_static_4, x_static_5, x_static_6, x_min, x_max, x_abs, x_labs, x_tsw, oM_some, k_int, k_ref, k_long, k_null, vc_nil, vc_int, vc_ref, vc_long, tl_some, tl_none, h1.1, List.getElem?_cons_succ, List.getElem?_cons_zero, List.length_cons, List.length_nil, List.set_cons_zero, List.set_cons_succ, true_and, and_true, ia_mul, ia_j (a := rowN n R x i * rowN n R y i * rowN n R z i) ⟨by omega, by omega⟩]
    refine ⟨by decide, (c_share (v := w) h1 hR hs h3 (i := i) (by omega)).go (by omega) (fun r w_ hr => ?_)⟩
    obtain ⟨rfl, hw_⟩ := hr
    rw [hw_]
    clear hw_ w_
    simp only [x_iload_0, x_iload_1, x_iload_2, x_iload_3, x_iload_4, x_iload_5, x_iload_6, x_iload_7, x_iload_8, x_iload_9, x_iload_10, x_iload_11, x_lload_0, x_lload_1, x_lload_2, x_lload_3, x_lload_4, x_lload_5, x_lload_6, x_lload_7, x_lload_8, x_lload_9, x_lload_10, x_lload_11, x_aload_0, x_aload_1, x_aload_2, x_aload_3, x_aload_4, x_aload_5, x_aload_6, x_aload_7, x_aload_8, x_aload_9, x_aload_10, x_aload_11, x_istore_0, x_istore_1, x_istore_2, x_istore_3, x_istore_4, x_istore_5, x_istore_6, x_istore_7, x_istore_8, x_istore_9, x_istore_10, x_istore_11, x_astore_0, x_astore_1, x_astore_2, x_astore_3, x_astore_4, x_astore_5, x_astore_6, x_astore_7, x_astore_8, x_astore_9, x_astore_10, x_astore_11, x_lstore_0, x_lstore_1, x_lstore_2, x_lstore_3, x_lstore_4, x_lstore_5, x_lstore_6, x_lstore_7, x_lstore_8, x_lstore_9, x_lstore_10, x_iinc_0, x_iinc_1, x_iinc_2, x_iinc_3, x_iinc_4, x_iinc_5, x_iinc_6, x_iinc_7, x_iinc_8, x_iinc_9, x_iinc_10, x_iinc_11, x_iconst, x_bipush, x_sipush, x_lconst, x_ldc_w, x_ldc2_w, x_iadd, x_isub, x_imul, x_iand, x_ior, x_ixor, x_ishl, x_ishr, x_iushr, x_ladd, x_lsub, x_lmul, x_ineg, x_lneg, x_lcmp, x_i2l, x_l2i, x_idiv, x_irem, x_ldiv, x_lrem, x_dup_int, x_pop_int, x_dup_ref, x_pop_ref, x_dup2, x_goto, x_nop, x_if_eq, x_if_ne, x_if_lt, x_if_ge, x_if_gt, x_if_le, x_icmp_eq, x_icmp_ne, x_icmp_lt, x_icmp_ge, x_icmp_gt, x_icmp_le, x_getfield, x_putfield, x_iaload, x_baload, x_laload, x_iastore, x_bastore, x_lastore, x_arraylength, x_virtual_0, x_virtual_1, x_virtual_2, x_virtual_3, x_virtual_4, x_virtual_5, x_static_0, x_static_1, x_static_2, x_static_3, x_static_4, x_static_5, x_static_6, x_min, x_max, x_abs, x_labs, x_tsw, oM_some, k_int, k_ref, k_long, k_null, vc_nil, vc_int, vc_ref, vc_long, tl_some, tl_none, h1.1, List.getElem?_cons_succ, List.getElem?_cons_zero, List.length_cons, List.length_nil, List.set_cons_zero, List.set_cons_succ, true_and, and_true, ja_mul]
    refine ⟨by decide, (c_share (v := w) h1 hR hs h3 (i := i) (by omega)).go (by omega) (fun r w_ hr => ?_)⟩
    obtain ⟨rfl, hw_⟩ := hr
    rw [hw_]
    clear hw_ w_
    simp only [x_iload_0, x_iload_1, x_iload_2, x_iload_3, x_iload_4, x_iload_5, x_iload_6, x_iload_7, x_iload_8, x_iload_9, x_iload_10, x_iload_11, x_lload_0, x_lload_1, x_lload_2, x_lload_3, x_lload_4, x_lload_5, x_lload_6, x_lload_7, x_lload_8, x_lload_9, x_lload_10, x_lload_11, x_aload_0, x_aload_1, x_aload_2, x_aload_3, x_aload_4, x_aload_5, x_aload_6, x_aload_7, x_aload_8, x_aload_9, x_aload_10, x_aload_11, x_istore_0, x_istore_1, x_istore_2, x_istore_3, x_istore_4, x_istore_5, x_istore_6, x_istore_7, x_istore_8, x_istore_9, x_istore_10, x_istore_11, x_astore_0, x_astore_1, x_astore_2, x_astore_3, x_astore_4, x_astore_5, x_astore_6, x_astore_7, x_astore_8, x_astore_9, x_astore_10, x_astore_11, x_lstore_0, x_lstore_1, x_lstore_2, x_lstore_3, x_lstore_4, x_lstore_5, x_lstore_6, x_lstore_7, x_lstore_8, x_lstore_9, x_lstore_10, x_iinc_0, x_iinc_1, x_iinc_2, x_iinc_3, x_iinc_4, x_iinc_5, x_iinc_6, x_iinc_7, x_iinc_8, x_iinc_9, x_iinc_10, x_iinc_11, x_iconst, x_bipush, x_sipush, x_lconst, x_ldc_w, x_ldc2_w, x_iadd, x_isub, x_imul, x_iand, x_ior, x_ixor, x_ishl, x_ishr, x_iushr, x_ladd, x_lsub, x_lmul, x_ineg, x_lneg, x_lcmp, x_i2l, x_l2i, x_idiv, x_irem, x_ldiv, x_lrem, x_dup_int, x_pop_int, x_dup_ref, x_pop_ref, x_dup2, x_goto, x_nop, x_if_eq, x_if_ne, x_if_lt, x_if_ge, x_if_gt, x_if_le, x_icmp_eq, x_icmp_ne, x_icmp_lt, x_icmp_ge, x_icmp_gt, x_icmp_le, x_getfield, x_putfield, x_iaload, x_baload, x_laload, x_iastore, x_bastore, x_lastore, x_arraylength, x_virtual_0, x_virtual_1, x_virtual_2, x_virtual_3, x_virtual_4, x_virtual_5, x_static_0, x_static_1, x_static_2, x_static_3, x_static_4, x_static_5, x_static_6, x_min, x_max, x_abs, x_labs, x_tsw, oM_some, k_int, k_ref, k_long, k_null, vc_nil, vc_int, vc_ref, vc_long, tl_some, tl_none, ja_mul, ja_add, ia_add]
    rw [Int.mul_assoc (rowN n R x i * rowN n R y i * rowN n R z i)]
    exact ih
  · refine ru_at (b := k_91_6) (cl_mono _ _ _ _) rfl ?_
    simp only [k_91_6, x_iload_0, x_iload_1, x_iload_2, x_iload_3, x_iload_4, x_iload_5, x_iload_6, x_iload_7, x_iload_8, x_iload_9, x_iload_10, x_iload_11, x_lload_0, x_lload_1, x_lload_2, x_lload_3, x_lload_4, x_lload_5, x_lload_6, x_lload_7, x_lload_8, x_lload_9, x_lload_10, x_lload_11, x_aload_0, x_aload_1, x_aload_2, x_aload_3, x_aload_4, x_aload_5, x_aload_6, x_aload_7, x_aload_8, x_aload_9, x_aload_10, x_aload_11, x_istore_0, x_istore_1, x_istore_2, x_istore_3, x_istore_4, x_istore_5, x_istore_6, x_istore_7, x_istore_8, x_istore_9, x_istore_10, x_istore_11, x_astore_0, x_astore_1, x_astore_2, x_astore_3, x_astore_4, x_astore_5, x_astore_6, x_astore_7, x_astore_8, x_astore_9, x_astore_10, x_astore_11, x_lstore_0, x_lstore_1, x_lstore_2, x_lstore_3, x_lstore_4, x_lstore_5, x_lstore_6, x_lstore_7, x_lstore_8, x_lstore_9, x_lstore_10, x_iinc_0, x_iinc_1, x_iinc_2, x_iinc_3, x_iinc_4, x_iinc_5, x_iinc_6, x_iinc_7, x_iinc_8, x_iinc_9, x_iinc_10, x_iinc_11, x_iconst, x_bipush, x_sipush, x_lconst, x_ldc_w, x_ldc2_w, x_iadd, x_isub, x_imul, x_iand, x_ior, x_ixor, x_ishl, x_ishr, x_iushr, x_ladd, x_lsub, x_lmul, x_ineg, x_lneg, x_lcmp, x_i2l, x_l2i, x_idiv, x_irem, x_ldiv, x_lrem, x_dup_int, x_pop_int, x_dup_ref, x_pop_ref, x_dup2, x_goto, x_nop, x_if_eq, x_if_ne, x_if_lt, x_if_ge, x_if_gt, x_if_le, x_icmp_eq, x_icmp_ne, x_icmp_lt, x_icmp_ge, x_icmp_gt, x_icmp_le, x_getfield, x_putfield, x_iaload, x_baload, x_laload, x_iastore, x_bastore, x_lastore, x_arraylength, x_virtual_0, x_virtual_1, x_virtual_2, x_virtual_3, x_virtual_4, x_virtual_5, x_static_0, x_static_1, x_static_2, x_static_3, x_static_4, x_static_5, x_static_6, x_min, x_max, x_abs, x_labs, x_tsw, oM_some, k_int, k_ref, k_long, k_null, vc_nil, vc_int, vc_ref, vc_long, tl_some, tl_none, h1.1, List.getElem?_cons_succ, List.getElem?_cons_zero, List.length_cons, List.length_nil, List.set_cons_zero, List.set_cons_succ, true_and, and_true, x_lreturn (M := m_91) rfl]
    refine if_lt ⟨by omega, by omega⟩ ⟨by omega, by omega⟩ (fun _ => ?_) (fun q => absurd q (by omega))
    refine ru_at (b := k_91_64) (cl_mono _ _ _ _) rfl ?_
    simp only [k_91_64, x_iload_0, x_iload_1, x_iload_2, x_iload_3, x_iload_4, x_iload_5, x_iload_6, x_iload_7, x_iload_8, x_iload_9, x_iload_10, x_iload_11, x_lload_0, x_lload_1, x_lload_2, x_lload_3, x_lload_4, x_lload_5, x_lload_6, x_lload_7, x_lload_8, x_lload_9, x_lload_10, x_lload_11, x_aload_0, x_aload_1, x_aload_2, x_aload_3, x_aload_4, x_aload_5, x_aload_6, x_aload_7, x_aload_8, x_aload_9, x_aload_10, x_aload_11, x_istore_0, x_istore_1, x_istore_2, x_istore_3, x_istore_4, x_istore_5, x_istore_6, x_istore_7, x_istore_8, x_istore_9, x_istore_10, x_istore_11, x_astore_0, x_astore_1, x_astore_2, x_astore_3, x_astore_4, x_astore_5, x_astore_6, x_astore_7, x_astore_8, x_astore_9, x_astore_10, x_astore_11, x_lstore_0, x_lstore_1, x_lstore_2, x_lstore_3, x_lstore_4, x_lstore_5, x_lstore_6, x_lstore_7, x_lstore_8, x_lstore_9, x_lstore_10, x_iinc_0, x_iinc_1, x_iinc_2, x_iinc_3, x_iinc_4, x_iinc_5, x_iinc_6, x_iinc_7, x_iinc_8, x_iinc_9, x_iinc_10, x_iinc_11, x_iconst, x_bipush, x_sipush, x_lconst, x_ldc_w, x_ldc2_w, x_iadd, x_isub, x_imul, x_iand, x_ior, x_ixor, x_ishl, x_ishr, x_iushr, x_ladd, x_lsub, x_lmul, x_ineg, x_lneg, x_lcmp, x_i2l, x_l2i, x_idiv, x_irem, x_ldiv, x_lrem, x_dup_int, x_pop_int, x_dup_ref, x_pop_ref, x_dup2, x_goto, x_nop, x_if_eq, x_if_ne, x_if_lt, x_if_ge, x_if_gt, x_if_le, x_icmp_eq, x_icmp_ne, x_icmp_lt, x_icmp_ge, x_icmp_gt, x_icmp_le, x_getfield, x_putfield, x_iaload, x_baload, x_laload, x_iastore, x_bastore, x_lastore, x_arraylength, x_virtual_0, x_virtual_1, x_virtual_2, x_virtual_3, x_virtual_4, x_virtual_5, x_static_0, x_static_1, x_static_2, x_static_3, x_static_4, x_static_5, x_static_6, x_min, x_max, x_abs, x_labs, x_tsw, oM_some, k_int, k_ref, k_long, k_null, vc_nil, vc_int, vc_ref, vc_long, tl_some, tl_none, x_lreturn (M := m_91) rfl]
    exact hQ _ _ ⟨rfl, rfl⟩
/-- the step to place b is right -/
def fitA (fl : Nat → Nat → Nat → Prop) (g : Nat → Nat) (b : Nat) : Prop := ∀ a, a < b → (b = a + 1 → fl (g 1) (g a) (g b) ∧ fl (g 1) (g b) (g a)) ∧ (b ≠ a + 1 → ¬ fl (g 1) (g a) (g b) ∧ ¬ fl (g 1) (g b) (g a))
theorem stp_fit {L : Nat} {fl : Nat → Nat → Nat → Prop} {g : Nat → Nat} : stp L fl g ↔ ∀ b, b ≤ L → fitA fl g b := by
  constructor
  · intro h b hb a ha
    have h1 := h a b (by omega) hb (by omega)
    have h2 := h b a hb (by omega) (by omega)
    exact ⟨fun e => ⟨h1.mp (by omega), h2.mp (by omega)⟩, fun e => ⟨fun q => absurd (h1.mpr q) (by omega), fun q => absurd (h2.mpr q) (by omega)⟩⟩
  · intro h a b ha hb hne
    rcases Nat.lt_or_ge a b with q | q
    · have := h b hb a q
      constructor
      · intro e; exact (this.1 (by omega)).1
      · intro hf
        refine Decidable.byContradiction fun e => (this.2 (by omega)).1 hf
    · have := h a ha b (by omega)
      constructor
      · intro e; exact (this.1 (by omega)).2
      · intro hf
        refine Decidable.byContradiction fun e => (this.2 (by omega)).2 hf
noncomputable def cDf (L : Nat) (fl : Nat → Nat → Nat → Prop) : Nat → List Nat → List (List Nat)
  | 0, pre => [pre]
  | r + 1, pre => (List.range L).flatMap (fun c => if (c + 1) ∈ pre then [] else cif (fitA fl (fnO (pre ++ [c + 1])) (pre.length + 1)) (cDf L fl r (pre ++ [c + 1])) [])
theorem fnO_app {o t : List Nat} {k : Nat} (h : k ≤ o.length) : fnO (o ++ t) k = fnO o k := by
  cases k with
  | zero => rfl
  | succ k =>
    show (o ++ t).getD k 0 = o.getD k 0
    simp only [List.getD_eq_getElem?_getD]
    rw [List.getElem?_append_left (by omega)]
theorem dfs_pre {L : Nat} : ∀ {r : Nat} {pre o : List Nat}, o ∈ dfs L r pre → ∃ t, o = pre ++ t ∧ t.length = r := by
  intro r
  induction r with
  | zero => intro pre o h; exact ⟨[], by rw [List.mem_singleton.mp h]; simp, rfl⟩
  | succ r ih =>
    intro pre o h
    unfold dfs at h
    obtain ⟨c, -, hc⟩ := List.mem_flatMap.mp h
    split at hc
    · cases hc
    · obtain ⟨t, e, ht⟩ := ih hc
      exact ⟨[c + 1] ++ t, by rw [e, List.append_assoc], by simp [ht]⟩
theorem ofl_app {L : Nat} {fl : Nat → Nat → Nat → Prop} : ∀ (a b : List (List Nat)), ofl L fl (a ++ b) = ofl L fl a ++ ofl L fl b := by
  intro a
  induction a with
  | nil => intro b; rfl
  | cons o t ih =>
    intro b
    have e1 : ∀ t, ofl L fl (o :: t) = cif (stp L fl (fnO o)) [o] [] ++ ofl L fl t := fun _ => rfl
    rw [List.cons_append, e1, e1, ih, List.append_assoc]
theorem ofl_fm {L : Nat} {fl : Nat → Nat → Nat → Prop} {f : Nat → List (List Nat)} : ∀ m, ofl L fl ((List.range m).flatMap f) = (List.range m).flatMap (fun c => ofl L fl (f c)) := by
  intro m
  induction m with
  | zero => rfl
  | succ m ih => rw [List.range_succ, List.flatMap_append, List.flatMap_append, ofl_app, ih]; simp
theorem ofl_none {L : Nat} {fl : Nat → Nat → Nat → Prop} : ∀ (l : List (List Nat)), (∀ o ∈ l, ¬ stp L fl (fnO o)) → ofl L fl l = [] := by
  intro l
  induction l with
  | nil => intro _; rfl
  | cons o t ih => intro h; unfold ofl; rw [cif_n (h o List.mem_cons_self), ih (fun o ho => h o (List.mem_cons_of_mem _ ho))]; rfl
theorem ofl_c {L : Nat} {fl : Nat → Nat → Nat → Prop} : ∀ {r : Nat} {pre : List Nat}, pre.length + r = L → (∀ b, b ≤ pre.length → fitA fl (fnO pre) b) → ofl L fl (dfs L r pre) = cDf L fl r pre := by
  intro r
  induction r with
  | zero =>
    intro pre hl hf
    unfold dfs cDf ofl
    rw [cif_y (stp_fit.mpr (fun b hb => hf b (by omega)))]
    rfl
  | succ r ih =>
    intro pre hl hf
    unfold dfs cDf
    rw [ofl_fm]
    refine fm_cg (fun c hc => ?_)
    by_cases hm : (c + 1) ∈ pre
    · rw [if_pos hm, if_pos hm]; rfl
    · rw [if_neg hm, if_neg hm]
      have hl2 : (pre ++ [c + 1]).length = pre.length + 1 := by simp
      by_cases hfit : fitA fl (fnO (pre ++ [c + 1])) (pre.length + 1)
      · rw [cif_y hfit]
        refine ih (by rw [hl2]; omega) (fun b hb => ?_)
        by_cases e : b = pre.length + 1
        · rw [e]; exact hfit
        · have hb2 : b ≤ pre.length := by omega
          intro a ha
          have := hf b hb2 a ha
          have e1 : fnO (pre ++ [c + 1]) 1 = fnO pre 1 := fnO_app (by omega)
          rw [e1, fnO_app (show a ≤ pre.length by omega), fnO_app hb2]
          exact this
      · rw [cif_n hfit]
        refine ofl_none _ (fun o ho hst => hfit ?_)
        obtain ⟨t, e, -⟩ := dfs_pre ho
        have h1 := stp_fit.mp hst (pre.length + 1) (by omega)
        intro a ha
        have := h1 a ha
        rw [e, fnO_app (show 1 ≤ (pre ++ [c + 1]).length by omega), fnO_app (show a ≤ (pre ++ [c + 1]).length by omega), fnO_app (show pre.length + 1 ≤ (pre ++ [c + 1]).length by omega)] at this
        exact this
/-- the orders, as the class finds them -/
theorem OrL_c (L : Nat) (fl : Nat → Nat → Nat → Prop) : OrL L fl = cDf L fl L [] := ofl_c (by simp) (fun b hb a ha => by simp at hb; omega)
