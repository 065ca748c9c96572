/-! ===== PairSorts.Text ===== -/
def txO (w : aW) (sz cm op wn gt dg : Nat) (by_ le nu : Nat → Int32) : Prop := gO w 57 = some (9, [.int (Int32.ofInt sz), .int (Int32.ofInt cm), .int (Int32.ofInt op), .int (Int32.ofInt wn), .int (Int32.ofInt gt), .int (Int32.ofInt dg), .ref 58, .ref 59, .ref 60]) ∧ gI w 58 = some (100, by_) ∧ gI w 59 = some (34, le) ∧ gI w 60 = some (102, nu) ∧ 60 < w.length
theorem txO.setO {w : aW} {sz cm op wn gt dg sz' cm' op' wn' gt' dg' : Nat} {by_ le nu : Nat → Int32} (h : txO w sz cm op wn gt dg by_ le nu) : txO (sO w 57 9 [.int (Int32.ofInt sz'), .int (Int32.ofInt cm'), .int (Int32.ofInt op'), .int (Int32.ofInt wn'), .int (Int32.ofInt gt'), .int (Int32.ofInt dg'), .ref 58, .ref 59, .ref 60]) sz' cm' op' wn' gt' dg' by_ le nu := by
  obtain ⟨h1, h2, h3, h4, h5⟩ := h
  exact ⟨gO_sO_at _ _ _ _ (by omega), by rw [gI_sO_ne _ _ _ _ _ (by omega)]; exact h2, by rw [gI_sO_ne _ _ _ _ _ (by omega)]; exact h3, by rw [gI_sO_ne _ _ _ _ _ (by omega)]; exact h4, by rw [len_sO]; exact h5⟩
theorem txO.setB {w : aW} {sz cm op wn gt dg : Nat} {by_ le nu g : Nat → Int32} (h : txO w sz cm op wn gt dg by_ le nu) : txO (sI w 58 100 g) sz cm op wn gt dg g le nu := by
  obtain ⟨h1, h2, h3, h4, h5⟩ := h
  exact ⟨by rw [gO_sI_ne _ _ _ _ _ (by omega)]; exact h1, gI_sI_at _ _ _ _ (by omega), by rw [gI_sI_ne _ _ _ _ _ (by omega)]; exact h3, by rw [gI_sI_ne _ _ _ _ _ (by omega)]; exact h4, by rw [len_sI]; exact h5⟩
theorem txO.setL {w : aW} {sz cm op wn gt dg : Nat} {by_ le nu g : Nat → Int32} (h : txO w sz cm op wn gt dg by_ le nu) : txO (sI w 59 34 g) sz cm op wn gt dg by_ g nu := by
  obtain ⟨h1, h2, h3, h4, h5⟩ := h
  exact ⟨by rw [gO_sI_ne _ _ _ _ _ (by omega)]; exact h1, by rw [gI_sI_ne _ _ _ _ _ (by omega)]; exact h2, gI_sI_at _ _ _ _ (by omega), by rw [gI_sI_ne _ _ _ _ _ (by omega)]; exact h4, by rw [len_sI]; exact h5⟩
theorem txO.setN {w : aW} {sz cm op wn gt dg : Nat} {by_ le nu g : Nat → Int32} (h : txO w sz cm op wn gt dg by_ le nu) : txO (sI w 60 102 g) sz cm op wn gt dg by_ le g := by
  obtain ⟨h1, h2, h3, h4, h5⟩ := h
  exact ⟨by rw [gO_sI_ne _ _ _ _ _ (by omega)]; exact h1, by rw [gI_sI_ne _ _ _ _ _ (by omega)]; exact h2, by rw [gI_sI_ne _ _ _ _ _ (by omega)]; exact h3, gI_sI_at _ _ _ _ (by omega), by rw [len_sI]; exact h5⟩
theorem txO.keep {w w' : aW} {sz cm op wn gt dg lo hi : Nat} {by_ le nu : Nat → Int32} (h : txO w sz cm op wn gt dg by_ le nu) (q : eqr lo hi w w') (hs : 60 < lo ∨ hi < 57) : txO w' sz cm op wn gt dg by_ le nu := by
  obtain ⟨h1, h2, h3, h4, h5⟩ := h
  exact ⟨by rw [q.o (by omega)]; exact h1, by rw [q.i (by omega)]; exact h2, by rw [q.i (by omega)]; exact h3, by rw [q.i (by omega)]; exact h4, by rw [q.1]; exact h5⟩
/-- the bytes are the text's -/
def tBy (T : List Nat) (by_ : Nat → Int32) : Prop := T.length ≤ 100 ∧ (∀ c ∈ T, c ≤ 127) ∧ ∀ k c, T[k]? = some c → by_ k = Int32.ofInt ((c : Nat) : Int)
def TX (w : aW) (T : List Nat) : Prop := ∃ cm op wn gt dg by_ le nu, txO w T.length cm op wn gt dg by_ le nu ∧ tBy T by_
theorem TX.keep {w w' : aW} {T : List Nat} {lo hi : Nat} (h : TX w T) (q : eqr lo hi w w') (hs : 60 < lo ∨ hi < 57) : TX w' T := by
  obtain ⟨cm, op, wn, gt, dg, by_, le, nu, h1, h2⟩ := h
  exact ⟨cm, op, wn, gt, dg, by_, le, nu, h1.keep q hs, h2⟩
theorem c_append {w : aW} {T : List Nat} (h : TX w T) {c : Nat} (hc : c ≤ 127) : Ct 1 128 [.ref 57, .int (Int32.ofInt c)] w (fun r w' => eqr 57 60 w w' ∧ ((r = some (.int (Int32.ofInt 0)) ∧ T.length = 100 ∧ TX w' T) ∨ (r = some (.int (Int32.ofInt 1)) ∧ T.length < 100 ∧ TX w' (T ++ [c])))) := by
  obtain ⟨cm, op, wn, gt, dg, by_, le, nu, h1, h2⟩ := id h
  have hl := h2.1
  refine Ct.of (fun d hd Q hQ => cl_at (M := m_128) (L := [.ref 57, .int (Int32.ofInt c)]) rfl (Nat.le_of_ble_eq_true rfl) rfl (fun E hE => ?_))
  refine ru_at (b := k_128_0) (cl_mono _ _ _ _) rfl ?_
  simp only [k_128_0, x_iload_0, x_iload_1, x_iload_2, x_iload_3, x_iload_4, x_iload_5, x_iload_6, x_iload_7, x_iload_8, x_iload_9, x_iload_10, x_iload_11, x_lload_0, x_lload_1, x_lload_2, x_lload_3, x_lload_4, x_lload_5, x_lload_6, x_lload_7, x_lload_8, x_lload_9, x_lload_10, x_lload_11, x_aload_0, x_aload_1, x_aload_2, x_aload_3, x_aload_4, x_aload_5, x_aload_6, x_aload_7, x_aload_8, x_aload_9, x_aload_10, x_aload_11, x_istore_0, x_istore_1, x_istore_2, x_istore_3, x_istore_4, x_istore_5, x_istore_6, x_istore_7, x_istore_8, x_istore_9, x_istore_10, x_istore_11, x_astore_0, x_astore_1, x_astore_2, x_astore_3, x_astore_4, x_astore_5, x_astore_6, x_astore_7, x_astore_8, x_astore_9, x_astore_10, x_astore_11, x_lstore_0, x_lstore_1, x_lstore_2, x_lstore_3, x_lstore_4, x_lstore_5, x_lstore_6, x_lstore_7, x_lstore_8, x_lstore_9, x_lstore_10, x_iinc_0, x_iinc_1, x_iinc_2, x_iinc_3, x_iinc_4, x_iinc_5, x_iinc_6, x_iinc_7, x_iinc_8, x_iinc_9, x_iinc_10, x_iinc_11, x_iconst, x_bipush, x_sipush, x_lconst, x_ldc_w, x_ldc2_w, x_iadd, x_isub, x_imul, x_iand, x_ior, x_ixor, x_ishl, x_ishr, x_iushr, x_ladd, x_lsub, x_lmul, x_ineg, x_lneg, x_lcmp, x_i2l, x_l2i, x_idiv, x_irem, x_ldiv, x_lrem, x_dup_int, x_pop_int, x_dup_ref, x_pop_ref, x_dup2, x_goto, x_nop, x_if_eq, x_if_ne, x_if_lt, x_if_ge, x_if_gt, x_if_le, x_icmp_eq, x_icmp_ne, x_icmp_lt, x_icmp_ge, x_icmp_gt, x_icmp_le, x_getfield, x_putfield, x_iaload, x_baload, x_laload, x_iastore, x_bastore, x_lastore, x_arraylength, x_virtual_0, x_virtual_1, x_virtual_2, x_virtual_3, x_virtual_4, x_virtual_5, x_static_0, x_static_1, x_static_2, x_static_3, x_static_4, x_static_5, x_static_6, x_min, x_max, x_abs, x_labs, x_tsw, oM_some, k_int, k_ref, k_long, k_null, vc_nil, vc_int, vc_ref, vc_long, tl_some, tl_none, h1.1, List.getElem?_cons_succ, List.getElem?_cons_zero, List.length_cons, List.length_nil, List.set_cons_zero, List.set_cons_succ, true_and, and_true, x_zreturn (M := m_128) rfl]
  refine if_lt ⟨by omega, by omega⟩ ⟨by omega, by omega⟩ (fun hlt => ?_) (fun hge => ?_)
  · have h3 := h1.setB (g := upd by_ T.length (Int32.ofInt c))
    refine ru_at (b := k_128_11) (cl_mono _ _ _ _) rfl ?_
    simp only [k_128_11, x_iload_0, x_iload_1, x_iload_2, x_iload_3, x_iload_4, x_iload_5, x_iload_6, x_iload_7, x_iload_8, x_iload_9, x_iload_10, x_iload_11, x_lload_0, x_lload_1, x_lload_2, x_lload_3, x_lload_4, x_lload_5, x_lload_6, x_lload_7, x_lload_8, x_lload_9, x_lload_10, x_lload_11, x_aload_0, x_aload_1, x_aload_2, x_aload_3, x_aload_4, x_aload_5, x_aload_6, x_aload_7, x_aload_8, x_aload_9, x_aload_10, x_aload_11, x_istore_0, x_istore_1, x_istore_2, x_istore_3, x_istore_4, x_istore_5, x_istore_6, x_istore_7, x_istore_8, x_istore_9, x_istore_10, x_istore_11, x_astore_0, x_astore_1, x_astore_2, x_astore_3, x_astore_4, x_astore_5, x_astore_6, x_astore_7, x_astore_8, x_astore_9, x_astore_10, x_astore_11, x_lstore_0, x_lstore_1, x_lstore_2, x_lstore_3, x_lstore_4, x_lstore_5, x_lstore_6, x_lstore_7, x_lstore_8, x_lstore_9, x_lstore_10, x_iinc_0, x_iinc_1, x_iinc_2, x_iinc_3, x_iinc_4, x_iinc_5, x_iinc_6, x_iinc_7, x_iinc_8, x_iinc_9, x_iinc_10, x_iinc_11, x_iconst, x_bipush, x_sipush, x_lconst, x_ldc_w, x_ldc2_w, x_iadd, x_isub, x_imul, x_iand, x_ior, x_ixor, x_ishl, x_ishr, x_iushr, x_ladd, x_lsub, x_lmul, x_ineg, x_lneg, x_lcmp, x_i2l, x_l2i, x_idiv, x_irem, x_ldiv, x_lrem, x_dup_int, x_pop_int, x_dup_ref, x_pop_ref, x_dup2, x_goto, x_nop, x_if_eq, x_if_ne, x_if_lt, x_if_ge, x_if_gt, x_if_le, x_icmp_eq, x_icmp_ne, x_icmp_lt, x_icmp_ge, x_icmp_gt, x_icmp_le, x_getfield, x_putfield, x_iaload, x_baload, x_laload, x_iastore, x_bastore, x_lastore, x_arraylength, x_virtual_0, x_virtual_1, x_virtual_2, x_virtual_3, x_virtual_4, x_virtual_5, x_static_0, x_static_1, x_static_2, x_static_3, x_static_4, x_static_5, x_static_6, x_min, x_max, x_abs, x_labs, x_tsw, oM_some, k_int, k_ref, k_long, k_null, vc_nil, vc_int, vc_ref, vc_long, tl_some, tl_none, h1.1, h1.2.1, h3.1, List.getElem?_cons_succ, List.getElem?_cons_zero, List.length_cons, List.length_nil, List.set_cons_zero, List.set_cons_succ, true_and, and_true, ia_add, tn_of (show (T.length : Int) = (T.length : Nat) from rfl) (by omega), x_zreturn (M := m_128) rfl]
    refine ⟨inb_of (by omega) (by omega) (by omega), ⟨by decide, rfl⟩, Or.inr rfl, hQ _ _ ⟨(eqr.I _ (by omega) (by omega) _ _).tr (eqr.O _ (by omega) (by omega) _ _), Or.inr ⟨rfl, by omega, cm, op, wn, gt, dg, upd by_ T.length (Int32.ofInt c), le, nu, ?_, by simp; omega, fun x hx => ?_, fun k x hk => ?_⟩⟩⟩
    · have := h3.setO (sz' := (T ++ [c]).length) (cm' := cm) (op' := op) (wn' := wn) (gt' := gt) (dg' := dg)
      rw [show (((T ++ [c]).length : Nat) : Int) = (T.length : Int) + 1 by simp] at this
      exact this
    · rcases List.mem_append.mp hx with q | q
      · exact h2.2.1 x q
      · rw [List.mem_singleton.mp q]; exact hc
    · unfold upd
      rcases Nat.lt_trichotomy k T.length with e | e | e
      · rw [if_neg (by omega)]
        rw [List.getElem?_append_left e] at hk
        exact h2.2.2 k x hk
      · subst e
        rw [if_pos rfl]
        rw [List.getElem?_append_right (Nat.le_refl _), Nat.sub_self] at hk
        cases hk
        rfl
      · rw [List.getElem?_eq_none (by simp; omega)] at hk; cases hk
  · exact ⟨Or.inl rfl, hQ _ _ ⟨eqr.rf _ _ _, Or.inl ⟨rfl, by omega, h⟩⟩⟩
/-- the numbers that a command's letter wants -/
def nmb (c : Nat) : Nat := if c = 110 ∨ c = 100 ∨ c = 102 then 1 else if c = 114 then 2 else if c = 112 ∨ c = 109 then 3 else 0
theorem nmb_le (c : Nat) : nmb c ≤ 3 := by unfold nmb; split <;> (try split) <;> (try split) <;> omega
theorem c_numbersOf {w : aW} {c : Nat} (hc : c ≤ 127) : Ct 1 134 [.int (Int32.ofInt c)] w (fun r w' => r = some (.int (Int32.ofInt (nmb c))) ∧ w' = w) := by
  refine Ct.of (fun d hd Q hQ => cl_at (M := m_134) (L := [.int (Int32.ofInt c)]) rfl (Nat.le_of_ble_eq_true rfl) rfl (fun E hE => ?_))
  refine ru_at (b := k_134_0) (cl_mono _ _ _ _) rfl ?_
  simp only [k_134_0, x_iload_0, x_iload_1, x_iload_2, x_iload_3, x_iload_4, x_iload_5, x_iload_6, x_iload_7, x_iload_8, x_iload_9, x_iload_10, x_iload_11, x_lload_0, x_lload_1, x_lload_2, x_lload_3, x_lload_4, x_lload_5, x_lload_6, x_lload_7, x_lload_8, x_lload_9, x_lload_10, x_lload_11, x_aload_0, x_aload_1, x_aload_2, x_aload_3, x_aload_4, x_aload_5, x_aload_6, x_aload_7, x_aload_8, x_aload_9, x_aload_10, x_aload_11, x_istore_0, x_istore_1, x_istore_2, x_istore_3, x_istore_4, x_istore_5, x_istore_6, x_istore_7, x_istore_8, x_istore_9, x_istore_10, x_istore_11, x_astore_0, x_astore_1, x_astore_2, x_astore_3, x_astore_4, x_astore_5, x_astore_6, x_astore_7, x_astore_8, x_astore_9, x_astore_10, x_astore_11, x_lstore_0, x_lstore_1, x_lstore_2, x_lstore_3, x_lstore_4, x_lstore_5, x_lstore_6, x_lstore_7, x_lstore_8, x_lstore_9, x_lstore_10, x_iinc_0, x_iinc_1, x_iinc_2, x_iinc_3, x_iinc_4, x_iinc_5, x_iinc_6, x_iinc_7, x_iinc_8, x_iinc_9, x_iinc_10, x_iinc_11, x_iconst, x_bipush, x_sipush, x_lconst, x_ldc_w, x_ldc2_w, x_iadd, x_isub, x_imul, x_iand, x_ior, x_ixor, x_ishl, x_ishr, x_iushr, x_ladd, x_lsub, x_lmul, x_ineg, x_lneg, x_lcmp, x_i2l, x_l2i, x_idiv, x_irem, x_ldiv, x_lrem, x_dup_int, x_pop_int, x_dup_ref, x_pop_ref, x_dup2, x_goto, x_nop, x_if_eq, x_if_ne, x_if_lt, x_if_ge, x_if_gt, x_if_le, x_icmp_eq, x_icmp_ne, x_icmp_lt, x_icmp_ge, x_icmp_gt, x_icmp_le, x_getfield, x_putfield, x_iaload, x_baload, x_laload, x_iastore, x_bastore, x_lastore, x_arraylength, x_virtual_0, x_virtual_1, x_virtual_2, x_virtual_3, x_virtual_4, x_virtual_5, x_static_0, x_static_1, x_static_2, x_static_3, x_static_4, x_static_5, x_static_6, x_min, x_max, x_abs, x_labs, x_tsw, oM_some, k_int, k_ref, k_long, k_null, vc_nil, vc_int, vc_ref, vc_long, tl_some, tl_none, ia_to (a := (c : Int)) ⟨by omega, by omega⟩, x_ireturn (M := m_134) rfl]
  have r1 : nmb c = 1 → Ru pD pY E (cL d) m_134 Q 76 [.int (Int32.ofInt c)] [] w := by
    intro e
    refine ru_at (b := k_134_76) (cl_mono _ _ _ _) rfl ?_
    simp only [k_134_76, x_iload_0, x_iload_1, x_iload_2, x_iload_3, x_iload_4, x_iload_5, x_iload_6, x_iload_7, x_iload_8, x_iload_9, x_iload_10, x_iload_11, x_lload_0, x_lload_1, x_lload_2, x_lload_3, x_lload_4, x_lload_5, x_lload_6, x_lload_7, x_lload_8, x_lload_9, x_lload_10, x_lload_11, x_aload_0, x_aload_1, x_aload_2, x_aload_3, x_aload_4, x_aload_5, x_aload_6, x_aload_7, x_aload_8, x_aload_9, x_aload_10, x_aload_11, x_istore_0, x_istore_1, x_istore_2, x_istore_3, x_istore_4, x_istore_5, x_istore_6, x_istore_7, x_istore_8, x_istore_9, x_istore_10, x_istore_11, x_astore_0, x_astore_1, x_astore_2, x_astore_3, x_astore_4, x_astore_5, x_astore_6, x_astore_7, x_astore_8, x_astore_9, x_astore_10, x_astore_11, x_lstore_0, x_lstore_1, x_lstore_2, x_lstore_3, x_lstore_4, x_lstore_5, x_lstore_6, x_lstore_7, x_lstore_8, x_lstore_9, x_lstore_10, x_iinc_0, x_iinc_1, x_iinc_2, x_iinc_3, x_iinc_4, x_iinc_5, x_iinc_6, x_iinc_7, x_iinc_8, x_iinc_9, x_iinc_10, x_iinc_11, x_iconst, x_bipush, x_sipush, x_lconst, x_ldc_w, x_ldc2_w, x_iadd, x_isub, x_imul, x_iand, x_ior, x_ixor, x_ishl, x_ishr, x_iushr, x_ladd, x_lsub, x_lmul, x_ineg, x_lneg, x_lcmp, x_i2l, x_l2i, x_idiv, x_irem, x_ldiv, x_lrem, x_dup_int, x_pop_int, x_dup_ref, x_pop_ref, x_dup2, x_goto, x_nop, x_if_eq, x_if_ne, x_if_lt, x_if_ge, x_if_gt, x_if_le, x_icmp_eq, x_icmp_ne, x_icmp_lt, x_icmp_ge, x_icmp_gt, x_icmp_le, x_getfield, x_putfield, x_iaload, x_baload, x_laload, x_iastore, x_bastore, x_lastore, x_arraylength, x_virtual_0, x_virtual_1, x_virtual_2, x_virtual_3, x_virtual_4, x_virtual_5, x_static_0, x_static_1, x_static_2, x_static_3, x_static_4, x_static_5, x_static_6, x_min, x_max, x_abs, x_labs, x_tsw, oM_some, k_int, k_ref, k_long, k_null, vc_nil, vc_int, vc_ref, vc_long, tl_some, tl_none, x_ireturn (M := m_134) rfl]
    exact hQ _ _ ⟨by rw [e]; rfl, rfl⟩
  have r2 : nmb c = 2 → Ru pD pY E (cL d) m_134 Q 78 [.int (Int32.ofInt c)] [] w := by
    intro e
    refine ru_at (b := k_134_78) (cl_mono _ _ _ _) rfl ?_
    simp only [k_134_78, x_iload_0, x_iload_1, x_iload_2, x_iload_3, x_iload_4, x_iload_5, x_iload_6, x_iload_7, x_iload_8, x_iload_9, x_iload_10, x_iload_11, x_lload_0, x_lload_1, x_lload_2, x_lload_3, x_lload_4, x_lload_5, x_lload_6, x_lload_7, x_lload_8, x_lload_9, x_lload_10, x_lload_11, x_aload_0, x_aload_1, x_aload_2, x_aload_3, x_aload_4, x_aload_5, x_aload_6, x_aload_7, x_aload_8, x_aload_9, x_aload_10, x_aload_11, x_istore_0, x_istore_1, x_istore_2, x_istore_3, x_istore_4, x_istore_5, x_istore_6, x_istore_7, x_istore_8, x_istore_9, x_istore_10, x_istore_11, x_astore_0, x_astore_1, x_astore_2, x_astore_3, x_astore_4, x_astore_5, x_astore_6, x_astore_7, x_astore_8, x_astore_9, x_astore_10, x_astore_11, x_lstore_0, x_lstore_1, x_lstore_2, x_lstore_3, x_lstore_4, x_lstore_5, x_lstore_6, x_lstore_7, x_lstore_8, x_lstore_9, x_lstore_10, x_iinc_0, x_iinc_1, x_iinc_2, x_iinc_3, x_iinc_4, x_iinc_5, x_iinc_6, x_iinc_7, x_iinc_8, x_iinc_9, x_iinc_10, x_iinc_11, x_iconst, x_bipush, x_sipush, x_lconst, x_ldc_w, x_ldc2_w, x_iadd, x_isub, x_imul, x_iand, x_ior, x_ixor, x_ishl, x_ishr, x_iushr, x_ladd, x_lsub, x_lmul, x_ineg, x_lneg, x_lcmp, x_i2l, x_l2i, x_idiv, x_irem, x_ldiv, x_lrem, x_dup_int, x_pop_int, x_dup_ref, x_pop_ref, x_dup2, x_goto, x_nop, x_if_eq, x_if_ne, x_if_lt, x_if_ge, x_if_gt, x_if_le, x_icmp_eq, x_icmp_ne, x_icmp_lt, x_icmp_ge, x_icmp_gt, x_icmp_le, x_getfield, x_putfield, x_iaload, x_baload, x_laload, x_iastore, x_bastore, x_lastore, x_arraylength, x_virtual_0, x_virtual_1, x_virtual_2, x_virtual_3, x_virtual_4, x_virtual_5, x_static_0, x_static_1, x_static_2, x_static_3, x_static_4, x_static_5, x_static_6, x_min, x_max, x_abs, x_labs, x_tsw, oM_some, k_int, k_ref, k_long, k_null, vc_nil, vc_int, vc_ref, vc_long, tl_some, tl_none, x_ireturn (M := m_134) rfl]
    exact hQ _ _ ⟨by rw [e]; rfl, rfl⟩
  have r3 : nmb c = 3 → Ru pD pY E (cL d) m_134 Q 80 [.int (Int32.ofInt c)] [] w := by
    intro e
    refine ru_at (b := k_134_80) (cl_mono _ _ _ _) rfl ?_
    simp only [k_134_80, x_iload_0, x_iload_1, x_iload_2, x_iload_3, x_iload_4, x_iload_5, x_iload_6, x_iload_7, x_iload_8, x_iload_9, x_iload_10, x_iload_11, x_lload_0, x_lload_1, x_lload_2, x_lload_3, x_lload_4, x_lload_5, x_lload_6, x_lload_7, x_lload_8, x_lload_9, x_lload_10, x_lload_11, x_aload_0, x_aload_1, x_aload_2, x_aload_3, x_aload_4, x_aload_5, x_aload_6, x_aload_7, x_aload_8, x_aload_9, x_aload_10, x_aload_11, x_istore_0, x_istore_1, x_istore_2, x_istore_3, x_istore_4, x_istore_5, x_istore_6, x_istore_7, x_istore_8, x_istore_9, x_istore_10, x_istore_11, x_astore_0, x_astore_1, x_astore_2, x_astore_3, x_astore_4, x_astore_5, x_astore_6, x_astore_7, x_astore_8, x_astore_9, x_astore_10, x_astore_11, x_lstore_0, x_lstore_1, x_lstore_2, x_lstore_3, x_lstore_4, x_lstore_5, x_lstore_6, x_lstore_7, x_lstore_8, x_lstore_9, x_lstore_10, x_iinc_0, x_iinc_1, x_iinc_2, x_iinc_3, x_iinc_4, x_iinc_5, x_iinc_6, x_iinc_7, x_iinc_8, x_iinc_9, x_iinc_10, x_iinc_11, x_iconst, x_bipush, x_sipush, x_lconst, x_ldc_w, x_ldc2_w, x_iadd, x_isub, x_imul, x_iand, x_ior, x_ixor, x_ishl, x_ishr, x_iushr, x_ladd, x_lsub, x_lmul, x_ineg, x_lneg, x_lcmp, x_i2l, x_l2i, x_idiv, x_irem, x_ldiv, x_lrem, x_dup_int, x_pop_int, x_dup_ref, x_pop_ref, x_dup2, x_goto, x_nop, x_if_eq, x_if_ne, x_if_lt, x_if_ge, x_if_gt, x_if_le, x_icmp_eq, x_icmp_ne, x_icmp_lt, x_icmp_ge, x_icmp_gt, x_icmp_le, x_getfield, x_putfield, x_iaload, x_baload, x_laload, x_iastore, x_bastore, x_lastore, x_arraylength, x_virtual_0, x_virtual_1, x_virtual_2, x_virtual_3, x_virtual_4, x_virtual_5, x_static_0, x_static_1, x_static_2, x_static_3, x_static_4, x_static_5, x_static_6, x_min, x_max, x_abs, x_labs, x_tsw, oM_some, k_int, k_ref, k_long, k_null, vc_nil, vc_int, vc_ref, vc_long, tl_some, tl_none, x_ireturn (M := m_134) rfl]
    exact hQ _ _ ⟨by rw [e]; rfl, rfl⟩
  have r0 : nmb c = 0 → Ru pD pY E (cL d) m_134 Q 82 [.int (Int32.ofInt c)] [] w := by
    intro e
    refine ru_at (b := k_134_82) (cl_mono _ _ _ _) rfl ?_
    simp only [k_134_82, x_iload_0, x_iload_1, x_iload_2, x_iload_3, x_iload_4, x_iload_5, x_iload_6, x_iload_7, x_iload_8, x_iload_9, x_iload_10, x_iload_11, x_lload_0, x_lload_1, x_lload_2, x_lload_3, x_lload_4, x_lload_5, x_lload_6, x_lload_7, x_lload_8, x_lload_9, x_lload_10, x_lload_11, x_aload_0, x_aload_1, x_aload_2, x_aload_3, x_aload_4, x_aload_5, x_aload_6, x_aload_7, x_aload_8, x_aload_9, x_aload_10, x_aload_11, x_istore_0, x_istore_1, x_istore_2, x_istore_3, x_istore_4, x_istore_5, x_istore_6, x_istore_7, x_istore_8, x_istore_9, x_istore_10, x_istore_11, x_astore_0, x_astore_1, x_astore_2, x_astore_3, x_astore_4, x_astore_5, x_astore_6, x_astore_7, x_astore_8, x_astore_9, x_astore_10, x_astore_11, x_lstore_0, x_lstore_1, x_lstore_2, x_lstore_3, x_lstore_4, x_lstore_5, x_lstore_6, x_lstore_7, x_lstore_8, x_lstore_9, x_lstore_10, x_iinc_0, x_iinc_1, x_iinc_2, x_iinc_3, x_iinc_4, x_iinc_5, x_iinc_6, x_iinc_7, x_iinc_8, x_iinc_9, x_iinc_10, x_iinc_11, x_iconst, x_bipush, x_sipush, x_lconst, x_ldc_w, x_ldc2_w, x_iadd, x_isub, x_imul, x_iand, x_ior, x_ixor, x_ishl, x_ishr, x_iushr, x_ladd, x_lsub, x_lmul, x_ineg, x_lneg, x_lcmp, x_i2l, x_l2i, x_idiv, x_irem, x_ldiv, x_lrem, x_dup_int, x_pop_int, x_dup_ref, x_pop_ref, x_dup2, x_goto, x_nop, x_if_eq, x_if_ne, x_if_lt, x_if_ge, x_if_gt, x_if_le, x_icmp_eq, x_icmp_ne, x_icmp_lt, x_icmp_ge, x_icmp_gt, x_icmp_le, x_getfield, x_putfield, x_iaload, x_baload, x_laload, x_iastore, x_bastore, x_lastore, x_arraylength, x_virtual_0, x_virtual_1, x_virtual_2, x_virtual_3, x_virtual_4, x_virtual_5, x_static_0, x_static_1, x_static_2, x_static_3, x_static_4, x_static_5, x_static_6, x_min, x_max, x_abs, x_labs, x_tsw, oM_some, k_int, k_ref, k_long, k_null, vc_nil, vc_int, vc_ref, vc_long, tl_some, tl_none, x_ireturn (M := m_134) rfl]
    exact hQ _ _ ⟨by rw [e]; rfl, rfl⟩
  split
  · exact r0 (by unfold nmb; rw [if_neg (by omega), if_neg (by omega), if_neg (by omega)])
  · rcases (show c = 100 ∨ c = 101 ∨ c = 102 ∨ c = 103 ∨ c = 104 ∨ c = 105 ∨ c = 106 ∨ c = 107 ∨ c = 108 ∨ c = 109 ∨ c = 110 ∨ c = 111 ∨ c = 112 ∨ c = 113 ∨ c = 114 by omega) with rfl | rfl | rfl | rfl | rfl | rfl | rfl | rfl | rfl | rfl | rfl | rfl | rfl | rfl | rfl
    · exact r1 rfl
    · exact r0 rfl
    · exact r1 rfl
    · exact r0 rfl
    · exact r0 rfl
    · exact r0 rfl
    · exact r0 rfl
    · exact r0 rfl
    · exact r0 rfl
    · exact r3 rfl
    · exact r1 rfl
    · exact r0 rfl
    · exact r3 rfl
    · exact r0 rfl
    · exact r2 rfl
/-- the state of reading: commands, whether one is open, numbers wanted, got, digits; letters, numbers -/
abbrev pSt : Type := Nat × Nat × Nat × Nat × Nat × (Nat → Nat) × (Nat → Nat)
def updN (f : Nat → Nat) (k v : Nat) : Nat → Nat := fun j => if j = k then v else f j
def pTk (s : pSt) (c : Nat) : Option pSt := match s with
  | (cm, op, wn, gt, dg, le, nu) =>
    if c = 32 then some (cm, op, wn, gt, 0, le, nu)
    else if op = 0 then (if nmb c = 0 ∨ 34 ≤ cm then none else some (cm, 1, nmb c, 0, 0, updN le cm c, fun k => if 3 * cm ≤ k ∧ k < 3 * cm + 3 then 0 else nu k))
    else if 48 ≤ c ∧ c ≤ 57 then (if dg = 2 ∨ (dg = 0 ∧ wn ≤ gt) then none else if dg = 0 then some (cm, 1, wn, gt + 1, dg + 1, le, updN nu (3 * cm + gt) (10 * nu (3 * cm + gt) + (c - 48))) else some (cm, 1, wn, gt, dg + 1, le, updN nu (3 * cm + gt - 1) (10 * nu (3 * cm + gt - 1) + (c - 48))))
    else if c ≠ 59 ∨ gt < wn then none else some (cm + 1, 0, wn, gt, dg, le, nu)
/-- what holds of every state that is reached -/
def pOK (s : pSt) : Prop := match s with
  | (cm, op, wn, gt, dg, _, nu) => cm ≤ 34 ∧ (op = 0 ∨ (op = 1 ∧ cm < 34 ∧ wn ≤ 3 ∧ gt ≤ wn ∧ dg ≤ 2 ∧ (dg = 0 ∨ 1 ≤ gt) ∧ (dg = 1 → nu (3 * cm + gt - 1) ≤ 9) ∧ ∀ i, gt ≤ i → i < 3 → nu (3 * cm + i) = 0)) ∧ ∀ k, nu k ≤ 99
theorem pTk_ok {s s' : pSt} {c : Nat} (h : pOK s) (hs : pTk s c = some s') : pOK s' := by
  obtain ⟨cm, op, wn, gt, dg, le, nu⟩ := s
  obtain ⟨h1, h2, h3⟩ := h
  unfold pTk at hs
  simp only at hs
  split at hs
  · cases hs
    refine ⟨h1, ?_, h3⟩
    rcases h2 with h2 | ⟨a1, a2, a3, a4, a5, a6, a7, a8⟩
    · exact Or.inl h2
    · exact Or.inr ⟨a1, a2, a3, a4, by omega, Or.inl rfl, fun q => by omega, a8⟩
  · split at hs
    · split at hs
      · cases hs
      · cases hs
        have := nmb_le c
        refine ⟨h1, Or.inr ⟨rfl, by omega, this, by omega, by omega, Or.inl rfl, fun q => by omega, fun i _ hi => ?_⟩, fun k => ?_⟩
        · show (if 3 * cm ≤ 3 * cm + i ∧ 3 * cm + i < 3 * cm + 3 then 0 else nu (3 * cm + i)) = 0
          rw [if_pos (by omega)]
        · show (if 3 * cm ≤ k ∧ k < 3 * cm + 3 then 0 else nu k) ≤ 99
          split
          · omega
          · exact h3 k
    · rename_i hop
      obtain ⟨a1, a2, a3, a4, a5, a6, a7, a8⟩ := h2.resolve_left hop
      split at hs
      · split at hs
        · cases hs
        · split at hs
          · cases hs
            have e0 := a8 gt (Nat.le_refl _) (by omega)
            refine ⟨h1, Or.inr ⟨rfl, a2, a3, by omega, by omega, Or.inr (by omega), fun _ => ?_, fun i hi hi3 => ?_⟩, fun k => ?_⟩
            · simp only [updN]
              rw [if_pos (by omega), e0]
              omega
            · simp only [updN]
              rw [if_neg (by omega)]
              exact a8 i (by omega) hi3
            · simp only [updN]
              split
              · rw [e0]; omega
              · exact h3 k
          · cases hs
            have e0 := a7 (by omega)
            refine ⟨h1, Or.inr ⟨rfl, a2, a3, a4, by omega, Or.inr (by omega), fun q => by omega, fun i hi hi3 => ?_⟩, fun k => ?_⟩
            · simp only [updN]
              rw [if_neg (by omega)]
              exact a8 i hi hi3
            · simp only [updN]
              split
              · omega
              · exact h3 k
      · split at hs
        · cases hs
        · cases hs
          exact ⟨by omega, Or.inl rfl, h3⟩
