/-! ===== PairSortsModel: nextMet; all lines in their order ===== -/
def incM (m N : Nat) (f : Nat → Nat) : Prop := (∀ k : Nat, k < m → f k < N) ∧ ∀ i j : Nat, i < j → j < m → f i < f j
def lx (m : Nat) (f g : Nat → Nat) : Prop := ∃ k, k < m ∧ (∀ j : Nat, j < k → f j = g j) ∧ f k < g k
def nxM (m N : Nat) (f f' : Nat → Nat) : Prop := ∃ k, k < m ∧ (∀ j : Nat, k < j → j < m → f j = N - m + j) ∧ f k ≠ N - m + k ∧ (∀ j : Nat, j < k → f' j = f j) ∧ ∀ j : Nat, k ≤ j → j < m → f' j = f k + 1 + (j - k)
theorem inc_le {m N : Nat} {f : Nat → Nat} (h : incM m N f) : ∀ {i j : Nat}, i ≤ j → j < m → f i + (j - i) ≤ f j := by
  intro i j hij hj
  obtain ⟨d, rfl⟩ : ∃ d, j = i + d := ⟨j - i, by omega⟩
  clear hij
  induction d with
  | zero => show f i + (i - i) ≤ f i; omega
  | succ d ih =>
    have h1 := ih (by omega)
    have h2 := h.2 (i + d) (i + (d + 1)) (by omega) hj
    omega
theorem inc_top {m N : Nat} {f : Nat → Nat} (h : incM m N f) {k : Nat} (hk : k < m) : f k + m ≤ N + k := by
  have h1 := inc_le h (i := k) (j := m - 1) (by omega) (by omega)
  have h2 := h.1 (m - 1) (by omega)
  omega
theorem nxM.incr {m N : Nat} {f f' : Nat → Nat} (hN : m ≤ N) (h : incM m N f) (q : nxM m N f f') : incM m N f' := by
  obtain ⟨k, hk, h1, h2, h3, h4⟩ := q
  have t := inc_top h hk
  refine ⟨fun j hj => ?_, fun i j hij hj => ?_⟩
  · by_cases e : j < k
    · rw [h3 j e]; exact h.1 j hj
    · rw [h4 j (by omega) hj]; omega
  · by_cases e : j < k
    · rw [h3 j e, h3 i (by omega)]; exact h.2 i j hij hj
    · rw [h4 j (by omega) hj]
      by_cases e2 : i < k
      · rw [h3 i e2]
        have := h.2 i k e2 hk
        omega
      · rw [h4 i (by omega) (by omega)]; omega
theorem nxM.lex {m N : Nat} {f f' : Nat → Nat} (q : nxM m N f f') : lx m f f' := by
  obtain ⟨k, hk, h1, h2, h3, h4⟩ := q
  exact ⟨k, hk, fun j hj => (h3 j hj).symm, by rw [h4 k (Nat.le_refl _) hk]; omega⟩
theorem nxM.gap {m N : Nat} {f f' g : Nat → Nat} (hN : m ≤ N) (hg : incM m N g) (q : nxM m N f f') (hl : lx m g f') : lx m g f ∨ ∀ j : Nat, j < m → g j = f j := by
  obtain ⟨k, hk, h1, h2, h3, h4⟩ := q
  obtain ⟨p, hp, p1, p2⟩ := hl
  rcases Nat.lt_trichotomy p k with e | e | e
  · rw [h3 p e] at p2
    exact Or.inl ⟨p, hp, fun j hj => by rw [p1 j hj, h3 j (by omega)], p2⟩
  · subst e
    rw [h4 p (Nat.le_refl _) hk] at p2
    have pre : ∀ j : Nat, j < p → g j = f j := fun j hj => by rw [p1 j hj, h3 j hj]
    by_cases e2 : g p = f p
    · -- the rest is as great as it may be
      rcases first_of (fun j => g j ≠ f j) m with z | ⟨i, z1, z2, z3⟩
      · exact Or.inr (fun j hj => Classical.byContradiction (fun n => z j hj n))
      · refine Or.inl ⟨i, z1, fun j hj => Classical.byContradiction (fun n => z3 j hj n), ?_⟩
        have hpi : p < i := by
          refine Classical.byContradiction fun n => ?_
          rcases Nat.lt_or_ge i p with y | y
          · exact z2 (pre i y)
          · exact z2 (by rw [show i = p by omega]; exact e2)
        have t := inc_top hg z1
        have := h1 i hpi z1
        omega
    · exact Or.inl ⟨p, hp, pre, by omega⟩
  · exfalso
    rw [h4 p (by omega) hp] at p2
    have h5 := inc_le hg (i := k) (j := p) (by omega) hp
    rw [p1 k e, h4 k (Nat.le_refl _) hk] at h5
    omega
theorem lx_last {m N : Nat} {f g : Nat → Nat} (hN : m ≤ N) (hf : ∀ k : Nat, k < m → f k = N - m + k) (hg : incM m N g) : lx m g f ∨ ∀ j : Nat, j < m → g j = f j := by
  rcases first_of (fun j => g j ≠ f j) m with z | ⟨i, z1, z2, z3⟩
  · exact Or.inr (fun j hj => Classical.byContradiction (fun n => z j hj n))
  · refine Or.inl ⟨i, z1, fun j hj => Classical.byContradiction (fun n => z3 j hj n), ?_⟩
    have t := inc_top hg z1
    have := hf i z1
    have z2 : g i ≠ f i := z2
    omega
def cd (f : Nat → Nat) : Nat → Nat
  | 0 => 0
  | k + 1 => 16 * cd f k + f k
theorem cd_s (f : Nat → Nat) (k : Nat) : cd f (k + 1) = 16 * cd f k + f k := rfl
theorem cd_lt {f : Nat → Nat} : ∀ {m : Nat}, (∀ k : Nat, k < m → f k < 16) → cd f m < 16 ^ m := by
  intro m
  induction m with
  | zero => intro _; exact Nat.one_pos
  | succ m ih =>
    intro h
    have h1 := ih (fun k hk => h k (by omega))
    have h2 := h m (by omega)
    rw [cd_s, Nat.pow_succ]
    omega
theorem cd_lx {m : Nat} {f g : Nat → Nat} (hf : ∀ k : Nat, k < m → f k < 16) (h : lx m f g) : cd f m < cd g m := by
  obtain ⟨k, hk, h1, h2⟩ := h
  have e1 : ∀ j : Nat, j ≤ k → cd f j = cd g j := by
    intro j
    induction j with
    | zero => intro _; rfl
    | succ j ih => intro hj; rw [cd_s, cd_s, ih (by omega), h1 j (by omega)]
  have e2 : ∀ d : Nat, k + 1 + d ≤ m → cd f (k + 1 + d) < cd g (k + 1 + d) := by
    intro d
    induction d with
    | zero => intro _; show cd f (k + 1) < cd g (k + 1); rw [cd_s, cd_s, e1 k (Nat.le_refl _)]; omega
    | succ d ih =>
      intro hd
      have := ih (by omega)
      have := hf (k + 1 + d) (by omega)
      rw [show k + 1 + (d + 1) = k + 1 + d + 1 by omega, cd_s, cd_s]
      omega
  have := e2 (m - (k + 1)) (by omega)
  rw [show k + 1 + (m - (k + 1)) = m by omega] at this
  exact this
theorem r_nextMet {v w : aW} {s : Nat → Int32} {l : Nat → Int64} {A : Nat → Nat → Int32} {B : Nat → Nat → Int64} (h : RX v w s l A B) {m N : Nat} (hm : m < 6) (hN : m ≤ N) (hN2 : N < 16) (h3 : s 3 = Int32.ofInt m) {f : Nat → Nat} (hf : incM m N f) (h82 : ∀ k : Nat, k < m → A 82 k = Int32.ofInt (f k)) : Ct 1 233 [.ref 62, .int (Int32.ofInt N)] w (fun q w' => (q = some (.int (Int32.ofInt 0)) ∧ w' = w ∧ ∀ k : Nat, k < m → f k = N - m + k) ∨ (q = some (.int (Int32.ofInt 1)) ∧ ∃ g f', RX v w' s l (upA A 82 g) B ∧ (∀ k : Nat, k < m → g k = Int32.ofInt (f' k)) ∧ nxM m N f f')) := by
  have i82 := h.i (show rI 82 = some 5 from rfl)
  refine Ct.of (fun d hd Q hQ => cl_at (M := m_233) (L := [.ref 62, .int (Int32.ofInt N), .null, .null]) rfl (Nat.le_of_ble_eq_true rfl) rfl (fun E hE => ?_))
  refine ru_at (b := k_233_0) (cl_mono _ _ _ _) rfl ?_
  simp only [k_233_0, x_iload_0, x_iload_1, x_iload_2, x_iload_3, x_iload_4, x_iload_5, x_iload_6, x_iload_7, x_iload_8, x_iload_9, x_iload_10, x_iload_11, x_lload_0, x_lload_1, x_lload_2, x_lload_3, x_lload_4, x_lload_5, x_lload_6, x_lload_7, x_lload_8, x_lload_9, x_lload_10, x_lload_11, x_aload_0, x_aload_1, x_aload_2, x_aload_3, x_aload_4, x_aload_5, x_aload_6, x_aload_7, x_aload_8, x_aload_9, x_aload_10, x_aload_11, x_istore_0, x_istore_1, x_istore_2, x_istore_3, x_istore_4, x_istore_5, x_istore_6, x_istore_7, x_istore_8, x_istore_9, x_istore_10, x_istore_11, x_astore_0, x_astore_1, x_astore_2, x_astore_3, x_astore_4, x_astore_5, x_astore_6, x_astore_7, x_astore_8, x_astore_9, x_astore_10, x_astore_11, x_lstore_0, x_lstore_1, x_lstore_2, x_lstore_3, x_lstore_4, x_lstore_5, x_lstore_6, x_lstore_7, x_lstore_8, x_lstore_9, x_lstore_10, x_iinc_0, x_iinc_1, x_iinc_2, x_iinc_3, x_iinc_4, x_iinc_5, x_iinc_6, x_iinc_7, x_iinc_8, x_iinc_9, x_iinc_10, x_iinc_11, x_iconst, x_bipush, x_sipush, x_lconst, x_ldc_w, x_ldc2_w, x_iadd, x_isub, x_imul, x_iand, x_ior, x_ixor, x_ishl, x_ishr, x_iushr, x_ladd, x_lsub, x_lmul, x_ineg, x_lneg, x_lcmp, x_i2l, x_l2i, x_idiv, x_irem, x_ldiv, x_lrem, x_dup_int, x_pop_int, x_dup_ref, x_pop_ref, x_dup2, x_goto, x_nop, x_if_eq, x_if_ne, x_if_lt, x_if_ge, x_if_gt, x_if_le, x_icmp_eq, x_icmp_ne, x_icmp_lt, x_icmp_ge, x_icmp_gt, x_icmp_le, x_getfield, x_putfield, x_iaload, x_baload, x_laload, x_iastore, x_bastore, x_lastore, x_arraylength, x_virtual_0, x_virtual_1, x_virtual_2, x_virtual_3, x_virtual_4, x_virtual_5, x_static_0, x_static_1, x_static_2, x_static_3, x_static_4, x_static_5, x_static_6, x_min, x_max, x_abs, x_labs, x_tsw, oM_some, k_int, k_ref, k_long, k_null, vc_nil, vc_int, vc_ref, vc_long, tl_some, tl_none, h.o, rF, List.getElem?_cons_succ, List.getElem?_cons_zero, List.length_cons, List.length_nil, List.set_cons_zero, List.set_cons_succ, true_and, and_true, h3, ia_sub, x_zreturn (M := m_233) rfl]
  -- a line that can go on
  have found : ∀ k : Nat, k < m → (∀ j : Nat, k < j → j < m → f j = N - m + j) → f k ≠ N - m + k → Ru pD pY E (cL d) m_233 Q 34 [.ref 62, .int (Int32.ofInt N), .int (Int32.ofInt (k : Int)), .null] [] w := by
    intro k hk hj hne
    have tk : tn (Int32.ofInt (k : Int)) = k := tn_of rfl (by omega)
    have hfk := hf.1 k hk
    refine ru_at (b := k_233_34) (cl_mono _ _ _ _) rfl ?_
    simp only [k_233_34, x_iload_0, x_iload_1, x_iload_2, x_iload_3, x_iload_4, x_iload_5, x_iload_6, x_iload_7, x_iload_8, x_iload_9, x_iload_10, x_iload_11, x_lload_0, x_lload_1, x_lload_2, x_lload_3, x_lload_4, x_lload_5, x_lload_6, x_lload_7, x_lload_8, x_lload_9, x_lload_10, x_lload_11, x_aload_0, x_aload_1, x_aload_2, x_aload_3, x_aload_4, x_aload_5, x_aload_6, x_aload_7, x_aload_8, x_aload_9, x_aload_10, x_aload_11, x_istore_0, x_istore_1, x_istore_2, x_istore_3, x_istore_4, x_istore_5, x_istore_6, x_istore_7, x_istore_8, x_istore_9, x_istore_10, x_istore_11, x_astore_0, x_astore_1, x_astore_2, x_astore_3, x_astore_4, x_astore_5, x_astore_6, x_astore_7, x_astore_8, x_astore_9, x_astore_10, x_astore_11, x_lstore_0, x_lstore_1, x_lstore_2, x_lstore_3, x_lstore_4, x_lstore_5, x_lstore_6, x_lstore_7, x_lstore_8, x_lstore_9, x_lstore_10, x_iinc_0, x_iinc_1, x_iinc_2, x_iinc_3, x_iinc_4, x_iinc_5, x_iinc_6, x_iinc_7, x_iinc_8, x_iinc_9, x_iinc_10, x_iinc_11, x_iconst, x_bipush, x_sipush, x_lconst, x_ldc_w, x_ldc2_w, x_iadd, x_isub, x_imul, x_iand, x_ior, x_ixor, x_ishl, x_ishr, x_iushr, x_ladd, x_lsub, x_lmul, x_ineg, x_lneg, x_lcmp, x_i2l, x_l2i, x_idiv, x_irem, x_ldiv, x_lrem, x_dup_int, x_pop_int, x_dup_ref, x_pop_ref, x_dup2, x_goto, x_nop, x_if_eq, x_if_ne, x_if_lt, x_if_ge, x_if_gt, x_if_le, x_icmp_eq, x_icmp_ne, x_icmp_lt, x_icmp_ge, x_icmp_gt, x_icmp_le, x_getfield, x_putfield, x_iaload, x_baload, x_laload, x_iastore, x_bastore, x_lastore, x_arraylength, x_virtual_0, x_virtual_1, x_virtual_2, x_virtual_3, x_virtual_4, x_virtual_5, x_static_0, x_static_1, x_static_2, x_static_3, x_static_4, x_static_5, x_static_6, x_min, x_max, x_abs, x_labs, x_tsw, oM_some, k_int, k_ref, k_long, k_null, vc_nil, vc_int, vc_ref, vc_long, tl_some, tl_none, x_zreturn (M := m_233) rfl]
    refine if_ge0 ⟨by omega, by omega⟩ (fun _ => ?_) (fun q => absurd q (by omega))
    refine ru_at (b := k_233_40) (cl_mono _ _ _ _) rfl ?_
    simp only [k_233_40, x_iload_0, x_iload_1, x_iload_2, x_iload_3, x_iload_4, x_iload_5, x_iload_6, x_iload_7, x_iload_8, x_iload_9, x_iload_10, x_iload_11, x_lload_0, x_lload_1, x_lload_2, x_lload_3, x_lload_4, x_lload_5, x_lload_6, x_lload_7, x_lload_8, x_lload_9, x_lload_10, x_lload_11, x_aload_0, x_aload_1, x_aload_2, x_aload_3, x_aload_4, x_aload_5, x_aload_6, x_aload_7, x_aload_8, x_aload_9, x_aload_10, x_aload_11, x_istore_0, x_istore_1, x_istore_2, x_istore_3, x_istore_4, x_istore_5, x_istore_6, x_istore_7, x_istore_8, x_istore_9, x_istore_10, x_istore_11, x_astore_0, x_astore_1, x_astore_2, x_astore_3, x_astore_4, x_astore_5, x_astore_6, x_astore_7, x_astore_8, x_astore_9, x_astore_10, x_astore_11, x_lstore_0, x_lstore_1, x_lstore_2, x_lstore_3, x_lstore_4, x_lstore_5, x_lstore_6, x_lstore_7, x_lstore_8, x_lstore_9, x_lstore_10, x_iinc_0, x_iinc_1, x_iinc_2, x_iinc_3, x_iinc_4, x_iinc_5, x_iinc_6, x_iinc_7, x_iinc_8, x_iinc_9, x_iinc_10, x_iinc_11, x_iconst, x_bipush, x_sipush, x_lconst, x_ldc_w, x_ldc2_w, x_iadd, x_isub, x_imul, x_iand, x_ior, x_ixor, x_ishl, x_ishr, x_iushr, x_ladd, x_lsub, x_lmul, x_ineg, x_lneg, x_lcmp, x_i2l, x_l2i, x_idiv, x_irem, x_ldiv, x_lrem, x_dup_int, x_pop_int, x_dup_ref, x_pop_ref, x_dup2, x_goto, x_nop, x_if_eq, x_if_ne, x_if_lt, x_if_ge, x_if_gt, x_if_le, x_icmp_eq, x_icmp_ne, x_icmp_lt, x_icmp_ge, x_icmp_gt, x_icmp_le, x_getfield, x_putfield, x_iaload, x_baload, x_laload, x_iastore, x_bastore, x_lastore, x_arraylength, x_virtual_0, x_virtual_1, x_virtual_2, x_virtual_3, x_virtual_4, x_virtual_5, x_static_0, x_static_1, x_static_2, x_static_3, x_static_4, x_static_5, x_static_6, x_min, x_max, x_abs, x_labs, x_tsw, oM_some, k_int, k_ref, k_long, k_null, vc_nil, vc_int, vc_ref, vc_long, tl_some, tl_none, h.o, rF, List.getElem?_cons_succ, List.getElem?_cons_zero, List.length_cons, List.length_nil, List.set_cons_zero, List.set_cons_succ, true_and, and_true, i82, tk, h82 k hk, ia_add, x_zreturn (M := m_233) rfl]
    refine ⟨inb_of (by omega) (by omega) (by omega), inb_of (by omega) (by omega) (by omega), ?_⟩
    refine up_to (R := fun j => ∀ w5 (g : Nat → Int32), RX v w5 s l (upA A 82 g) B → (∀ i : Nat, i < k → g i = Int32.ofInt (f i)) → (∀ i : Nat, k ≤ i → i < j → g i = Int32.ofInt ((f k + 1 + (i - k) : Nat) : Int)) → Ru pD pY E (cL d) m_233 Q 54 [.ref 62, .int (Int32.ofInt N), .int (Int32.ofInt (k : Int)), .int (Int32.ofInt (j : Int))] [] w5) (lo := k + 1) (hi := m) (by omega) (fun j hj1 hj2 ih => ?_) ?_ _ (upd (A 82) k (Int32.ofInt ((f k : Int) + 1))) (h.setI (show rI 82 = some 5 from rfl) _) (fun i hi => by rw [upd_ne _ _ (by omega)]; exact h82 i (by omega)) (fun i h1 h2 => by rw [show i = k by omega, upd_at, Nat.sub_self]; rfl)
    · intro w5 g hW5 g1 g2
      have j82 := hW5.i (show rI 82 = some 5 from rfl)
      rw [upA_at] at j82
      have tj : tn (Int32.ofInt (j : Int)) = j := tn_of rfl (by omega)
      have tj1 : tn (Int32.ofInt ((j : Int) - 1)) = j - 1 := tn_of (by omega) (by omega)
      refine ru_at (b := k_233_54) (cl_mono _ _ _ _) rfl ?_
      simp only [k_233_54, x_iload_0, x_iload_1, x_iload_2, x_iload_3, x_iload_4, x_iload_5, x_iload_6, x_iload_7, x_iload_8, x_iload_9, x_iload_10, x_iload_11, x_lload_0, x_lload_1, x_lload_2, x_lload_3, x_lload_4, x_lload_5, x_lload_6, x_lload_7, x_lload_8, x_lload_9, x_lload_10, x_lload_11, x_aload_0, x_aload_1, x_aload_2, x_aload_3, x_aload_4, x_aload_5, x_aload_6, x_aload_7, x_aload_8, x_aload_9, x_aload_10, x_aload_11, x_istore_0, x_istore_1, x_istore_2, x_istore_3, x_istore_4, x_istore_5, x_istore_6, x_istore_7, x_istore_8, x_istore_9, x_istore_10, x_istore_11, x_astore_0, x_astore_1, x_astore_2, x_astore_3, x_astore_4, x_astore_5, x_astore_6, x_astore_7, x_astore_8, x_astore_9, x_astore_10, x_astore_11, x_lstore_0, x_lstore_1, x_lstore_2, x_lstore_3, x_lstore_4, x_lstore_5, x_lstore_6, x_lstore_7, x_lstore_8, x_lstore_9, x_lstore_10, x_iinc_0, x_iinc_1, x_iinc_2, x_iinc_3, x_iinc_4, x_iinc_5, x_iinc_6, x_iinc_7, x_iinc_8, x_iinc_9, x_iinc_10, x_iinc_11, x_iconst, x_bipush, x_sipush, x_lconst, x_ldc_w, x_ldc2_w, x_iadd, x_isub, x_imul, x_iand, x_ior, x_ixor, x_ishl, x_ishr, x_iushr, x_ladd, x_lsub, x_lmul, x_ineg, x_lneg, x_lcmp, x_i2l, x_l2i, x_idiv, x_irem, x_ldiv, x_lrem, x_dup_int, x_pop_int, x_dup_ref, x_pop_ref, x_dup2, x_goto, x_nop, x_if_eq, x_if_ne, x_if_lt, x_if_ge, x_if_gt, x_if_le, x_icmp_eq, x_icmp_ne, x_icmp_lt, x_icmp_ge, x_icmp_gt, x_icmp_le, x_getfield, x_putfield, x_iaload, x_baload, x_laload, x_iastore, x_bastore, x_lastore, x_arraylength, x_virtual_0, x_virtual_1, x_virtual_2, x_virtual_3, x_virtual_4, x_virtual_5, x_static_0, x_static_1, x_static_2, x_static_3, x_static_4, x_static_5, x_static_6, x_min, x_max, x_abs, x_labs, x_tsw, oM_some, k_int, k_ref, k_long, k_null, vc_nil, vc_int, vc_ref, vc_long, tl_some, tl_none, hW5.o, rF, List.getElem?_cons_succ, List.getElem?_cons_zero, List.length_cons, List.length_nil, List.set_cons_zero, List.set_cons_succ, true_and, and_true, h3, j82, tj, tj1, ia_sub, g2 (j - 1) (by omega) (by omega), ia_add, x_zreturn (M := m_233) rfl]
      refine if_le ⟨by omega, by omega⟩ ⟨by omega, by omega⟩ (fun hcc => absurd hcc (by omega)) (fun hcc => ?_)
      refine ⟨inb_of (by omega) (by omega) (by omega), inb_of (by omega) (by omega) (by omega), ?_⟩
      have hW6 := hW5.setI (show rI 82 = some 5 from rfl) (upd g j (Int32.ofInt (((f k + 1 + (j - 1 - k) : Nat) : Int) + 1)))
      rw [upA_upA] at hW6
      refine ih _ _ hW6 (fun i hi => by rw [upd_ne _ _ (by omega)]; exact g1 i hi) (fun i hi hi2 => ?_)
      by_cases e : i = j
      · rw [e, upd_at]; congr 1; omega
      · rw [upd_ne _ _ e]; exact g2 i hi (by omega)
    · intro w5 g hW5 g1 g2
      refine ru_at (b := k_233_54) (cl_mono _ _ _ _) rfl ?_
      simp only [k_233_54, x_iload_0, x_iload_1, x_iload_2, x_iload_3, x_iload_4, x_iload_5, x_iload_6, x_iload_7, x_iload_8, x_iload_9, x_iload_10, x_iload_11, x_lload_0, x_lload_1, x_lload_2, x_lload_3, x_lload_4, x_lload_5, x_lload_6, x_lload_7, x_lload_8, x_lload_9, x_lload_10, x_lload_11, x_aload_0, x_aload_1, x_aload_2, x_aload_3, x_aload_4, x_aload_5, x_aload_6, x_aload_7, x_aload_8, x_aload_9, x_aload_10, x_aload_11, x_istore_0, x_istore_1, x_istore_2, x_istore_3, x_istore_4, x_istore_5, x_istore_6, x_istore_7, x_istore_8, x_istore_9, x_istore_10, x_istore_11, x_astore_0, x_astore_1, x_astore_2, x_astore_3, x_astore_4, x_astore_5, x_astore_6, x_astore_7, x_astore_8, x_astore_9, x_astore_10, x_astore_11, x_lstore_0, x_lstore_1, x_lstore_2, x_lstore_3, x_lstore_4, x_lstore_5, x_lstore_6, x_lstore_7, x_lstore_8, x_lstore_9, x_lstore_10, x_iinc_0, x_iinc_1, x_iinc_2, x_iinc_3, x_iinc_4, x_iinc_5, x_iinc_6, x_iinc_7, x_iinc_8, x_iinc_9, x_iinc_10, x_iinc_11, x_iconst, x_bipush, x_sipush, x_lconst, x_ldc_w, x_ldc2_w, x_iadd, x_isub, x_imul, x_iand, x_ior, x_ixor, x_ishl, x_ishr, x_iushr, x_ladd, x_lsub, x_lmul, x_ineg, x_lneg, x_lcmp, x_i2l, x_l2i, x_idiv, x_irem, x_ldiv, x_lrem, x_dup_int, x_pop_int, x_dup_ref, x_pop_ref, x_dup2, x_goto, x_nop, x_if_eq, x_if_ne, x_if_lt, x_if_ge, x_if_gt, x_if_le, x_icmp_eq, x_icmp_ne, x_icmp_lt, x_icmp_ge, x_icmp_gt, x_icmp_le, x_getfield, x_putfield, x_iaload, x_baload, x_laload, x_iastore, x_bastore, x_lastore, x_arraylength, x_virtual_0, x_virtual_1, x_virtual_2, x_virtual_3, x_virtual_4, x_virtual_5, x_static_0, x_static_1, x_static_2, x_static_3, x_static_4, x_static_5, x_static_6, x_min, x_max, x_abs, x_labs, x_tsw, oM_some, k_int, k_ref, k_long, k_null, vc_nil, vc_int, vc_ref, vc_long, tl_some, tl_none, hW5.o, rF, List.getElem?_cons_succ, List.getElem?_cons_zero, List.length_cons, List.length_nil, List.set_cons_zero, List.set_cons_succ, true_and, and_true, h3, x_zreturn (M := m_233) rfl]
      refine if_le ⟨by omega, by omega⟩ ⟨by omega, by omega⟩ (fun hcc => ?_) (fun hcc => absurd hcc (by omega))
      refine ru_at (b := k_233_84) (cl_mono _ _ _ _) rfl ?_
      simp only [k_233_84, x_iload_0, x_iload_1, x_iload_2, x_iload_3, x_iload_4, x_iload_5, x_iload_6, x_iload_7, x_iload_8, x_iload_9, x_iload_10, x_iload_11, x_lload_0, x_lload_1, x_lload_2, x_lload_3, x_lload_4, x_lload_5, x_lload_6, x_lload_7, x_lload_8, x_lload_9, x_lload_10, x_lload_11, x_aload_0, x_aload_1, x_aload_2, x_aload_3, x_aload_4, x_aload_5, x_aload_6, x_aload_7, x_aload_8, x_aload_9, x_aload_10, x_aload_11, x_istore_0, x_istore_1, x_istore_2, x_istore_3, x_istore_4, x_istore_5, x_istore_6, x_istore_7, x_istore_8, x_istore_9, x_istore_10, x_istore_11, x_astore_0, x_astore_1, x_astore_2, x_astore_3, x_astore_4, x_astore_5, x_astore_6, x_astore_7, x_astore_8, x_astore_9, x_astore_10, x_astore_11, x_lstore_0, x_lstore_1, x_lstore_2, x_lstore_3, x_lstore_4, x_lstore_5, x_lstore_6, x_lstore_7, x_lstore_8, x_lstore_9, x_lstore_10, x_iinc_0, x_iinc_1, x_iinc_2, x_iinc_3, x_iinc_4, x_iinc_5, x_iinc_6, x_iinc_7, x_iinc_8, x_iinc_9, x_iinc_10, x_iinc_11, x_iconst, x_bipush, x_sipush, x_lconst, x_ldc_w, x_ldc2_w, x_iadd, x_isub, x_imul, x_iand, x_ior, x_ixor, x_ishl, x_ishr, x_iushr, x_ladd, x_lsub, x_lmul, x_ineg, x_lneg, x_lcmp, x_i2l, x_l2i, x_idiv, x_irem, x_ldiv, x_lrem, x_dup_int, x_pop_int, x_dup_ref, x_pop_ref, x_dup2, x_goto, x_nop, x_if_eq, x_if_ne, x_if_lt, x_if_ge, x_if_gt, x_if_le, x_icmp_eq, x_icmp_ne, x_icmp_lt, x_icmp_ge, x_icmp_gt, x_icmp_le, x_getfield, x_putfield, x_iaload, x_baload, x_laload, x_iastore, x_bastore, x_lastore, x_arraylength, x_virtual_0, x_virtual_1, x_virtual_2, x_virtual_3, x_virtual_4, x_virtual_5, x_static_0, x_static_1, x_static_2, x_static_3, x_static_4, x_static_5, x_static_6, x_min, x_max, x_abs, x_labs, x_tsw, oM_some, k_int, k_ref, k_long, k_null, vc_nil, vc_int, vc_ref, vc_long, tl_some, tl_none, x_zreturn (M := m_233) rfl]
      refine ⟨Or.inr rfl, hQ _ _ (Or.inr ⟨rfl, g, fun i => if i < k then f i else f k + 1 + (i - k), hW5, fun i hi => ?_, k, hk, hj, hne, fun j hj => if_pos hj, fun j h1 h2 => if_neg (by omega)⟩)⟩
      show g i = Int32.ofInt ((if i < k then f i else f k + 1 + (i - k) : Nat) : Int)
      by_cases e : i < k
      · rw [if_pos e]; exact g1 i e
      · rw [if_neg e]; exact g2 i (by omega) hi
  have go : ∀ i : Nat, i ≤ m → (∀ j : Nat, i ≤ j → j < m → f j = N - m + j) → Ru pD pY E (cL d) m_233 Q 7 [.ref 62, .int (Int32.ofInt N), .int (Int32.ofInt ((i : Int) - 1)), .null] [] w := by
    intro i
    induction i with
    | zero =>
      intro _ hj
      refine ru_at (b := k_233_7) (cl_mono _ _ _ _) rfl ?_
      simp only [k_233_7, x_iload_0, x_iload_1, x_iload_2, x_iload_3, x_iload_4, x_iload_5, x_iload_6, x_iload_7, x_iload_8, x_iload_9, x_iload_10, x_iload_11, x_lload_0, x_lload_1, x_lload_2, x_lload_3, x_lload_4, x_lload_5, x_lload_6, x_lload_7, x_lload_8, x_lload_9, x_lload_10, x_lload_11, x_aload_0, x_aload_1, x_aload_2, x_aload_3, x_aload_4, x_aload_5, x_aload_6, x_aload_7, x_aload_8, x_aload_9, x_aload_10, x_aload_11, x_istore_0, x_istore_1, x_istore_2, x_istore_3, x_istore_4, x_istore_5, x_istore_6, x_istore_7, x_istore_8, x_istore_9, x_istore_10, x_istore_11, x_astore_0, x_astore_1, x_astore_2, x_astore_3, x_astore_4, x_astore_5, x_astore_6, x_astore_7, x_astore_8, x_astore_9, x_astore_10, x_astore_11, x_lstore_0, x_lstore_1, x_lstore_2, x_lstore_3, x_lstore_4, x_lstore_5, x_lstore_6, x_lstore_7, x_lstore_8, x_lstore_9, x_lstore_10, x_iinc_0, x_iinc_1, x_iinc_2, x_iinc_3, x_iinc_4, x_iinc_5, x_iinc_6, x_iinc_7, x_iinc_8, x_iinc_9, x_iinc_10, x_iinc_11, x_iconst, x_bipush, x_sipush, x_lconst, x_ldc_w, x_ldc2_w, x_iadd, x_isub, x_imul, x_iand, x_ior, x_ixor, x_ishl, x_ishr, x_iushr, x_ladd, x_lsub, x_lmul, x_ineg, x_lneg, x_lcmp, x_i2l, x_l2i, x_idiv, x_irem, x_ldiv, x_lrem, x_dup_int, x_pop_int, x_dup_ref, x_pop_ref, x_dup2, x_goto, x_nop, x_if_eq, x_if_ne, x_if_lt, x_if_ge, x_if_gt, x_if_le, x_icmp_eq, x_icmp_ne, x_icmp_lt, x_icmp_ge, x_icmp_gt, x_icmp_le, x_getfield, x_putfield, x_iaload, x_baload, x_laload, x_iastore, x_bastore, x_lastore, x_arraylength, x_virtual_0, x_virtual_1, x_virtual_2, x_virtual_3, x_virtual_4, x_virtual_5, x_static_0, x_static_1, x_static_2, x_static_3, x_static_4, x_static_5, x_static_6, x_min, x_max, x_abs, x_labs, x_tsw, oM_some, k_int, k_ref, k_long, k_null, vc_nil, vc_int, vc_ref, vc_long, tl_some, tl_none, x_zreturn (M := m_233) rfl]
      refine if_lt0 ⟨by omega, by omega⟩ (fun _ => ?_) (fun q => absurd q (by omega))
      refine ru_at (b := k_233_34) (cl_mono _ _ _ _) rfl ?_
      simp only [k_233_34, x_iload_0, x_iload_1, x_iload_2, x_iload_3, x_iload_4, x_iload_5, x_iload_6, x_iload_7, x_iload_8, x_iload_9, x_iload_10, x_iload_11, x_lload_0, x_lload_1, x_lload_2, x_lload_3, x_lload_4, x_lload_5, x_lload_6, x_lload_7, x_lload_8, x_lload_9, x_lload_10, x_lload_11, x_aload_0, x_aload_1, x_aload_2, x_aload_3, x_aload_4, x_aload_5, x_aload_6, x_aload_7, x_aload_8, x_aload_9, x_aload_10, x_aload_11, x_istore_0, x_istore_1, x_istore_2, x_istore_3, x_istore_4, x_istore_5, x_istore_6, x_istore_7, x_istore_8, x_istore_9, x_istore_10, x_istore_11, x_astore_0, x_astore_1, x_astore_2, x_astore_3, x_astore_4, x_astore_5, x_astore_6, x_astore_7, x_astore_8, x_astore_9, x_astore_10, x_astore_11, x_lstore_0, x_lstore_1, x_lstore_2, x_lstore_3, x_lstore_4, x_lstore_5, x_lstore_6, x_lstore_7, x_lstore_8, x_lstore_9, x_lstore_10, x_iinc_0, x_iinc_1, x_iinc_2, x_iinc_3, x_iinc_4, x_iinc_5, x_iinc_6, x_iinc_7, x_iinc_8, x_iinc_9, x_iinc_10, x_iinc_11, x_iconst, x_bipush, x_sipush, x_lconst, x_ldc_w, x_ldc2_w, x_iadd, x_isub, x_imul, x_iand, x_ior, x_ixor, x_ishl, x_ishr, x_iushr, x_ladd, x_lsub, x_lmul, x_ineg, x_lneg, x_lcmp, x_i2l, x_l2i, x_idiv, x_irem, x_ldiv, x_lrem, x_dup_int, x_pop_int, x_dup_ref, x_pop_ref, x_dup2, x_goto, x_nop, x_if_eq, x_if_ne, x_if_lt, x_if_ge, x_if_gt, x_if_le, x_icmp_eq, x_icmp_ne, x_icmp_lt, x_icmp_ge, x_icmp_gt, x_icmp_le, x_getfield, x_putfield, x_iaload, x_baload, x_laload, x_iastore, x_bastore, x_lastore, x_arraylength, x_virtual_0, x_virtual_1, x_virtual_2, x_virtual_3, x_virtual_4, x_virtual_5, x_static_0, x_static_1, x_static_2, x_static_3, x_static_4, x_static_5, x_static_6, x_min, x_max, x_abs, x_labs, x_tsw, oM_some, k_int, k_ref, k_long, k_null, vc_nil, vc_int, vc_ref, vc_long, tl_some, tl_none, x_zreturn (M := m_233) rfl]
      refine if_ge0 ⟨by omega, by omega⟩ (fun q => absurd q (by omega)) (fun _ => ?_)
      exact ⟨Or.inl rfl, hQ _ _ (Or.inl ⟨rfl, rfl, fun k hk => hj k (Nat.zero_le _) hk⟩)⟩
    | succ i ih =>
      intro hi hj
      have tk : tn (Int32.ofInt (i : Int)) = i := tn_of rfl (by omega)
      have hfi := hf.1 i (by omega)
      rw [show ((i + 1 : Nat) : Int) - 1 = (i : Int) by omega]
      refine ru_at (b := k_233_7) (cl_mono _ _ _ _) rfl ?_
      simp only [k_233_7, x_iload_0, x_iload_1, x_iload_2, x_iload_3, x_iload_4, x_iload_5, x_iload_6, x_iload_7, x_iload_8, x_iload_9, x_iload_10, x_iload_11, x_lload_0, x_lload_1, x_lload_2, x_lload_3, x_lload_4, x_lload_5, x_lload_6, x_lload_7, x_lload_8, x_lload_9, x_lload_10, x_lload_11, x_aload_0, x_aload_1, x_aload_2, x_aload_3, x_aload_4, x_aload_5, x_aload_6, x_aload_7, x_aload_8, x_aload_9, x_aload_10, x_aload_11, x_istore_0, x_istore_1, x_istore_2, x_istore_3, x_istore_4, x_istore_5, x_istore_6, x_istore_7, x_istore_8, x_istore_9, x_istore_10, x_istore_11, x_astore_0, x_astore_1, x_astore_2, x_astore_3, x_astore_4, x_astore_5, x_astore_6, x_astore_7, x_astore_8, x_astore_9, x_astore_10, x_astore_11, x_lstore_0, x_lstore_1, x_lstore_2, x_lstore_3, x_lstore_4, x_lstore_5, x_lstore_6, x_lstore_7, x_lstore_8, x_lstore_9, x_lstore_10, x_iinc_0, x_iinc_1, x_iinc_2, x_iinc_3, x_iinc_4, x_iinc_5, x_iinc_6, x_iinc_7, x_iinc_8, x_iinc_9, x_iinc_10, x_iinc_11, x_iconst, x_bipush, x_sipush, x_lconst, x_ldc_w, x_ldc2_w, x_iadd, x_isub, x_imul, x_iand, x_ior, x_ixor, x_ishl, x_ishr, x_iushr, x_ladd, x_lsub, x_lmul, x_ineg, x_lneg, x_lcmp, x_i2l, x_l2i, x_idiv, x_irem, x_ldiv, x_lrem, x_dup_int, x_pop_int, x_dup_ref, x_pop_ref, x_dup2, x_goto, x_nop, x_if_eq, x_if_ne, x_if_lt, x_if_ge, x_if_gt, x_if_le, x_icmp_eq, x_icmp_ne, x_icmp_lt, x_icmp_ge, x_icmp_gt, x_icmp_le, x_getfield, x_putfield, x_iaload, x_baload, x_laload, x_iastore, x_bastore, x_lastore, x_arraylength, x_virtual_0, x_virtual_1, x_virtual_2, x_virtual_3, x_virtual_4, x_virtual_5, x_static_0, x_static_1, x_static_2, x_static_3, x_static_4, x_static_5, x_static_6, x_min, x_max, x_abs, x_labs, x_tsw, oM_some, k_int, k_ref, k_long, k_null, vc_nil, vc_int, vc_ref, vc_long, tl_some, tl_none, h.o, rF, List.getElem?_cons_succ, List.getElem?_cons_zero, List.length_cons, List.length_nil, List.set_cons_zero, List.set_cons_succ, true_and, and_true, h3, i82, tk, h82 i (by omega), ia_sub, x_zreturn (M := m_233) rfl]
      refine if_lt0 ⟨by omega, by omega⟩ (fun q => absurd q (by omega)) (fun _ => ?_)
      refine ⟨inb_of (by omega) (by omega) (by omega), ?_⟩
      simp only [ia_add ((N : Int) - (m : Int)) (i : Int)]
      refine if_ne ⟨by omega, by omega⟩ ⟨by omega, by omega⟩ (fun q => ?_) (fun q => ?_)
      · exact found i (by omega) (fun j h1 h2 => hj j (by omega) h2) (by omega)
      · rw [ia_add, show (i : Int) + -1 = (i : Int) - 1 by omega]
        refine ih (by omega) (fun j h1 h2 => ?_)
        by_cases e : j = i
        · rw [e]; omega
        · exact hj j (by omega) h2
  exact go m (Nat.le_refl _) (fun j h1 h2 => by omega)
