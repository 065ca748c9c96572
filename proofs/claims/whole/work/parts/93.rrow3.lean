/-! ===== PairSortsModel: findsRows ===== -/
/-- the rows that are found -/
def fnd (s : Nat → Int32) (A : Nat → Nat → Int32) (n : Nat) (R : Nat → Nat → Nat) (rs : List (Nat → Int)) : Prop := s 2 = Int32.ofInt ((rs.length : Nat) : Int) ∧ ∀ r a, rs[r]? = some a → (∀ i, i ≤ gry R n → A 75 (6 * r + i) = Int32.ofInt (a i)) ∧ A 76 r = Int32.ofInt (tmF n R a)
def rRw (s : Nat → Int32) (A : Nat → Nat → Int32) (n : Nat) (R : Nat → Nat → Nat) : Prop := s 1 = Int32.ofInt (gry R n) ∧ (∀ i : Nat, i ≤ gry R n → A 73 i = Int32.ofInt (kv n R i)) ∧ fnd s A n R (RwL n R)
theorem fm_split {α : Type} {f : Nat → List α} : ∀ {m t : Nat}, t ≤ m → ∃ rest, (List.range m).flatMap f = (List.range t).flatMap f ++ rest := by
  intro m
  induction m with
  | zero => intro t ht; rw [show t = 0 by omega]; exact ⟨[], by simp⟩
  | succ m ih =>
    intro t ht
    by_cases e : t = m + 1
    · rw [e]; exact ⟨[], by simp⟩
    · obtain ⟨rest, hr⟩ := ih (t := t) (by omega)
      rw [List.range_succ, List.flatMap_append, hr]
      exact ⟨rest ++ [m].flatMap f, by simp⟩
/-- what is tried: the numbers before i, then the valencies -/
def trI (n : Nat) (R : Nat → Nat → Nat) (i : Nat) (a : Nat → Int) (f : Nat → Int32) : Prop := ∀ j, j ≤ gry R n → f j = Int32.ofInt (if j < i then a j else (kv n R j : Int))
theorem r_odo {v : aW} {l : Nat → Int64} {B : Nat → Nat → Int64} {n : Nat} {R : Nat → Nat → Nat} {s0 : Nat → Int32} {A0 : Nat → Nat → Int32} {d : Nat} {Q : Option Value → aW → Prop} {E : Nat × Nat} (hd : 3 ≤ d) (hR : tOK n R) (hs : isSc n R) (ht : rTb A0 n R) (hpa : rPa A0 n R) (h1 : s0 1 = Int32.ofInt (gry R n)) (hv : ∀ i : Nat, i ≤ gry R n → A0 73 i = Int32.ofInt (kv n R i)) : ∀ (r i : Nat) (a : Nat → Int) (rs : List (Nat → Int)) (w : aW) (s : Nat → Int32) (A : Nat → Nat → Int32) (l2 : Value), 1 ≤ i → i + r = gry R n + 1 → a 0 = 1 → smA n R a → (∃ rest, (rs ++ rEn (kv n R) (mulP n R) r i a) ++ rest = RwL n R) → RX v w s l A B → eqA 74 76 A0 A → (∀ k, k ≠ 2 → s k = s0 k) → fnd s A n R rs → trI n R i a (A 74) → (∀ w' s' A', RX v w' s' l A' B → eqA 74 76 A0 A' → (∀ k, k ≠ 2 → s' k = s0 k) → fnd s' A' n R (rs ++ rEn (kv n R) (mulP n R) r i a) → trI n R i a (A' 74) → Ru pD pY E (cL d) m_198 Q 90 [.ref 62, .int (Int32.ofInt 1), .int (Int32.ofInt ((i - 1 : Nat) : Int))] [] w') → Ru pD pY E (cL d) m_198 Q 70 [.ref 62, .int (Int32.ofInt 1), l2] [] w := by
  have hL := gr_le hR
  have kb := kv_le hR
  intro r
  induction r with
  | zero =>
    intro i a rs w s A l2 hi hir h0 hsm hrest hW hE hso hfn htr cont
    have hiL : i = gry R n + 1 := by omega
    have htr2 : ∀ j, j ≤ gry R n → A 74 j = Int32.ofInt (a j) := fun j hj => by rw [htr j hj, if_pos (by omega)]
    have hs1 : s 1 = Int32.ofInt (gry R n) := by rw [hso 1 (by omega)]; exact h1
    have hpa2 : rPa A n R := by unfold rPa; rw [hE 71 (by omega)]; exact hpa
    have hv2 : ∀ i : Nat, i ≤ gry R n → A 73 i = Int32.ofInt (kv n R i) := by rw [hE 73 (by omega)]; exact hv
    have ht2 : rTb A n R := ht.eq hE (by omega)
    have next : ∀ w' s' A', RX v w' s' l A' B → eqA 74 76 A0 A' → (∀ k, k ≠ 2 → s' k = s0 k) → fnd s' A' n R (rs ++ rEn (kv n R) (mulP n R) 0 i a) → trI n R i a (A' 74) → Ru pD pY E (cL d) m_198 Q 85 [.ref 62, .int (Int32.ofInt 1), l2] [] w' := by
      intro w' s' A' c1 c2 c3 c4 c5
      have hs1' : s' 1 = Int32.ofInt (gry R n) := by rw [c3 1 (by omega)]; exact h1
      refine ru_at (b := k_198_85) (cl_mono _ _ _ _) rfl ?_
      simp only [k_198_85, x_iload_0, x_iload_1, x_iload_2, x_iload_3, x_iload_4, x_iload_5, x_iload_6, x_iload_7, x_iload_8, x_iload_9, x_iload_10, x_iload_11, x_lload_0, x_lload_1, x_lload_2, x_lload_3, x_lload_4, x_lload_5, x_lload_6, x_lload_7, x_lload_8, x_lload_9, x_lload_10, x_lload_11, x_aload_0, x_aload_1, x_aload_2, x_aload_3, x_aload_4, x_aload_5, x_aload_6, x_aload_7, x_aload_8, x_aload_9, x_aload_10, x_aload_11, x_istore_0, x_istore_1, x_istore_2, x_istore_3, x_istore_4, x_istore_5, x_istore_6, x_istore_7, x_istore_8, x_istore_9, x_istore_10, x_istore_11, x_astore_0, x_astore_1, x_astore_2, x_astore_3, x_astore_4, x_astore_5, x_astore_6, x_astore_7, x_astore_8, x_astore_9, x_astore_10, x_astore_11, x_lstore_0, x_lstore_1, x_lstore_2, x_lstore_3, x_lstore_4, x_lstore_5, x_lstore_6, x_lstore_7, x_lstore_8, x_lstore_9, x_lstore_10, x_iinc_0, x_iinc_1, x_iinc_2, x_iinc_3, x_iinc_4, x_iinc_5, x_iinc_6, x_iinc_7, x_iinc_8, x_iinc_9, x_iinc_10, x_iinc_11, x_iconst, x_bipush, x_sipush, x_lconst, x_ldc_w, x_ldc2_w, x_iadd, x_isub, x_imul, x_iand, x_ior, x_ixor, x_ishl, x_ishr, x_iushr, x_ladd, x_lsub, x_lmul, x_ineg, x_lneg, x_lcmp, x_i2l, x_l2i, x_idiv, x_irem, x_ldiv, x_lrem, x_dup_int, x_pop_int, x_dup_ref, x_pop_ref, x_dup2, x_goto, x_nop, x_if_eq, x_if_ne, x_if_lt, x_if_ge, x_if_gt, x_if_le, x_icmp_eq, x_icmp_ne, x_icmp_lt, x_icmp_ge, x_icmp_gt, x_icmp_le, x_getfield, x_putfield, x_iaload, x_baload, x_laload, x_iastore, x_bastore, x_lastore, x_arraylength, x_virtual_0, x_virtual_1, x_virtual_2, x_virtual_3, x_virtual_4, x_virtual_5, x_static_0, x_static_1, x_static_2, x_static_3, x_static_4, x_static_5, x_static_6, x_min, x_max, x_abs, x_labs, x_tsw, oM_some, k_int, k_ref, k_long, k_null, vc_nil, vc_int, vc_ref, vc_long, tl_some, tl_none, c1.o, rF, List.getElem?_cons_succ, List.getElem?_cons_zero, List.length_cons, List.length_nil, List.set_cons_zero, List.set_cons_succ, true_and, and_true, hs1', x_zreturn (M := m_198) rfl]
      have := cont w' s' A' c1 c2 c3 c4 c5
      rw [show i - 1 = gry R n by omega] at this
      exact this
    rw [rEn_z] at next hrest
    refine ru_at (b := k_198_70) (cl_mono _ _ _ _) rfl ?_
    simp only [k_198_70, x_iload_0, x_iload_1, x_iload_2, x_iload_3, x_iload_4, x_iload_5, x_iload_6, x_iload_7, x_iload_8, x_iload_9, x_iload_10, x_iload_11, x_lload_0, x_lload_1, x_lload_2, x_lload_3, x_lload_4, x_lload_5, x_lload_6, x_lload_7, x_lload_8, x_lload_9, x_lload_10, x_lload_11, x_aload_0, x_aload_1, x_aload_2, x_aload_3, x_aload_4, x_aload_5, x_aload_6, x_aload_7, x_aload_8, x_aload_9, x_aload_10, x_aload_11, x_istore_0, x_istore_1, x_istore_2, x_istore_3, x_istore_4, x_istore_5, x_istore_6, x_istore_7, x_istore_8, x_istore_9, x_istore_10, x_istore_11, x_astore_0, x_astore_1, x_astore_2, x_astore_3, x_astore_4, x_astore_5, x_astore_6, x_astore_7, x_astore_8, x_astore_9, x_astore_10, x_astore_11, x_lstore_0, x_lstore_1, x_lstore_2, x_lstore_3, x_lstore_4, x_lstore_5, x_lstore_6, x_lstore_7, x_lstore_8, x_lstore_9, x_lstore_10, x_iinc_0, x_iinc_1, x_iinc_2, x_iinc_3, x_iinc_4, x_iinc_5, x_iinc_6, x_iinc_7, x_iinc_8, x_iinc_9, x_iinc_10, x_iinc_11, x_iconst, x_bipush, x_sipush, x_lconst, x_ldc_w, x_ldc2_w, x_iadd, x_isub, x_imul, x_iand, x_ior, x_ixor, x_ishl, x_ishr, x_iushr, x_ladd, x_lsub, x_lmul, x_ineg, x_lneg, x_lcmp, x_i2l, x_l2i, x_idiv, x_irem, x_ldiv, x_lrem, x_dup_int, x_pop_int, x_dup_ref, x_pop_ref, x_dup2, x_goto, x_nop, x_if_eq, x_if_ne, x_if_lt, x_if_ge, x_if_gt, x_if_le, x_icmp_eq, x_icmp_ne, x_icmp_lt, x_icmp_ge, x_icmp_gt, x_icmp_le, x_getfield, x_putfield, x_iaload, x_baload, x_laload, x_iastore, x_bastore, x_lastore, x_arraylength, x_virtual_0, x_virtual_1, x_virtual_2, x_virtual_3, x_virtual_4, x_virtual_5, x_static_0, x_static_1, x_static_2, x_static_3, x_static_4, x_static_5, x_static_6, x_min, x_max, x_abs, x_labs, x_tsw, oM_some, k_int, k_ref, k_long, k_null, vc_nil, vc_int, vc_ref, vc_long, tl_some, tl_none, hW.o, List.getElem?_cons_succ, List.getElem?_cons_zero, List.length_cons, List.length_nil, List.set_cons_zero, List.set_cons_succ, true_and, and_true, x_zreturn (M := m_198) rfl]
    refine if_eq0 ⟨by omega, by omega⟩ (fun q => absurd q (by omega)) (fun _ => ?_)
    refine ⟨by decide, (r_multiplies hW hR hs hpa2 hs1 hsm htr2).go (by omega) (fun r w_ hr => ?_)⟩
    obtain ⟨hr, hw_⟩ := hr
    rw [hw_]
    clear hw_ w_
    rcases hr with ⟨rfl, hm⟩ | ⟨rfl, hm⟩
    · rw [cif_y hm] at next hrest
      have hlen : rs.length < 6 := by
        obtain ⟨rest, hr⟩ := hrest
        have := congrArg List.length hr
        have h2 := RwL_len hR hs
        simp only [List.length_append, List.length_cons, List.length_nil] at this
        omega
      simp only [x_iload_0, x_iload_1, x_iload_2, x_iload_3, x_iload_4, x_iload_5, x_iload_6, x_iload_7, x_iload_8, x_iload_9, x_iload_10, x_iload_11, x_lload_0, x_lload_1, x_lload_2, x_lload_3, x_lload_4, x_lload_5, x_lload_6, x_lload_7, x_lload_8, x_lload_9, x_lload_10, x_lload_11, x_aload_0, x_aload_1, x_aload_2, x_aload_3, x_aload_4, x_aload_5, x_aload_6, x_aload_7, x_aload_8, x_aload_9, x_aload_10, x_aload_11, x_istore_0, x_istore_1, x_istore_2, x_istore_3, x_istore_4, x_istore_5, x_istore_6, x_istore_7, x_istore_8, x_istore_9, x_istore_10, x_istore_11, x_astore_0, x_astore_1, x_astore_2, x_astore_3, x_astore_4, x_astore_5, x_astore_6, x_astore_7, x_astore_8, x_astore_9, x_astore_10, x_astore_11, x_lstore_0, x_lstore_1, x_lstore_2, x_lstore_3, x_lstore_4, x_lstore_5, x_lstore_6, x_lstore_7, x_lstore_8, x_lstore_9, x_lstore_10, x_iinc_0, x_iinc_1, x_iinc_2, x_iinc_3, x_iinc_4, x_iinc_5, x_iinc_6, x_iinc_7, x_iinc_8, x_iinc_9, x_iinc_10, x_iinc_11, x_iconst, x_bipush, x_sipush, x_lconst, x_ldc_w, x_ldc2_w, x_iadd, x_isub, x_imul, x_iand, x_ior, x_ixor, x_ishl, x_ishr, x_iushr, x_ladd, x_lsub, x_lmul, x_ineg, x_lneg, x_lcmp, x_i2l, x_l2i, x_idiv, x_irem, x_ldiv, x_lrem, x_dup_int, x_pop_int, x_dup_ref, x_pop_ref, x_dup2, x_goto, x_nop, x_if_eq, x_if_ne, x_if_lt, x_if_ge, x_if_gt, x_if_le, x_icmp_eq, x_icmp_ne, x_icmp_lt, x_icmp_ge, x_icmp_gt, x_icmp_le, x_getfield, x_putfield, x_iaload, x_baload, x_laload, x_iastore, x_bastore, x_lastore, x_arraylength, x_virtual_0, x_virtual_1, x_virtual_2, x_virtual_3, x_virtual_4, x_virtual_5, x_static_0, x_static_1, x_static_2, x_static_3, x_static_4, x_static_5, x_static_6, x_min, x_max, x_abs, x_labs, x_tsw, oM_some, k_int, k_ref, k_long, k_null, vc_nil, vc_int, vc_ref, vc_long, tl_some, tl_none, ia_10, ia_00, not_true, not_false_iff, if_true, if_false, hW.o, List.getElem?_cons_succ, List.getElem?_cons_zero, List.length_cons, List.length_nil, List.set_cons_zero, List.set_cons_succ, true_and, and_true]
      refine ⟨by decide, (r_keepsRow hW ht2 hR hs hs1 hfn.1 hlen hv2 h0 hsm htr2).go (by omega) (fun r w2 hr => ?_)⟩
      obtain ⟨rfl, f, g, hW2, q1, q2, q3, q4⟩ := hr
      simp only [x_iload_0, x_iload_1, x_iload_2, x_iload_3, x_iload_4, x_iload_5, x_iload_6, x_iload_7, x_iload_8, x_iload_9, x_iload_10, x_iload_11, x_lload_0, x_lload_1, x_lload_2, x_lload_3, x_lload_4, x_lload_5, x_lload_6, x_lload_7, x_lload_8, x_lload_9, x_lload_10, x_lload_11, x_aload_0, x_aload_1, x_aload_2, x_aload_3, x_aload_4, x_aload_5, x_aload_6, x_aload_7, x_aload_8, x_aload_9, x_aload_10, x_aload_11, x_istore_0, x_istore_1, x_istore_2, x_istore_3, x_istore_4, x_istore_5, x_istore_6, x_istore_7, x_istore_8, x_istore_9, x_istore_10, x_istore_11, x_astore_0, x_astore_1, x_astore_2, x_astore_3, x_astore_4, x_astore_5, x_astore_6, x_astore_7, x_astore_8, x_astore_9, x_astore_10, x_astore_11, x_lstore_0, x_lstore_1, x_lstore_2, x_lstore_3, x_lstore_4, x_lstore_5, x_lstore_6, x_lstore_7, x_lstore_8, x_lstore_9, x_lstore_10, x_iinc_0, x_iinc_1, x_iinc_2, x_iinc_3, x_iinc_4, x_iinc_5, x_iinc_6, x_iinc_7, x_iinc_8, x_iinc_9, x_iinc_10, x_iinc_11, x_iconst, x_bipush, x_sipush, x_lconst, x_ldc_w, x_ldc2_w, x_iadd, x_isub, x_imul, x_iand, x_ior, x_ixor, x_ishl, x_ishr, x_iushr, x_ladd, x_lsub, x_lmul, x_ineg, x_lneg, x_lcmp, x_i2l, x_l2i, x_idiv, x_irem, x_ldiv, x_lrem, x_dup_int, x_pop_int, x_dup_ref, x_pop_ref, x_dup2, x_goto, x_nop, x_if_eq, x_if_ne, x_if_lt, x_if_ge, x_if_gt, x_if_le, x_icmp_eq, x_icmp_ne, x_icmp_lt, x_icmp_ge, x_icmp_gt, x_icmp_le, x_getfield, x_putfield, x_iaload, x_baload, x_laload, x_iastore, x_bastore, x_lastore, x_arraylength, x_virtual_0, x_virtual_1, x_virtual_2, x_virtual_3, x_virtual_4, x_virtual_5, x_static_0, x_static_1, x_static_2, x_static_3, x_static_4, x_static_5, x_static_6, x_min, x_max, x_abs, x_labs, x_tsw, oM_some, k_int, k_ref, k_long, k_null, vc_nil, vc_int, vc_ref, vc_long, tl_some, tl_none]
      refine next _ _ _ hW2 ((hE.up (by omega) (by omega) _).up (by omega) (by omega) _) (fun k hk => by rw [upd_ne _ _ hk]; exact hso k hk) ⟨?_, fun r b hb => ?_⟩ ?_
      · rw [upd_at]; simp
      · rw [upA_ne _ _ (by omega), upA_at, upA_at]
        rcases Nat.lt_trichotomy r rs.length with c | c | c
        · rw [List.getElem?_append_left c] at hb
          obtain ⟨p1, p2⟩ := hfn.2 r b hb
          exact ⟨fun i hi => by rw [q2 _ (by omega)]; exact p1 i hi, by rw [q4 r (by omega)]; exact p2⟩
        · rw [List.getElem?_append_right (by omega), show r - rs.length = 0 by omega] at hb
          cases hb
          rw [c]
          exact ⟨q1, q3⟩
        · rw [List.getElem?_eq_none (by simp; omega)] at hb
          cases hb
      · rw [upA_ne _ _ (by omega), upA_ne _ _ (by omega)]; exact htr
    · rw [cif_n hm, List.append_nil] at next
      simp only [x_iload_0, x_iload_1, x_iload_2, x_iload_3, x_iload_4, x_iload_5, x_iload_6, x_iload_7, x_iload_8, x_iload_9, x_iload_10, x_iload_11, x_lload_0, x_lload_1, x_lload_2, x_lload_3, x_lload_4, x_lload_5, x_lload_6, x_lload_7, x_lload_8, x_lload_9, x_lload_10, x_lload_11, x_aload_0, x_aload_1, x_aload_2, x_aload_3, x_aload_4, x_aload_5, x_aload_6, x_aload_7, x_aload_8, x_aload_9, x_aload_10, x_aload_11, x_istore_0, x_istore_1, x_istore_2, x_istore_3, x_istore_4, x_istore_5, x_istore_6, x_istore_7, x_istore_8, x_istore_9, x_istore_10, x_istore_11, x_astore_0, x_astore_1, x_astore_2, x_astore_3, x_astore_4, x_astore_5, x_astore_6, x_astore_7, x_astore_8, x_astore_9, x_astore_10, x_astore_11, x_lstore_0, x_lstore_1, x_lstore_2, x_lstore_3, x_lstore_4, x_lstore_5, x_lstore_6, x_lstore_7, x_lstore_8, x_lstore_9, x_lstore_10, x_iinc_0, x_iinc_1, x_iinc_2, x_iinc_3, x_iinc_4, x_iinc_5, x_iinc_6, x_iinc_7, x_iinc_8, x_iinc_9, x_iinc_10, x_iinc_11, x_iconst, x_bipush, x_sipush, x_lconst, x_ldc_w, x_ldc2_w, x_iadd, x_isub, x_imul, x_iand, x_ior, x_ixor, x_ishl, x_ishr, x_iushr, x_ladd, x_lsub, x_lmul, x_ineg, x_lneg, x_lcmp, x_i2l, x_l2i, x_idiv, x_irem, x_ldiv, x_lrem, x_dup_int, x_pop_int, x_dup_ref, x_pop_ref, x_dup2, x_goto, x_nop, x_if_eq, x_if_ne, x_if_lt, x_if_ge, x_if_gt, x_if_le, x_icmp_eq, x_icmp_ne, x_icmp_lt, x_icmp_ge, x_icmp_gt, x_icmp_le, x_getfield, x_putfield, x_iaload, x_baload, x_laload, x_iastore, x_bastore, x_lastore, x_arraylength, x_virtual_0, x_virtual_1, x_virtual_2, x_virtual_3, x_virtual_4, x_virtual_5, x_static_0, x_static_1, x_static_2, x_static_3, x_static_4, x_static_5, x_static_6, x_min, x_max, x_abs, x_labs, x_tsw, oM_some, k_int, k_ref, k_long, k_null, vc_nil, vc_int, vc_ref, vc_long, tl_some, tl_none, ia_10, ia_00, not_true, not_false_iff, if_true, if_false]
      exact next _ _ _ hW hE hso hfn htr
  | succ r ih =>
    intro i a rs w s A l2 hi hir h0 hsm hrest hW hE hso hfn htr cont
    have hki := kb i
    rw [rEn_s] at hrest cont
    obtain ⟨rest, hrest⟩ := hrest
    have trU : ∀ (t : Nat) (f : Nat → Int32), (∀ j, j ≤ gry R n → f j = Int32.ofInt (if j < i then a j else if j = i then (kv n R i : Int) - t else (kv n R j : Int))) → trI n R (i + 1) (upI a i ((kv n R i : Int) - t)) f := by
      intro t f hf j hj
      rw [hf j hj]
      by_cases c : j < i
      · rw [if_pos c, if_pos (by omega), upI_ne _ _ (by omega)]
      · rw [if_neg c]
        by_cases e : j = i
        · rw [if_pos e, if_pos (by omega), e, upI_at]
        · rw [if_neg e, if_neg (by omega)]
    refine up_to (R := fun t => ∀ (w : aW) (s : Nat → Int32) (A : Nat → Nat → Int32) (l2 : Value), RX v w s l A B → eqA 74 76 A0 A → (∀ k, k ≠ 2 → s k = s0 k) → fnd s A n R (rs ++ (List.range t).flatMap (fun t => rEn (kv n R) (mulP n R) r (i + 1) (upI a i ((kv n R i : Int) - (t : Nat))))) → (∀ j, j ≤ gry R n → A 74 j = Int32.ofInt (if j < i then a j else if j = i then (kv n R i : Int) - t else (kv n R j : Int))) → Ru pD pY E (cL d) m_198 Q 70 [.ref 62, .int (Int32.ofInt 1), l2] [] w) (lo := 0) (hi := 2 * kv n R i) (Nat.zero_le _) (fun t _ ht2 ih2 => ?_) ?_ w s A l2 hW hE hso (by simpa using hfn) (fun j hj => ?_)
    · intro w s A l2 hW hE hso hfn htr
      obtain ⟨rest2, hr2⟩ := fm_split (f := fun t => rEn (kv n R) (mulP n R) r (i + 1) (upI a i ((kv n R i : Int) - (t : Nat)))) (m := 2 * kv n R i + 1) (t := t + 1) (by omega)
      have hr3 : (List.range (t + 1)).flatMap (fun t => rEn (kv n R) (mulP n R) r (i + 1) (upI a i ((kv n R i : Int) - (t : Nat)))) = (List.range t).flatMap (fun t => rEn (kv n R) (mulP n R) r (i + 1) (upI a i ((kv n R i : Int) - (t : Nat)))) ++ rEn (kv n R) (mulP n R) r (i + 1) (upI a i ((kv n R i : Int) - (t : Nat))) := by
        rw [List.range_succ, List.flatMap_append]
        simp
      refine ih (i + 1) (upI a i ((kv n R i : Int) - t)) _ w s A l2 (by omega) (by omega) (by rw [upI_ne _ _ (by omega)]; exact h0) (fun j hj => ?_) ⟨rest2 ++ rest, ?_⟩ hW hE hso hfn (trU t _ htr) (fun w' s' A' c1 c2 c3 c4 c5 => ?_)
      · by_cases e : j = i
        · rw [e, upI_at]; omega
        · rw [upI_ne _ _ e]; exact hsm j hj
      · rw [← hrest, hr2, hr3]
        simp
      · rw [List.append_assoc, ← hr3] at c4
        have j74 := c1.i (show rI 74 = some 6 from rfl)
        have j73 := c1.i (show rI 73 = some 6 from rfl)
        rw [c2 73 (by omega)] at j73
        have ti : tn (Int32.ofInt (i : Int)) = i := tn_of rfl (by omega)
        have c5i : A' 74 i = Int32.ofInt ((kv n R i : Int) - t) := by rw [c5 i (by omega), if_pos (by omega), upI_at]
        rw [show i + 1 - 1 = i by omega]
        refine ru_at (b := k_198_90) (cl_mono _ _ _ _) rfl ?_
        simp only [k_198_90, x_iload_0, x_iload_1, x_iload_2, x_iload_3, x_iload_4, x_iload_5, x_iload_6, x_iload_7, x_iload_8, x_iload_9, x_iload_10, x_iload_11, x_lload_0, x_lload_1, x_lload_2, x_lload_3, x_lload_4, x_lload_5, x_lload_6, x_lload_7, x_lload_8, x_lload_9, x_lload_10, x_lload_11, x_aload_0, x_aload_1, x_aload_2, x_aload_3, x_aload_4, x_aload_5, x_aload_6, x_aload_7, x_aload_8, x_aload_9, x_aload_10, x_aload_11, x_istore_0, x_istore_1, x_istore_2, x_istore_3, x_istore_4, x_istore_5, x_istore_6, x_istore_7, x_istore_8, x_istore_9, x_istore_10, x_istore_11, x_astore_0, x_astore_1, x_astore_2, x_astore_3, x_astore_4, x_astore_5, x_astore_6, x_astore_7, x_astore_8, x_astore_9, x_astore_10, x_astore_11, x_lstore_0, x_lstore_1, x_lstore_2, x_lstore_3, x_lstore_4, x_lstore_5, x_lstore_6, x_lstore_7, x_lstore_8, x_lstore_9, x_lstore_10, x_iinc_0, x_iinc_1, x_iinc_2, x_iinc_3, x_iinc_4, x_iinc_5, x_iinc_6, x_iinc_7, x_iinc_8, x_iinc_9, x_iinc_10, x_iinc_11, x_iconst, x_bipush, x_sipush, x_lconst, x_ldc_w, x_ldc2_w, x_iadd, x_isub, x_imul, x_iand, x_ior, x_ixor, x_ishl, x_ishr, x_iushr, x_ladd, x_lsub, x_lmul, x_ineg, x_lneg, x_lcmp, x_i2l, x_l2i, x_idiv, x_irem, x_ldiv, x_lrem, x_dup_int, x_pop_int, x_dup_ref, x_pop_ref, x_dup2, x_goto, x_nop, x_if_eq, x_if_ne, x_if_lt, x_if_ge, x_if_gt, x_if_le, x_icmp_eq, x_icmp_ne, x_icmp_lt, x_icmp_ge, x_icmp_gt, x_icmp_le, x_getfield, x_putfield, x_iaload, x_baload, x_laload, x_iastore, x_bastore, x_lastore, x_arraylength, x_virtual_0, x_virtual_1, x_virtual_2, x_virtual_3, x_virtual_4, x_virtual_5, x_static_0, x_static_1, x_static_2, x_static_3, x_static_4, x_static_5, x_static_6, x_min, x_max, x_abs, x_labs, x_tsw, oM_some, k_int, k_ref, k_long, k_null, vc_nil, vc_int, vc_ref, vc_long, tl_some, tl_none, c1.o, rF, List.getElem?_cons_succ, List.getElem?_cons_zero, List.length_cons, List.length_nil, List.set_cons_zero, List.set_cons_succ, true_and, and_true, j74, j73, ti, c5i, hv i (by omega), ia_neg, x_zreturn (M := m_198) rfl]
        refine if_le0 ⟨by omega, by omega⟩ (fun q => absurd q (by omega)) (fun _ => ?_)
        refine ⟨inb_of (by omega) (by omega) (by omega), inb_of (by omega) (by omega) (by omega), ?_⟩
        refine if_ne ⟨by omega, by omega⟩ ⟨by omega, by omega⟩ (fun _ => ?_) (fun q => absurd q (by omega))
        refine ru_at (b := k_198_128) (cl_mono _ _ _ _) rfl ?_
        simp only [k_198_128, x_iload_0, x_iload_1, x_iload_2, x_iload_3, x_iload_4, x_iload_5, x_iload_6, x_iload_7, x_iload_8, x_iload_9, x_iload_10, x_iload_11, x_lload_0, x_lload_1, x_lload_2, x_lload_3, x_lload_4, x_lload_5, x_lload_6, x_lload_7, x_lload_8, x_lload_9, x_lload_10, x_lload_11, x_aload_0, x_aload_1, x_aload_2, x_aload_3, x_aload_4, x_aload_5, x_aload_6, x_aload_7, x_aload_8, x_aload_9, x_aload_10, x_aload_11, x_istore_0, x_istore_1, x_istore_2, x_istore_3, x_istore_4, x_istore_5, x_istore_6, x_istore_7, x_istore_8, x_istore_9, x_istore_10, x_istore_11, x_astore_0, x_astore_1, x_astore_2, x_astore_3, x_astore_4, x_astore_5, x_astore_6, x_astore_7, x_astore_8, x_astore_9, x_astore_10, x_astore_11, x_lstore_0, x_lstore_1, x_lstore_2, x_lstore_3, x_lstore_4, x_lstore_5, x_lstore_6, x_lstore_7, x_lstore_8, x_lstore_9, x_lstore_10, x_iinc_0, x_iinc_1, x_iinc_2, x_iinc_3, x_iinc_4, x_iinc_5, x_iinc_6, x_iinc_7, x_iinc_8, x_iinc_9, x_iinc_10, x_iinc_11, x_iconst, x_bipush, x_sipush, x_lconst, x_ldc_w, x_ldc2_w, x_iadd, x_isub, x_imul, x_iand, x_ior, x_ixor, x_ishl, x_ishr, x_iushr, x_ladd, x_lsub, x_lmul, x_ineg, x_lneg, x_lcmp, x_i2l, x_l2i, x_idiv, x_irem, x_ldiv, x_lrem, x_dup_int, x_pop_int, x_dup_ref, x_pop_ref, x_dup2, x_goto, x_nop, x_if_eq, x_if_ne, x_if_lt, x_if_ge, x_if_gt, x_if_le, x_icmp_eq, x_icmp_ne, x_icmp_lt, x_icmp_ge, x_icmp_gt, x_icmp_le, x_getfield, x_putfield, x_iaload, x_baload, x_laload, x_iastore, x_bastore, x_lastore, x_arraylength, x_virtual_0, x_virtual_1, x_virtual_2, x_virtual_3, x_virtual_4, x_virtual_5, x_static_0, x_static_1, x_static_2, x_static_3, x_static_4, x_static_5, x_static_6, x_min, x_max, x_abs, x_labs, x_tsw, oM_some, k_int, k_ref, k_long, k_null, vc_nil, vc_int, vc_ref, vc_long, tl_some, tl_none, x_zreturn (M := m_198) rfl]
        refine if_le0 ⟨by omega, by omega⟩ (fun q => absurd q (by omega)) (fun _ => ?_)
        refine ru_at (b := k_198_137) (cl_mono _ _ _ _) rfl ?_
        simp only [k_198_137, x_iload_0, x_iload_1, x_iload_2, x_iload_3, x_iload_4, x_iload_5, x_iload_6, x_iload_7, x_iload_8, x_iload_9, x_iload_10, x_iload_11, x_lload_0, x_lload_1, x_lload_2, x_lload_3, x_lload_4, x_lload_5, x_lload_6, x_lload_7, x_lload_8, x_lload_9, x_lload_10, x_lload_11, x_aload_0, x_aload_1, x_aload_2, x_aload_3, x_aload_4, x_aload_5, x_aload_6, x_aload_7, x_aload_8, x_aload_9, x_aload_10, x_aload_11, x_istore_0, x_istore_1, x_istore_2, x_istore_3, x_istore_4, x_istore_5, x_istore_6, x_istore_7, x_istore_8, x_istore_9, x_istore_10, x_istore_11, x_astore_0, x_astore_1, x_astore_2, x_astore_3, x_astore_4, x_astore_5, x_astore_6, x_astore_7, x_astore_8, x_astore_9, x_astore_10, x_astore_11, x_lstore_0, x_lstore_1, x_lstore_2, x_lstore_3, x_lstore_4, x_lstore_5, x_lstore_6, x_lstore_7, x_lstore_8, x_lstore_9, x_lstore_10, x_iinc_0, x_iinc_1, x_iinc_2, x_iinc_3, x_iinc_4, x_iinc_5, x_iinc_6, x_iinc_7, x_iinc_8, x_iinc_9, x_iinc_10, x_iinc_11, x_iconst, x_bipush, x_sipush, x_lconst, x_ldc_w, x_ldc2_w, x_iadd, x_isub, x_imul, x_iand, x_ior, x_ixor, x_ishl, x_ishr, x_iushr, x_ladd, x_lsub, x_lmul, x_ineg, x_lneg, x_lcmp, x_i2l, x_l2i, x_idiv, x_irem, x_ldiv, x_lrem, x_dup_int, x_pop_int, x_dup_ref, x_pop_ref, x_dup2, x_goto, x_nop, x_if_eq, x_if_ne, x_if_lt, x_if_ge, x_if_gt, x_if_le, x_icmp_eq, x_icmp_ne, x_icmp_lt, x_icmp_ge, x_icmp_gt, x_icmp_le, x_getfield, x_putfield, x_iaload, x_baload, x_laload, x_iastore, x_bastore, x_lastore, x_arraylength, x_virtual_0, x_virtual_1, x_virtual_2, x_virtual_3, x_virtual_4, x_virtual_5, x_static_0, x_static_1, x_static_2, x_static_3, x_static_4, x_static_5, x_static_6, x_min, x_max, x_abs, x_labs, x_tsw, oM_some, k_int, k_ref, k_long, k_null, vc_nil, vc_int, vc_ref, vc_long, tl_some, tl_none, c1.o, rF, List.getElem?_cons_succ, List.getElem?_cons_zero, List.length_cons, List.length_nil, List.set_cons_zero, List.set_cons_succ, true_and, and_true, j74, ti, c5i, x_zreturn (M := m_198) rfl]
        refine ⟨inb_of (by omega) (by omega) (by omega), ?_⟩
        refine if_eq0 ⟨by omega, by omega⟩ (fun q => absurd q (by omega)) (fun _ => ?_)
        refine ru_at (b := k_198_154) (cl_mono _ _ _ _) rfl ?_
        simp only [k_198_154, x_iload_0, x_iload_1, x_iload_2, x_iload_3, x_iload_4, x_iload_5, x_iload_6, x_iload_7, x_iload_8, x_iload_9, x_iload_10, x_iload_11, x_lload_0, x_lload_1, x_lload_2, x_lload_3, x_lload_4, x_lload_5, x_lload_6, x_lload_7, x_lload_8, x_lload_9, x_lload_10, x_lload_11, x_aload_0, x_aload_1, x_aload_2, x_aload_3, x_aload_4, x_aload_5, x_aload_6, x_aload_7, x_aload_8, x_aload_9, x_aload_10, x_aload_11, x_istore_0, x_istore_1, x_istore_2, x_istore_3, x_istore_4, x_istore_5, x_istore_6, x_istore_7, x_istore_8, x_istore_9, x_istore_10, x_istore_11, x_astore_0, x_astore_1, x_astore_2, x_astore_3, x_astore_4, x_astore_5, x_astore_6, x_astore_7, x_astore_8, x_astore_9, x_astore_10, x_astore_11, x_lstore_0, x_lstore_1, x_lstore_2, x_lstore_3, x_lstore_4, x_lstore_5, x_lstore_6, x_lstore_7, x_lstore_8, x_lstore_9, x_lstore_10, x_iinc_0, x_iinc_1, x_iinc_2, x_iinc_3, x_iinc_4, x_iinc_5, x_iinc_6, x_iinc_7, x_iinc_8, x_iinc_9, x_iinc_10, x_iinc_11, x_iconst, x_bipush, x_sipush, x_lconst, x_ldc_w, x_ldc2_w, x_iadd, x_isub, x_imul, x_iand, x_ior, x_ixor, x_ishl, x_ishr, x_iushr, x_ladd, x_lsub, x_lmul, x_ineg, x_lneg, x_lcmp, x_i2l, x_l2i, x_idiv, x_irem, x_ldiv, x_lrem, x_dup_int, x_pop_int, x_dup_ref, x_pop_ref, x_dup2, x_goto, x_nop, x_if_eq, x_if_ne, x_if_lt, x_if_ge, x_if_gt, x_if_le, x_icmp_eq, x_icmp_ne, x_icmp_lt, x_icmp_ge, x_icmp_gt, x_icmp_le, x_getfield, x_putfield, x_iaload, x_baload, x_laload, x_iastore, x_bastore, x_lastore, x_arraylength, x_virtual_0, x_virtual_1, x_virtual_2, x_virtual_3, x_virtual_4, x_virtual_5, x_static_0, x_static_1, x_static_2, x_static_3, x_static_4, x_static_5, x_static_6, x_min, x_max, x_abs, x_labs, x_tsw, oM_some, k_int, k_ref, k_long, k_null, vc_nil, vc_int, vc_ref, vc_long, tl_some, tl_none, j74, ti, ia_sub, x_zreturn (M := m_198) rfl]
        refine ⟨inb_of (by omega) (by omega) (by omega), ?_⟩
        have hW2 := c1.setI (show rI 74 = some 6 from rfl) (upd (A' 74) i (Int32.ofInt ((kv n R i : Int) - t - 1)))
        refine ih2 _ _ _ _ hW2 (c2.up (by omega) (by omega) _) c3 ⟨c4.1, fun r a hra => ?_⟩ (fun j hj => ?_)
        · rw [upA_ne _ _ (by omega), upA_ne _ _ (by omega)]
          exact c4.2 r a hra
        · rw [upA_at]
          unfold upd
          by_cases e : j = i
          · rw [if_pos e, if_neg (by omega), if_pos e, show (kv n R i : Int) - ((t + 1 : Nat) : Int) = (kv n R i : Int) - t - 1 by omega]
          · rw [if_neg e, c5 j hj]
            by_cases c : j < i
            · rw [if_pos (by omega), if_pos c, upI_ne _ _ e]
            · rw [if_neg (by omega), if_neg c, if_neg e]
    · intro w s A l2 hW hE hso hfn htr
      have hr3 : (List.range (2 * kv n R i + 1)).flatMap (fun t => rEn (kv n R) (mulP n R) r (i + 1) (upI a i ((kv n R i : Int) - (t : Nat)))) = (List.range (2 * kv n R i)).flatMap (fun t => rEn (kv n R) (mulP n R) r (i + 1) (upI a i ((kv n R i : Int) - (t : Nat)))) ++ rEn (kv n R) (mulP n R) r (i + 1) (upI a i ((kv n R i : Int) - ((2 * kv n R i : Nat) : Int))) := by
        rw [List.range_succ, List.flatMap_append]
        simp
      refine ih (i + 1) (upI a i ((kv n R i : Int) - ((2 * kv n R i : Nat) : Int))) _ w s A l2 (by omega) (by omega) (by rw [upI_ne _ _ (by omega)]; exact h0) (fun j hj => ?_) ⟨rest, ?_⟩ hW hE hso hfn (trU _ _ htr) (fun w' s' A' c1 c2 c3 c4 c5 => ?_)
      · by_cases e : j = i
        · rw [e, upI_at]; omega
        · rw [upI_ne _ _ e]; exact hsm j hj
      · rw [← hrest, hr3]
        simp
      · rw [List.append_assoc, ← hr3] at c4
        have j74 := c1.i (show rI 74 = some 6 from rfl)
        have j73 := c1.i (show rI 73 = some 6 from rfl)
        rw [c2 73 (by omega)] at j73
        have ti : tn (Int32.ofInt (i : Int)) = i := tn_of rfl (by omega)
        have c5i : A' 74 i = Int32.ofInt (-(kv n R i : Int)) := by
          rw [c5 i (by omega), if_pos (by omega), upI_at]
          congr 1
          omega
        rw [show i + 1 - 1 = i by omega]
        refine ru_at (b := k_198_90) (cl_mono _ _ _ _) rfl ?_
        simp only [k_198_90, x_iload_0, x_iload_1, x_iload_2, x_iload_3, x_iload_4, x_iload_5, x_iload_6, x_iload_7, x_iload_8, x_iload_9, x_iload_10, x_iload_11, x_lload_0, x_lload_1, x_lload_2, x_lload_3, x_lload_4, x_lload_5, x_lload_6, x_lload_7, x_lload_8, x_lload_9, x_lload_10, x_lload_11, x_aload_0, x_aload_1, x_aload_2, x_aload_3, x_aload_4, x_aload_5, x_aload_6, x_aload_7, x_aload_8, x_aload_9, x_aload_10, x_aload_11, x_istore_0, x_istore_1, x_istore_2, x_istore_3, x_istore_4, x_istore_5, x_istore_6, x_istore_7, x_istore_8, x_istore_9, x_istore_10, x_istore_11, x_astore_0, x_astore_1, x_astore_2, x_astore_3, x_astore_4, x_astore_5, x_astore_6, x_astore_7, x_astore_8, x_astore_9, x_astore_10, x_astore_11, x_lstore_0, x_lstore_1, x_lstore_2, x_lstore_3, x_lstore_4, x_lstore_5, x_lstore_6, x_lstore_7, x_lstore_8, x_lstore_9, x_lstore_10, x_iinc_0, x_iinc_1, x_iinc_2, x_iinc_3, x_iinc_4, x_iinc_5, x_iinc_6, x_iinc_7, x_iinc_8, x_iinc_9, x_iinc_10, x_iinc_11, x_iconst, x_bipush, x_sipush, x_lconst, x_ldc_w, x_ldc2_w, x_iadd, x_isub, x_imul, x_iand, x_ior, x_ixor, x_ishl, x_ishr, x_iushr, x_ladd, x_lsub, x_lmul, x_ineg, x_lneg, x_lcmp, x_i2l, x_l2i, x_idiv, x_irem, x_ldiv, x_lrem, x_dup_int, x_pop_int, x_dup_ref, x_pop_ref, x_dup2, x_goto, x_nop, x_if_eq, x_if_ne, x_if_lt, x_if_ge, x_if_gt, x_if_le, x_icmp_eq, x_icmp_ne, x_icmp_lt, x_icmp_ge, x_icmp_gt, x_icmp_le, x_getfield, x_putfield, x_iaload, x_baload, x_laload, x_iastore, x_bastore, x_lastore, x_arraylength, x_virtual_0, x_virtual_1, x_virtual_2, x_virtual_3, x_virtual_4, x_virtual_5, x_static_0, x_static_1, x_static_2, x_static_3, x_static_4, x_static_5, x_static_6, x_min, x_max, x_abs, x_labs, x_tsw, oM_some, k_int, k_ref, k_long, k_null, vc_nil, vc_int, vc_ref, vc_long, tl_some, tl_none, c1.o, rF, List.getElem?_cons_succ, List.getElem?_cons_zero, List.length_cons, List.length_nil, List.set_cons_zero, List.set_cons_succ, true_and, and_true, j74, j73, ti, c5i, hv i (by omega), ia_neg, x_zreturn (M := m_198) rfl]
        refine if_le0 ⟨by omega, by omega⟩ (fun q => absurd q (by omega)) (fun _ => ?_)
        refine ⟨inb_of (by omega) (by omega) (by omega), inb_of (by omega) (by omega) (by omega), ?_⟩
        simp only [not_true, if_false]
        refine ⟨inb_of (by omega) (by omega) (by omega), inb_of (by omega) (by omega) (by omega), ?_⟩
        have hW2 := c1.setI (show rI 74 = some 6 from rfl) (upd (A' 74) i (Int32.ofInt (kv n R i : Int)))
        rw [ia_add, show (i : Int) + -1 = ((i - 1 : Nat) : Int) by omega]
        refine cont _ _ _ hW2 (c2.up (by omega) (by omega) _) c3 ⟨c4.1, fun r a hra => ?_⟩ (fun j hj => ?_)
        · rw [upA_ne _ _ (by omega), upA_ne _ _ (by omega)]
          exact c4.2 r a hra
        · rw [upA_at]
          unfold upd
          by_cases e : j = i
          · rw [if_pos e, if_neg (by omega), e]
          · rw [if_neg e, c5 j hj]
            by_cases c : j < i
            · rw [if_pos (by omega), if_pos c, upI_ne _ _ e]
            · rw [if_neg (by omega), if_neg c]
    · rw [htr j hj]
      by_cases c : j < i
      · rw [if_pos c, if_pos c]
      · rw [if_neg c, if_neg c]
        by_cases e : j = i
        · rw [if_pos e, e, show (kv n R i : Int) - ((0 : Nat) : Int) = (kv n R i : Int) by omega]
        · rw [if_neg e]
