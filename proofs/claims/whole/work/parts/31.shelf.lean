/-! ===== PairSorts.Shelf ===== -/
theorem x_aastore {E : Nat × Nat} {K : Nat → List Value → aW → (Option Value → aW → Prop) → Prop} {M : aM} {go : Nat → List Value → List Value → aW → Prop} {Q : Option Value → aW → Prop} {pc len a b ci : Nat} {z : Int} {is : List aI} {L r : List Value} {w : aW} {j : Int32} : ex pD pY E K M go Q ((pc, .aastore, len, [ci], z) :: is) L (.ref b :: .int j :: .ref a :: r) w = oM (gQ w a) (fun q => oM (gO w b) (fun p => (inb j q.1 ∧ p.1 = ci) ∧ ex pD pY E K M go Q is L r (sQ w a q.1 (va_up q.2 (tn j) (some b))))) := by
  rw [ex_eq]
  simp only [nx]
  unfold gQ gO sQ
  generalize w[a]? = o
  generalize w[b]? = o2
  rcases o with _ | ⟨ty, n, f | f | f | f | f⟩ | ⟨c, fs⟩ <;> try rfl
  all_goals (cases ty <;> try rfl)
  rename_i C
  by_cases hC : C = "PairSorts$Table"
  · subst hC
    rcases o2 with _ | x | ⟨c, fs⟩
    · simp only [if_true]; rfl
    · simp only [if_true]; rfl
    · simp only [not_true, or_false, if_true]
      rw [exO_if]
      simp only [oM_some]
      show (if j < 0 ∨ n ≤ j.toNatClampNeg ∨ ¬ c = ci then False else _) = ((inb j n ∧ c = ci) ∧ _)
      rw [if_F]
      congr 1
      unfold inb
      apply propext
      constructor
      · intro h
        exact ⟨fun q => h (q.elim Or.inl (fun q => Or.inr (Or.inl q))), Decidable.byContradiction fun q => h (Or.inr (Or.inr q))⟩
      · rintro ⟨h1, h2⟩ (q | q | q)
        · exact h1 (Or.inl q)
        · exact h1 (Or.inr q)
        · exact q h2
  · rcases o2 with _ | x | ⟨c, fs⟩
    · simp only [hC, if_false]; rfl
    · simp only [hC, if_false]; rfl
    · simp only [hC, not_false_iff, or_true, if_true, if_false]; rfl
/-- the cells of the shelf: which place holds the j-th table -/
def shO (w : aW) (c : Nat) (pm : Nat → Nat) : Prop := gO w 10 = some (6, [.int (Int32.ofInt c), .ref 11]) ∧ (∃ g, gQ w 11 = some (6, g) ∧ ∀ j, j < 6 → g j = some (12 + 2 * pm j)) ∧ (∀ j, j < 6 → pm j < 6) ∧ (∀ i j, i < 6 → j < 6 → pm i = pm j → i = j) ∧ (∀ p, p < 6 → ∃ n f, tbl w (12 + 2 * p) (13 + 2 * p) n f) ∧ 23 < w.length
/-- the tables that are kept, the oldest first -/
def SH (w : aW) (ts : List (Nat × (Nat → Nat → Nat))) : Prop := ts.length ≤ 6 ∧ ∃ pm, shO w ts.length pm ∧ ∀ j t, ts[j]? = some t → tOK t.1 t.2 ∧ ∃ f, tbl w (12 + 2 * pm j) (13 + 2 * pm j) t.1 f ∧ tHas 0 t.1 t.2 f
theorem SH.keep {w w' : aW} {ts : List (Nat × (Nat → Nat → Nat))} {lo hi : Nat} (h : SH w ts) (q : eqr lo hi w w') (hs : 23 < lo ∨ hi < 10) : SH w' ts := by
  obtain ⟨h1, pm, ⟨a1, ⟨g, a2, a3⟩, a4, a5, a6, a7⟩, h3⟩ := h
  have hb : ∀ p, p < 6 → (12 + 2 * p < lo ∨ hi < 12 + 2 * p) ∧ (13 + 2 * p < lo ∨ hi < 13 + 2 * p) := by intro p hp; omega
  refine ⟨h1, pm, ⟨by rw [q.o (by omega)]; exact a1, ⟨g, by rw [q.q (by omega)]; exact a2, a3⟩, a4, a5, fun p hp => ?_, by rw [q.1]; exact a7⟩, fun j t ht => ?_⟩
  · obtain ⟨n, f, hf⟩ := a6 p hp
    exact ⟨n, f, q.tb (hb p hp).1 (hb p hp).2 hf⟩
  · obtain ⟨b1, f, b2, b3⟩ := h3 j t ht
    have hj : pm j < 6 := a4 j (by have := (List.getElem?_eq_some_iff.mp ht).1; omega)
    exact ⟨b1, f, q.tb (hb _ hj).1 (hb _ hj).2 b2, b3⟩
/-- a table of the shelf is written -/
theorem SH_put {w w' : aW} {ts : List (Nat × (Nat → Nat → Nat))} {pm : Nat → Nat} (hl : ts.length < 6) (hO : shO w (ts.length + 1) pm) (hT : ∀ j t, ts[j]? = some t → tOK t.1 t.2 ∧ ∃ f, tbl w (12 + 2 * pm j) (13 + 2 * pm j) t.1 f ∧ tHas 0 t.1 t.2 f) {n : Nat} {R : Nat → Nat → Nat} (hR : tOK n R) {f : Nat → Int32} (hf : tHas 0 n R f) (hw : w' = sI (sO w (12 + 2 * pm ts.length) 8 [.int (Int32.ofInt n), .ref (13 + 2 * pm ts.length)]) (13 + 2 * pm ts.length) 169 f) : SH w' (ts ++ [(n, R)]) := by
  obtain ⟨a1, ⟨g, a2, a3⟩, a4, a5, a6, a7⟩ := hO
  have hc := a4 ts.length hl
  have q : eqr (12 + 2 * pm ts.length) (13 + 2 * pm ts.length) w w' := by
    rw [hw]
    exact (eqr.O _ (by omega) (by omega) _ _).tr (eqr.I _ (by omega) (by omega) _ _)
  have hnew : tbl w' (12 + 2 * pm ts.length) (13 + 2 * pm ts.length) n f := by
    rw [hw]
    exact ⟨by rw [gO_sI_ne _ _ _ _ _ (by omega), gO_sO_at _ _ _ _ (by omega)], gI_sI_at _ _ _ _ (by rw [len_sO]; omega), by omega, by simp only [len_sI, len_sO]; omega, by simp only [len_sI, len_sO]; omega⟩
  refine ⟨by simp; omega, pm, ⟨by rw [q.o (by omega)]; simpa using a1, ⟨g, by rw [q.q (by omega)]; exact a2, a3⟩, a4, a5, fun p hp => ?_, by rw [q.1]; exact a7⟩, fun j t ht => ?_⟩
  · by_cases e : p = pm ts.length
    · rw [e]; exact ⟨n, f, hnew⟩
    · obtain ⟨n1, f1, hf1⟩ := a6 p hp
      exact ⟨n1, f1, q.tb (by omega) (by omega) hf1⟩
  · rcases Nat.lt_trichotomy j ts.length with e | e | e
    · rw [List.getElem?_append_left e] at ht
      obtain ⟨b1, f1, b2, b3⟩ := hT j t ht
      have hne : pm j ≠ pm ts.length := fun q => by have := a5 j ts.length (by omega) hl q; omega
      exact ⟨b1, f1, q.tb (by omega) (by omega) b2, b3⟩
    · subst e
      rw [List.getElem?_append_right (Nat.le_refl _), Nat.sub_self] at ht
      cases ht
      exact ⟨hR, f, hnew, hf⟩
    · rw [List.getElem?_eq_none (by simp; omega)] at ht
      cases ht
def shNext (ts : List (Nat × (Nat → Nat → Nat))) (t : Nat × (Nat → Nat → Nat)) : List (Nat × (Nat → Nat → Nat)) := (if ts.length = 6 then ts.tail else ts) ++ [t]
theorem c_keep {w : aW} {ts : List (Nat × (Nat → Nat → Nat))} (h : SH w ts) {t a n : Nat} {f : Nat → Int32} {R : Nat → Nat → Nat} (ht : tbl w t a n f) (hR : tOK n R) (hf : tHas 0 n R f) (ht1 : t < 10 ∨ 23 < t) (ha1 : a < 10 ∨ 23 < a) : Ct 2 54 [.ref 10, .ref t] w (fun r w' => r = none ∧ SH w' (shNext ts (n, R)) ∧ eqr 10 23 w w') := by
  obtain ⟨h1, pm, hO, h3⟩ := h
  obtain ⟨a1, ⟨g, a2, a3⟩, a4, a5, a6, a7⟩ := id hO
  refine Ct.of (fun d hd Q hQ => cl_at (M := m_54) (L := [.ref 10, .ref t, .null, .null]) rfl (Nat.le_of_ble_eq_true rfl) rfl (fun E hE => ?_))
  -- the copy into the place of the newest
  have fin : ∀ (w1 : aW) (ts1 : List (Nat × (Nat → Nat → Nat))) (pm1 : Nat → Nat) (l2 l3 : Value), ts1.length < 6 → shO w1 (ts1.length + 1) pm1 → (∀ j t, ts1[j]? = some t → tOK t.1 t.2 ∧ ∃ f, tbl w1 (12 + 2 * pm1 j) (13 + 2 * pm1 j) t.1 f ∧ tHas 0 t.1 t.2 f) → eqr 10 11 w w1 → ts1 ++ [(n, R)] = shNext ts (n, R) → Ru pD pY E (cL d) m_54 Q 64 [.ref 10, .ref t, l2, l3] [] w1 := by
    intro w1 ts1 pm1 l2 l3 hl hO1 hT1 hq hn
    obtain ⟨c1, ⟨g1, c2, c3⟩, c4, c5, c6, c7⟩ := id hO1
    have hc := c4 ts1.length hl
    obtain ⟨n1, f1, hf1⟩ := c6 _ hc
    have e1 : ((ts1.length + 1 : Nat) : Int) - 1 = (ts1.length : Nat) := by omega
    refine ru_at (b := k_54_64) (cl_mono _ _ _ _) rfl ?_
    simp only [k_54_64, x_iload_0, x_iload_1, x_iload_2, x_iload_3, x_iload_4, x_iload_5, x_iload_6, x_iload_7, x_iload_8, x_iload_9, x_iload_10, x_iload_11, x_lload_0, x_lload_1, x_lload_2, x_lload_3, x_lload_4, x_lload_5, x_lload_6, x_lload_7, x_lload_8, x_lload_9, x_lload_10, x_lload_11, x_aload_0, x_aload_1, x_aload_2, x_aload_3, x_aload_4, x_aload_5, x_aload_6, x_aload_7, x_aload_8, x_aload_9, x_aload_10, x_aload_11, x_istore_0, x_istore_1, x_istore_2, x_istore_3, x_istore_4, x_istore_5, x_istore_6, x_istore_7, x_istore_8, x_istore_9, x_istore_10, x_istore_11, x_astore_0, x_astore_1, x_astore_2, x_astore_3, x_astore_4, x_astore_5, x_astore_6, x_astore_7, x_astore_8, x_astore_9, x_astore_10, x_astore_11, x_lstore_0, x_lstore_1, x_lstore_2, x_lstore_3, x_lstore_4, x_lstore_5, x_lstore_6, x_lstore_7, x_lstore_8, x_lstore_9, x_lstore_10, x_iinc_0, x_iinc_1, x_iinc_2, x_iinc_3, x_iinc_4, x_iinc_5, x_iinc_6, x_iinc_7, x_iinc_8, x_iinc_9, x_iinc_10, x_iinc_11, x_iconst, x_bipush, x_sipush, x_lconst, x_ldc_w, x_ldc2_w, x_iadd, x_isub, x_imul, x_iand, x_ior, x_ixor, x_ishl, x_ishr, x_iushr, x_ladd, x_lsub, x_lmul, x_ineg, x_lneg, x_lcmp, x_i2l, x_l2i, x_idiv, x_irem, x_ldiv, x_lrem, x_dup_int, x_pop_int, x_dup_ref, x_pop_ref, x_dup2, x_goto, x_nop, x_if_eq, x_if_ne, x_if_lt, x_if_ge, x_if_gt, x_if_le, x_icmp_eq, x_icmp_ne, x_icmp_lt, x_icmp_ge, x_icmp_gt, x_icmp_le, x_getfield, x_putfield, x_iaload, x_baload, x_laload, x_iastore, x_bastore, x_lastore, x_arraylength, x_virtual_0, x_virtual_1, x_virtual_2, x_virtual_3, x_virtual_4, x_virtual_5, x_static_0, x_static_1, x_static_2, x_static_3, x_static_4, x_static_5, x_static_6, x_min, x_max, x_abs, x_labs, x_tsw, oM_some, k_int, k_ref, k_long, k_null, vc_nil, vc_int, vc_ref, vc_long, tl_some, tl_none, c1, c2, List.getElem?_cons_succ, List.getElem?_cons_zero, List.length_cons, List.length_nil, List.set_cons_zero, List.set_cons_succ, true_and, and_true, x_aaload, ia_sub, e1, tn_of (show (ts1.length : Int) = (ts1.length : Nat) from rfl) (by omega), c3 ts1.length hl, hf1.1, x_return (M := m_54) rfl rfl]
    refine ⟨inb_of (by omega) (by omega) (by omega), by decide, (c_copyFrom hf1 (hq.tb (by omega) (by omega) ht) (by omega) (by omega)).go (by omega) (fun r w2 hr => ?_)⟩
    obtain ⟨rfl, f', rfl, hf'⟩ := hr
    simp only [x_iload_0, x_iload_1, x_iload_2, x_iload_3, x_iload_4, x_iload_5, x_iload_6, x_iload_7, x_iload_8, x_iload_9, x_iload_10, x_iload_11, x_lload_0, x_lload_1, x_lload_2, x_lload_3, x_lload_4, x_lload_5, x_lload_6, x_lload_7, x_lload_8, x_lload_9, x_lload_10, x_lload_11, x_aload_0, x_aload_1, x_aload_2, x_aload_3, x_aload_4, x_aload_5, x_aload_6, x_aload_7, x_aload_8, x_aload_9, x_aload_10, x_aload_11, x_istore_0, x_istore_1, x_istore_2, x_istore_3, x_istore_4, x_istore_5, x_istore_6, x_istore_7, x_istore_8, x_istore_9, x_istore_10, x_istore_11, x_astore_0, x_astore_1, x_astore_2, x_astore_3, x_astore_4, x_astore_5, x_astore_6, x_astore_7, x_astore_8, x_astore_9, x_astore_10, x_astore_11, x_lstore_0, x_lstore_1, x_lstore_2, x_lstore_3, x_lstore_4, x_lstore_5, x_lstore_6, x_lstore_7, x_lstore_8, x_lstore_9, x_lstore_10, x_iinc_0, x_iinc_1, x_iinc_2, x_iinc_3, x_iinc_4, x_iinc_5, x_iinc_6, x_iinc_7, x_iinc_8, x_iinc_9, x_iinc_10, x_iinc_11, x_iconst, x_bipush, x_sipush, x_lconst, x_ldc_w, x_ldc2_w, x_iadd, x_isub, x_imul, x_iand, x_ior, x_ixor, x_ishl, x_ishr, x_iushr, x_ladd, x_lsub, x_lmul, x_ineg, x_lneg, x_lcmp, x_i2l, x_l2i, x_idiv, x_irem, x_ldiv, x_lrem, x_dup_int, x_pop_int, x_dup_ref, x_pop_ref, x_dup2, x_goto, x_nop, x_if_eq, x_if_ne, x_if_lt, x_if_ge, x_if_gt, x_if_le, x_icmp_eq, x_icmp_ne, x_icmp_lt, x_icmp_ge, x_icmp_gt, x_icmp_le, x_getfield, x_putfield, x_iaload, x_baload, x_laload, x_iastore, x_bastore, x_lastore, x_arraylength, x_virtual_0, x_virtual_1, x_virtual_2, x_virtual_3, x_virtual_4, x_virtual_5, x_static_0, x_static_1, x_static_2, x_static_3, x_static_4, x_static_5, x_static_6, x_min, x_max, x_abs, x_labs, x_tsw, oM_some, k_int, k_ref, k_long, k_null, vc_nil, vc_int, vc_ref, vc_long, tl_some, tl_none, x_return (M := m_54) rfl rfl]
    refine hQ _ _ ⟨rfl, ?_, ?_⟩
    · rw [← hn]
      refine SH_put hl hO1 hT1 hR (f := f') (fun x y hx hy => ?_) rfl
      have hn13 := hR.2.1
      rw [hf' _ (by omega)]
      exact hf x y hx hy
    · exact (hq.wd (by omega) (by omega)).tr ((eqr.O _ (by omega) (by omega) _ _).tr (eqr.I _ (by omega) (by omega) _ _))
  by_cases h6 : ts.length = 6
  · -- the oldest is forgotten
    refine ru_at (b := k_54_0) (cl_mono _ _ _ _) rfl ?_
    simp only [k_54_0, x_iload_0, x_iload_1, x_iload_2, x_iload_3, x_iload_4, x_iload_5, x_iload_6, x_iload_7, x_iload_8, x_iload_9, x_iload_10, x_iload_11, x_lload_0, x_lload_1, x_lload_2, x_lload_3, x_lload_4, x_lload_5, x_lload_6, x_lload_7, x_lload_8, x_lload_9, x_lload_10, x_lload_11, x_aload_0, x_aload_1, x_aload_2, x_aload_3, x_aload_4, x_aload_5, x_aload_6, x_aload_7, x_aload_8, x_aload_9, x_aload_10, x_aload_11, x_istore_0, x_istore_1, x_istore_2, x_istore_3, x_istore_4, x_istore_5, x_istore_6, x_istore_7, x_istore_8, x_istore_9, x_istore_10, x_istore_11, x_astore_0, x_astore_1, x_astore_2, x_astore_3, x_astore_4, x_astore_5, x_astore_6, x_astore_7, x_astore_8, x_astore_9, x_astore_10, x_astore_11, x_lstore_0, x_lstore_1, x_lstore_2, x_lstore_3, x_lstore_4, x_lstore_5, x_lstore_6, x_lstore_7, x_lstore_8, x_lstore_9, x_lstore_10, x_iinc_0, x_iinc_1, x_iinc_2, x_iinc_3, x_iinc_4, x_iinc_5, x_iinc_6, x_iinc_7, x_iinc_8, x_iinc_9, x_iinc_10, x_iinc_11, x_iconst, x_bipush, x_sipush, x_lconst, x_ldc_w, x_ldc2_w, x_iadd, x_isub, x_imul, x_iand, x_ior, x_ixor, x_ishl, x_ishr, x_iushr, x_ladd, x_lsub, x_lmul, x_ineg, x_lneg, x_lcmp, x_i2l, x_l2i, x_idiv, x_irem, x_ldiv, x_lrem, x_dup_int, x_pop_int, x_dup_ref, x_pop_ref, x_dup2, x_goto, x_nop, x_if_eq, x_if_ne, x_if_lt, x_if_ge, x_if_gt, x_if_le, x_icmp_eq, x_icmp_ne, x_icmp_lt, x_icmp_ge, x_icmp_gt, x_icmp_le, x_getfield, x_putfield, x_iaload, x_baload, x_laload, x_iastore, x_bastore, x_lastore, x_arraylength, x_virtual_0, x_virtual_1, x_virtual_2, x_virtual_3, x_virtual_4, x_virtual_5, x_static_0, x_static_1, x_static_2, x_static_3, x_static_4, x_static_5, x_static_6, x_min, x_max, x_abs, x_labs, x_tsw, oM_some, k_int, k_ref, k_long, k_null, vc_nil, vc_int, vc_ref, vc_long, tl_some, tl_none, a1, a2, List.getElem?_cons_succ, List.getElem?_cons_zero, List.length_cons, List.length_nil, List.set_cons_zero, List.set_cons_succ, true_and, and_true, x_aaload, tn_of (show (0 : Int) = ((0 : Nat) : Int) from rfl) (by omega), a3 0 (by omega), x_return (M := m_54) rfl rfl]
    refine if_ne ⟨by omega, by omega⟩ ⟨by omega, by omega⟩ (fun hc => absurd (by rw [h6]; rfl) hc) (fun _ => ?_)
    refine ⟨inb_of (by omega) (by omega) (by omega), ?_⟩
    have hw1 : ∀ g1, eqr 10 11 w (sQ w 11 6 g1) := fun g1 => eqr.Qq _ (by omega) (by omega) _ _
    have hO1 : ∀ g1, gO (sQ w 11 6 g1) 10 = some (6, [.int (Int32.ofInt ts.length), .ref 11]) := fun g1 => by rw [gO_sQ_ne _ _ _ _ _ (by omega)]; exact a1
    have hg1 : ∀ g1, gQ (sQ w 11 6 g1) 11 = some (6, g1) := fun g1 => gQ_sQ_at _ _ _ _ (by omega)
    rw [show w = sQ w 11 6 g from (sQ_self a2).symm]
    refine up_to (R := fun i => ∀ g1 : Nat → Option Nat, (∀ j, j < 6 → g1 j = if j + 1 < i then g (j + 1) else g j) → Ru pD pY E (cL d) m_54 Q 18 [.ref 10, .ref t, .ref (12 + 2 * pm 0), .int (Int32.ofInt (i : Int))] [] (sQ w 11 6 g1)) (lo := 1) (hi := 6) (by omega) (fun i hi1 hi ih => ?_) ?_ g (fun j hj => by rw [if_neg (by omega)])
    · intro g1 hgg
      obtain ⟨n1, f1, hf1⟩ := a6 (pm i) (a4 i hi)
      have hO2 : gO (sQ w 11 6 g1) (12 + 2 * pm i) = some (8, [.int (Int32.ofInt n1), .ref (13 + 2 * pm i)]) := by rw [gO_sQ_ne _ _ _ _ _ (by omega)]; exact hf1.1
      have hgi : g1 i = some (12 + 2 * pm i) := by rw [hgg i hi, if_neg (by omega)]; exact a3 i hi
      have e1 : (i : Int) - 1 = ((i - 1 : Nat) : Int) := by omega
      refine ru_at (b := k_54_18) (cl_mono _ _ _ _) rfl ?_
      simp only [k_54_18, x_iload_0, x_iload_1, x_iload_2, x_iload_3, x_iload_4, x_iload_5, x_iload_6, x_iload_7, x_iload_8, x_iload_9, x_iload_10, x_iload_11, x_lload_0, x_lload_1, x_lload_2, x_lload_3, x_lload_4, x_lload_5, x_lload_6, x_lload_7, x_lload_8, x_lload_9, x_lload_10, x_lload_11, x_aload_0, x_aload_1, x_aload_2, x_aload_3, x_aload_4, x_aload_5, x_aload_6, x_aload_7, x_aload_8, x_aload_9, x_aload_10, x_aload_11, x_istore_0, x_istore_1, x_istore_2, x_istore_3, x_istore_4, x_istore_5, x_istore_6, x_istore_7, x_istore_8, x_istore_9, x_istore_10, x_istore_11, x_astore_0, x_astore_1, x_astore_2, x_astore_3, x_astore_4, x_astore_5, x_astore_6, x_astore_7, x_astore_8, x_astore_9, x_astore_10, x_astore_11, x_lstore_0, x_lstore_1, x_lstore_2, x_lstore_3, x_lstore_4, x_lstore_5, x_lstore_6, x_lstore_7, x_lstore_8, x_lstore_9, x_lstore_10, x_iinc_0, x_iinc_1, x_iinc_2, x_iinc_3, x_iinc_4, x_iinc_5, x_iinc_6, x_iinc_7, x_iinc_8, x_iinc_9, x_iinc_10, x_iinc_11, x_iconst, x_bipush, x_sipush, x_lconst, x_ldc_w, x_ldc2_w, x_iadd, x_isub, x_imul, x_iand, x_ior, x_ixor, x_ishl, x_ishr, x_iushr, x_ladd, x_lsub, x_lmul, x_ineg, x_lneg, x_lcmp, x_i2l, x_l2i, x_idiv, x_irem, x_ldiv, x_lrem, x_dup_int, x_pop_int, x_dup_ref, x_pop_ref, x_dup2, x_goto, x_nop, x_if_eq, x_if_ne, x_if_lt, x_if_ge, x_if_gt, x_if_le, x_icmp_eq, x_icmp_ne, x_icmp_lt, x_icmp_ge, x_icmp_gt, x_icmp_le, x_getfield, x_putfield, x_iaload, x_baload, x_laload, x_iastore, x_bastore, x_lastore, x_arraylength, x_virtual_0, x_virtual_1, x_virtual_2, x_virtual_3, x_virtual_4, x_virtual_5, x_static_0, x_static_1, x_static_2, x_static_3, x_static_4, x_static_5, x_static_6, x_min, x_max, x_abs, x_labs, x_tsw, oM_some, k_int, k_ref, k_long, k_null, vc_nil, vc_int, vc_ref, vc_long, tl_some, tl_none, hO1 g1, hg1 g1, List.getElem?_cons_succ, List.getElem?_cons_zero, List.length_cons, List.length_nil, List.set_cons_zero, List.set_cons_succ, true_and, and_true, x_aaload, x_aastore, ia_sub, ia_add, tn_of (show (i : Int) = (i : Nat) from rfl) (by omega), hgi, hO2, tn_of e1 (by omega), sQ_sQ, x_return (M := m_54) rfl rfl]
      refine if_le ⟨by omega, by omega⟩ ⟨by omega, by omega⟩ (fun hcc => absurd hcc (by omega)) (fun hcc => ?_)
      refine ⟨inb_of (by omega) (by omega) (by omega), inb_of (by omega) (by omega) (by omega), ih _ (fun j hj => ?_)⟩
      unfold va_up
      by_cases e : j = i - 1
      · rw [if_pos e, if_pos (by omega), ← a3 i hi]
        congr 1
        omega
      · rw [if_neg e, hgg j hj]
        by_cases e2 : j + 1 < i
        · rw [if_pos e2, if_pos (by omega)]
        · rw [if_neg e2, if_neg (by omega)]
    · intro g1 hgg
      obtain ⟨n1, f1, hf1⟩ := a6 (pm 0) (a4 0 (by omega))
      have hp0 := a4 0 (by omega)
      have hO2 : gO (sQ w 11 6 g1) (12 + 2 * pm 0) = some (8, [.int (Int32.ofInt n1), .ref (13 + 2 * pm 0)]) := by rw [gO_sQ_ne _ _ _ _ _ (by omega)]; exact hf1.1
      refine ru_at (b := k_54_18) (cl_mono _ _ _ _) rfl ?_
      simp only [k_54_18, x_iload_0, x_iload_1, x_iload_2, x_iload_3, x_iload_4, x_iload_5, x_iload_6, x_iload_7, x_iload_8, x_iload_9, x_iload_10, x_iload_11, x_lload_0, x_lload_1, x_lload_2, x_lload_3, x_lload_4, x_lload_5, x_lload_6, x_lload_7, x_lload_8, x_lload_9, x_lload_10, x_lload_11, x_aload_0, x_aload_1, x_aload_2, x_aload_3, x_aload_4, x_aload_5, x_aload_6, x_aload_7, x_aload_8, x_aload_9, x_aload_10, x_aload_11, x_istore_0, x_istore_1, x_istore_2, x_istore_3, x_istore_4, x_istore_5, x_istore_6, x_istore_7, x_istore_8, x_istore_9, x_istore_10, x_istore_11, x_astore_0, x_astore_1, x_astore_2, x_astore_3, x_astore_4, x_astore_5, x_astore_6, x_astore_7, x_astore_8, x_astore_9, x_astore_10, x_astore_11, x_lstore_0, x_lstore_1, x_lstore_2, x_lstore_3, x_lstore_4, x_lstore_5, x_lstore_6, x_lstore_7, x_lstore_8, x_lstore_9, x_lstore_10, x_iinc_0, x_iinc_1, x_iinc_2, x_iinc_3, x_iinc_4, x_iinc_5, x_iinc_6, x_iinc_7, x_iinc_8, x_iinc_9, x_iinc_10, x_iinc_11, x_iconst, x_bipush, x_sipush, x_lconst, x_ldc_w, x_ldc2_w, x_iadd, x_isub, x_imul, x_iand, x_ior, x_ixor, x_ishl, x_ishr, x_iushr, x_ladd, x_lsub, x_lmul, x_ineg, x_lneg, x_lcmp, x_i2l, x_l2i, x_idiv, x_irem, x_ldiv, x_lrem, x_dup_int, x_pop_int, x_dup_ref, x_pop_ref, x_dup2, x_goto, x_nop, x_if_eq, x_if_ne, x_if_lt, x_if_ge, x_if_gt, x_if_le, x_icmp_eq, x_icmp_ne, x_icmp_lt, x_icmp_ge, x_icmp_gt, x_icmp_le, x_getfield, x_putfield, x_iaload, x_baload, x_laload, x_iastore, x_bastore, x_lastore, x_arraylength, x_virtual_0, x_virtual_1, x_virtual_2, x_virtual_3, x_virtual_4, x_virtual_5, x_static_0, x_static_1, x_static_2, x_static_3, x_static_4, x_static_5, x_static_6, x_min, x_max, x_abs, x_labs, x_tsw, oM_some, k_int, k_ref, k_long, k_null, vc_nil, vc_int, vc_ref, vc_long, tl_some, tl_none, x_return (M := m_54) rfl rfl]
      refine if_le ⟨by omega, by omega⟩ ⟨by omega, by omega⟩ (fun hcc => ?_) (fun hcc => absurd hcc (by omega))
      refine ru_at (b := k_54_44) (cl_mono _ _ _ _) rfl ?_
      simp only [k_54_44, x_iload_0, x_iload_1, x_iload_2, x_iload_3, x_iload_4, x_iload_5, x_iload_6, x_iload_7, x_iload_8, x_iload_9, x_iload_10, x_iload_11, x_lload_0, x_lload_1, x_lload_2, x_lload_3, x_lload_4, x_lload_5, x_lload_6, x_lload_7, x_lload_8, x_lload_9, x_lload_10, x_lload_11, x_aload_0, x_aload_1, x_aload_2, x_aload_3, x_aload_4, x_aload_5, x_aload_6, x_aload_7, x_aload_8, x_aload_9, x_aload_10, x_aload_11, x_istore_0, x_istore_1, x_istore_2, x_istore_3, x_istore_4, x_istore_5, x_istore_6, x_istore_7, x_istore_8, x_istore_9, x_istore_10, x_istore_11, x_astore_0, x_astore_1, x_astore_2, x_astore_3, x_astore_4, x_astore_5, x_astore_6, x_astore_7, x_astore_8, x_astore_9, x_astore_10, x_astore_11, x_lstore_0, x_lstore_1, x_lstore_2, x_lstore_3, x_lstore_4, x_lstore_5, x_lstore_6, x_lstore_7, x_lstore_8, x_lstore_9, x_lstore_10, x_iinc_0, x_iinc_1, x_iinc_2, x_iinc_3, x_iinc_4, x_iinc_5, x_iinc_6, x_iinc_7, x_iinc_8, x_iinc_9, x_iinc_10, x_iinc_11, x_iconst, x_bipush, x_sipush, x_lconst, x_ldc_w, x_ldc2_w, x_iadd, x_isub, x_imul, x_iand, x_ior, x_ixor, x_ishl, x_ishr, x_iushr, x_ladd, x_lsub, x_lmul, x_ineg, x_lneg, x_lcmp, x_i2l, x_l2i, x_idiv, x_irem, x_ldiv, x_lrem, x_dup_int, x_pop_int, x_dup_ref, x_pop_ref, x_dup2, x_goto, x_nop, x_if_eq, x_if_ne, x_if_lt, x_if_ge, x_if_gt, x_if_le, x_icmp_eq, x_icmp_ne, x_icmp_lt, x_icmp_ge, x_icmp_gt, x_icmp_le, x_getfield, x_putfield, x_iaload, x_baload, x_laload, x_iastore, x_bastore, x_lastore, x_arraylength, x_virtual_0, x_virtual_1, x_virtual_2, x_virtual_3, x_virtual_4, x_virtual_5, x_static_0, x_static_1, x_static_2, x_static_3, x_static_4, x_static_5, x_static_6, x_min, x_max, x_abs, x_labs, x_tsw, oM_some, k_int, k_ref, k_long, k_null, vc_nil, vc_int, vc_ref, vc_long, tl_some, tl_none, hO1 g1, hg1 g1, List.getElem?_cons_succ, List.getElem?_cons_zero, List.length_cons, List.length_nil, List.set_cons_zero, List.set_cons_succ, true_and, and_true, x_aastore, hO2, tn_of (show (5 : Int) = ((5 : Nat) : Int) from rfl) (by omega), sQ_sQ, x_return (M := m_54) rfl rfl]
      refine ⟨inb_of (by omega) (by omega) (by omega), ?_⟩
      have e5 : ts.tail.length = 5 := by simp [h6]
      refine fin _ ts.tail (fun j => if j < 5 then pm (j + 1) else pm 0) _ _ (by omega) ⟨by rw [gO_sQ_ne _ _ _ _ _ (by omega), e5, a1, h6], ⟨_, hg1 _, fun j hj => ?_⟩, fun j hj => ?_, fun i j hi hj hij => ?_, fun p hp => ?_, by rw [len_sQ]; exact a7⟩ (fun j t hjt => ?_) (hw1 _) (by unfold shNext; rw [if_pos h6])
      · show va_up g1 5 (some (12 + 2 * pm 0)) j = some (12 + 2 * (if j < 5 then pm (j + 1) else pm 0))
        unfold va_up
        by_cases e : j = 5
        · rw [if_pos e, if_neg (show ¬ j < 5 by omega)]
        · rw [if_neg e, hgg j hj, if_pos (show j + 1 < 6 by omega), if_pos (show j < 5 by omega), a3 (j + 1) (by omega)]
      · simp only
        split
        · exact a4 _ (by omega)
        · exact hp0
      · simp only at hij
        split at hij <;> split at hij
        · have := a5 _ _ (by omega) (by omega) hij; omega
        · have := a5 _ _ (by omega) (by omega) hij; omega
        · have := a5 _ _ (by omega) (by omega) hij; omega
        · omega
      · obtain ⟨n2, f2, hf2⟩ := a6 p hp
        exact ⟨n2, f2, (hw1 _).tb (by omega) (by omega) hf2⟩
      · have hj5 : j < 5 := by have := (List.getElem?_eq_some_iff.mp hjt).1; omega
        simp only [hj5, if_true]
        have hjt2 : ts[j + 1]? = some t := by rw [← hjt, List.getElem?_tail]
        obtain ⟨b1, f2, b2, b3⟩ := h3 (j + 1) t hjt2
        exact ⟨b1, f2, (hw1 _).tb (by omega) (by omega) b2, b3⟩
  · refine ru_at (b := k_54_0) (cl_mono _ _ _ _) rfl ?_
    simp only [k_54_0, x_iload_0, x_iload_1, x_iload_2, x_iload_3, x_iload_4, x_iload_5, x_iload_6, x_iload_7, x_iload_8, x_iload_9, x_iload_10, x_iload_11, x_lload_0, x_lload_1, x_lload_2, x_lload_3, x_lload_4, x_lload_5, x_lload_6, x_lload_7, x_lload_8, x_lload_9, x_lload_10, x_lload_11, x_aload_0, x_aload_1, x_aload_2, x_aload_3, x_aload_4, x_aload_5, x_aload_6, x_aload_7, x_aload_8, x_aload_9, x_aload_10, x_aload_11, x_istore_0, x_istore_1, x_istore_2, x_istore_3, x_istore_4, x_istore_5, x_istore_6, x_istore_7, x_istore_8, x_istore_9, x_istore_10, x_istore_11, x_astore_0, x_astore_1, x_astore_2, x_astore_3, x_astore_4, x_astore_5, x_astore_6, x_astore_7, x_astore_8, x_astore_9, x_astore_10, x_astore_11, x_lstore_0, x_lstore_1, x_lstore_2, x_lstore_3, x_lstore_4, x_lstore_5, x_lstore_6, x_lstore_7, x_lstore_8, x_lstore_9, x_lstore_10, x_iinc_0, x_iinc_1, x_iinc_2, x_iinc_3, x_iinc_4, x_iinc_5, x_iinc_6, x_iinc_7, x_iinc_8, x_iinc_9, x_iinc_10, x_iinc_11, x_iconst, x_bipush, x_sipush, x_lconst, x_ldc_w, x_ldc2_w, x_iadd, x_isub, x_imul, x_iand, x_ior, x_ixor, x_ishl, x_ishr, x_iushr, x_ladd, x_lsub, x_lmul, x_ineg, x_lneg, x_lcmp, x_i2l, x_l2i, x_idiv, x_irem, x_ldiv, x_lrem, x_dup_int, x_pop_int, x_dup_ref, x_pop_ref, x_dup2, x_goto, x_nop, x_if_eq, x_if_ne, x_if_lt, x_if_ge, x_if_gt, x_if_le, x_icmp_eq, x_icmp_ne, x_icmp_lt, x_icmp_ge, x_icmp_gt, x_icmp_le, x_getfield, x_putfield, x_iaload, x_baload, x_laload, x_iastore, x_bastore, x_lastore, x_arraylength, x_virtual_0, x_virtual_1, x_virtual_2, x_virtual_3, x_virtual_4, x_virtual_5, x_static_0, x_static_1, x_static_2, x_static_3, x_static_4, x_static_5, x_static_6, x_min, x_max, x_abs, x_labs, x_tsw, oM_some, k_int, k_ref, k_long, k_null, vc_nil, vc_int, vc_ref, vc_long, tl_some, tl_none, a1, List.getElem?_cons_succ, List.getElem?_cons_zero, List.length_cons, List.length_nil, List.set_cons_zero, List.set_cons_succ, true_and, and_true, x_return (M := m_54) rfl rfl]
    refine if_ne ⟨by omega, by omega⟩ ⟨by omega, by omega⟩ (fun _ => ?_) (fun hc => absurd hc (by omega))
    refine ru_at (b := k_54_54) (cl_mono _ _ _ _) rfl ?_
    simp only [k_54_54, x_iload_0, x_iload_1, x_iload_2, x_iload_3, x_iload_4, x_iload_5, x_iload_6, x_iload_7, x_iload_8, x_iload_9, x_iload_10, x_iload_11, x_lload_0, x_lload_1, x_lload_2, x_lload_3, x_lload_4, x_lload_5, x_lload_6, x_lload_7, x_lload_8, x_lload_9, x_lload_10, x_lload_11, x_aload_0, x_aload_1, x_aload_2, x_aload_3, x_aload_4, x_aload_5, x_aload_6, x_aload_7, x_aload_8, x_aload_9, x_aload_10, x_aload_11, x_istore_0, x_istore_1, x_istore_2, x_istore_3, x_istore_4, x_istore_5, x_istore_6, x_istore_7, x_istore_8, x_istore_9, x_istore_10, x_istore_11, x_astore_0, x_astore_1, x_astore_2, x_astore_3, x_astore_4, x_astore_5, x_astore_6, x_astore_7, x_astore_8, x_astore_9, x_astore_10, x_astore_11, x_lstore_0, x_lstore_1, x_lstore_2, x_lstore_3, x_lstore_4, x_lstore_5, x_lstore_6, x_lstore_7, x_lstore_8, x_lstore_9, x_lstore_10, x_iinc_0, x_iinc_1, x_iinc_2, x_iinc_3, x_iinc_4, x_iinc_5, x_iinc_6, x_iinc_7, x_iinc_8, x_iinc_9, x_iinc_10, x_iinc_11, x_iconst, x_bipush, x_sipush, x_lconst, x_ldc_w, x_ldc2_w, x_iadd, x_isub, x_imul, x_iand, x_ior, x_ixor, x_ishl, x_ishr, x_iushr, x_ladd, x_lsub, x_lmul, x_ineg, x_lneg, x_lcmp, x_i2l, x_l2i, x_idiv, x_irem, x_ldiv, x_lrem, x_dup_int, x_pop_int, x_dup_ref, x_pop_ref, x_dup2, x_goto, x_nop, x_if_eq, x_if_ne, x_if_lt, x_if_ge, x_if_gt, x_if_le, x_icmp_eq, x_icmp_ne, x_icmp_lt, x_icmp_ge, x_icmp_gt, x_icmp_le, x_getfield, x_putfield, x_iaload, x_baload, x_laload, x_iastore, x_bastore, x_lastore, x_arraylength, x_virtual_0, x_virtual_1, x_virtual_2, x_virtual_3, x_virtual_4, x_virtual_5, x_static_0, x_static_1, x_static_2, x_static_3, x_static_4, x_static_5, x_static_6, x_min, x_max, x_abs, x_labs, x_tsw, oM_some, k_int, k_ref, k_long, k_null, vc_nil, vc_int, vc_ref, vc_long, tl_some, tl_none, a1, List.getElem?_cons_succ, List.getElem?_cons_zero, List.length_cons, List.length_nil, List.set_cons_zero, List.set_cons_succ, true_and, and_true, ia_add, x_return (M := m_54) rfl rfl]
    refine ⟨⟨by decide, rfl⟩, ?_⟩
    have hq := eqr.O (lo := 10) (hi := 10) w (a := 10) (by omega) (by omega) 6 [.int (Int32.ofInt ((ts.length : Int) + 1)), .ref 11]
    refine fin _ ts pm .null .null (by omega) ⟨by rw [gO_sO_at _ _ _ _ (by omega)]; rfl, ⟨g, by rw [hq.q (by omega)]; exact a2, a3⟩, a4, a5, fun p hp => ?_, by rw [len_sO]; exact a7⟩ (fun j t hjt => ?_) (hq.wd (by omega) (by omega)) (by unfold shNext; rw [if_neg h6])
    · obtain ⟨n2, f2, hf2⟩ := a6 p hp
      exact ⟨n2, f2, hq.tb (by omega) (by omega) hf2⟩
    · obtain ⟨b1, f2, b2, b3⟩ := h3 j t hjt
      exact ⟨b1, f2, hq.tb (by omega) (by omega) b2, b3⟩
theorem c_restore {w : aW} {ts : List (Nat × (Nat → Nat → Nat))} {tn0 : Nat × (Nat → Nat → Nat)} (h : SH w (ts ++ [tn0])) {t a n : Nat} {f : Nat → Int32} (ht : tbl w t a n f) (ht1 : t < 10) (ha1 : a < 10) : Ct 2 139 [.ref 10, .ref t] w (fun r w' => r = none ∧ SH w' ts ∧ ∃ w1 f', w' = sI (sO w1 t 8 [.int (Int32.ofInt tn0.1), .ref a]) a 169 f' ∧ tHas 0 tn0.1 tn0.2 f' ∧ eqr 10 10 w w1) := by
  obtain ⟨h1, pm, hO, h3⟩ := h
  obtain ⟨a1, ⟨g, a2, a3⟩, a4, a5, a6, a7⟩ := id hO
  rw [List.length_append, show ([tn0] : List (Nat × (Nat → Nat → Nat))).length = 1 from rfl] at h1 a1
  obtain ⟨b1, f2, b2, b3⟩ := h3 ts.length tn0 (by simp)
  have hp := a4 ts.length (by omega)
  have e1 : ((ts.length + 1 : Nat) : Int) - 1 = (ts.length : Nat) := by omega
  have hq := eqr.O (lo := 10) (hi := 10) w (a := 10) (by omega) (by omega) 6 [.int (Int32.ofInt (ts.length : Nat)), .ref 11]
  have c1 : gO (sO w 10 6 [.int (Int32.ofInt (ts.length : Nat)), .ref 11]) 10 = some (6, [.int (Int32.ofInt (ts.length : Nat)), .ref 11]) := gO_sO_at _ _ _ _ (by omega)
  have c2 : gQ (sO w 10 6 [.int (Int32.ofInt (ts.length : Nat)), .ref 11]) 11 = some (6, g) := by rw [hq.q (by omega)]; exact a2
  have c3 := hq.tb (by omega) (by omega) ht
  have c4 := hq.tb (by omega) (by omega) b2
  refine Ct.of (fun d hd Q hQ => cl_at (M := m_139) (L := [.ref 10, .ref t]) rfl (Nat.le_of_ble_eq_true rfl) rfl (fun E hE => ?_))
  refine ru_at (b := k_139_0) (cl_mono _ _ _ _) rfl ?_
  simp only [k_139_0, x_iload_0, x_iload_1, x_iload_2, x_iload_3, x_iload_4, x_iload_5, x_iload_6, x_iload_7, x_iload_8, x_iload_9, x_iload_10, x_iload_11, x_lload_0, x_lload_1, x_lload_2, x_lload_3, x_lload_4, x_lload_5, x_lload_6, x_lload_7, x_lload_8, x_lload_9, x_lload_10, x_lload_11, x_aload_0, x_aload_1, x_aload_2, x_aload_3, x_aload_4, x_aload_5, x_aload_6, x_aload_7, x_aload_8, x_aload_9, x_aload_10, x_aload_11, x_istore_0, x_istore_1, x_istore_2, x_istore_3, x_istore_4, x_istore_5, x_istore_6, x_istore_7, x_istore_8, x_istore_9, x_istore_10, x_istore_11, x_astore_0, x_astore_1, x_astore_2, x_astore_3, x_astore_4, x_astore_5, x_astore_6, x_astore_7, x_astore_8, x_astore_9, x_astore_10, x_astore_11, x_lstore_0, x_lstore_1, x_lstore_2, x_lstore_3, x_lstore_4, x_lstore_5, x_lstore_6, x_lstore_7, x_lstore_8, x_lstore_9, x_lstore_10, x_iinc_0, x_iinc_1, x_iinc_2, x_iinc_3, x_iinc_4, x_iinc_5, x_iinc_6, x_iinc_7, x_iinc_8, x_iinc_9, x_iinc_10, x_iinc_11, x_iconst, x_bipush, x_sipush, x_lconst, x_ldc_w, x_ldc2_w, x_iadd, x_isub, x_imul, x_iand, x_ior, x_ixor, x_ishl, x_ishr, x_iushr, x_ladd, x_lsub, x_lmul, x_ineg, x_lneg, x_lcmp, x_i2l, x_l2i, x_idiv, x_irem, x_ldiv, x_lrem, x_dup_int, x_pop_int, x_dup_ref, x_pop_ref, x_dup2, x_goto, x_nop, x_if_eq, x_if_ne, x_if_lt, x_if_ge, x_if_gt, x_if_le, x_icmp_eq, x_icmp_ne, x_icmp_lt, x_icmp_ge, x_icmp_gt, x_icmp_le, x_getfield, x_putfield, x_iaload, x_baload, x_laload, x_iastore, x_bastore, x_lastore, x_arraylength, x_virtual_0, x_virtual_1, x_virtual_2, x_virtual_3, x_virtual_4, x_virtual_5, x_static_0, x_static_1, x_static_2, x_static_3, x_static_4, x_static_5, x_static_6, x_min, x_max, x_abs, x_labs, x_tsw, oM_some, k_int, k_ref, k_long, k_null, vc_nil, vc_int, vc_ref, vc_long, tl_some, tl_none, a1, List.getElem?_cons_succ, List.getElem?_cons_zero, List.length_cons, List.length_nil, List.set_cons_zero, List.set_cons_succ, true_and, and_true, ia_sub, e1, c1, c2, c3.1, x_aaload, tn_of (show (ts.length : Int) = (ts.length : Nat) from rfl) (by omega), a3 ts.length (by omega), x_return (M := m_139) rfl rfl]
  refine if_le0 ⟨by omega, by omega⟩ (fun hc => absurd hc (by omega)) (fun _ => ?_)
  refine ⟨⟨by decide, rfl⟩, inb_of (by omega) (by omega) (by omega), by decide, (c_copyFrom c3 c4 (by omega) (by omega)).go (by omega) (fun r w2 hr => ?_)⟩
  obtain ⟨rfl, f', rfl, hf'⟩ := hr
  simp only [x_iload_0, x_iload_1, x_iload_2, x_iload_3, x_iload_4, x_iload_5, x_iload_6, x_iload_7, x_iload_8, x_iload_9, x_iload_10, x_iload_11, x_lload_0, x_lload_1, x_lload_2, x_lload_3, x_lload_4, x_lload_5, x_lload_6, x_lload_7, x_lload_8, x_lload_9, x_lload_10, x_lload_11, x_aload_0, x_aload_1, x_aload_2, x_aload_3, x_aload_4, x_aload_5, x_aload_6, x_aload_7, x_aload_8, x_aload_9, x_aload_10, x_aload_11, x_istore_0, x_istore_1, x_istore_2, x_istore_3, x_istore_4, x_istore_5, x_istore_6, x_istore_7, x_istore_8, x_istore_9, x_istore_10, x_istore_11, x_astore_0, x_astore_1, x_astore_2, x_astore_3, x_astore_4, x_astore_5, x_astore_6, x_astore_7, x_astore_8, x_astore_9, x_astore_10, x_astore_11, x_lstore_0, x_lstore_1, x_lstore_2, x_lstore_3, x_lstore_4, x_lstore_5, x_lstore_6, x_lstore_7, x_lstore_8, x_lstore_9, x_lstore_10, x_iinc_0, x_iinc_1, x_iinc_2, x_iinc_3, x_iinc_4, x_iinc_5, x_iinc_6, x_iinc_7, x_iinc_8, x_iinc_9, x_iinc_10, x_iinc_11, x_iconst, x_bipush, x_sipush, x_lconst, x_ldc_w, x_ldc2_w, x_iadd, x_isub, x_imul, x_iand, x_ior, x_ixor, x_ishl, x_ishr, x_iushr, x_ladd, x_lsub, x_lmul, x_ineg, x_lneg, x_lcmp, x_i2l, x_l2i, x_idiv, x_irem, x_ldiv, x_lrem, x_dup_int, x_pop_int, x_dup_ref, x_pop_ref, x_dup2, x_goto, x_nop, x_if_eq, x_if_ne, x_if_lt, x_if_ge, x_if_gt, x_if_le, x_icmp_eq, x_icmp_ne, x_icmp_lt, x_icmp_ge, x_icmp_gt, x_icmp_le, x_getfield, x_putfield, x_iaload, x_baload, x_laload, x_iastore, x_bastore, x_lastore, x_arraylength, x_virtual_0, x_virtual_1, x_virtual_2, x_virtual_3, x_virtual_4, x_virtual_5, x_static_0, x_static_1, x_static_2, x_static_3, x_static_4, x_static_5, x_static_6, x_min, x_max, x_abs, x_labs, x_tsw, oM_some, k_int, k_ref, k_long, k_null, vc_nil, vc_int, vc_ref, vc_long, tl_some, tl_none]
  refine ru_at (b := k_139_30) (cl_mono _ _ _ _) rfl ?_
  simp only [k_139_30, x_iload_0, x_iload_1, x_iload_2, x_iload_3, x_iload_4, x_iload_5, x_iload_6, x_iload_7, x_iload_8, x_iload_9, x_iload_10, x_iload_11, x_lload_0, x_lload_1, x_lload_2, x_lload_3, x_lload_4, x_lload_5, x_lload_6, x_lload_7, x_lload_8, x_lload_9, x_lload_10, x_lload_11, x_aload_0, x_aload_1, x_aload_2, x_aload_3, x_aload_4, x_aload_5, x_aload_6, x_aload_7, x_aload_8, x_aload_9, x_aload_10, x_aload_11, x_istore_0, x_istore_1, x_istore_2, x_istore_3, x_istore_4, x_istore_5, x_istore_6, x_istore_7, x_istore_8, x_istore_9, x_istore_10, x_istore_11, x_astore_0, x_astore_1, x_astore_2, x_astore_3, x_astore_4, x_astore_5, x_astore_6, x_astore_7, x_astore_8, x_astore_9, x_astore_10, x_astore_11, x_lstore_0, x_lstore_1, x_lstore_2, x_lstore_3, x_lstore_4, x_lstore_5, x_lstore_6, x_lstore_7, x_lstore_8, x_lstore_9, x_lstore_10, x_iinc_0, x_iinc_1, x_iinc_2, x_iinc_3, x_iinc_4, x_iinc_5, x_iinc_6, x_iinc_7, x_iinc_8, x_iinc_9, x_iinc_10, x_iinc_11, x_iconst, x_bipush, x_sipush, x_lconst, x_ldc_w, x_ldc2_w, x_iadd, x_isub, x_imul, x_iand, x_ior, x_ixor, x_ishl, x_ishr, x_iushr, x_ladd, x_lsub, x_lmul, x_ineg, x_lneg, x_lcmp, x_i2l, x_l2i, x_idiv, x_irem, x_ldiv, x_lrem, x_dup_int, x_pop_int, x_dup_ref, x_pop_ref, x_dup2, x_goto, x_nop, x_if_eq, x_if_ne, x_if_lt, x_if_ge, x_if_gt, x_if_le, x_icmp_eq, x_icmp_ne, x_icmp_lt, x_icmp_ge, x_icmp_gt, x_icmp_le, x_getfield, x_putfield, x_iaload, x_baload, x_laload, x_iastore, x_bastore, x_lastore, x_arraylength, x_virtual_0, x_virtual_1, x_virtual_2, x_virtual_3, x_virtual_4, x_virtual_5, x_static_0, x_static_1, x_static_2, x_static_3, x_static_4, x_static_5, x_static_6, x_min, x_max, x_abs, x_labs, x_tsw, oM_some, k_int, k_ref, k_long, k_null, vc_nil, vc_int, vc_ref, vc_long, tl_some, tl_none, x_return (M := m_139) rfl rfl]
  have q2 : eqr 0 9 (sO w 10 6 [.int (Int32.ofInt (ts.length : Nat)), .ref 11]) (sI (sO (sO w 10 6 [.int (Int32.ofInt (ts.length : Nat)), .ref 11]) t 8 [.int (Int32.ofInt tn0.1), .ref a]) a 169 f') := (eqr.O _ (by omega) (by omega) _ _).tr (eqr.I _ (by omega) (by omega) _ _)
  refine hQ _ _ ⟨rfl, SH.keep (lo := 0) (hi := 9) ⟨by omega, pm, ⟨c1, ⟨g, c2, a3⟩, a4, a5, fun p hp => ?_, by rw [hq.1]; exact a7⟩, fun j t hjt => ?_⟩ q2 (by omega), _, f', rfl, fun x y hx hy => ?_, hq⟩
  · obtain ⟨n2, f2, hf2⟩ := a6 p hp
    exact ⟨n2, f2, hq.tb (by omega) (by omega) hf2⟩
  · have hjl := (List.getElem?_eq_some_iff.mp hjt).1
    obtain ⟨d1, f3, d2, d3⟩ := h3 j t (by rw [List.getElem?_append_left hjl]; exact hjt)
    exact ⟨d1, f3, hq.tb (by omega) (by omega) d2, d3⟩
  · have := b1.2.1
    rw [hf' _ (by omega)]
    exact b3 x y hx hy
