/-! ===== the constructors of PairSorts and PairSortsModel ===== -/
theorem gO_0 (q : Nat × List Value) (rs : aW) : gO (.inr q :: rs) 0 = some q := rfl
theorem sO_0 (c : aC) (rs : aW) (ci : Nat) (fs : List Value) : sO (c :: rs) 0 ci fs = .inr (ci, fs) :: rs := rfl
theorem y_field {E : Nat × Nat} {d : Nat} {M : aM} {go : Nat → List Value → List Value → aW → Prop} {Q : Option Value → aW → Prop} {p1 l1 p2 l2 p3 l3 p4 l4 p5 l5 i2 i4 i5 k pl5 ci mi mc ms dd : Nat} {a1 a3 q2 q4 : List Nat} {z1 z2 z3 z4 z5 : Int} {is : List aI} {rs : aW} {fs : List Value} {PT : Nat → aW → Prop}
    (hc : ∀ pre : aW, Ct dd mi [.ref pre.length] (pre ++ [.inr (ci, pD ci)]) (fun q w' => q = none ∧ ∃ tail, PT pre.length tail ∧ w' = pre ++ tail)) (hT : ∀ N tail, PT N tail → tail.length = mc + 1 ∧ aW_s tail = (pD ci).length + ms) (hd : dd ≤ d) {n s : Nat} (hn : rs.length = n) (hs : aW_s rs = s) (hfl : fs.length = 13) (h1 : n + 2 + mc ≤ E.1) (h2 : 13 + s + (pD ci).length + ms ≤ E.2) (hk : k < 13) (hf : ∀ a, aF_ok (pY 10 k) (.ref a) = true) (N n' s' : Nat) (hN : n + 1 = N) (hn' : n + (mc + 1) = n') (hs' : s + ((pD ci).length + ms) = s')
    (h : ∀ tail rs', PT N tail → rs' = rs ++ tail → rs'.length = n' → aW_s rs' = s' → (fs.set k (.ref N)).length = 13 → ex pD pY E (cL d) M go Q is [.ref 0] [] (.inr (10, fs.set k (.ref N)) :: rs')) : ex pD pY E (cL d) M go Q ((p1, .aload_n 0, l1, a1, z1) :: (p2, .new i2, l2, ci :: q2, z2) :: (p3, .dup, l3, a3, z3) :: (p4, .invokespecial i4, l4, mi :: 0 :: mc :: ms :: q4, z4) :: (p5, .putfield i5, l5, [10, k, pl5], z5) :: is) [.ref 0] [] (.inr (10, fs) :: rs) := by
  simp only [x_iload_0, x_iload_1, x_iload_2, x_iload_3, x_iload_4, x_iload_5, x_iload_6, x_iload_7, x_iload_8, x_iload_9, x_iload_10, x_iload_11, x_lload_0, x_lload_1, x_lload_2, x_lload_3, x_lload_4, x_lload_5, x_lload_6, x_lload_7, x_lload_8, x_lload_9, x_lload_10, x_lload_11, x_aload_0, x_aload_1, x_aload_2, x_aload_3, x_aload_4, x_aload_5, x_aload_6, x_aload_7, x_aload_8, x_aload_9, x_aload_10, x_aload_11, x_istore_0, x_istore_1, x_istore_2, x_istore_3, x_istore_4, x_istore_5, x_istore_6, x_istore_7, x_istore_8, x_istore_9, x_istore_10, x_istore_11, x_astore_0, x_astore_1, x_astore_2, x_astore_3, x_astore_4, x_astore_5, x_astore_6, x_astore_7, x_astore_8, x_astore_9, x_astore_10, x_astore_11, x_lstore_0, x_lstore_1, x_lstore_2, x_lstore_3, x_lstore_4, x_lstore_5, x_lstore_6, x_lstore_7, x_lstore_8, x_lstore_9, x_lstore_10, x_iinc_0, x_iinc_1, x_iinc_2, x_iinc_3, x_iinc_4, x_iinc_5, x_iinc_6, x_iinc_7, x_iinc_8, x_iinc_9, x_iinc_10, x_iinc_11, x_iconst, x_bipush, x_sipush, x_lconst, x_ldc_w, x_ldc2_w, x_iadd, x_isub, x_imul, x_iand, x_ior, x_ixor, x_ishl, x_ishr, x_iushr, x_ladd, x_lsub, x_lmul, x_ineg, x_lneg, x_lcmp, x_i2l, x_l2i, x_idiv, x_irem, x_ldiv, x_lrem, x_dup_int, x_pop_int, x_dup_ref, x_pop_ref, x_dup2, x_goto, x_nop, x_if_eq, x_if_ne, x_if_lt, x_if_ge, x_if_gt, x_if_le, x_icmp_eq, x_icmp_ne, x_icmp_lt, x_icmp_ge, x_icmp_gt, x_icmp_le, x_getfield, x_putfield, x_iaload, x_baload, x_laload, x_iastore, x_bastore, x_lastore, x_arraylength, x_virtual_0, x_virtual_1, x_virtual_2, x_virtual_3, x_virtual_4, x_virtual_5, x_static_0, x_static_1, x_static_2, x_static_3, x_static_4, x_static_5, x_static_6, x_min, x_max, x_abs, x_labs, x_tsw, oM_some, k_int, k_ref, k_long, k_null, vc_nil, vc_int, vc_ref, vc_long, tl_some, tl_none, y_new, y_special]
  refine ⟨?_, ?_, (hc _).go hd (fun r w1 hr => ?_)⟩
  · rw [s_cons, n_inr, List.length_cons]; omega
  · rw [s_app, s_cons, n_inr, s_cons, s_nil, n_inr, List.length_append, List.length_cons, List.length_cons, List.length_nil]
    simp only [List.length_cons, List.length_nil]
    omega
  · obtain ⟨rfl, tail, ht, rfl⟩ := hr
    obtain ⟨t1, t2⟩ := hT _ _ ht
    simp only [x_iload_0, x_iload_1, x_iload_2, x_iload_3, x_iload_4, x_iload_5, x_iload_6, x_iload_7, x_iload_8, x_iload_9, x_iload_10, x_iload_11, x_lload_0, x_lload_1, x_lload_2, x_lload_3, x_lload_4, x_lload_5, x_lload_6, x_lload_7, x_lload_8, x_lload_9, x_lload_10, x_lload_11, x_aload_0, x_aload_1, x_aload_2, x_aload_3, x_aload_4, x_aload_5, x_aload_6, x_aload_7, x_aload_8, x_aload_9, x_aload_10, x_aload_11, x_istore_0, x_istore_1, x_istore_2, x_istore_3, x_istore_4, x_istore_5, x_istore_6, x_istore_7, x_istore_8, x_istore_9, x_istore_10, x_istore_11, x_astore_0, x_astore_1, x_astore_2, x_astore_3, x_astore_4, x_astore_5, x_astore_6, x_astore_7, x_astore_8, x_astore_9, x_astore_10, x_astore_11, x_lstore_0, x_lstore_1, x_lstore_2, x_lstore_3, x_lstore_4, x_lstore_5, x_lstore_6, x_lstore_7, x_lstore_8, x_lstore_9, x_lstore_10, x_iinc_0, x_iinc_1, x_iinc_2, x_iinc_3, x_iinc_4, x_iinc_5, x_iinc_6, x_iinc_7, x_iinc_8, x_iinc_9, x_iinc_10, x_iinc_11, x_iconst, x_bipush, x_sipush, x_lconst, x_ldc_w, x_ldc2_w, x_iadd, x_isub, x_imul, x_iand, x_ior, x_ixor, x_ishl, x_ishr, x_iushr, x_ladd, x_lsub, x_lmul, x_ineg, x_lneg, x_lcmp, x_i2l, x_l2i, x_idiv, x_irem, x_ldiv, x_lrem, x_dup_int, x_pop_int, x_dup_ref, x_pop_ref, x_dup2, x_goto, x_nop, x_if_eq, x_if_ne, x_if_lt, x_if_ge, x_if_gt, x_if_le, x_icmp_eq, x_icmp_ne, x_icmp_lt, x_icmp_ge, x_icmp_gt, x_icmp_le, x_getfield, x_putfield, x_iaload, x_baload, x_laload, x_iastore, x_bastore, x_lastore, x_arraylength, x_virtual_0, x_virtual_1, x_virtual_2, x_virtual_3, x_virtual_4, x_virtual_5, x_static_0, x_static_1, x_static_2, x_static_3, x_static_4, x_static_5, x_static_6, x_min, x_max, x_abs, x_labs, x_tsw, oM_some, k_int, k_ref, k_long, k_null, vc_nil, vc_int, vc_ref, vc_long, tl_some, tl_none, List.nil_append, List.cons_append, gO_0, sO_0]
    have e : (Sum.inr (10, fs) :: rs : aW).length = N := by rw [List.length_cons]; omega
    rw [e] at ht ⊢
    exact ⟨⟨trivial, by omega, hf _⟩, h tail (rs ++ tail) ht rfl (by rw [List.length_append]; omega) (by rw [s_app]; omega) (by rw [List.length_set]; exact hfl)⟩
def PT_Scheme (N : Nat) (tail : aW) : Prop := ∃ f, tHas 0 4 rst f ∧ tail = [.inr (5, [.ref (N + 1), .int 0, .int 0, .int 0, .int 0, .ref (N + 3), .ref (N + 4), .ref (N + 5), .ref (N + 6)]), .inr (8, [.int (Int32.ofInt 4), .ref (N + 2)]), .inl (.int, 169, .inl f), .inl (.int, 6, .inl fun _ => 0), .inl (.boolean, 6, .inl fun _ => 0), .inl (.int, 6, .inl fun _ => 0), .inl (.int, 36, .inl fun _ => 0)]
theorem n_Scheme (pre : aW) : Ct 4 2 [.ref pre.length] (pre ++ [.inr (5, pD 5)]) (fun q w' => q = none ∧ ∃ tail, PT_Scheme pre.length tail ∧ w' = pre ++ tail) := (c_newScheme pre).mono (Nat.le_refl _) (fun q w' ⟨e, f, hf, hw⟩ => ⟨e, _, ⟨f, hf, rfl⟩, hw⟩)
def PT_Table (N : Nat) (tail : aW) : Prop := ∃ f, tHas 0 4 rst f ∧ tail = [.inr (8, [.int (Int32.ofInt 4), .ref (N + 1)]), .inl (.int, 169, .inl f)]
theorem n_Table (pre : aW) : Ct 3 3 [.ref pre.length] (pre ++ [.inr (8, pD 8)]) (fun q w' => q = none ∧ ∃ tail, PT_Table pre.length tail ∧ w' = pre ++ tail) := (c_newTable pre).mono (Nat.le_refl _) (fun q w' ⟨e, f, hf, hw⟩ => ⟨e, _, ⟨f, hf, rfl⟩, hw⟩)
def PT_Shelf (N : Nat) (tail : aW) : Prop := ∃ g f0 f1 f2 f3 f4 f5, (∀ j, j < 6 → g j = some (N + 2 + 2 * j)) ∧ tail = [.inr (6, [.int 0, .ref (N + 1)]), .inl (.object "PairSorts$Table", 6, .inr (.inr (.inr (.inr g)))), .inr (8, [.int (Int32.ofInt 4), .ref (N + 3)]), .inl (.int, 169, .inl f0), .inr (8, [.int (Int32.ofInt 4), .ref (N + 5)]), .inl (.int, 169, .inl f1), .inr (8, [.int (Int32.ofInt 4), .ref (N + 7)]), .inl (.int, 169, .inl f2), .inr (8, [.int (Int32.ofInt 4), .ref (N + 9)]), .inl (.int, 169, .inl f3), .inr (8, [.int (Int32.ofInt 4), .ref (N + 11)]), .inl (.int, 169, .inl f4), .inr (8, [.int (Int32.ofInt 4), .ref (N + 13)]), .inl (.int, 169, .inl f5)]
theorem n_Shelf (pre : aW) : Ct 4 6 [.ref pre.length] (pre ++ [.inr (6, pD 6)]) (fun q w' => q = none ∧ ∃ tail, PT_Shelf pre.length tail ∧ w' = pre ++ tail) := (c_newShelf pre).mono (Nat.le_refl _) (fun q w' ⟨e, g, f0, f1, f2, f3, f4, f5, hg, hw⟩ => ⟨e, _, ⟨g, f0, f1, f2, f3, f4, f5, hg, rfl⟩, hw⟩)
def PT_Maker (N : Nat) (tail : aW) : Prop := tail = [.inr (3, [.ref (N + 1)]), .inl (.int, 13, .inl fun _ => 0)]
theorem n_Maker (pre : aW) : Ct 1 7 [.ref pre.length] (pre ++ [.inr (3, pD 3)]) (fun q w' => q = none ∧ ∃ tail, PT_Maker pre.length tail ∧ w' = pre ++ tail) := (c_newMaker pre).mono (Nat.le_refl _) (fun q w' ⟨e, hw⟩ => ⟨e, _, rfl, hw⟩)
def PT_Characters (N : Nat) (tail : aW) : Prop := tail = [.inr (0, [.int 0, .int 0, .int 0, .long 0, .ref (N + 1), .ref (N + 2), .ref (N + 3), .ref (N + 4)]), .inl (.int, 36, .inl fun _ => 0), .inl (.int, 6, .inl fun _ => 0), .inl (.int, 6, .inl fun _ => 0), .inl (.int, 6, .inl fun _ => 0)]
theorem n_Characters (pre : aW) : Ct 1 8 [.ref pre.length] (pre ++ [.inr (0, pD 0)]) (fun q w' => q = none ∧ ∃ tail, PT_Characters pre.length tail ∧ w' = pre ++ tail) := (c_newCharacters pre).mono (Nat.le_refl _) (fun q w' ⟨e, hw⟩ => ⟨e, _, rfl, hw⟩)
def PT_Orders (N : Nat) (tail : aW) : Prop := tail = [.inr (4, [.int 0, .int 0, .ref (N + 1), .ref (N + 2), .ref (N + 3), .ref (N + 4)]), .inl (.int, 120, .inl fun _ => 0), .inl (.int, 6, .inl fun _ => 0), .inl (.boolean, 6, .inl fun _ => 0), .inl (.long, 216, .inr (.inl fun _ => 0))]
theorem n_Orders (pre : aW) : Ct 1 9 [.ref pre.length] (pre ++ [.inr (4, pD 4)]) (fun q w' => q = none ∧ ∃ tail, PT_Orders pre.length tail ∧ w' = pre ++ tail) := (c_newOrders pre).mono (Nat.le_refl _) (fun q w' ⟨e, hw⟩ => ⟨e, _, rfl, hw⟩)
def PT_Fusions (N : Nat) (tail : aW) : Prop := ∃ fF, tHas 0 4 rst fF ∧ tail = [.inr (2, [.int 0, .int 0, .ref (N + 1), .ref (N + 2), .ref (N + 3)]), .inl (.int, 52, .inl fun _ => 0), .inl (.int, 6, .inl fun _ => 0), .inr (5, [.ref (N + 4), .int 0, .int 0, .int 0, .int 0, .ref (N + 6), .ref (N + 7), .ref (N + 8), .ref (N + 9)]), .inr (8, [.int (Int32.ofInt 4), .ref (N + 5)]), .inl (.int, 169, .inl fF), .inl (.int, 6, .inl fun _ => 0), .inl (.boolean, 6, .inl fun _ => 0), .inl (.int, 6, .inl fun _ => 0), .inl (.int, 36, .inl fun _ => 0)]
theorem n_Fusions (pre : aW) : Ct 5 10 [.ref pre.length] (pre ++ [.inr (2, pD 2)]) (fun q w' => q = none ∧ ∃ tail, PT_Fusions pre.length tail ∧ w' = pre ++ tail) := (c_newFusions pre).mono (Nat.le_refl _) (fun q w' ⟨e, f, hf, hw⟩ => ⟨e, _, ⟨f, hf, rfl⟩, hw⟩)
def PT_Codes (N : Nat) (tail : aW) : Prop := tail = [.inr (1, [.ref (N + 1), .ref (N + 2), .int 0]), .inl (.int, 6, .inl fun _ => 0), .inl (.int, 13, .inl fun _ => 0)]
theorem n_Codes (pre : aW) : Ct 1 11 [.ref pre.length] (pre ++ [.inr (1, pD 1)]) (fun q w' => q = none ∧ ∃ tail, PT_Codes pre.length tail ∧ w' = pre ++ tail) := (c_newCodes pre).mono (Nat.le_refl _) (fun q w' ⟨e, hw⟩ => ⟨e, _, rfl, hw⟩)
def PT_Simplex (N : Nat) (tail : aW) : Prop := tail = [.inr (7, [.long 0, .int 0, .int 0, .ref (N + 1), .ref (N + 2)]), .inl (.long, 66, .inr (.inl fun _ => 0)), .inl (.int, 6, .inl fun _ => 0)]
theorem n_Simplex (pre : aW) : Ct 1 12 [.ref pre.length] (pre ++ [.inr (7, pD 7)]) (fun q w' => q = none ∧ ∃ tail, PT_Simplex pre.length tail ∧ w' = pre ++ tail) := (c_newSimplex pre).mono (Nat.le_refl _) (fun q w' ⟨e, hw⟩ => ⟨e, _, rfl, hw⟩)
def PT_Text (N : Nat) (tail : aW) : Prop := tail = [.inr (9, [.int 0, .int 0, .int 0, .int 0, .int 0, .int 0, .ref (N + 1), .ref (N + 2), .ref (N + 3)]), .inl (.int, 100, .inl fun _ => 0), .inl (.int, 34, .inl fun _ => 0), .inl (.int, 102, .inl fun _ => 0)]
theorem n_Text (pre : aW) : Ct 1 13 [.ref pre.length] (pre ++ [.inr (9, pD 9)]) (fun q w' => q = none ∧ ∃ tail, PT_Text pre.length tail ∧ w' = pre ++ tail) := (c_newText pre).mono (Nat.le_refl _) (fun q w' ⟨e, hw⟩ => ⟨e, _, rfl, hw⟩)
def wP (fS fT f0 f1 f2 f3 f4 f5 fF : Nat → Int32) (g : Nat → Option Nat) : aW := [.inr (10, [.ref 1, .ref 2, .ref 8, .ref 10, .ref 24, .ref 26, .ref 31, .ref 36, .ref 41, .ref 51, .ref 54, .ref 57, .ref 61]), .inr (5, [.ref 2, .int 0, .int 0, .int 0, .int 0, .ref 4, .ref 5, .ref 6, .ref 7]), .inr (8, [.int (Int32.ofInt 4), .ref 3]), .inl (.int, 169, .inl fS), .inl (.int, 6, .inl fun _ => 0), .inl (.boolean, 6, .inl fun _ => 0), .inl (.int, 6, .inl fun _ => 0), .inl (.int, 36, .inl fun _ => 0), .inr (8, [.int (Int32.ofInt 4), .ref 9]), .inl (.int, 169, .inl fT), .inr (6, [.int 0, .ref 11]), .inl (.object "PairSorts$Table", 6, .inr (.inr (.inr (.inr g)))), .inr (8, [.int (Int32.ofInt 4), .ref 13]), .inl (.int, 169, .inl f0), .inr (8, [.int (Int32.ofInt 4), .ref 15]), .inl (.int, 169, .inl f1), .inr (8, [.int (Int32.ofInt 4), .ref 17]), .inl (.int, 169, .inl f2), .inr (8, [.int (Int32.ofInt 4), .ref 19]), .inl (.int, 169, .inl f3), .inr (8, [.int (Int32.ofInt 4), .ref 21]), .inl (.int, 169, .inl f4), .inr (8, [.int (Int32.ofInt 4), .ref 23]), .inl (.int, 169, .inl f5), .inr (3, [.ref 25]), .inl (.int, 13, .inl fun _ => 0), .inr (0, [.int 0, .int 0, .int 0, .long 0, .ref 27, .ref 28, .ref 29, .ref 30]), .inl (.int, 36, .inl fun _ => 0), .inl (.int, 6, .inl fun _ => 0), .inl (.int, 6, .inl fun _ => 0), .inl (.int, 6, .inl fun _ => 0), .inr (4, [.int 0, .int 0, .ref 32, .ref 33, .ref 34, .ref 35]), .inl (.int, 120, .inl fun _ => 0), .inl (.int, 6, .inl fun _ => 0), .inl (.boolean, 6, .inl fun _ => 0), .inl (.long, 216, .inr (.inl fun _ => 0)), .inr (4, [.int 0, .int 0, .ref 37, .ref 38, .ref 39, .ref 40]), .inl (.int, 120, .inl fun _ => 0), .inl (.int, 6, .inl fun _ => 0), .inl (.boolean, 6, .inl fun _ => 0), .inl (.long, 216, .inr (.inl fun _ => 0)), .inr (2, [.int 0, .int 0, .ref 42, .ref 43, .ref 44]), .inl (.int, 52, .inl fun _ => 0), .inl (.int, 6, .inl fun _ => 0), .inr (5, [.ref 45, .int 0, .int 0, .int 0, .int 0, .ref 47, .ref 48, .ref 49, .ref 50]), .inr (8, [.int (Int32.ofInt 4), .ref 46]), .inl (.int, 169, .inl fF), .inl (.int, 6, .inl fun _ => 0), .inl (.boolean, 6, .inl fun _ => 0), .inl (.int, 6, .inl fun _ => 0), .inl (.int, 36, .inl fun _ => 0), .inr (1, [.ref 52, .ref 53, .int 0]), .inl (.int, 6, .inl fun _ => 0), .inl (.int, 13, .inl fun _ => 0), .inr (7, [.long 0, .int 0, .int 0, .ref 55, .ref 56]), .inl (.long, 66, .inr (.inl fun _ => 0)), .inl (.int, 6, .inl fun _ => 0), .inr (9, [.int 0, .int 0, .int 0, .int 0, .int 0, .int 0, .ref 58, .ref 59, .ref 60]), .inl (.int, 100, .inl fun _ => 0), .inl (.int, 34, .inl fun _ => 0), .inl (.int, 102, .inl fun _ => 0), .inl (.int, 3, .inl fun _ => 0)]
theorem l_Scheme : ∀ N tail, PT_Scheme N tail → tail.length = 6 + 1 ∧ aW_s tail = (pD 5).length + 225 := by
  rintro N tail ⟨f, hf, rfl⟩
  exact ⟨rfl, by simp [s_cons, s_nil, n_inr, n_inl, pD, pD5]⟩
theorem l_Table : ∀ N tail, PT_Table N tail → tail.length = 1 + 1 ∧ aW_s tail = (pD 8).length + 169 := by
  rintro N tail ⟨f, hf, rfl⟩
  exact ⟨rfl, by simp [s_cons, s_nil, n_inr, n_inl, pD, pD8]⟩
theorem l_Shelf : ∀ N tail, PT_Shelf N tail → tail.length = 13 + 1 ∧ aW_s tail = (pD 6).length + 1032 := by
  rintro N tail ⟨g, f0, f1, f2, f3, f4, f5, hg, rfl⟩
  exact ⟨rfl, by simp [s_cons, s_nil, n_inr, n_inl, pD, pD6]⟩
theorem l_Maker : ∀ N tail, PT_Maker N tail → tail.length = 1 + 1 ∧ aW_s tail = (pD 3).length + 13 := by
  rintro N tail rfl
  exact ⟨rfl, by simp [s_cons, s_nil, n_inr, n_inl, pD, pD3]⟩
theorem l_Characters : ∀ N tail, PT_Characters N tail → tail.length = 4 + 1 ∧ aW_s tail = (pD 0).length + 54 := by
  rintro N tail rfl
  exact ⟨rfl, by simp [s_cons, s_nil, n_inr, n_inl, pD, pD0]⟩
theorem l_Orders : ∀ N tail, PT_Orders N tail → tail.length = 4 + 1 ∧ aW_s tail = (pD 4).length + 348 := by
  rintro N tail rfl
  exact ⟨rfl, by simp [s_cons, s_nil, n_inr, n_inl, pD, pD4]⟩
theorem l_Fusions : ∀ N tail, PT_Fusions N tail → tail.length = 9 + 1 ∧ aW_s tail = (pD 2).length + 292 := by
  rintro N tail ⟨f, hf, rfl⟩
  exact ⟨rfl, by simp [s_cons, s_nil, n_inr, n_inl, pD, pD2]⟩
theorem l_Codes : ∀ N tail, PT_Codes N tail → tail.length = 2 + 1 ∧ aW_s tail = (pD 1).length + 19 := by
  rintro N tail rfl
  exact ⟨rfl, by simp [s_cons, s_nil, n_inr, n_inl, pD, pD1]⟩
theorem l_Simplex : ∀ N tail, PT_Simplex N tail → tail.length = 2 + 1 ∧ aW_s tail = (pD 7).length + 72 := by
  rintro N tail rfl
  exact ⟨rfl, by simp [s_cons, s_nil, n_inr, n_inl, pD, pD7]⟩
theorem l_Text : ∀ N tail, PT_Text N tail → tail.length = 3 + 1 ∧ aW_s tail = (pD 9).length + 236 := by
  rintro N tail rfl
  exact ⟨rfl, by simp [s_cons, s_nil, n_inr, n_inl, pD, pD9]⟩
theorem c_newP : Ct 6 1 [.ref 0] [.inr (10, pD 10)] (fun q w' => q = none ∧ ∃ fS fT f0 f1 f2 f3 f4 f5 fF g, tHas 0 4 rst fS ∧ tHas 0 4 rst fT ∧ (∀ j, j < 6 → g j = some (12 + 2 * j)) ∧ w' = wP fS fT f0 f1 f2 f3 f4 f5 fF g) := by
  refine Ct.of (fun d hd Q hQ => cl_at (M := m_1) (L := [.ref 0]) rfl (Nat.le_of_ble_eq_true rfl) rfl (fun E hE => ?_))
  have hm : m_1.2.2.2.2.1 = (61, 2867) := rfl
  have hE1 : E.1 = 62 := by rw [hE]; rfl
  have hE2 : E.2 = 2880 := by rw [hE]; rfl
  clear hE
  refine ru_at (b := k_1_0) (cl_mono _ _ _ _) rfl ?_
  unfold k_1_0
  rw [x_aload_0, y_objinit]
  refine ⟨Nat.zero_le _, ?_⟩
  refine y_field (n := 0) (s := 0) n_Scheme l_Scheme (by omega) rfl rfl rfl (by rw [hE1]; decide) (by rw [hE2]; decide) (by decide) (fun _ => rfl) 1 7 234 rfl rfl rfl (fun t1 rs1 ht1 hr1 hn1 hs1 hf1 => ?_)
  obtain ⟨fS, hfS, rfl⟩ := ht1
  rw [x_aload_0, x_aload_0, x_getfield, gO_0, oM_some]
  refine ⟨rfl, ?_⟩
  show oM (some (Value.ref 1)) _
  rw [oM_some, x_getfield]
  have h5 : gO (.inr (10, (pD 10).set 0 (.ref 1)) :: rs1) 1 = some (5, [.ref (1 + 1), .int 0, .int 0, .int 0, .int 0, .ref (1 + 3), .ref (1 + 4), .ref (1 + 5), .ref (1 + 6)]) := by rw [hr1]; rfl
  rw [h5, oM_some]
  refine ⟨rfl, ?_⟩
  show oM (some (Value.ref 2)) _
  rw [oM_some, x_putfield, gO_0, oM_some]
  refine ⟨⟨rfl, by decide, rfl⟩, ?_⟩
  rw [sO_0]
  have hf1 : (((pD 10).set 0 (.ref 1)).set 1 (.ref 2)).length = 13 := rfl
  show ex pD pY E (cL d) _ _ _ _ [.ref 0] [] (.inr (10, ((pD 10).set 0 (.ref 1)).set 1 (.ref 2)) :: rs1)
  refine y_field (n := 7) (s := 234) n_Table l_Table (by omega) hn1 hs1 hf1 (by rw [hE1]; decide) (by rw [hE2]; decide) (by decide) (fun _ => rfl) 8 9 405 rfl rfl rfl (fun t2 rs2 ht2 hr2 hn2 hs2 hf2 => ?_)
  refine y_field (n := 9) (s := 405) n_Shelf l_Shelf (by omega) hn2 hs2 hf2 (by rw [hE1]; decide) (by rw [hE2]; decide) (by decide) (fun _ => rfl) 10 23 1439 rfl rfl rfl (fun t3 rs3 ht3 hr3 hn3 hs3 hf3 => ?_)
  refine y_field (n := 23) (s := 1439) n_Maker l_Maker (by omega) hn3 hs3 hf3 (by rw [hE1]; decide) (by rw [hE2]; decide) (by decide) (fun _ => rfl) 24 25 1453 rfl rfl rfl (fun t4 rs4 ht4 hr4 hn4 hs4 hf4 => ?_)
  refine y_field (n := 25) (s := 1453) n_Characters l_Characters (by omega) hn4 hs4 hf4 (by rw [hE1]; decide) (by rw [hE2]; decide) (by decide) (fun _ => rfl) 26 30 1515 rfl rfl rfl (fun t5 rs5 ht5 hr5 hn5 hs5 hf5 => ?_)
  refine y_field (n := 30) (s := 1515) n_Orders l_Orders (by omega) hn5 hs5 hf5 (by rw [hE1]; decide) (by rw [hE2]; decide) (by decide) (fun _ => rfl) 31 35 1869 rfl rfl rfl (fun t6 rs6 ht6 hr6 hn6 hs6 hf6 => ?_)
  refine y_field (n := 35) (s := 1869) n_Orders l_Orders (by omega) hn6 hs6 hf6 (by rw [hE1]; decide) (by rw [hE2]; decide) (by decide) (fun _ => rfl) 36 40 2223 rfl rfl rfl (fun t7 rs7 ht7 hr7 hn7 hs7 hf7 => ?_)
  refine y_field (n := 40) (s := 2223) n_Fusions l_Fusions (by omega) hn7 hs7 hf7 (by rw [hE1]; decide) (by rw [hE2]; decide) (by decide) (fun _ => rfl) 41 50 2520 rfl rfl rfl (fun t8 rs8 ht8 hr8 hn8 hs8 hf8 => ?_)
  refine y_field (n := 50) (s := 2520) n_Codes l_Codes (by omega) hn8 hs8 hf8 (by rw [hE1]; decide) (by rw [hE2]; decide) (by decide) (fun _ => rfl) 51 53 2542 rfl rfl rfl (fun t9 rs9 ht9 hr9 hn9 hs9 hf9 => ?_)
  refine y_field (n := 53) (s := 2542) n_Simplex l_Simplex (by omega) hn9 hs9 hf9 (by rw [hE1]; decide) (by rw [hE2]; decide) (by decide) (fun _ => rfl) 54 56 2619 rfl rfl rfl (fun t10 rs10 ht10 hr10 hn10 hs10 hf10 => ?_)
  refine y_field (n := 56) (s := 2619) n_Text l_Text (by omega) hn10 hs10 hf10 (by rw [hE1]; decide) (by rw [hE2]; decide) (by decide) (fun _ => rfl) 57 60 2864 rfl rfl rfl (fun t11 rs11 ht11 hr11 hn11 hs11 hf11 => ?_)
  rw [x_aload_0, x_iconst, y_newarray, tN_3]
  have e1 : ∀ fs : List Value, (Sum.inr (10, fs) :: rs11 : aW).length = 61 := fun fs => by rw [List.length_cons, hn11]
  refine ⟨?_, ?_⟩
  · rintro (q | q | q | q)
    · exact absurd q (by decide)
    · rw [hE1, e1] at q; omega
    · rw [hE2, s_cons, hs11, n_inr, hf11] at q; omega
    · exact absurd q (by decide)
  rw [e1, List.cons_append, x_putfield, gO_0, oM_some]
  refine ⟨⟨rfl, by rw [hf11]; decide, rfl⟩, ?_⟩
  rw [sO_0, y_ret (M := m_1) rfl]
  refine ⟨Or.inr ⟨?_, ?_⟩, ?_⟩
  · rw [hE1, List.length_cons, List.length_append, hn11]; rfl
  · rw [hE2, s_cons, s_app, hs11, n_inr, List.length_set, hf11]; rfl
  obtain ⟨fT, hfT, rfl⟩ := ht2
  obtain ⟨g, f0, f1, f2, f3, f4, f5, hg, rfl⟩ := ht3
  obtain ⟨fF, hfF, rfl⟩ := ht8
  refine hQ _ _ ⟨rfl, fS, fT, f0, f1, f2, f3, f4, f5, fF, g, hfS, hfT, hg, ?_⟩
  rw [hr11, hr10, hr9, hr8, hr7, hr6, hr5, hr4, hr3, hr2, hr1, ht4, ht5, ht6, ht7, ht9, ht10, ht11]
  rfl
