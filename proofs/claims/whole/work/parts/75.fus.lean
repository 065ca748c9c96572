/-! ===== the fusions: their figures one after the other ===== -/
/-- the greatest figure before k -/
def mxb (g : Nat → Nat) : Nat → Nat
  | 0 => 0
  | 1 => 0
  | k + 2 => max (mxb g (k + 1)) (g (k + 1))
/-- the figures after figure k was made greater -/
def inc (L : Nat) (g : Nat → Nat) (k : Nat) : Nat → Nat := fun j => if j = k then g j + 1 else if k < j ∧ j ≤ L then 1 else g j
def nxk (L : Nat) (g : Nat → Nat) : Nat → Option (Nat → Nat)
  | 0 => none
  | 1 => none
  | k + 2 => if g (k + 2) ≤ mxb g (k + 2) then some (inc L g (k + 2)) else nxk L g (k + 1)
def nxF (L : Nat) (g : Nat → Nat) : Option (Nat → Nat) := nxk L g L
def g11 : Nat → Nat := fun k => if k = 0 then 0 else 1
def gokb (g : Nat → Nat) : Bool := g 0 == 0 && Nat.ble 1 (g 1) && Nat.ble (g 1) 5 && Nat.ble 1 (g 2) && Nat.ble (g 2) 5 && Nat.ble 1 (g 3) && Nat.ble (g 3) 5 && Nat.ble 1 (g 4) && Nat.ble (g 4) 5 && Nat.ble 1 (g 5) && Nat.ble (g 5) 5
def endsB (L : Nat) : Nat → (Nat → Nat) → Bool
  | 0, _ => false
  | m + 1, g => gokb g && (match nxF L g with | none => true | some g' => endsB L m g')
theorem ends_1 : endsB 1 52 g11 = true := by decide +kernel
theorem ends_2 : endsB 2 52 g11 = true := by decide +kernel
theorem ends_3 : endsB 3 52 g11 = true := by decide +kernel
theorem ends_4 : endsB 4 52 g11 = true := by decide +kernel
theorem ends_5 : endsB 5 52 g11 = true := by decide +kernel
theorem ends_all {L : Nat} (h1 : 1 ≤ L) (h5 : L ≤ 5) : endsB L 52 g11 = true := by
  rcases (show L = 1 ∨ L = 2 ∨ L = 3 ∨ L = 4 ∨ L = 5 by omega) with rfl | rfl | rfl | rfl | rfl
  · exact ends_1
  · exact ends_2
  · exact ends_3
  · exact ends_4
  · exact ends_5
def gOK (g : Nat → Nat) : Prop := g 0 = 0 ∧ ∀ k, 1 ≤ k → k ≤ 5 → 1 ≤ g k ∧ g k ≤ 5
theorem gok_is {g : Nat → Nat} (h : gokb g = true) : gOK g := by
  unfold gokb at h
  simp only [Bool.and_eq_true, beq_iff_eq, Nat.ble_eq] at h
  refine ⟨by omega, fun k h1 h2 => ?_⟩
  rcases (show k = 1 ∨ k = 2 ∨ k = 3 ∨ k = 4 ∨ k = 5 by omega) with rfl | rfl | rfl | rfl | rfl <;> omega
theorem ends_s {L m : Nat} {g : Nat → Nat} (h : endsB L m g = true) : ∃ m', m = m' + 1 ∧ gOK g ∧ ∀ g', nxF L g = some g' → endsB L m' g' = true := by
  cases m with
  | zero => cases h
  | succ m =>
    unfold endsB at h
    rw [Bool.and_eq_true] at h
    refine ⟨m, rfl, gok_is h.1, fun g' hg => ?_⟩
    have := h.2
    rw [hg] at this
    exact this
/-- the table that a fusion makes -/
def fuR (R : Nat → Nat → Nat) (g : Nat → Nat) : Nat → Nat → Nat := fun x y => g (R x y)
theorem tOK_fuR {n : Nat} {R : Nat → Nat → Nat} (hR : tOK n R) {g : Nat → Nat} (hg : gOK g) : tOK n (fuR R g) := by
  obtain ⟨h1, h2, h3, h4, h5⟩ := hR
  refine ⟨h1, h2, fun x hx => ?_, fun x y hx hy => ?_, fun x y hx hy hne => ?_⟩
  · unfold fuR; rw [h3 x hx]; exact hg.1
  · unfold fuR; rw [h4 x y hx hy]
  · have := h5 x y hx hy hne
    exact hg.2 _ this.1 this.2
/-- the good ones, from g on -/
noncomputable def gfl (n : Nat) (R : Nat → Nat → Nat) (L : Nat) : Nat → (Nat → Nat) → List (Nat → Nat)
  | 0, _ => []
  | m + 1, g => (cif (isSc n (fuR R g)) [g] []) ++ (match nxF L g with | none => [] | some g' => gfl n R L m g')
noncomputable def GF (n : Nat) (R : Nat → Nat → Nat) : List (Nat → Nat) := if gry R n = 0 then [] else gfl n R (gry R n) 52 g11
def nmF (g : Nat → Nat) : Nat → Nat
  | 0 => 0
  | k + 1 => 10 * nmF g k + g (k + 1)
theorem gfl_len (n : Nat) (R : Nat → Nat → Nat) (L : Nat) : ∀ m g, (gfl n R L m g).length ≤ m := by
  intro m
  induction m with
  | zero => intro g; exact Nat.le_refl _
  | succ m ih =>
    intro g
    unfold gfl
    rw [List.length_append]
    have h1 : (cif (isSc n (fuR R g)) [g] []).length ≤ 1 := by
      by_cases q : isSc n (fuR R g)
      · rw [cif_y q]; exact Nat.le_refl _
      · rw [cif_n q]; exact Nat.zero_le _
    cases hg : nxF L g with
    | none => simp only [List.length_nil]; omega
    | some g' => have := ih g'; simp only; omega
/-- one answer out of a list -/
def fuA (l : List (Nat → Nat)) (L : Nat) (k : Int) : Int := if k = -1 then (l.length : Int) else match l[k.toNat]? with | some g => if 0 ≤ k then (nmF g L : Int) else -5 | none => -5
theorem nmF_lt {g : Nat → Nat} (hg : gOK g) : ∀ k, k ≤ 5 → nmF g k < 10 ^ k ∧ 0 < 10 ^ k := by
  intro k
  induction k with
  | zero => intro _; exact ⟨Nat.zero_lt_one, Nat.zero_lt_one⟩
  | succ k ih =>
    intro hk
    have h1 := ih (by omega)
    have h2 := hg.2 (k + 1) (by omega) hk
    unfold nmF
    rw [Nat.pow_succ]
    omega
theorem nmF_6 {g : Nat → Nat} (hg : gOK g) {k : Nat} (hk : k ≤ 5) : nmF g k < 100000 := by
  have h1 := (nmF_lt hg k hk).1
  have h2 := Nat.pow_le_pow_right (n := 10) (by omega) hk
  omega
theorem mxb_le {g : Nat → Nat} {B : Nat} : ∀ {k : Nat}, (∀ j, 1 ≤ j → j < k → g j ≤ B) → mxb g k ≤ B := by
  intro k
  induction k with
  | zero => intro _; exact Nat.zero_le _
  | succ k ih =>
    intro h
    cases k with
    | zero => exact Nat.zero_le _
    | succ k =>
      unfold mxb
      exact Nat.max_le.mpr ⟨ih (fun j h1 h2 => h j h1 (by omega)), h (k + 1) (by omega) (by omega)⟩
/-- the reference's figures -/
def rFg (f : Nat → Int32) (g : Nat → Nat) : Prop := ∀ k, 1 ≤ k → k ≤ 5 → f k = Int32.ofInt (g k)
theorem r_fusionNumber {v w : aW} {s : Nat → Int32} {l : Nat → Int64} {A : Nat → Nat → Int32} {B : Nat → Nat → Int64} (h : RX v w s l A B) {g : Nat → Nat} (hg : gOK g) (hf : rFg (A 79) g) {L : Nat} (hL : L ≤ 5) : Ct 1 217 [.ref 62, .int (Int32.ofInt L)] w (fun r w' => r = some (.int (Int32.ofInt (nmF g L))) ∧ w' = w) := by
  refine Ct.of (fun d hd Q hQ => cl_at (M := m_217) (L := [.ref 62, .int (Int32.ofInt L), .null, .null]) rfl (Nat.le_of_ble_eq_true rfl) rfl (fun E hE => ?_))
  refine ru_at (b := k_217_0) (cl_mono _ _ _ _) rfl ?_
  simp only [k_217_0, x_iload_0, x_iload_1, x_iload_2, x_iload_3, x_iload_4, x_iload_5, x_iload_6, x_iload_7, x_iload_8, x_iload_9, x_iload_10, x_iload_11, x_lload_0, x_lload_1, x_lload_2, x_lload_3, x_lload_4, x_lload_5, x_lload_6, x_lload_7, x_lload_8, x_lload_9, x_lload_10, x_lload_11, x_aload_0, x_aload_1, x_aload_2, x_aload_3, x_aload_4, x_aload_5, x_aload_6, x_aload_7, x_aload_8, x_aload_9, x_aload_10, x_aload_11, x_istore_0, x_istore_1, x_istore_2, x_istore_3, x_istore_4, x_istore_5, x_istore_6, x_istore_7, x_istore_8, x_istore_9, x_istore_10, x_istore_11, x_astore_0, x_astore_1, x_astore_2, x_astore_3, x_astore_4, x_astore_5, x_astore_6, x_astore_7, x_astore_8, x_astore_9, x_astore_10, x_astore_11, x_lstore_0, x_lstore_1, x_lstore_2, x_lstore_3, x_lstore_4, x_lstore_5, x_lstore_6, x_lstore_7, x_lstore_8, x_lstore_9, x_lstore_10, x_iinc_0, x_iinc_1, x_iinc_2, x_iinc_3, x_iinc_4, x_iinc_5, x_iinc_6, x_iinc_7, x_iinc_8, x_iinc_9, x_iinc_10, x_iinc_11, x_iconst, x_bipush, x_sipush, x_lconst, x_ldc_w, x_ldc2_w, x_iadd, x_isub, x_imul, x_iand, x_ior, x_ixor, x_ishl, x_ishr, x_iushr, x_ladd, x_lsub, x_lmul, x_ineg, x_lneg, x_lcmp, x_i2l, x_l2i, x_idiv, x_irem, x_ldiv, x_lrem, x_dup_int, x_pop_int, x_dup_ref, x_pop_ref, x_dup2, x_goto, x_nop, x_if_eq, x_if_ne, x_if_lt, x_if_ge, x_if_gt, x_if_le, x_icmp_eq, x_icmp_ne, x_icmp_lt, x_icmp_ge, x_icmp_gt, x_icmp_le, x_getfield, x_putfield, x_iaload, x_baload, x_laload, x_iastore, x_bastore, x_lastore, x_arraylength, x_virtual_0, x_virtual_1, x_virtual_2, x_virtual_3, x_virtual_4, x_virtual_5, x_static_0, x_static_1, x_static_2, x_static_3, x_static_4, x_static_5, x_static_6, x_min, x_max, x_abs, x_labs, x_tsw, oM_some, k_int, k_ref, k_long, k_null, vc_nil, vc_int, vc_ref, vc_long, tl_some, tl_none, x_ireturn (M := m_217) rfl]
  refine up_to (R := fun k => Ru pD pY E (cL d) m_217 Q 4 [.ref 62, .int (Int32.ofInt L), .int (Int32.ofInt (nmF g (k - 1))), .int (Int32.ofInt (k : Int))] [] w) (lo := 1) (hi := L + 1) (by omega) (fun k hk1 hk ih => ?_) ?_
  · have e : nmF g k = 10 * nmF g (k - 1) + g k := by
      obtain ⟨j, rfl⟩ : ∃ j, k = j + 1 := ⟨k - 1, by omega⟩
      rfl
    refine ru_at (b := k_217_4) (cl_mono _ _ _ _) rfl ?_
    simp only [k_217_4, x_iload_0, x_iload_1, x_iload_2, x_iload_3, x_iload_4, x_iload_5, x_iload_6, x_iload_7, x_iload_8, x_iload_9, x_iload_10, x_iload_11, x_lload_0, x_lload_1, x_lload_2, x_lload_3, x_lload_4, x_lload_5, x_lload_6, x_lload_7, x_lload_8, x_lload_9, x_lload_10, x_lload_11, x_aload_0, x_aload_1, x_aload_2, x_aload_3, x_aload_4, x_aload_5, x_aload_6, x_aload_7, x_aload_8, x_aload_9, x_aload_10, x_aload_11, x_istore_0, x_istore_1, x_istore_2, x_istore_3, x_istore_4, x_istore_5, x_istore_6, x_istore_7, x_istore_8, x_istore_9, x_istore_10, x_istore_11, x_astore_0, x_astore_1, x_astore_2, x_astore_3, x_astore_4, x_astore_5, x_astore_6, x_astore_7, x_astore_8, x_astore_9, x_astore_10, x_astore_11, x_lstore_0, x_lstore_1, x_lstore_2, x_lstore_3, x_lstore_4, x_lstore_5, x_lstore_6, x_lstore_7, x_lstore_8, x_lstore_9, x_lstore_10, x_iinc_0, x_iinc_1, x_iinc_2, x_iinc_3, x_iinc_4, x_iinc_5, x_iinc_6, x_iinc_7, x_iinc_8, x_iinc_9, x_iinc_10, x_iinc_11, x_iconst, x_bipush, x_sipush, x_lconst, x_ldc_w, x_ldc2_w, x_iadd, x_isub, x_imul, x_iand, x_ior, x_ixor, x_ishl, x_ishr, x_iushr, x_ladd, x_lsub, x_lmul, x_ineg, x_lneg, x_lcmp, x_i2l, x_l2i, x_idiv, x_irem, x_ldiv, x_lrem, x_dup_int, x_pop_int, x_dup_ref, x_pop_ref, x_dup2, x_goto, x_nop, x_if_eq, x_if_ne, x_if_lt, x_if_ge, x_if_gt, x_if_le, x_icmp_eq, x_icmp_ne, x_icmp_lt, x_icmp_ge, x_icmp_gt, x_icmp_le, x_getfield, x_putfield, x_iaload, x_baload, x_laload, x_iastore, x_bastore, x_lastore, x_arraylength, x_virtual_0, x_virtual_1, x_virtual_2, x_virtual_3, x_virtual_4, x_virtual_5, x_static_0, x_static_1, x_static_2, x_static_3, x_static_4, x_static_5, x_static_6, x_min, x_max, x_abs, x_labs, x_tsw, oM_some, k_int, k_ref, k_long, k_null, vc_nil, vc_int, vc_ref, vc_long, tl_some, tl_none, h.o, rF, List.getElem?_cons_succ, List.getElem?_cons_zero, List.length_cons, List.length_nil, List.set_cons_zero, List.set_cons_succ, true_and, and_true, h.i (show rI 79 = some 6 from rfl), tn_of (show (k : Int) = (k : Nat) from rfl) (by omega), hf k hk1 (by omega), ia_mul, ia_add, x_ireturn (M := m_217) rfl]
    refine if_lt ⟨by omega, by omega⟩ ⟨by omega, by omega⟩ (fun q => absurd q (by omega)) (fun _ => ?_)
    refine ⟨inb_of (by omega) (by omega) (by omega), ?_⟩
    rw [show k + 1 - 1 = k by omega, e] at ih
    exact ih
  · refine ru_at (b := k_217_4) (cl_mono _ _ _ _) rfl ?_
    simp only [k_217_4, x_iload_0, x_iload_1, x_iload_2, x_iload_3, x_iload_4, x_iload_5, x_iload_6, x_iload_7, x_iload_8, x_iload_9, x_iload_10, x_iload_11, x_lload_0, x_lload_1, x_lload_2, x_lload_3, x_lload_4, x_lload_5, x_lload_6, x_lload_7, x_lload_8, x_lload_9, x_lload_10, x_lload_11, x_aload_0, x_aload_1, x_aload_2, x_aload_3, x_aload_4, x_aload_5, x_aload_6, x_aload_7, x_aload_8, x_aload_9, x_aload_10, x_aload_11, x_istore_0, x_istore_1, x_istore_2, x_istore_3, x_istore_4, x_istore_5, x_istore_6, x_istore_7, x_istore_8, x_istore_9, x_istore_10, x_istore_11, x_astore_0, x_astore_1, x_astore_2, x_astore_3, x_astore_4, x_astore_5, x_astore_6, x_astore_7, x_astore_8, x_astore_9, x_astore_10, x_astore_11, x_lstore_0, x_lstore_1, x_lstore_2, x_lstore_3, x_lstore_4, x_lstore_5, x_lstore_6, x_lstore_7, x_lstore_8, x_lstore_9, x_lstore_10, x_iinc_0, x_iinc_1, x_iinc_2, x_iinc_3, x_iinc_4, x_iinc_5, x_iinc_6, x_iinc_7, x_iinc_8, x_iinc_9, x_iinc_10, x_iinc_11, x_iconst, x_bipush, x_sipush, x_lconst, x_ldc_w, x_ldc2_w, x_iadd, x_isub, x_imul, x_iand, x_ior, x_ixor, x_ishl, x_ishr, x_iushr, x_ladd, x_lsub, x_lmul, x_ineg, x_lneg, x_lcmp, x_i2l, x_l2i, x_idiv, x_irem, x_ldiv, x_lrem, x_dup_int, x_pop_int, x_dup_ref, x_pop_ref, x_dup2, x_goto, x_nop, x_if_eq, x_if_ne, x_if_lt, x_if_ge, x_if_gt, x_if_le, x_icmp_eq, x_icmp_ne, x_icmp_lt, x_icmp_ge, x_icmp_gt, x_icmp_le, x_getfield, x_putfield, x_iaload, x_baload, x_laload, x_iastore, x_bastore, x_lastore, x_arraylength, x_virtual_0, x_virtual_1, x_virtual_2, x_virtual_3, x_virtual_4, x_virtual_5, x_static_0, x_static_1, x_static_2, x_static_3, x_static_4, x_static_5, x_static_6, x_min, x_max, x_abs, x_labs, x_tsw, oM_some, k_int, k_ref, k_long, k_null, vc_nil, vc_int, vc_ref, vc_long, tl_some, tl_none, x_ireturn (M := m_217) rfl]
    refine if_lt ⟨by omega, by omega⟩ ⟨by omega, by omega⟩ (fun _ => ?_) (fun q => absurd q (by omega))
    refine ru_at (b := k_217_27) (cl_mono _ _ _ _) rfl ?_
    simp only [k_217_27, x_iload_0, x_iload_1, x_iload_2, x_iload_3, x_iload_4, x_iload_5, x_iload_6, x_iload_7, x_iload_8, x_iload_9, x_iload_10, x_iload_11, x_lload_0, x_lload_1, x_lload_2, x_lload_3, x_lload_4, x_lload_5, x_lload_6, x_lload_7, x_lload_8, x_lload_9, x_lload_10, x_lload_11, x_aload_0, x_aload_1, x_aload_2, x_aload_3, x_aload_4, x_aload_5, x_aload_6, x_aload_7, x_aload_8, x_aload_9, x_aload_10, x_aload_11, x_istore_0, x_istore_1, x_istore_2, x_istore_3, x_istore_4, x_istore_5, x_istore_6, x_istore_7, x_istore_8, x_istore_9, x_istore_10, x_istore_11, x_astore_0, x_astore_1, x_astore_2, x_astore_3, x_astore_4, x_astore_5, x_astore_6, x_astore_7, x_astore_8, x_astore_9, x_astore_10, x_astore_11, x_lstore_0, x_lstore_1, x_lstore_2, x_lstore_3, x_lstore_4, x_lstore_5, x_lstore_6, x_lstore_7, x_lstore_8, x_lstore_9, x_lstore_10, x_iinc_0, x_iinc_1, x_iinc_2, x_iinc_3, x_iinc_4, x_iinc_5, x_iinc_6, x_iinc_7, x_iinc_8, x_iinc_9, x_iinc_10, x_iinc_11, x_iconst, x_bipush, x_sipush, x_lconst, x_ldc_w, x_ldc2_w, x_iadd, x_isub, x_imul, x_iand, x_ior, x_ixor, x_ishl, x_ishr, x_iushr, x_ladd, x_lsub, x_lmul, x_ineg, x_lneg, x_lcmp, x_i2l, x_l2i, x_idiv, x_irem, x_ldiv, x_lrem, x_dup_int, x_pop_int, x_dup_ref, x_pop_ref, x_dup2, x_goto, x_nop, x_if_eq, x_if_ne, x_if_lt, x_if_ge, x_if_gt, x_if_le, x_icmp_eq, x_icmp_ne, x_icmp_lt, x_icmp_ge, x_icmp_gt, x_icmp_le, x_getfield, x_putfield, x_iaload, x_baload, x_laload, x_iastore, x_bastore, x_lastore, x_arraylength, x_virtual_0, x_virtual_1, x_virtual_2, x_virtual_3, x_virtual_4, x_virtual_5, x_static_0, x_static_1, x_static_2, x_static_3, x_static_4, x_static_5, x_static_6, x_min, x_max, x_abs, x_labs, x_tsw, oM_some, k_int, k_ref, k_long, k_null, vc_nil, vc_int, vc_ref, vc_long, tl_some, tl_none, x_ireturn (M := m_217) rfl]
    exact hQ _ _ ⟨rfl, rfl⟩
