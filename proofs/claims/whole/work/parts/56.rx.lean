/-! ===== PairSortsModel: the world of the reference ===== -/
/-- how long the arrays of numbers are -/
def rI (a : Nat) : Option Nat := match a with
  | 63 => some 170 | 64 => some 1020 | 65 => some 170 | 66 => some 3 | 67 => some 13 | 68 => some 6 | 69 => some 36 | 70 => some 6 | 71 => some 216 | 72 => some 6 | 73 => some 6 | 74 => some 6 | 75 => some 36 | 76 => some 6 | 77 => some 6 | 78 => some 216 | 79 => some 6 | 80 => some 5 | 82 => some 5 | 86 => some 100 | 87 => some 3 | 88 => some 170
  | _ => none
def rL (a : Nat) : Option Nat := match a with
  | 81 => some 36 | 83 => some 30 | 84 => some 25 | 85 => some 5
  | _ => none
theorem rI_rg : ∀ {a n : Nat}, rI a = some n → 63 ≤ a ∧ a ≤ 88 ∧ rL a = none := by
  intro a n h
  unfold rI at h
  split at h <;> first | exact ⟨by omega, by omega, rfl⟩ | cases h
theorem rL_rg : ∀ {a n : Nat}, rL a = some n → 63 ≤ a ∧ a ≤ 88 ∧ rI a = none := by
  intro a n h
  unfold rL at h
  split at h <;> first | exact ⟨by omega, by omega, rfl⟩ | cases h
def upA {α : Type} (A : Nat → Nat → α) (a : Nat) (g : Nat → α) : Nat → Nat → α := fun k => if k = a then g else A k
theorem upA_at {α : Type} (A : Nat → Nat → α) (a : Nat) (g : Nat → α) : upA A a g a = g := by simp [upA]
theorem upA_ne {α : Type} (A : Nat → Nat → α) {a b : Nat} (g : Nat → α) (h : b ≠ a) : upA A a g b = A b := by simp [upA, h]
theorem upA_self {α : Type} (A : Nat → Nat → α) (a : Nat) : upA A a (A a) = A := by
  funext k
  unfold upA
  split
  · rename_i h; rw [h]
  · rfl
theorem upA_upA {α : Type} (A : Nat → Nat → α) (a : Nat) (g h : Nat → α) : upA (upA A a g) a h = upA A a h := by
  funext k
  unfold upA
  split <;> rfl
/-- what the arrays keep outside some places -/
def eqA {α : Type} (lo hi : Nat) (A A' : Nat → Nat → α) : Prop := ∀ k, k < lo ∨ hi < k → A' k = A k
theorem eqA.rf {α : Type} (lo hi : Nat) (A : Nat → Nat → α) : eqA lo hi A A := fun _ _ => rfl
theorem eqA.tr {α : Type} {lo hi : Nat} {A A1 A2 : Nat → Nat → α} (h : eqA lo hi A A1) (h2 : eqA lo hi A1 A2) : eqA lo hi A A2 := fun k hk => (h2 k hk).trans (h k hk)
theorem eqA.wd {α : Type} {lo hi lo' hi' : Nat} {A A1 : Nat → Nat → α} (h : eqA lo hi A A1) (h1 : lo' ≤ lo) (h2 : hi ≤ hi') : eqA lo' hi' A A1 := fun k hk => h k (by omega)
theorem eqA.up {α : Type} {lo hi : Nat} {A A1 : Nat → Nat → α} (h : eqA lo hi A A1) {a : Nat} (h1 : lo ≤ a) (h2 : a ≤ hi) (g : Nat → α) : eqA lo hi A (upA A1 a g) := fun k hk => by rw [upA_ne _ _ (by omega)]; exact h k hk
/-- the reference's world: w differs from v only there -/
def RX (v w : aW) (s : Nat → Int32) (l : Nat → Int64) (A : Nat → Nat → Int32) (B : Nat → Nat → Int64) : Prop := RO w s l ∧ (∀ a n, rI a = some n → gI w a = some (n, A a)) ∧ (∀ a n, rL a = some n → gL w a = some (n, B a)) ∧ eqr 62 88 v w
theorem RX.o {v w : aW} {s : Nat → Int32} {l : Nat → Int64} {A : Nat → Nat → Int32} {B : Nat → Nat → Int64} (h : RX v w s l A B) : gO w 62 = some (11, rF s l) := h.1.1
theorem RX.i {v w : aW} {s : Nat → Int32} {l : Nat → Int64} {A : Nat → Nat → Int32} {B : Nat → Nat → Int64} (h : RX v w s l A B) {a n : Nat} (e : rI a = some n) : gI w a = some (n, A a) := h.2.1 a n e
theorem RX.l {v w : aW} {s : Nat → Int32} {l : Nat → Int64} {A : Nat → Nat → Int32} {B : Nat → Nat → Int64} (h : RX v w s l A B) {a n : Nat} (e : rL a = some n) : gL w a = some (n, B a) := h.2.2.1 a n e
theorem RX.e {v w : aW} {s : Nat → Int32} {l : Nat → Int64} {A : Nat → Nat → Int32} {B : Nat → Nat → Int64} (h : RX v w s l A B) : eqr 62 88 v w := h.2.2.2
theorem RX.base {v w : aW} {s : Nat → Int32} {l : Nat → Int64} {A : Nat → Nat → Int32} {B : Nat → Nat → Int64} (h : RX v w s l A B) : RX w w s l A B := ⟨h.1, h.2.1, h.2.2.1, eqr.rf _ _ _⟩
theorem RX.setI {v w : aW} {s : Nat → Int32} {l : Nat → Int64} {A : Nat → Nat → Int32} {B : Nat → Nat → Int64} (h : RX v w s l A B) {a n : Nat} (e : rI a = some n) (g : Nat → Int32) : RX v (sI w a n g) s l (upA A a g) B := by
  obtain ⟨r1, r2, r3⟩ := rI_rg e
  refine ⟨h.1.setI (by omega), fun b m hb => ?_, fun b m hb => ?_, h.e.tr (eqr.I _ (by omega) (by omega) _ _)⟩
  · by_cases hab : b = a
    · subst hab
      rw [e] at hb
      cases hb
      rw [gI_sI_at _ _ _ _ (by have := h.1.2; omega), upA_at]
    · rw [gI_sI_ne _ _ _ _ _ (by omega), upA_ne _ _ hab]
      exact h.i hb
  · have hab : b ≠ a := by
      rintro rfl
      rw [hb] at r3
      cases r3
    rw [gL_sI_ne _ _ _ _ _ (by omega)]
    exact h.l hb
theorem RX.setL {v w : aW} {s : Nat → Int32} {l : Nat → Int64} {A : Nat → Nat → Int32} {B : Nat → Nat → Int64} (h : RX v w s l A B) {a n : Nat} (e : rL a = some n) (g : Nat → Int64) : RX v (sL w a n g) s l A (upA B a g) := by
  obtain ⟨r1, r2, r3⟩ := rL_rg e
  refine ⟨⟨by rw [gO_sL_ne _ _ _ _ _ (by omega)]; exact h.1.1, by rw [len_sL]; exact h.1.2⟩, fun b m hb => ?_, fun b m hb => ?_, h.e.tr (eqr.L _ (by omega) (by omega) _ _)⟩
  · have hab : b ≠ a := by
      rintro rfl
      rw [hb] at r3
      cases r3
    rw [gI_sL_ne _ _ _ _ _ (by omega)]
    exact h.i hb
  · by_cases hab : b = a
    · subst hab
      rw [e] at hb
      cases hb
      rw [gL_sL_at _ _ _ _ (by have := h.1.2; omega), upA_at]
    · rw [gL_sL_ne _ _ _ _ _ (by omega), upA_ne _ _ hab]
      exact h.l hb
theorem RX.setO {v w : aW} {s : Nat → Int32} {l : Nat → Int64} {A : Nat → Nat → Int32} {B : Nat → Nat → Int64} (h : RX v w s l A B) (s' : Nat → Int32) (l' : Nat → Int64) : RX v (sO w 62 11 (rF s' l')) s' l' A B := by
  refine ⟨⟨gO_sO_at _ _ _ _ (by have := h.1.2; omega), by rw [len_sO]; exact h.1.2⟩, fun b m hb => ?_, fun b m hb => ?_, h.e.tr (eqr.O _ (by omega) (by omega) _ _)⟩
  · have := rI_rg hb
    rw [gI_sO_ne _ _ _ _ _ (by omega)]
    exact h.i hb
  · have := rL_rg hb
    rw [gL_sO_ne _ _ _ _ _ (by omega)]
    exact h.l hb
/-- the reference holds the table R of n points -/
def rTb (A : Nat → Nat → Int32) (n : Nat) (R : Nat → Nat → Nat) : Prop := A 63 0 = Int32.ofInt n ∧ tHas 1 n R (A 63)
theorem RX.rr {v w : aW} {s : Nat → Int32} {l : Nat → Int64} {A : Nat → Nat → Int32} {B : Nat → Nat → Int64} (h : RX v w s l A B) {n : Nat} {R : Nat → Nat → Nat} (ht : rTb A n R) : RR w s l n R := ⟨h.1, A 63, ⟨h.i rfl, ht.1⟩, ht.2⟩
theorem rTb.eq {A A' : Nat → Nat → Int32} {n lo hi : Nat} {R : Nat → Nat → Nat} (h : rTb A n R) (e : eqA lo hi A A') (hl : 63 < lo ∨ hi < 63) : rTb A' n R := by
  unfold rTb
  rw [e 63 (by omega)]
  exact h
theorem r_refuses {v w : aW} {s : Nat → Int32} {l : Nat → Int64} {A : Nat → Nat → Int32} {B : Nat → Nat → Int64} (h : RX v w s l A B) {k : Nat} (hk : k < 3) : Ct 1 149 [.ref 62, .int (Int32.ofInt (-2 - (k : Int)))] w (fun r w' => r = some (.int (Int32.ofInt (-2 - (k : Int)))) ∧ RX v w' s l (upA A 66 (upd (A 66) k (A 66 k + 1))) B) := by
  refine Ct.of (fun d hd Q hQ => cl_at (M := m_149) (L := [.ref 62, .int (Int32.ofInt (-2 - (k : Int)))]) rfl (Nat.le_of_ble_eq_true rfl) rfl (fun E hE => ?_))
  have h1 : tn (Int32.ofInt (-2 - (-2 - (k : Int)))) = k := tn_of (by omega) (by omega)
  refine ru_at (b := k_149_0) (cl_mono _ _ _ _) rfl ?_
  simp only [k_149_0, x_iload_0, x_iload_1, x_iload_2, x_iload_3, x_iload_4, x_iload_5, x_iload_6, x_iload_7, x_iload_8, x_iload_9, x_iload_10, x_iload_11, x_lload_0, x_lload_1, x_lload_2, x_lload_3, x_lload_4, x_lload_5, x_lload_6, x_lload_7, x_lload_8, x_lload_9, x_lload_10, x_lload_11, x_aload_0, x_aload_1, x_aload_2, x_aload_3, x_aload_4, x_aload_5, x_aload_6, x_aload_7, x_aload_8, x_aload_9, x_aload_10, x_aload_11, x_istore_0, x_istore_1, x_istore_2, x_istore_3, x_istore_4, x_istore_5, x_istore_6, x_istore_7, x_istore_8, x_istore_9, x_istore_10, x_istore_11, x_astore_0, x_astore_1, x_astore_2, x_astore_3, x_astore_4, x_astore_5, x_astore_6, x_astore_7, x_astore_8, x_astore_9, x_astore_10, x_astore_11, x_lstore_0, x_lstore_1, x_lstore_2, x_lstore_3, x_lstore_4, x_lstore_5, x_lstore_6, x_lstore_7, x_lstore_8, x_lstore_9, x_lstore_10, x_iinc_0, x_iinc_1, x_iinc_2, x_iinc_3, x_iinc_4, x_iinc_5, x_iinc_6, x_iinc_7, x_iinc_8, x_iinc_9, x_iinc_10, x_iinc_11, x_iconst, x_bipush, x_sipush, x_lconst, x_ldc_w, x_ldc2_w, x_iadd, x_isub, x_imul, x_iand, x_ior, x_ixor, x_ishl, x_ishr, x_iushr, x_ladd, x_lsub, x_lmul, x_ineg, x_lneg, x_lcmp, x_i2l, x_l2i, x_idiv, x_irem, x_ldiv, x_lrem, x_dup_int, x_pop_int, x_dup_ref, x_pop_ref, x_dup2, x_goto, x_nop, x_if_eq, x_if_ne, x_if_lt, x_if_ge, x_if_gt, x_if_le, x_icmp_eq, x_icmp_ne, x_icmp_lt, x_icmp_ge, x_icmp_gt, x_icmp_le, x_getfield, x_putfield, x_iaload, x_baload, x_laload, x_iastore, x_bastore, x_lastore, x_arraylength, x_virtual_0, x_virtual_1, x_virtual_2, x_virtual_3, x_virtual_4, x_virtual_5, x_static_0, x_static_1, x_static_2, x_static_3, x_static_4, x_static_5, x_static_6, x_min, x_max, x_abs, x_labs, x_tsw, oM_some, k_int, k_ref, k_long, k_null, vc_nil, vc_int, vc_ref, vc_long, tl_some, tl_none, h.o, h.i (show rI 66 = some 3 from rfl), rF, List.getElem?_cons_succ, List.getElem?_cons_zero, List.length_cons, List.length_nil, List.set_cons_zero, List.set_cons_succ, true_and, and_true, ia_sub, h1, x_ireturn (M := m_149) rfl]
  exact ⟨inb_of (by omega) (by omega) (by omega), inb_of (by omega) (by omega) (by omega), hQ _ _ ⟨rfl, h.setI rfl _⟩⟩
theorem r_has {w : aW} {S k : Nat} (hS : S < 2147483648) (hk : k < 32) : Ct 1 185 [.int (Int32.ofInt S), .int (Int32.ofInt k)] w (fun r w' => ((r = some (.int (Int32.ofInt 1)) ∧ bitp S k) ∨ (r = some (.int (Int32.ofInt 0)) ∧ ¬ bitp S k)) ∧ w' = w) := by
  refine Ct.of (fun d hd Q hQ => cl_at (M := m_185) (L := [.int (Int32.ofInt S), .int (Int32.ofInt k)]) rfl (Nat.le_of_ble_eq_true rfl) rfl (fun E hE => ?_))
  refine ru_at (b := k_185_0) (cl_mono _ _ _ _) rfl ?_
  simp only [k_185_0, x_iload_0, x_iload_1, x_iload_2, x_iload_3, x_iload_4, x_iload_5, x_iload_6, x_iload_7, x_iload_8, x_iload_9, x_iload_10, x_iload_11, x_lload_0, x_lload_1, x_lload_2, x_lload_3, x_lload_4, x_lload_5, x_lload_6, x_lload_7, x_lload_8, x_lload_9, x_lload_10, x_lload_11, x_aload_0, x_aload_1, x_aload_2, x_aload_3, x_aload_4, x_aload_5, x_aload_6, x_aload_7, x_aload_8, x_aload_9, x_aload_10, x_aload_11, x_istore_0, x_istore_1, x_istore_2, x_istore_3, x_istore_4, x_istore_5, x_istore_6, x_istore_7, x_istore_8, x_istore_9, x_istore_10, x_istore_11, x_astore_0, x_astore_1, x_astore_2, x_astore_3, x_astore_4, x_astore_5, x_astore_6, x_astore_7, x_astore_8, x_astore_9, x_astore_10, x_astore_11, x_lstore_0, x_lstore_1, x_lstore_2, x_lstore_3, x_lstore_4, x_lstore_5, x_lstore_6, x_lstore_7, x_lstore_8, x_lstore_9, x_lstore_10, x_iinc_0, x_iinc_1, x_iinc_2, x_iinc_3, x_iinc_4, x_iinc_5, x_iinc_6, x_iinc_7, x_iinc_8, x_iinc_9, x_iinc_10, x_iinc_11, x_iconst, x_bipush, x_sipush, x_lconst, x_ldc_w, x_ldc2_w, x_iadd, x_isub, x_imul, x_iand, x_ior, x_ixor, x_ishl, x_ishr, x_iushr, x_ladd, x_lsub, x_lmul, x_ineg, x_lneg, x_lcmp, x_i2l, x_l2i, x_idiv, x_irem, x_ldiv, x_lrem, x_dup_int, x_pop_int, x_dup_ref, x_pop_ref, x_dup2, x_goto, x_nop, x_if_eq, x_if_ne, x_if_lt, x_if_ge, x_if_gt, x_if_le, x_icmp_eq, x_icmp_ne, x_icmp_lt, x_icmp_ge, x_icmp_gt, x_icmp_le, x_getfield, x_putfield, x_iaload, x_baload, x_laload, x_iastore, x_bastore, x_lastore, x_arraylength, x_virtual_0, x_virtual_1, x_virtual_2, x_virtual_3, x_virtual_4, x_virtual_5, x_static_0, x_static_1, x_static_2, x_static_3, x_static_4, x_static_5, x_static_6, x_min, x_max, x_abs, x_labs, x_tsw, oM_some, k_int, k_ref, k_long, k_null, vc_nil, vc_int, vc_ref, vc_long, tl_some, tl_none, ia_shr hS hk, ia_and1, x_zreturn (M := m_185) rfl]
  rcases bitp_01 S k with hb | hb
  · rw [hb]
    refine if_ne ⟨by omega, by omega⟩ ⟨by omega, by omega⟩ (fun q => ?_) (fun q => absurd q (by omega))
    refine ru_at (b := k_185_13) (cl_mono _ _ _ _) rfl ?_
    simp only [k_185_13, x_iload_0, x_iload_1, x_iload_2, x_iload_3, x_iload_4, x_iload_5, x_iload_6, x_iload_7, x_iload_8, x_iload_9, x_iload_10, x_iload_11, x_lload_0, x_lload_1, x_lload_2, x_lload_3, x_lload_4, x_lload_5, x_lload_6, x_lload_7, x_lload_8, x_lload_9, x_lload_10, x_lload_11, x_aload_0, x_aload_1, x_aload_2, x_aload_3, x_aload_4, x_aload_5, x_aload_6, x_aload_7, x_aload_8, x_aload_9, x_aload_10, x_aload_11, x_istore_0, x_istore_1, x_istore_2, x_istore_3, x_istore_4, x_istore_5, x_istore_6, x_istore_7, x_istore_8, x_istore_9, x_istore_10, x_istore_11, x_astore_0, x_astore_1, x_astore_2, x_astore_3, x_astore_4, x_astore_5, x_astore_6, x_astore_7, x_astore_8, x_astore_9, x_astore_10, x_astore_11, x_lstore_0, x_lstore_1, x_lstore_2, x_lstore_3, x_lstore_4, x_lstore_5, x_lstore_6, x_lstore_7, x_lstore_8, x_lstore_9, x_lstore_10, x_iinc_0, x_iinc_1, x_iinc_2, x_iinc_3, x_iinc_4, x_iinc_5, x_iinc_6, x_iinc_7, x_iinc_8, x_iinc_9, x_iinc_10, x_iinc_11, x_iconst, x_bipush, x_sipush, x_lconst, x_ldc_w, x_ldc2_w, x_iadd, x_isub, x_imul, x_iand, x_ior, x_ixor, x_ishl, x_ishr, x_iushr, x_ladd, x_lsub, x_lmul, x_ineg, x_lneg, x_lcmp, x_i2l, x_l2i, x_idiv, x_irem, x_ldiv, x_lrem, x_dup_int, x_pop_int, x_dup_ref, x_pop_ref, x_dup2, x_goto, x_nop, x_if_eq, x_if_ne, x_if_lt, x_if_ge, x_if_gt, x_if_le, x_icmp_eq, x_icmp_ne, x_icmp_lt, x_icmp_ge, x_icmp_gt, x_icmp_le, x_getfield, x_putfield, x_iaload, x_baload, x_laload, x_iastore, x_bastore, x_lastore, x_arraylength, x_virtual_0, x_virtual_1, x_virtual_2, x_virtual_3, x_virtual_4, x_virtual_5, x_static_0, x_static_1, x_static_2, x_static_3, x_static_4, x_static_5, x_static_6, x_min, x_max, x_abs, x_labs, x_tsw, oM_some, k_int, k_ref, k_long, k_null, vc_nil, vc_int, vc_ref, vc_long, tl_some, tl_none, x_zreturn (M := m_185) rfl]
    refine ru_at (b := k_185_14) (cl_mono _ _ _ _) rfl ?_
    simp only [k_185_14, x_iload_0, x_iload_1, x_iload_2, x_iload_3, x_iload_4, x_iload_5, x_iload_6, x_iload_7, x_iload_8, x_iload_9, x_iload_10, x_iload_11, x_lload_0, x_lload_1, x_lload_2, x_lload_3, x_lload_4, x_lload_5, x_lload_6, x_lload_7, x_lload_8, x_lload_9, x_lload_10, x_lload_11, x_aload_0, x_aload_1, x_aload_2, x_aload_3, x_aload_4, x_aload_5, x_aload_6, x_aload_7, x_aload_8, x_aload_9, x_aload_10, x_aload_11, x_istore_0, x_istore_1, x_istore_2, x_istore_3, x_istore_4, x_istore_5, x_istore_6, x_istore_7, x_istore_8, x_istore_9, x_istore_10, x_istore_11, x_astore_0, x_astore_1, x_astore_2, x_astore_3, x_astore_4, x_astore_5, x_astore_6, x_astore_7, x_astore_8, x_astore_9, x_astore_10, x_astore_11, x_lstore_0, x_lstore_1, x_lstore_2, x_lstore_3, x_lstore_4, x_lstore_5, x_lstore_6, x_lstore_7, x_lstore_8, x_lstore_9, x_lstore_10, x_iinc_0, x_iinc_1, x_iinc_2, x_iinc_3, x_iinc_4, x_iinc_5, x_iinc_6, x_iinc_7, x_iinc_8, x_iinc_9, x_iinc_10, x_iinc_11, x_iconst, x_bipush, x_sipush, x_lconst, x_ldc_w, x_ldc2_w, x_iadd, x_isub, x_imul, x_iand, x_ior, x_ixor, x_ishl, x_ishr, x_iushr, x_ladd, x_lsub, x_lmul, x_ineg, x_lneg, x_lcmp, x_i2l, x_l2i, x_idiv, x_irem, x_ldiv, x_lrem, x_dup_int, x_pop_int, x_dup_ref, x_pop_ref, x_dup2, x_goto, x_nop, x_if_eq, x_if_ne, x_if_lt, x_if_ge, x_if_gt, x_if_le, x_icmp_eq, x_icmp_ne, x_icmp_lt, x_icmp_ge, x_icmp_gt, x_icmp_le, x_getfield, x_putfield, x_iaload, x_baload, x_laload, x_iastore, x_bastore, x_lastore, x_arraylength, x_virtual_0, x_virtual_1, x_virtual_2, x_virtual_3, x_virtual_4, x_virtual_5, x_static_0, x_static_1, x_static_2, x_static_3, x_static_4, x_static_5, x_static_6, x_min, x_max, x_abs, x_labs, x_tsw, oM_some, k_int, k_ref, k_long, k_null, vc_nil, vc_int, vc_ref, vc_long, tl_some, tl_none, x_zreturn (M := m_185) rfl]
    exact ⟨Or.inl rfl, hQ _ _ ⟨Or.inr ⟨rfl, by unfold bitp; omega⟩, rfl⟩⟩
  · rw [hb]
    refine if_ne ⟨by omega, by omega⟩ ⟨by omega, by omega⟩ (fun q => absurd rfl q) (fun q => ?_)
    refine ru_at (b := k_185_14) (cl_mono _ _ _ _) rfl ?_
    simp only [k_185_14, x_iload_0, x_iload_1, x_iload_2, x_iload_3, x_iload_4, x_iload_5, x_iload_6, x_iload_7, x_iload_8, x_iload_9, x_iload_10, x_iload_11, x_lload_0, x_lload_1, x_lload_2, x_lload_3, x_lload_4, x_lload_5, x_lload_6, x_lload_7, x_lload_8, x_lload_9, x_lload_10, x_lload_11, x_aload_0, x_aload_1, x_aload_2, x_aload_3, x_aload_4, x_aload_5, x_aload_6, x_aload_7, x_aload_8, x_aload_9, x_aload_10, x_aload_11, x_istore_0, x_istore_1, x_istore_2, x_istore_3, x_istore_4, x_istore_5, x_istore_6, x_istore_7, x_istore_8, x_istore_9, x_istore_10, x_istore_11, x_astore_0, x_astore_1, x_astore_2, x_astore_3, x_astore_4, x_astore_5, x_astore_6, x_astore_7, x_astore_8, x_astore_9, x_astore_10, x_astore_11, x_lstore_0, x_lstore_1, x_lstore_2, x_lstore_3, x_lstore_4, x_lstore_5, x_lstore_6, x_lstore_7, x_lstore_8, x_lstore_9, x_lstore_10, x_iinc_0, x_iinc_1, x_iinc_2, x_iinc_3, x_iinc_4, x_iinc_5, x_iinc_6, x_iinc_7, x_iinc_8, x_iinc_9, x_iinc_10, x_iinc_11, x_iconst, x_bipush, x_sipush, x_lconst, x_ldc_w, x_ldc2_w, x_iadd, x_isub, x_imul, x_iand, x_ior, x_ixor, x_ishl, x_ishr, x_iushr, x_ladd, x_lsub, x_lmul, x_ineg, x_lneg, x_lcmp, x_i2l, x_l2i, x_idiv, x_irem, x_ldiv, x_lrem, x_dup_int, x_pop_int, x_dup_ref, x_pop_ref, x_dup2, x_goto, x_nop, x_if_eq, x_if_ne, x_if_lt, x_if_ge, x_if_gt, x_if_le, x_icmp_eq, x_icmp_ne, x_icmp_lt, x_icmp_ge, x_icmp_gt, x_icmp_le, x_getfield, x_putfield, x_iaload, x_baload, x_laload, x_iastore, x_bastore, x_lastore, x_arraylength, x_virtual_0, x_virtual_1, x_virtual_2, x_virtual_3, x_virtual_4, x_virtual_5, x_static_0, x_static_1, x_static_2, x_static_3, x_static_4, x_static_5, x_static_6, x_min, x_max, x_abs, x_labs, x_tsw, oM_some, k_int, k_ref, k_long, k_null, vc_nil, vc_int, vc_ref, vc_long, tl_some, tl_none, x_zreturn (M := m_185) rfl]
    exact ⟨Or.inr rfl, hQ _ _ ⟨Or.inl ⟨rfl, hb⟩, rfl⟩⟩
