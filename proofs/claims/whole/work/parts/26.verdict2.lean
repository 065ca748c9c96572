/-! ===== the verdict as a whole; Scheme.explain, part ===== -/
theorem grx_ge {R : Nat → Nat → Nat} {y : Nat} : ∀ {x k : Nat}, k < x → R k y ≤ grx R y x := by
  intro x
  induction x with
  | zero => intro k h; omega
  | succ x ih =>
    intro k h
    rw [show grx R y (x + 1) = max (grx R y x) (R x y) from rfl]
    by_cases e : k = x
    · subst e; exact Nat.le_max_right _ _
    · exact Nat.le_trans (ih (by omega)) (Nat.le_max_left _ _)
theorem gry_ge {R : Nat → Nat → Nat} : ∀ {n a b : Nat}, a < b → b < n → R a b ≤ gry R n := by
  intro n
  induction n with
  | zero => intro a b _ h; omega
  | succ n ih =>
    intro a b h1 h2
    rw [show gry R (n + 1) = max (gry R n) (grx R n n) from rfl]
    by_cases e : b = n
    · subst e; exact Nat.le_trans (grx_ge h1) (Nat.le_max_right _ _)
    · exact Nat.le_trans (ih h1 (by omega)) (Nat.le_max_left _ _)
theorem R_le {n : Nat} {R : Nat → Nat → Nat} (hR : tOK n R) {x y : Nat} (hx : x < n) (hy : y < n) : R x y ≤ gry R n := by
  rcases Nat.lt_trichotomy x y with h | h | h
  · exact gry_ge h hy
  · subst h; rw [hR.2.2.1 x hx]; exact Nat.zero_le _
  · rw [hR.2.2.2.1 x y hx hy]; exact gry_ge h hx
theorem pnz_big {n : Nat} {R : Nat → Nat → Nat} (hR : tOK n R) {x y i j : Nat} (hx : x < n) (hy : y < n) (h : gry R n < i ∨ gry R n < j) : ∀ z, z ≤ n → pnz R x y i j z = 0 := by
  intro z
  induction z with
  | zero => intro _; rfl
  | succ z ih =>
    intro hz
    have h1 := R_le hR hx (show z < n by omega)
    have h2 := R_le hR (show z < n by omega) hy
    rw [show pnz R x y i j (z + 1) = pnz R x y i j z + (if R x z = i ∧ R z y = j then 1 else 0) from rfl, ih (by omega), if_neg (by omega)]
theorem pkz_of_pnz {n : Nat} {R : Nat → Nat → Nat} (hR : tOK n R) {a b a' b' i : Nat} (ha : a < n) (hb : b < n) (ha' : a' < n) (hb' : b' < n) : pkz R a b i n = pkz R a' b' i n ↔ ∀ j, j ≤ 5 → pnz R a b i j n = pnz R a' b' i j n := by
  have h1 := pkz_pnz (x := a) (y := b) (i := i) (n := n) (R := R) (fun z hz => ⟨hR.2.2.2.1 b z hb hz, hR.le hb hz⟩) n (Nat.le_refl _)
  have h2 := pkz_pnz (x := a') (y := b') (i := i) (n := n) (R := R) (fun z hz => ⟨hR.2.2.2.1 b' z hb' hz, hR.le hb' hz⟩) n (Nat.le_refl _)
  have hn := hR.2.1
  constructor
  · intro e j hj
    have q0 := pnz_le R a b i 0 n
    have q1 := pnz_le R a b i 1 n
    have q2 := pnz_le R a b i 2 n
    have q3 := pnz_le R a b i 3 n
    have q4 := pnz_le R a b i 4 n
    have q5 := pnz_le R a b i 5 n
    have r0 := pnz_le R a' b' i 0 n
    have r1 := pnz_le R a' b' i 1 n
    have r2 := pnz_le R a' b' i 2 n
    have r3 := pnz_le R a' b' i 3 n
    have r4 := pnz_le R a' b' i 4 n
    have r5 := pnz_le R a' b' i 5 n
    rcases (show j = 0 ∨ j = 1 ∨ j = 2 ∨ j = 3 ∨ j = 4 ∨ j = 5 by omega) with rfl | rfl | rfl | rfl | rfl | rfl <;> omega
  · intro hj
    rw [h1, h2, hj 0 (by omega), hj 1 (by omega), hj 2 (by omega), hj 3 (by omega), hj 4 (by omega), hj 5 (by omega)]
/-- a scheme has no differences -/
theorem isSc_iff {n : Nat} {R : Nat → Nat → Nat} (hR : tOK n R) : isSc n R ↔ (∀ i, i < gry R n → occ n R i) ∧ ∀ i j k, i ≤ gry R n → j ≤ gry R n → k ≤ gry R n → ¬ dif n R i j k := by
  unfold isSc
  constructor
  · rintro ⟨h1, h2⟩
    refine ⟨h1, ?_⟩
    rintro i j k hi hj hk ⟨a, b, a', b', ha, hb, ha', hb', r1, r2, hne⟩
    have hL := gr_le hR
    exact hne ((pkz_of_pnz hR ha hb ha' hb').mp (h2 a b a' b' ha hb ha' hb' (r1.trans r2.symm) i hi) j (by omega))
  · rintro ⟨h1, h2⟩
    refine ⟨h1, fun a b a' b' ha hb ha' hb' e i hi => (pkz_of_pnz hR ha hb ha' hb').mpr (fun j hj => ?_)⟩
    rcases Nat.lt_or_ge (gry R n) j with hjl | hjl
    · rw [pnz_big hR ha hb (Or.inr hjl) n (Nat.le_refl _), pnz_big hR ha' hb' (Or.inr hjl) n (Nat.le_refl _)]
    · refine Decidable.byContradiction fun hne => h2 i j (R a b) hi hjl (R_le hR ha hb) ⟨a, b, a', b', ha, hb, ha', hb', rfl, e.symm, hne⟩
/-- the verdict's six parts -/
def Verd (n : Nat) (R : Nat → Nat → Nat) (p : Nat → Int32) : Prop :=
  (isSc n R ∧ p 0 = Int32.ofInt 0 ∧ p 1 = Int32.ofInt (-1) ∧ p 2 = Int32.ofInt (-1) ∧ p 3 = Int32.ofInt (-1) ∧ p 4 = Int32.ofInt (-1) ∧ p 5 = Int32.ofInt (-1)) ∨
  (∃ k : Nat, k < gry R n ∧ ¬ occ n R k ∧ (∀ i, i < k → occ n R i) ∧ p 0 = Int32.ofInt 1 ∧ p 1 = Int32.ofInt k ∧ p 2 = Int32.ofInt (-1) ∧ p 3 = Int32.ofInt (-1) ∧ p 4 = Int32.ofInt (-1) ∧ p 5 = Int32.ofInt (-1)) ∨
  ((∀ i, i < gry R n → occ n R i) ∧ ∃ i j k x0 y0 x y : Nat, vio n R i j k x0 y0 x y ∧ p 0 = Int32.ofInt 2 ∧ p 1 = Int32.ofInt i ∧ p 2 = Int32.ofInt j ∧ p 3 = Int32.ofInt k ∧ p 4 = Int32.ofInt (16 * (x0 : Int) + y0) ∧ p 5 = Int32.ofInt (16 * (x : Int) + y))
theorem vio_dif {n : Nat} {R : Nat → Nat → Nat} {i j k x0 y0 x y : Nat} (h : vio n R i j k x0 y0 x y) : dif n R i j k := ⟨x, y, x0, y0, h.2.2.1.1, h.2.2.1.2.1, h.2.1.1, h.2.1.2.1, h.2.2.1.2.2.1, h.2.1.2.2.1, h.2.2.1.2.2.2.1⟩
theorem vio_un {n : Nat} {R : Nat → Nat → Nat} {i j k x0 y0 x y i' j' k' x0' y0' x' y' : Nat} (h : vio n R i j k x0 y0 x y) (h' : vio n R i' j' k' x0' y0' x' y') : i = i' ∧ j = j' ∧ k = k' ∧ x0 = x0' ∧ y0 = y0' ∧ x = x' ∧ y = y' := by
  have d1 := vio_dif h
  have d2 := vio_dif h'
  obtain ⟨⟨b1, b2, b3⟩, f1, o1, m1⟩ := h
  obtain ⟨⟨b1', b2', b3'⟩, f2, o2, m2⟩ := h'
  have n1 : ¬ tlt i j k i' j' k' := fun t => m2 _ _ _ b1 b2 b3 t d1
  have n2 : ¬ tlt i' j' k' i j k := fun t => m1 _ _ _ b1' b2' b3' t d2
  unfold tlt at n1 n2
  have e1 : i = i' := by omega
  have e2 : j = j' := by omega
  have e3 : k = k' := by omega
  subst e1; subst e2; subst e3
  obtain ⟨p1, p2, p3, p4⟩ := f1
  obtain ⟨q1, q2, q3, q4⟩ := f2
  have u1 : ¬ pcd x0 y0 x0' y0' := fun t => p4 _ _ q1 q2 t q3
  have u2 : ¬ pcd x0' y0' x0 y0 := fun t => q4 _ _ p1 p2 t p3
  unfold pcd at u1 u2
  have e4 : x0 = x0' := by omega
  have e5 : y0 = y0' := by omega
  subst e4; subst e5
  obtain ⟨p1, p2, p3, p4, p5⟩ := o1
  obtain ⟨q1, q2, q3, q4, q5⟩ := o2
  have u1 : ¬ pcd x y x' y' := fun t => q4 (p5 _ _ q1 q2 t q3)
  have u2 : ¬ pcd x' y' x y := fun t => p4 (q5 _ _ p1 p2 t p3)
  unfold pcd at u1 u2
  omega
/-- there is one verdict -/
theorem Verd_un {n : Nat} {R : Nat → Nat → Nat} (hR : tOK n R) {p q : Nat → Int32} (h : Verd n R p) (h' : Verd n R q) : ∀ k, k < 6 → p k = q k := by
  have key : p 0 = q 0 ∧ p 1 = q 1 ∧ p 2 = q 2 ∧ p 3 = q 3 ∧ p 4 = q 4 ∧ p 5 = q 5 := by
    rcases h with ⟨h1, a0, a1, a2, a3, a4, a5⟩ | ⟨k, h1, h2, h3, a0, a1, a2, a3, a4, a5⟩ | ⟨h1, i, j, k, x0, y0, x, y, h2, a0, a1, a2, a3, a4, a5⟩
    · rcases h' with ⟨g1, b0, b1, b2, b3, b4, b5⟩ | ⟨k', g1, g2, g3, b0, b1, b2, b3, b4, b5⟩ | ⟨g1, i', j', k', x0', y0', x', y', g2, b0, b1, b2, b3, b4, b5⟩
      · exact ⟨a0.trans b0.symm, a1.trans b1.symm, a2.trans b2.symm, a3.trans b3.symm, a4.trans b4.symm, a5.trans b5.symm⟩
      · exact absurd (h1.1 k' g1) g2
      · exact absurd (vio_dif g2) (((isSc_iff hR).mp h1).2 _ _ _ g2.1.1 g2.1.2.1 g2.1.2.2)
    · rcases h' with ⟨g1, b0, b1, b2, b3, b4, b5⟩ | ⟨k', g1, g2, g3, b0, b1, b2, b3, b4, b5⟩ | ⟨g1, i', j', k', x0', y0', x', y', g2, b0, b1, b2, b3, b4, b5⟩
      · exact absurd (g1.1 k h1) h2
      · have e : k = k' := by
          rcases Nat.lt_trichotomy k k' with t | t | t
          · exact absurd (g3 k t) h2
          · exact t
          · exact absurd (h3 k' t) g2
        subst e
        exact ⟨a0.trans b0.symm, a1.trans b1.symm, a2.trans b2.symm, a3.trans b3.symm, a4.trans b4.symm, a5.trans b5.symm⟩
      · exact absurd (g1 k h1) h2
    · rcases h' with ⟨g1, b0, b1, b2, b3, b4, b5⟩ | ⟨k', g1, g2, g3, b0, b1, b2, b3, b4, b5⟩ | ⟨g1, i', j', k', x0', y0', x', y', g2, b0, b1, b2, b3, b4, b5⟩
      · exact absurd (vio_dif h2) (((isSc_iff hR).mp g1).2 _ _ _ h2.1.1 h2.1.2.1 h2.1.2.2)
      · exact absurd (h1 k' g1) g2
      · obtain ⟨rfl, rfl, rfl, rfl, rfl, rfl, rfl⟩ := vio_un h2 g2
        exact ⟨a0.trans b0.symm, a1.trans b1.symm, a2.trans b2.symm, a3.trans b3.symm, a4.trans b4.symm, a5.trans b5.symm⟩
  intro k hk
  obtain ⟨k0, k1, k2, k3, k4, k5⟩ := key
  rcases (show k = 0 ∨ k = 1 ∨ k = 2 ∨ k = 3 ∨ k = 4 ∨ k = 5 by omega) with rfl | rfl | rfl | rfl | rfl | rfl <;> assumption
/-- what is known of a table: judged, with the first walks of a scheme; explained -/
def SJ (w : aW) (s n : Nat) (R : Nat → Nat → Nat) (gd : Int32) : Prop := ∃ f xd pa se wa fw, scm w s n f (gry R n) (Int32.ofInt 1) gd xd pa se wa fw ∧ tHas 0 n R f ∧ ((gd = Int32.ofInt 1 ∧ isSc n R ∧ fwOK n R fw) ∨ (gd = Int32.ofInt 0 ∧ ¬ isSc n R)) ∧ (xd = Int32.ofInt 0 ∨ (xd = Int32.ofInt 1 ∧ Verd n R pa))
/-- a scheme's cells hold the table R; what is marked as known is right -/
def SC (w : aW) (s n : Nat) (R : Nat → Nat → Nat) : Prop := (∃ f gr gd pa se wa fw, scm w s n f gr (Int32.ofInt 0) gd (Int32.ofInt 0) pa se wa fw ∧ tHas 0 n R f) ∨ ∃ gd, SJ w s n R gd
theorem SJ.sc {w : aW} {s n : Nat} {R : Nat → Nat → Nat} {gd : Int32} (h : SJ w s n R gd) : SC w s n R := Or.inr ⟨gd, h⟩
theorem SC.tab {w : aW} {s n : Nat} {R : Nat → Nat → Nat} (h : SC w s n R) : ∃ f, tbl w (s + 1) (s + 2) n f ∧ tHas 0 n R f := by
  rcases h with ⟨f, gr, gd, pa, se, wa, fw, h1, h2⟩ | ⟨gd, f, xd, pa, se, wa, fw, h1, h2, -⟩
  · exact ⟨f, h1.2.1, h2⟩
  · exact ⟨f, h1.2.1, h2⟩
theorem SC.keep {w w' : aW} {s n lo hi : Nat} {R : Nat → Nat → Nat} (h : SC w s n R) (q : eqr lo hi w w') (hs : s + 6 < lo ∨ hi < s) : SC w' s n R := by
  rcases h with ⟨f, gr, gd, pa, se, wa, fw, h1, h2⟩ | ⟨gd, f, xd, pa, se, wa, fw, h1, h2, h3⟩
  · exact Or.inl ⟨f, gr, gd, pa, se, wa, fw, h1.keep q hs, h2⟩
  · exact Or.inr ⟨gd, f, xd, pa, se, wa, fw, h1.keep q hs, h2, h3⟩
theorem SJ.keep {w w' : aW} {s n lo hi : Nat} {R : Nat → Nat → Nat} {gd : Int32} (h : SJ w s n R gd) (q : eqr lo hi w w') (hs : s + 6 < lo ∨ hi < s) : SJ w' s n R gd := by
  obtain ⟨f, xd, pa, se, wa, fw, h1, h2, h3⟩ := h
  exact ⟨f, xd, pa, se, wa, fw, h1.keep q hs, h2, h3⟩
theorem c_holds {w : aW} {s n : Nat} {R : Nat → Nat → Nat} (h : SC w s n R) (hR : tOK n R) : Ct 4 41 [.ref s] w (fun r w' => ∃ gd, r = some (.int gd) ∧ SJ w' s n R gd ∧ eqr s (s + 6) w w') := by
  rcases h with ⟨f, gr, gd, pa, se, wa, fw, h1, h2⟩ | ⟨gd, hj⟩
  · refine (c_holds0 h1 hR h2).mono (Nat.le_refl _) (fun r w' hr => ?_)
    obtain ⟨gd', se', wa', fw', rfl, q1, q2, q3⟩ := hr
    exact ⟨gd', rfl, ⟨f, _, pa, se', wa', fw', q1, h2, q3, Or.inl rfl⟩, q2⟩
  · obtain ⟨f, xd, pa, se, wa, fw, h1, h2, h3, h4⟩ := id hj
    have hg : gd = Int32.ofInt 0 ∨ gd = Int32.ofInt 1 := h3.elim (fun q => Or.inr q.1) (fun q => Or.inl q.1)
    refine (c_holds1 h1 hg).mono (by omega) (fun r w' hr => ?_)
    obtain ⟨rfl, rfl⟩ := hr
    exact ⟨gd, rfl, hj, eqr.rf _ _ _⟩
theorem SJ.gd {w : aW} {s n : Nat} {R : Nat → Nat → Nat} {gd : Int32} (h : SJ w s n R gd) : (gd = Int32.ofInt 1 ∧ isSc n R) ∨ (gd = Int32.ofInt 0 ∧ ¬ isSc n R) := by
  obtain ⟨f, xd, pa, se, wa, fw, h1, h2, h3, h4⟩ := h
  rcases h3 with h3 | h3
  · exact Or.inl ⟨h3.1, h3.2.1⟩
  · exact Or.inr h3
/-- explain: the parts are laid -/
theorem c_explain {w : aW} {s n : Nat} {R : Nat → Nat → Nat} (h : SC w s n R) (hR : tOK n R) : Ct 5 64 [.ref s] w (fun r w' => r = none ∧ eqr s (s + 6) w w' ∧ ∃ f gd xd pa se wa fw, scm w' s n f (gry R n) (Int32.ofInt 1) gd xd pa se wa fw ∧ tHas 0 n R f ∧ ((gd = Int32.ofInt 1 ∧ isSc n R ∧ fwOK n R fw) ∨ (gd = Int32.ofInt 0 ∧ ¬ isSc n R)) ∧ Verd n R pa) := by
  have hL := gr_le hR
  have hk0 : tn (Int32.ofInt 0) = 0 := tn_of rfl (by omega)
  have hk1 : tn (Int32.ofInt 1) = 1 := tn_of rfl (by omega)
  refine Ct.of (fun d hd Q hQ => cl_at (M := m_64) (L := [.ref s, .null]) rfl (Nat.le_of_ble_eq_true rfl) rfl (fun E hE => ?_))
  refine ru_at (b := k_64_0) (cl_mono _ _ _ _) rfl ?_
  simp only [k_64_0, x_iload_0, x_iload_1, x_iload_2, x_iload_3, x_iload_4, x_iload_5, x_iload_6, x_iload_7, x_iload_8, x_iload_9, x_iload_10, x_iload_11, x_lload_0, x_lload_1, x_lload_2, x_lload_3, x_lload_4, x_lload_5, x_lload_6, x_lload_7, x_lload_8, x_lload_9, x_lload_10, x_lload_11, x_aload_0, x_aload_1, x_aload_2, x_aload_3, x_aload_4, x_aload_5, x_aload_6, x_aload_7, x_aload_8, x_aload_9, x_aload_10, x_aload_11, x_istore_0, x_istore_1, x_istore_2, x_istore_3, x_istore_4, x_istore_5, x_istore_6, x_istore_7, x_istore_8, x_istore_9, x_istore_10, x_istore_11, x_astore_0, x_astore_1, x_astore_2, x_astore_3, x_astore_4, x_astore_5, x_astore_6, x_astore_7, x_astore_8, x_astore_9, x_astore_10, x_astore_11, x_lstore_0, x_lstore_1, x_lstore_2, x_lstore_3, x_lstore_4, x_lstore_5, x_lstore_6, x_lstore_7, x_lstore_8, x_lstore_9, x_lstore_10, x_iinc_0, x_iinc_1, x_iinc_2, x_iinc_3, x_iinc_4, x_iinc_5, x_iinc_6, x_iinc_7, x_iinc_8, x_iinc_9, x_iinc_10, x_iinc_11, x_iconst, x_bipush, x_sipush, x_lconst, x_ldc_w, x_ldc2_w, x_iadd, x_isub, x_imul, x_iand, x_ior, x_ixor, x_ishl, x_ishr, x_iushr, x_ladd, x_lsub, x_lmul, x_ineg, x_lneg, x_lcmp, x_i2l, x_l2i, x_idiv, x_irem, x_ldiv, x_lrem, x_dup_int, x_pop_int, x_dup_ref, x_pop_ref, x_dup2, x_goto, x_nop, x_if_eq, x_if_ne, x_if_lt, x_if_ge, x_if_gt, x_if_le, x_icmp_eq, x_icmp_ne, x_icmp_lt, x_icmp_ge, x_icmp_gt, x_icmp_le, x_getfield, x_putfield, x_iaload, x_baload, x_laload, x_iastore, x_bastore, x_lastore, x_arraylength, x_virtual_0, x_virtual_1, x_virtual_2, x_virtual_3, x_virtual_4, x_virtual_5, x_static_0, x_static_1, x_static_2, x_static_3, x_static_4, x_static_5, x_static_6, x_min, x_max, x_abs, x_labs, x_tsw, oM_some, k_int, k_ref, k_long, k_null, vc_nil, vc_int, vc_ref, vc_long, tl_some, tl_none, x_return (M := m_64) rfl rfl]
  -- the flags but the parts
  have core : ∃ C : aW → Prop, (∀ w1, C w1 → SC w1 s n R) ∧ (∀ w1, SC w1 s n R → ∃ pa0, gI w1 (s + 3) = some (6, pa0)) := ⟨fun w1 => SC w1 s n R, fun _ h => h, fun w1 h => by
    rcases h with ⟨f, gr, gd, pa, se, wa, fw, h1, h2⟩ | ⟨gd, f, xd, pa, se, wa, fw, h1, h2, h3⟩
    · exact ⟨pa, h1.2.2.1⟩
    · exact ⟨pa, h1.2.2.1⟩⟩
  -- a scheme's cells with any parts, not explained or without regard to it
  have gen : ∀ w1, (∃ f gr jd gd xd pa se wa fw, scm w1 s n f gr jd gd xd pa se wa fw ∧ tHas 0 n R f ∧ (jd = Int32.ofInt 0 ∨ (jd = Int32.ofInt 1 ∧ gr = gry R n ∧ ((gd = Int32.ofInt 1 ∧ isSc n R ∧ fwOK n R fw) ∨ (gd = Int32.ofInt 0 ∧ ¬ isSc n R)))) ∧ (∀ k, k < 6 → pa k = Int32.ofInt (-1))) → eqr s (s + 6) w w1 → Ru pD pY E (cL d) m_64 Q 24 [.ref s, .int (Int32.ofInt (6 : Nat))] [] w1 := by
    rintro w1 ⟨f, gr, jd, gd, xd, pa, se, wa, fw, h1, h2, h3, h4⟩ he
    have hh : Ct 4 41 [.ref s] w1 (fun r w' => ∃ gd' se' wa' fw', r = some (.int gd') ∧ scm w' s n f (gry R n) (Int32.ofInt 1) gd' xd pa se' wa' fw' ∧ eqr s (s + 6) w1 w' ∧ ((gd' = Int32.ofInt 1 ∧ isSc n R ∧ fwOK n R fw') ∨ (gd' = Int32.ofInt 0 ∧ ¬ isSc n R))) := by
      rcases h3 with rfl | ⟨rfl, rfl, h3⟩
      · exact c_holds0 h1 hR h2
      · have hg : gd = Int32.ofInt 0 ∨ gd = Int32.ofInt 1 := h3.elim (fun q => Or.inr q.1) (fun q => Or.inl q.1)
        refine (c_holds1 h1 hg).mono (by omega) (fun r w' hr => ?_)
        obtain ⟨rfl, rfl⟩ := hr
        exact ⟨gd, se, wa, fw, rfl, h1, eqr.rf _ _ _, h3⟩
    refine ru_at (b := k_64_24) (cl_mono _ _ _ _) rfl ?_
    simp only [k_64_24, x_iload_0, x_iload_1, x_iload_2, x_iload_3, x_iload_4, x_iload_5, x_iload_6, x_iload_7, x_iload_8, x_iload_9, x_iload_10, x_iload_11, x_lload_0, x_lload_1, x_lload_2, x_lload_3, x_lload_4, x_lload_5, x_lload_6, x_lload_7, x_lload_8, x_lload_9, x_lload_10, x_lload_11, x_aload_0, x_aload_1, x_aload_2, x_aload_3, x_aload_4, x_aload_5, x_aload_6, x_aload_7, x_aload_8, x_aload_9, x_aload_10, x_aload_11, x_istore_0, x_istore_1, x_istore_2, x_istore_3, x_istore_4, x_istore_5, x_istore_6, x_istore_7, x_istore_8, x_istore_9, x_istore_10, x_istore_11, x_astore_0, x_astore_1, x_astore_2, x_astore_3, x_astore_4, x_astore_5, x_astore_6, x_astore_7, x_astore_8, x_astore_9, x_astore_10, x_astore_11, x_lstore_0, x_lstore_1, x_lstore_2, x_lstore_3, x_lstore_4, x_lstore_5, x_lstore_6, x_lstore_7, x_lstore_8, x_lstore_9, x_lstore_10, x_iinc_0, x_iinc_1, x_iinc_2, x_iinc_3, x_iinc_4, x_iinc_5, x_iinc_6, x_iinc_7, x_iinc_8, x_iinc_9, x_iinc_10, x_iinc_11, x_iconst, x_bipush, x_sipush, x_lconst, x_ldc_w, x_ldc2_w, x_iadd, x_isub, x_imul, x_iand, x_ior, x_ixor, x_ishl, x_ishr, x_iushr, x_ladd, x_lsub, x_lmul, x_ineg, x_lneg, x_lcmp, x_i2l, x_l2i, x_idiv, x_irem, x_ldiv, x_lrem, x_dup_int, x_pop_int, x_dup_ref, x_pop_ref, x_dup2, x_goto, x_nop, x_if_eq, x_if_ne, x_if_lt, x_if_ge, x_if_gt, x_if_le, x_icmp_eq, x_icmp_ne, x_icmp_lt, x_icmp_ge, x_icmp_gt, x_icmp_le, x_getfield, x_putfield, x_iaload, x_baload, x_laload, x_iastore, x_bastore, x_lastore, x_arraylength, x_virtual_0, x_virtual_1, x_virtual_2, x_virtual_3, x_virtual_4, x_virtual_5, x_static_0, x_static_1, x_static_2, x_static_3, x_static_4, x_static_5, x_static_6, x_min, x_max, x_abs, x_labs, x_tsw, oM_some, k_int, k_ref, k_long, k_null, vc_nil, vc_int, vc_ref, vc_long, tl_some, tl_none, h1.1, List.getElem?_cons_succ, List.getElem?_cons_zero, List.length_cons, List.length_nil, List.set_cons_zero, List.set_cons_succ, true_and, and_true, x_return (M := m_64) rfl rfl]
    refine ⟨by decide, hh.go (by omega) (fun r w2 hr => ?_)⟩
    obtain ⟨gd', se', wa', fw', rfl, q1, q2, q3⟩ := hr
    have e2 := he.tr q2
    rcases q3 with ⟨rfl, q3, q4⟩ | ⟨rfl, q3⟩
    · simp only [x_iload_0, x_iload_1, x_iload_2, x_iload_3, x_iload_4, x_iload_5, x_iload_6, x_iload_7, x_iload_8, x_iload_9, x_iload_10, x_iload_11, x_lload_0, x_lload_1, x_lload_2, x_lload_3, x_lload_4, x_lload_5, x_lload_6, x_lload_7, x_lload_8, x_lload_9, x_lload_10, x_lload_11, x_aload_0, x_aload_1, x_aload_2, x_aload_3, x_aload_4, x_aload_5, x_aload_6, x_aload_7, x_aload_8, x_aload_9, x_aload_10, x_aload_11, x_istore_0, x_istore_1, x_istore_2, x_istore_3, x_istore_4, x_istore_5, x_istore_6, x_istore_7, x_istore_8, x_istore_9, x_istore_10, x_istore_11, x_astore_0, x_astore_1, x_astore_2, x_astore_3, x_astore_4, x_astore_5, x_astore_6, x_astore_7, x_astore_8, x_astore_9, x_astore_10, x_astore_11, x_lstore_0, x_lstore_1, x_lstore_2, x_lstore_3, x_lstore_4, x_lstore_5, x_lstore_6, x_lstore_7, x_lstore_8, x_lstore_9, x_lstore_10, x_iinc_0, x_iinc_1, x_iinc_2, x_iinc_3, x_iinc_4, x_iinc_5, x_iinc_6, x_iinc_7, x_iinc_8, x_iinc_9, x_iinc_10, x_iinc_11, x_iconst, x_bipush, x_sipush, x_lconst, x_ldc_w, x_ldc2_w, x_iadd, x_isub, x_imul, x_iand, x_ior, x_ixor, x_ishl, x_ishr, x_iushr, x_ladd, x_lsub, x_lmul, x_ineg, x_lneg, x_lcmp, x_i2l, x_l2i, x_idiv, x_irem, x_ldiv, x_lrem, x_dup_int, x_pop_int, x_dup_ref, x_pop_ref, x_dup2, x_goto, x_nop, x_if_eq, x_if_ne, x_if_lt, x_if_ge, x_if_gt, x_if_le, x_icmp_eq, x_icmp_ne, x_icmp_lt, x_icmp_ge, x_icmp_gt, x_icmp_le, x_getfield, x_putfield, x_iaload, x_baload, x_laload, x_iastore, x_bastore, x_lastore, x_arraylength, x_virtual_0, x_virtual_1, x_virtual_2, x_virtual_3, x_virtual_4, x_virtual_5, x_static_0, x_static_1, x_static_2, x_static_3, x_static_4, x_static_5, x_static_6, x_min, x_max, x_abs, x_labs, x_tsw, oM_some, k_int, k_ref, k_long, k_null, vc_nil, vc_int, vc_ref, vc_long, tl_some, tl_none, ia_10, ia_00, not_true, not_false_iff, if_true, if_false, q1.1, q1.2.2.1, List.getElem?_cons_succ, List.getElem?_cons_zero, List.length_cons, List.length_nil, List.set_cons_zero, List.set_cons_succ, true_and, and_true, hk0, x_return (M := m_64) rfl rfl]
      refine ⟨inb_of (by omega) (by omega) (by omega), hQ _ _ ⟨rfl, e2.tr (eqr.I _ (by omega) (by omega) _ _), f, _, xd, _, se', wa', fw', q1.setP, h2, Or.inl ⟨rfl, q3, q4⟩, Or.inl ⟨q3, ?_⟩⟩⟩
      simp [upd, h4]
    · simp only [x_iload_0, x_iload_1, x_iload_2, x_iload_3, x_iload_4, x_iload_5, x_iload_6, x_iload_7, x_iload_8, x_iload_9, x_iload_10, x_iload_11, x_lload_0, x_lload_1, x_lload_2, x_lload_3, x_lload_4, x_lload_5, x_lload_6, x_lload_7, x_lload_8, x_lload_9, x_lload_10, x_lload_11, x_aload_0, x_aload_1, x_aload_2, x_aload_3, x_aload_4, x_aload_5, x_aload_6, x_aload_7, x_aload_8, x_aload_9, x_aload_10, x_aload_11, x_istore_0, x_istore_1, x_istore_2, x_istore_3, x_istore_4, x_istore_5, x_istore_6, x_istore_7, x_istore_8, x_istore_9, x_istore_10, x_istore_11, x_astore_0, x_astore_1, x_astore_2, x_astore_3, x_astore_4, x_astore_5, x_astore_6, x_astore_7, x_astore_8, x_astore_9, x_astore_10, x_astore_11, x_lstore_0, x_lstore_1, x_lstore_2, x_lstore_3, x_lstore_4, x_lstore_5, x_lstore_6, x_lstore_7, x_lstore_8, x_lstore_9, x_lstore_10, x_iinc_0, x_iinc_1, x_iinc_2, x_iinc_3, x_iinc_4, x_iinc_5, x_iinc_6, x_iinc_7, x_iinc_8, x_iinc_9, x_iinc_10, x_iinc_11, x_iconst, x_bipush, x_sipush, x_lconst, x_ldc_w, x_ldc2_w, x_iadd, x_isub, x_imul, x_iand, x_ior, x_ixor, x_ishl, x_ishr, x_iushr, x_ladd, x_lsub, x_lmul, x_ineg, x_lneg, x_lcmp, x_i2l, x_l2i, x_idiv, x_irem, x_ldiv, x_lrem, x_dup_int, x_pop_int, x_dup_ref, x_pop_ref, x_dup2, x_goto, x_nop, x_if_eq, x_if_ne, x_if_lt, x_if_ge, x_if_gt, x_if_le, x_icmp_eq, x_icmp_ne, x_icmp_lt, x_icmp_ge, x_icmp_gt, x_icmp_le, x_getfield, x_putfield, x_iaload, x_baload, x_laload, x_iastore, x_bastore, x_lastore, x_arraylength, x_virtual_0, x_virtual_1, x_virtual_2, x_virtual_3, x_virtual_4, x_virtual_5, x_static_0, x_static_1, x_static_2, x_static_3, x_static_4, x_static_5, x_static_6, x_min, x_max, x_abs, x_labs, x_tsw, oM_some, k_int, k_ref, k_long, k_null, vc_nil, vc_int, vc_ref, vc_long, tl_some, tl_none, ia_10, ia_00, not_true, not_false_iff, if_true, if_false]
      refine ru_at (b := k_64_39) (cl_mono _ _ _ _) rfl ?_
      simp only [k_64_39, x_iload_0, x_iload_1, x_iload_2, x_iload_3, x_iload_4, x_iload_5, x_iload_6, x_iload_7, x_iload_8, x_iload_9, x_iload_10, x_iload_11, x_lload_0, x_lload_1, x_lload_2, x_lload_3, x_lload_4, x_lload_5, x_lload_6, x_lload_7, x_lload_8, x_lload_9, x_lload_10, x_lload_11, x_aload_0, x_aload_1, x_aload_2, x_aload_3, x_aload_4, x_aload_5, x_aload_6, x_aload_7, x_aload_8, x_aload_9, x_aload_10, x_aload_11, x_istore_0, x_istore_1, x_istore_2, x_istore_3, x_istore_4, x_istore_5, x_istore_6, x_istore_7, x_istore_8, x_istore_9, x_istore_10, x_istore_11, x_astore_0, x_astore_1, x_astore_2, x_astore_3, x_astore_4, x_astore_5, x_astore_6, x_astore_7, x_astore_8, x_astore_9, x_astore_10, x_astore_11, x_lstore_0, x_lstore_1, x_lstore_2, x_lstore_3, x_lstore_4, x_lstore_5, x_lstore_6, x_lstore_7, x_lstore_8, x_lstore_9, x_lstore_10, x_iinc_0, x_iinc_1, x_iinc_2, x_iinc_3, x_iinc_4, x_iinc_5, x_iinc_6, x_iinc_7, x_iinc_8, x_iinc_9, x_iinc_10, x_iinc_11, x_iconst, x_bipush, x_sipush, x_lconst, x_ldc_w, x_ldc2_w, x_iadd, x_isub, x_imul, x_iand, x_ior, x_ixor, x_ishl, x_ishr, x_iushr, x_ladd, x_lsub, x_lmul, x_ineg, x_lneg, x_lcmp, x_i2l, x_l2i, x_idiv, x_irem, x_ldiv, x_lrem, x_dup_int, x_pop_int, x_dup_ref, x_pop_ref, x_dup2, x_goto, x_nop, x_if_eq, x_if_ne, x_if_lt, x_if_ge, x_if_gt, x_if_le, x_icmp_eq, x_icmp_ne, x_icmp_lt, x_icmp_ge, x_icmp_gt, x_icmp_le, x_getfield, x_putfield, x_iaload, x_baload, x_laload, x_iastore, x_bastore, x_lastore, x_arraylength, x_virtual_0, x_virtual_1, x_virtual_2, x_virtual_3, x_virtual_4, x_virtual_5, x_static_0, x_static_1, x_static_2, x_static_3, x_static_4, x_static_5, x_static_6, x_min, x_max, x_abs, x_labs, x_tsw, oM_some, k_int, k_ref, k_long, k_null, vc_nil, vc_int, vc_ref, vc_long, tl_some, tl_none, q1.1, List.getElem?_cons_succ, List.getElem?_cons_zero, List.length_cons, List.length_nil, List.set_cons_zero, List.set_cons_succ, true_and, and_true, x_return (M := m_64) rfl rfl]
      refine ⟨by decide, (c_missing q1 hR h2 hL).go (by omega) (fun r w3 hr => ?_)⟩
      obtain ⟨m, se3, rfl, hm, rfl⟩ := hr
      have q5 := q1.setS (g := se3)
      have e3 := e2.tr (eqr.Z (lo := s) (hi := s + 6) w2 (a := s + 4) (by omega) (by omega) 6 se3)
      have q6 := q5.setP (g := upd pa 0 (Int32.ofInt 1))
      have hmr : rg m := by rcases hm with ⟨rfl, -⟩ | ⟨k, rfl, hk, -⟩ <;> exact ⟨by omega, by omega⟩
      simp only [x_iload_0, x_iload_1, x_iload_2, x_iload_3, x_iload_4, x_iload_5, x_iload_6, x_iload_7, x_iload_8, x_iload_9, x_iload_10, x_iload_11, x_lload_0, x_lload_1, x_lload_2, x_lload_3, x_lload_4, x_lload_5, x_lload_6, x_lload_7, x_lload_8, x_lload_9, x_lload_10, x_lload_11, x_aload_0, x_aload_1, x_aload_2, x_aload_3, x_aload_4, x_aload_5, x_aload_6, x_aload_7, x_aload_8, x_aload_9, x_aload_10, x_aload_11, x_istore_0, x_istore_1, x_istore_2, x_istore_3, x_istore_4, x_istore_5, x_istore_6, x_istore_7, x_istore_8, x_istore_9, x_istore_10, x_istore_11, x_astore_0, x_astore_1, x_astore_2, x_astore_3, x_astore_4, x_astore_5, x_astore_6, x_astore_7, x_astore_8, x_astore_9, x_astore_10, x_astore_11, x_lstore_0, x_lstore_1, x_lstore_2, x_lstore_3, x_lstore_4, x_lstore_5, x_lstore_6, x_lstore_7, x_lstore_8, x_lstore_9, x_lstore_10, x_iinc_0, x_iinc_1, x_iinc_2, x_iinc_3, x_iinc_4, x_iinc_5, x_iinc_6, x_iinc_7, x_iinc_8, x_iinc_9, x_iinc_10, x_iinc_11, x_iconst, x_bipush, x_sipush, x_lconst, x_ldc_w, x_ldc2_w, x_iadd, x_isub, x_imul, x_iand, x_ior, x_ixor, x_ishl, x_ishr, x_iushr, x_ladd, x_lsub, x_lmul, x_ineg, x_lneg, x_lcmp, x_i2l, x_l2i, x_idiv, x_irem, x_ldiv, x_lrem, x_dup_int, x_pop_int, x_dup_ref, x_pop_ref, x_dup2, x_goto, x_nop, x_if_eq, x_if_ne, x_if_lt, x_if_ge, x_if_gt, x_if_le, x_icmp_eq, x_icmp_ne, x_icmp_lt, x_icmp_ge, x_icmp_gt, x_icmp_le, x_getfield, x_putfield, x_iaload, x_baload, x_laload, x_iastore, x_bastore, x_lastore, x_arraylength, x_virtual_0, x_virtual_1, x_virtual_2, x_virtual_3, x_virtual_4, x_virtual_5, x_static_0, x_static_1, x_static_2, x_static_3, x_static_4, x_static_5, x_static_6, x_min, x_max, x_abs, x_labs, x_tsw, oM_some, k_int, k_ref, k_long, k_null, vc_nil, vc_int, vc_ref, vc_long, tl_some, tl_none, q5.1, q5.2.2.1, q6.1, q6.2.2.1, List.getElem?_cons_succ, List.getElem?_cons_zero, List.length_cons, List.length_nil, List.set_cons_zero, List.set_cons_succ, true_and, and_true, hk0, hk1, sI_sI]
      refine if_eq hmr ⟨by omega, by omega⟩ (fun he => ?_) (fun hne => ?_)
      · have hall : ∀ i, i < gry R n → occ n R i := by
          rcases hm with ⟨-, hm⟩ | ⟨k, rfl, hk, hno, -⟩
          · exact hm
          · omega
        have hno : ∃ i j k, i ≤ gry R n ∧ j ≤ gry R n ∧ k ≤ gry R n ∧ dif n R i j k := by
          refine Classical.byContradiction fun hc => q3 ((isSc_iff hR).mpr ⟨hall, fun i j k hi hj hk hd1 => hc ⟨i, j, k, hi, hj, hk, hd1⟩⟩)
        have q7 := q5.setP (g := upd pa 0 (Int32.ofInt 2))
        refine ru_at (b := k_64_66) (cl_mono _ _ _ _) rfl ?_
        simp only [k_64_66, x_iload_0, x_iload_1, x_iload_2, x_iload_3, x_iload_4, x_iload_5, x_iload_6, x_iload_7, x_iload_8, x_iload_9, x_iload_10, x_iload_11, x_lload_0, x_lload_1, x_lload_2, x_lload_3, x_lload_4, x_lload_5, x_lload_6, x_lload_7, x_lload_8, x_lload_9, x_lload_10, x_lload_11, x_aload_0, x_aload_1, x_aload_2, x_aload_3, x_aload_4, x_aload_5, x_aload_6, x_aload_7, x_aload_8, x_aload_9, x_aload_10, x_aload_11, x_istore_0, x_istore_1, x_istore_2, x_istore_3, x_istore_4, x_istore_5, x_istore_6, x_istore_7, x_istore_8, x_istore_9, x_istore_10, x_istore_11, x_astore_0, x_astore_1, x_astore_2, x_astore_3, x_astore_4, x_astore_5, x_astore_6, x_astore_7, x_astore_8, x_astore_9, x_astore_10, x_astore_11, x_lstore_0, x_lstore_1, x_lstore_2, x_lstore_3, x_lstore_4, x_lstore_5, x_lstore_6, x_lstore_7, x_lstore_8, x_lstore_9, x_lstore_10, x_iinc_0, x_iinc_1, x_iinc_2, x_iinc_3, x_iinc_4, x_iinc_5, x_iinc_6, x_iinc_7, x_iinc_8, x_iinc_9, x_iinc_10, x_iinc_11, x_iconst, x_bipush, x_sipush, x_lconst, x_ldc_w, x_ldc2_w, x_iadd, x_isub, x_imul, x_iand, x_ior, x_ixor, x_ishl, x_ishr, x_iushr, x_ladd, x_lsub, x_lmul, x_ineg, x_lneg, x_lcmp, x_i2l, x_l2i, x_idiv, x_irem, x_ldiv, x_lrem, x_dup_int, x_pop_int, x_dup_ref, x_pop_ref, x_dup2, x_goto, x_nop, x_if_eq, x_if_ne, x_if_lt, x_if_ge, x_if_gt, x_if_le, x_icmp_eq, x_icmp_ne, x_icmp_lt, x_icmp_ge, x_icmp_gt, x_icmp_le, x_getfield, x_putfield, x_iaload, x_baload, x_laload, x_iastore, x_bastore, x_lastore, x_arraylength, x_virtual_0, x_virtual_1, x_virtual_2, x_virtual_3, x_virtual_4, x_virtual_5, x_static_0, x_static_1, x_static_2, x_static_3, x_static_4, x_static_5, x_static_6, x_min, x_max, x_abs, x_labs, x_tsw, oM_some, k_int, k_ref, k_long, k_null, vc_nil, vc_int, vc_ref, vc_long, tl_some, tl_none, q5.1, q5.2.2.1, q7.1, List.getElem?_cons_succ, List.getElem?_cons_zero, List.length_cons, List.length_nil, List.set_cons_zero, List.set_cons_succ, true_and, and_true, hk0, x_return (M := m_64) rfl rfl]
        refine ⟨inb_of (by omega) (by omega) (by omega), by decide, (c_findViolation q7 hR h2 hno).go (by omega) (fun r w4 hr => ?_)⟩
        obtain ⟨rfl, i, j, k, x0, y0, x, y, g, hv, rfl, g0, g1, g2, g3, g4, g5⟩ := hr
        simp only [x_iload_0, x_iload_1, x_iload_2, x_iload_3, x_iload_4, x_iload_5, x_iload_6, x_iload_7, x_iload_8, x_iload_9, x_iload_10, x_iload_11, x_lload_0, x_lload_1, x_lload_2, x_lload_3, x_lload_4, x_lload_5, x_lload_6, x_lload_7, x_lload_8, x_lload_9, x_lload_10, x_lload_11, x_aload_0, x_aload_1, x_aload_2, x_aload_3, x_aload_4, x_aload_5, x_aload_6, x_aload_7, x_aload_8, x_aload_9, x_aload_10, x_aload_11, x_istore_0, x_istore_1, x_istore_2, x_istore_3, x_istore_4, x_istore_5, x_istore_6, x_istore_7, x_istore_8, x_istore_9, x_istore_10, x_istore_11, x_astore_0, x_astore_1, x_astore_2, x_astore_3, x_astore_4, x_astore_5, x_astore_6, x_astore_7, x_astore_8, x_astore_9, x_astore_10, x_astore_11, x_lstore_0, x_lstore_1, x_lstore_2, x_lstore_3, x_lstore_4, x_lstore_5, x_lstore_6, x_lstore_7, x_lstore_8, x_lstore_9, x_lstore_10, x_iinc_0, x_iinc_1, x_iinc_2, x_iinc_3, x_iinc_4, x_iinc_5, x_iinc_6, x_iinc_7, x_iinc_8, x_iinc_9, x_iinc_10, x_iinc_11, x_iconst, x_bipush, x_sipush, x_lconst, x_ldc_w, x_ldc2_w, x_iadd, x_isub, x_imul, x_iand, x_ior, x_ixor, x_ishl, x_ishr, x_iushr, x_ladd, x_lsub, x_lmul, x_ineg, x_lneg, x_lcmp, x_i2l, x_l2i, x_idiv, x_irem, x_ldiv, x_lrem, x_dup_int, x_pop_int, x_dup_ref, x_pop_ref, x_dup2, x_goto, x_nop, x_if_eq, x_if_ne, x_if_lt, x_if_ge, x_if_gt, x_if_le, x_icmp_eq, x_icmp_ne, x_icmp_lt, x_icmp_ge, x_icmp_gt, x_icmp_le, x_getfield, x_putfield, x_iaload, x_baload, x_laload, x_iastore, x_bastore, x_lastore, x_arraylength, x_virtual_0, x_virtual_1, x_virtual_2, x_virtual_3, x_virtual_4, x_virtual_5, x_static_0, x_static_1, x_static_2, x_static_3, x_static_4, x_static_5, x_static_6, x_min, x_max, x_abs, x_labs, x_tsw, oM_some, k_int, k_ref, k_long, k_null, vc_nil, vc_int, vc_ref, vc_long, tl_some, tl_none]
        refine ru_at (b := k_64_77) (cl_mono _ _ _ _) rfl ?_
        simp only [k_64_77, x_iload_0, x_iload_1, x_iload_2, x_iload_3, x_iload_4, x_iload_5, x_iload_6, x_iload_7, x_iload_8, x_iload_9, x_iload_10, x_iload_11, x_lload_0, x_lload_1, x_lload_2, x_lload_3, x_lload_4, x_lload_5, x_lload_6, x_lload_7, x_lload_8, x_lload_9, x_lload_10, x_lload_11, x_aload_0, x_aload_1, x_aload_2, x_aload_3, x_aload_4, x_aload_5, x_aload_6, x_aload_7, x_aload_8, x_aload_9, x_aload_10, x_aload_11, x_istore_0, x_istore_1, x_istore_2, x_istore_3, x_istore_4, x_istore_5, x_istore_6, x_istore_7, x_istore_8, x_istore_9, x_istore_10, x_istore_11, x_astore_0, x_astore_1, x_astore_2, x_astore_3, x_astore_4, x_astore_5, x_astore_6, x_astore_7, x_astore_8, x_astore_9, x_astore_10, x_astore_11, x_lstore_0, x_lstore_1, x_lstore_2, x_lstore_3, x_lstore_4, x_lstore_5, x_lstore_6, x_lstore_7, x_lstore_8, x_lstore_9, x_lstore_10, x_iinc_0, x_iinc_1, x_iinc_2, x_iinc_3, x_iinc_4, x_iinc_5, x_iinc_6, x_iinc_7, x_iinc_8, x_iinc_9, x_iinc_10, x_iinc_11, x_iconst, x_bipush, x_sipush, x_lconst, x_ldc_w, x_ldc2_w, x_iadd, x_isub, x_imul, x_iand, x_ior, x_ixor, x_ishl, x_ishr, x_iushr, x_ladd, x_lsub, x_lmul, x_ineg, x_lneg, x_lcmp, x_i2l, x_l2i, x_idiv, x_irem, x_ldiv, x_lrem, x_dup_int, x_pop_int, x_dup_ref, x_pop_ref, x_dup2, x_goto, x_nop, x_if_eq, x_if_ne, x_if_lt, x_if_ge, x_if_gt, x_if_le, x_icmp_eq, x_icmp_ne, x_icmp_lt, x_icmp_ge, x_icmp_gt, x_icmp_le, x_getfield, x_putfield, x_iaload, x_baload, x_laload, x_iastore, x_bastore, x_lastore, x_arraylength, x_virtual_0, x_virtual_1, x_virtual_2, x_virtual_3, x_virtual_4, x_virtual_5, x_static_0, x_static_1, x_static_2, x_static_3, x_static_4, x_static_5, x_static_6, x_min, x_max, x_abs, x_labs, x_tsw, oM_some, k_int, k_ref, k_long, k_null, vc_nil, vc_int, vc_ref, vc_long, tl_some, tl_none, x_return (M := m_64) rfl rfl]
        exact hQ _ _ ⟨rfl, (e3.tr (eqr.I _ (by omega) (by omega) _ _)).tr (eqr.I _ (by omega) (by omega) _ _), f, _, xd, _, _, wa', fw', q7.setP, h2, Or.inr ⟨rfl, q3⟩, Or.inr (Or.inr ⟨hall, i, j, k, x0, y0, x, y, hv, by rw [g0]; simp [upd], g1, g2, g3, g4, g5⟩)⟩
      · rcases hm with ⟨rfl, -⟩ | ⟨k, rfl, hk, hno, hbe⟩
        · exact absurd rfl hne
        · refine ⟨inb_of (by omega) (by omega) (by omega), inb_of (by omega) (by omega) (by omega), ?_⟩
          refine ru_at (b := k_64_77) (cl_mono _ _ _ _) rfl ?_
          simp only [k_64_77, x_iload_0, x_iload_1, x_iload_2, x_iload_3, x_iload_4, x_iload_5, x_iload_6, x_iload_7, x_iload_8, x_iload_9, x_iload_10, x_iload_11, x_lload_0, x_lload_1, x_lload_2, x_lload_3, x_lload_4, x_lload_5, x_lload_6, x_lload_7, x_lload_8, x_lload_9, x_lload_10, x_lload_11, x_aload_0, x_aload_1, x_aload_2, x_aload_3, x_aload_4, x_aload_5, x_aload_6, x_aload_7, x_aload_8, x_aload_9, x_aload_10, x_aload_11, x_istore_0, x_istore_1, x_istore_2, x_istore_3, x_istore_4, x_istore_5, x_istore_6, x_istore_7, x_istore_8, x_istore_9, x_istore_10, x_istore_11, x_astore_0, x_astore_1, x_astore_2, x_astore_3, x_astore_4, x_astore_5, x_astore_6, x_astore_7, x_astore_8, x_astore_9, x_astore_10, x_astore_11, x_lstore_0, x_lstore_1, x_lstore_2, x_lstore_3, x_lstore_4, x_lstore_5, x_lstore_6, x_lstore_7, x_lstore_8, x_lstore_9, x_lstore_10, x_iinc_0, x_iinc_1, x_iinc_2, x_iinc_3, x_iinc_4, x_iinc_5, x_iinc_6, x_iinc_7, x_iinc_8, x_iinc_9, x_iinc_10, x_iinc_11, x_iconst, x_bipush, x_sipush, x_lconst, x_ldc_w, x_ldc2_w, x_iadd, x_isub, x_imul, x_iand, x_ior, x_ixor, x_ishl, x_ishr, x_iushr, x_ladd, x_lsub, x_lmul, x_ineg, x_lneg, x_lcmp, x_i2l, x_l2i, x_idiv, x_irem, x_ldiv, x_lrem, x_dup_int, x_pop_int, x_dup_ref, x_pop_ref, x_dup2, x_goto, x_nop, x_if_eq, x_if_ne, x_if_lt, x_if_ge, x_if_gt, x_if_le, x_icmp_eq, x_icmp_ne, x_icmp_lt, x_icmp_ge, x_icmp_gt, x_icmp_le, x_getfield, x_putfield, x_iaload, x_baload, x_laload, x_iastore, x_bastore, x_lastore, x_arraylength, x_virtual_0, x_virtual_1, x_virtual_2, x_virtual_3, x_virtual_4, x_virtual_5, x_static_0, x_static_1, x_static_2, x_static_3, x_static_4, x_static_5, x_static_6, x_min, x_max, x_abs, x_labs, x_tsw, oM_some, k_int, k_ref, k_long, k_null, vc_nil, vc_int, vc_ref, vc_long, tl_some, tl_none, x_return (M := m_64) rfl rfl]
          refine hQ _ _ ⟨rfl, e3.tr (eqr.I _ (by omega) (by omega) _ _), f, _, xd, _, _, wa', fw', q5.setP, h2, Or.inr ⟨rfl, q3⟩, Or.inr (Or.inl ⟨k, hk, hno, hbe, ?_⟩)⟩
          simp [upd, h4]
  -- the parts are emptied
  have loop : ∀ w1, (∃ f gr jd gd xd pa se wa fw, scm w1 s n f gr jd gd xd pa se wa fw ∧ tHas 0 n R f ∧ (jd = Int32.ofInt 0 ∨ (jd = Int32.ofInt 1 ∧ gr = gry R n ∧ ((gd = Int32.ofInt 1 ∧ isSc n R ∧ fwOK n R fw) ∨ (gd = Int32.ofInt 0 ∧ ¬ isSc n R))))) → w1 = w → Ru pD pY E (cL d) m_64 Q 2 [.ref s, .int (Int32.ofInt ((0 : Nat) : Int))] [] w1 := by
    rintro w1 ⟨f, gr, jd, gd, xd, pa, se, wa, fw, h1, h2, h3⟩ rfl
    rw [show w1 = sI w1 (s + 3) 6 pa from (sI_self h1.2.2.1).symm]
    refine up_to (R := fun i => ∀ g : Nat → Int32, (∀ k, k < i → g k = Int32.ofInt (-1)) → Ru pD pY E (cL d) m_64 Q 2 [.ref s, .int (Int32.ofInt (i : Int))] [] (sI w1 (s + 3) 6 g)) (lo := 0) (hi := 6) (Nat.zero_le _) (fun i _ hi ih => ?_) ?_ pa (fun k hk => by omega)
    · intro g hg
      have q := h1.setP (g := g)
      have h6 : Int32.ofNat 6 = Int32.ofInt 6 := by decide
      refine ru_at (b := k_64_2) (cl_mono _ _ _ _) rfl ?_
      simp only [k_64_2, x_iload_0, x_iload_1, x_iload_2, x_iload_3, x_iload_4, x_iload_5, x_iload_6, x_iload_7, x_iload_8, x_iload_9, x_iload_10, x_iload_11, x_lload_0, x_lload_1, x_lload_2, x_lload_3, x_lload_4, x_lload_5, x_lload_6, x_lload_7, x_lload_8, x_lload_9, x_lload_10, x_lload_11, x_aload_0, x_aload_1, x_aload_2, x_aload_3, x_aload_4, x_aload_5, x_aload_6, x_aload_7, x_aload_8, x_aload_9, x_aload_10, x_aload_11, x_istore_0, x_istore_1, x_istore_2, x_istore_3, x_istore_4, x_istore_5, x_istore_6, x_istore_7, x_istore_8, x_istore_9, x_istore_10, x_istore_11, x_astore_0, x_astore_1, x_astore_2, x_astore_3, x_astore_4, x_astore_5, x_astore_6, x_astore_7, x_astore_8, x_astore_9, x_astore_10, x_astore_11, x_lstore_0, x_lstore_1, x_lstore_2, x_lstore_3, x_lstore_4, x_lstore_5, x_lstore_6, x_lstore_7, x_lstore_8, x_lstore_9, x_lstore_10, x_iinc_0, x_iinc_1, x_iinc_2, x_iinc_3, x_iinc_4, x_iinc_5, x_iinc_6, x_iinc_7, x_iinc_8, x_iinc_9, x_iinc_10, x_iinc_11, x_iconst, x_bipush, x_sipush, x_lconst, x_ldc_w, x_ldc2_w, x_iadd, x_isub, x_imul, x_iand, x_ior, x_ixor, x_ishl, x_ishr, x_iushr, x_ladd, x_lsub, x_lmul, x_ineg, x_lneg, x_lcmp, x_i2l, x_l2i, x_idiv, x_irem, x_ldiv, x_lrem, x_dup_int, x_pop_int, x_dup_ref, x_pop_ref, x_dup2, x_goto, x_nop, x_if_eq, x_if_ne, x_if_lt, x_if_ge, x_if_gt, x_if_le, x_icmp_eq, x_icmp_ne, x_icmp_lt, x_icmp_ge, x_icmp_gt, x_icmp_le, x_getfield, x_putfield, x_iaload, x_baload, x_laload, x_iastore, x_bastore, x_lastore, x_arraylength, x_virtual_0, x_virtual_1, x_virtual_2, x_virtual_3, x_virtual_4, x_virtual_5, x_static_0, x_static_1, x_static_2, x_static_3, x_static_4, x_static_5, x_static_6, x_min, x_max, x_abs, x_labs, x_tsw, oM_some, k_int, k_ref, k_long, k_null, vc_nil, vc_int, vc_ref, vc_long, tl_some, tl_none, q.1, q.2.2.1, gI_gN q.2.2.1, List.getElem?_cons_succ, List.getElem?_cons_zero, List.length_cons, List.length_nil, List.set_cons_zero, List.set_cons_succ, true_and, and_true, tn_of (show (i : Int) = (i : Nat) from rfl) (by omega), ia_add, sI_sI, h6, x_return (M := m_64) rfl rfl]
      refine if_le ⟨by omega, by omega⟩ ⟨by omega, by omega⟩ (fun hcc => absurd hcc (by omega)) (fun hcc => ?_)
      refine ⟨inb_of (by omega) (by omega) (by omega), ih _ (fun k hk => ?_)⟩
      unfold upd
      by_cases hki : k = i
      · rw [if_pos hki]
      · rw [if_neg hki]; exact hg k (by omega)
    · intro g hg
      have q := h1.setP (g := g)
      have h6 : Int32.ofNat 6 = Int32.ofInt 6 := by decide
      refine ru_at (b := k_64_2) (cl_mono _ _ _ _) rfl ?_
      simp only [k_64_2, x_iload_0, x_iload_1, x_iload_2, x_iload_3, x_iload_4, x_iload_5, x_iload_6, x_iload_7, x_iload_8, x_iload_9, x_iload_10, x_iload_11, x_lload_0, x_lload_1, x_lload_2, x_lload_3, x_lload_4, x_lload_5, x_lload_6, x_lload_7, x_lload_8, x_lload_9, x_lload_10, x_lload_11, x_aload_0, x_aload_1, x_aload_2, x_aload_3, x_aload_4, x_aload_5, x_aload_6, x_aload_7, x_aload_8, x_aload_9, x_aload_10, x_aload_11, x_istore_0, x_istore_1, x_istore_2, x_istore_3, x_istore_4, x_istore_5, x_istore_6, x_istore_7, x_istore_8, x_istore_9, x_istore_10, x_istore_11, x_astore_0, x_astore_1, x_astore_2, x_astore_3, x_astore_4, x_astore_5, x_astore_6, x_astore_7, x_astore_8, x_astore_9, x_astore_10, x_astore_11, x_lstore_0, x_lstore_1, x_lstore_2, x_lstore_3, x_lstore_4, x_lstore_5, x_lstore_6, x_lstore_7, x_lstore_8, x_lstore_9, x_lstore_10, x_iinc_0, x_iinc_1, x_iinc_2, x_iinc_3, x_iinc_4, x_iinc_5, x_iinc_6, x_iinc_7, x_iinc_8, x_iinc_9, x_iinc_10, x_iinc_11, x_iconst, x_bipush, x_sipush, x_lconst, x_ldc_w, x_ldc2_w, x_iadd, x_isub, x_imul, x_iand, x_ior, x_ixor, x_ishl, x_ishr, x_iushr, x_ladd, x_lsub, x_lmul, x_ineg, x_lneg, x_lcmp, x_i2l, x_l2i, x_idiv, x_irem, x_ldiv, x_lrem, x_dup_int, x_pop_int, x_dup_ref, x_pop_ref, x_dup2, x_goto, x_nop, x_if_eq, x_if_ne, x_if_lt, x_if_ge, x_if_gt, x_if_le, x_icmp_eq, x_icmp_ne, x_icmp_lt, x_icmp_ge, x_icmp_gt, x_icmp_le, x_getfield, x_putfield, x_iaload, x_baload, x_laload, x_iastore, x_bastore, x_lastore, x_arraylength, x_virtual_0, x_virtual_1, x_virtual_2, x_virtual_3, x_virtual_4, x_virtual_5, x_static_0, x_static_1, x_static_2, x_static_3, x_static_4, x_static_5, x_static_6, x_min, x_max, x_abs, x_labs, x_tsw, oM_some, k_int, k_ref, k_long, k_null, vc_nil, vc_int, vc_ref, vc_long, tl_some, tl_none, q.1, gI_gN q.2.2.1, List.getElem?_cons_succ, List.getElem?_cons_zero, List.length_cons, List.length_nil, List.set_cons_zero, List.set_cons_succ, true_and, and_true, h6, x_return (M := m_64) rfl rfl]
      refine if_le ⟨by omega, by omega⟩ ⟨by omega, by omega⟩ (fun hcc => ?_) (fun hcc => absurd hcc (by omega))
      exact gen _ ⟨f, gr, jd, gd, xd, g, se, wa, fw, q, h2, h3, hg⟩ (eqr.I _ (by omega) (by omega) _ _)
  refine loop w ?_ rfl
  rcases h with ⟨f, gr, gd, pa, se, wa, fw, h1, h2⟩ | ⟨gd, f, xd, pa, se, wa, fw, h1, h2, h3, -⟩
  · exact ⟨f, gr, _, gd, _, pa, se, wa, fw, h1, h2, Or.inl rfl⟩
  · exact ⟨f, _, _, gd, xd, pa, se, wa, fw, h1, h2, Or.inr ⟨rfl, rfl, h3⟩⟩
/-- part: a part of the verdict -/
theorem c_part {w : aW} {s n : Nat} {R : Nat → Nat → Nat} (h : SC w s n R) (hR : tOK n R) {k : Nat} (hk : k < 6) : Ct 6 63 [.ref s, .int (Int32.ofInt k)] w (fun r w' => ∃ p, r = some (.int (p k)) ∧ Verd n R p ∧ (∃ gd, SJ w' s n R gd) ∧ eqr s (s + 6) w w') := by
  have htk : tn (Int32.ofInt (k : Int)) = k := tn_of rfl (by omega)
  refine Ct.of (fun d hd Q hQ => cl_at (M := m_63) (L := [.ref s, .int (Int32.ofInt k)]) rfl (Nat.le_of_ble_eq_true rfl) rfl (fun E hE => ?_))
  have fin : ∀ w1 f gd pa se wa fw, scm w1 s n f (gry R n) (Int32.ofInt 1) gd (Int32.ofInt 1) pa se wa fw → tHas 0 n R f → ((gd = Int32.ofInt 1 ∧ isSc n R ∧ fwOK n R fw) ∨ (gd = Int32.ofInt 0 ∧ ¬ isSc n R)) → Verd n R pa → eqr s (s + 6) w w1 → Ru pD pY E (cL d) m_63 Q 16 [.ref s, .int (Int32.ofInt k)] [] w1 := by
    intro w1 f gd pa se wa fw q1 q2 q3 q4 q5
    have e6 : Int32.ofNat 6 = Int32.ofInt 6 := rfl
    refine ru_at (b := k_63_16) (cl_mono _ _ _ _) rfl ?_
    simp only [k_63_16, x_iload_0, x_iload_1, x_iload_2, x_iload_3, x_iload_4, x_iload_5, x_iload_6, x_iload_7, x_iload_8, x_iload_9, x_iload_10, x_iload_11, x_lload_0, x_lload_1, x_lload_2, x_lload_3, x_lload_4, x_lload_5, x_lload_6, x_lload_7, x_lload_8, x_lload_9, x_lload_10, x_lload_11, x_aload_0, x_aload_1, x_aload_2, x_aload_3, x_aload_4, x_aload_5, x_aload_6, x_aload_7, x_aload_8, x_aload_9, x_aload_10, x_aload_11, x_istore_0, x_istore_1, x_istore_2, x_istore_3, x_istore_4, x_istore_5, x_istore_6, x_istore_7, x_istore_8, x_istore_9, x_istore_10, x_istore_11, x_astore_0, x_astore_1, x_astore_2, x_astore_3, x_astore_4, x_astore_5, x_astore_6, x_astore_7, x_astore_8, x_astore_9, x_astore_10, x_astore_11, x_lstore_0, x_lstore_1, x_lstore_2, x_lstore_3, x_lstore_4, x_lstore_5, x_lstore_6, x_lstore_7, x_lstore_8, x_lstore_9, x_lstore_10, x_iinc_0, x_iinc_1, x_iinc_2, x_iinc_3, x_iinc_4, x_iinc_5, x_iinc_6, x_iinc_7, x_iinc_8, x_iinc_9, x_iinc_10, x_iinc_11, x_iconst, x_bipush, x_sipush, x_lconst, x_ldc_w, x_ldc2_w, x_iadd, x_isub, x_imul, x_iand, x_ior, x_ixor, x_ishl, x_ishr, x_iushr, x_ladd, x_lsub, x_lmul, x_ineg, x_lneg, x_lcmp, x_i2l, x_l2i, x_idiv, x_irem, x_ldiv, x_lrem, x_dup_int, x_pop_int, x_dup_ref, x_pop_ref, x_dup2, x_goto, x_nop, x_if_eq, x_if_ne, x_if_lt, x_if_ge, x_if_gt, x_if_le, x_icmp_eq, x_icmp_ne, x_icmp_lt, x_icmp_ge, x_icmp_gt, x_icmp_le, x_getfield, x_putfield, x_iaload, x_baload, x_laload, x_iastore, x_bastore, x_lastore, x_arraylength, x_virtual_0, x_virtual_1, x_virtual_2, x_virtual_3, x_virtual_4, x_virtual_5, x_static_0, x_static_1, x_static_2, x_static_3, x_static_4, x_static_5, x_static_6, x_min, x_max, x_abs, x_labs, x_tsw, oM_some, k_int, k_ref, k_long, k_null, vc_nil, vc_int, vc_ref, vc_long, tl_some, tl_none, q1.1, q1.2.2.1, gI_gN q1.2.2.1, e6, List.getElem?_cons_succ, List.getElem?_cons_zero, List.length_cons, List.length_nil, List.set_cons_zero, List.set_cons_succ, true_and, and_true, htk, x_ireturn (M := m_63) rfl]
    refine if_lt0 ⟨by omega, by omega⟩ (fun hcc => absurd hcc (by omega)) (fun hcc => ?_)
    refine if_le ⟨by omega, by omega⟩ ⟨by omega, by omega⟩ (fun hcc => absurd hcc (by omega)) (fun hcc => ?_)
    refine ⟨inb_of (by omega) (by omega) (by omega), ?_⟩
    refine ru_at (b := k_63_39) (cl_mono _ _ _ _) rfl ?_; simp only [k_63_39, x_iload_0, x_iload_1, x_iload_2, x_iload_3, x_iload_4, x_iload_5, x_iload_6, x_iload_7, x_iload_8, x_iload_9, x_iload_10, x_iload_11, x_lload_0, x_lload_1, x_lload_2, x_lload_3, x_lload_4, x_lload_5, x_lload_6, x_lload_7, x_lload_8, x_lload_9, x_lload_10, x_lload_11, x_aload_0, x_aload_1, x_aload_2, x_aload_3, x_aload_4, x_aload_5, x_aload_6, x_aload_7, x_aload_8, x_aload_9, x_aload_10, x_aload_11, x_istore_0, x_istore_1, x_istore_2, x_istore_3, x_istore_4, x_istore_5, x_istore_6, x_istore_7, x_istore_8, x_istore_9, x_istore_10, x_istore_11, x_astore_0, x_astore_1, x_astore_2, x_astore_3, x_astore_4, x_astore_5, x_astore_6, x_astore_7, x_astore_8, x_astore_9, x_astore_10, x_astore_11, x_lstore_0, x_lstore_1, x_lstore_2, x_lstore_3, x_lstore_4, x_lstore_5, x_lstore_6, x_lstore_7, x_lstore_8, x_lstore_9, x_lstore_10, x_iinc_0, x_iinc_1, x_iinc_2, x_iinc_3, x_iinc_4, x_iinc_5, x_iinc_6, x_iinc_7, x_iinc_8, x_iinc_9, x_iinc_10, x_iinc_11, x_iconst, x_bipush, x_sipush, x_lconst, x_ldc_w, x_ldc2_w, x_iadd, x_isub, x_imul, x_iand, x_ior, x_ixor, x_ishl, x_ishr, x_iushr, x_ladd, x_lsub, x_lmul, x_ineg, x_lneg, x_lcmp, x_i2l, x_l2i, x_idiv, x_irem, x_ldiv, x_lrem, x_dup_int, x_pop_int, x_dup_ref, x_pop_ref, x_dup2, x_goto, x_nop, x_if_eq, x_if_ne, x_if_lt, x_if_ge, x_if_gt, x_if_le, x_icmp_eq, x_icmp_ne, x_icmp_lt, x_icmp_ge, x_icmp_gt, x_icmp_le, x_getfield, x_putfield, x_iaload, x_baload, x_laload, x_iastore, x_bastore, x_lastore, x_arraylength, x_virtual_0, x_virtual_1, x_virtual_2, x_virtual_3, x_virtual_4, x_virtual_5, x_static_0, x_static_1, x_static_2, x_static_3, x_static_4, x_static_5, x_static_6, x_min, x_max, x_abs, x_labs, x_tsw, oM_some, k_int, k_ref, k_long, k_null, vc_nil, vc_int, vc_ref, vc_long, tl_some, tl_none, x_ireturn (M := m_63) rfl]
    exact hQ _ _ ⟨pa, rfl, q4, ⟨gd, f, _, pa, se, wa, fw, q1, q2, q3, Or.inr ⟨rfl, q4⟩⟩, q5⟩
  have go : (∃ gr jd gd f pa se wa fw, scm w s n f gr jd gd (Int32.ofInt 0) pa se wa fw) → Ru pD pY E (cL d) m_63 Q 0 [.ref s, .int (Int32.ofInt k)] [] w := by
    rintro ⟨gr, jd, gd, f, pa, se, wa, fw, h1⟩
    refine ru_at (b := k_63_0) (cl_mono _ _ _ _) rfl ?_
    simp only [k_63_0, x_iload_0, x_iload_1, x_iload_2, x_iload_3, x_iload_4, x_iload_5, x_iload_6, x_iload_7, x_iload_8, x_iload_9, x_iload_10, x_iload_11, x_lload_0, x_lload_1, x_lload_2, x_lload_3, x_lload_4, x_lload_5, x_lload_6, x_lload_7, x_lload_8, x_lload_9, x_lload_10, x_lload_11, x_aload_0, x_aload_1, x_aload_2, x_aload_3, x_aload_4, x_aload_5, x_aload_6, x_aload_7, x_aload_8, x_aload_9, x_aload_10, x_aload_11, x_istore_0, x_istore_1, x_istore_2, x_istore_3, x_istore_4, x_istore_5, x_istore_6, x_istore_7, x_istore_8, x_istore_9, x_istore_10, x_istore_11, x_astore_0, x_astore_1, x_astore_2, x_astore_3, x_astore_4, x_astore_5, x_astore_6, x_astore_7, x_astore_8, x_astore_9, x_astore_10, x_astore_11, x_lstore_0, x_lstore_1, x_lstore_2, x_lstore_3, x_lstore_4, x_lstore_5, x_lstore_6, x_lstore_7, x_lstore_8, x_lstore_9, x_lstore_10, x_iinc_0, x_iinc_1, x_iinc_2, x_iinc_3, x_iinc_4, x_iinc_5, x_iinc_6, x_iinc_7, x_iinc_8, x_iinc_9, x_iinc_10, x_iinc_11, x_iconst, x_bipush, x_sipush, x_lconst, x_ldc_w, x_ldc2_w, x_iadd, x_isub, x_imul, x_iand, x_ior, x_ixor, x_ishl, x_ishr, x_iushr, x_ladd, x_lsub, x_lmul, x_ineg, x_lneg, x_lcmp, x_i2l, x_l2i, x_idiv, x_irem, x_ldiv, x_lrem, x_dup_int, x_pop_int, x_dup_ref, x_pop_ref, x_dup2, x_goto, x_nop, x_if_eq, x_if_ne, x_if_lt, x_if_ge, x_if_gt, x_if_le, x_icmp_eq, x_icmp_ne, x_icmp_lt, x_icmp_ge, x_icmp_gt, x_icmp_le, x_getfield, x_putfield, x_iaload, x_baload, x_laload, x_iastore, x_bastore, x_lastore, x_arraylength, x_virtual_0, x_virtual_1, x_virtual_2, x_virtual_3, x_virtual_4, x_virtual_5, x_static_0, x_static_1, x_static_2, x_static_3, x_static_4, x_static_5, x_static_6, x_min, x_max, x_abs, x_labs, x_tsw, oM_some, k_int, k_ref, k_long, k_null, vc_nil, vc_int, vc_ref, vc_long, tl_some, tl_none, h1.1, List.getElem?_cons_succ, List.getElem?_cons_zero, List.length_cons, List.length_nil, List.set_cons_zero, List.set_cons_succ, true_and, and_true, ia_10, ia_00, not_true, not_false_iff, if_true, if_false, x_ireturn (M := m_63) rfl]
    refine ⟨by decide, (c_explain h hR).go (by omega) (fun r w1 hr => ?_)⟩
    obtain ⟨rfl, e1, f, gd, xd, pa, se, wa, fw, q1, q2, q3, q4⟩ := hr
    simp only [x_iload_0, x_iload_1, x_iload_2, x_iload_3, x_iload_4, x_iload_5, x_iload_6, x_iload_7, x_iload_8, x_iload_9, x_iload_10, x_iload_11, x_lload_0, x_lload_1, x_lload_2, x_lload_3, x_lload_4, x_lload_5, x_lload_6, x_lload_7, x_lload_8, x_lload_9, x_lload_10, x_lload_11, x_aload_0, x_aload_1, x_aload_2, x_aload_3, x_aload_4, x_aload_5, x_aload_6, x_aload_7, x_aload_8, x_aload_9, x_aload_10, x_aload_11, x_istore_0, x_istore_1, x_istore_2, x_istore_3, x_istore_4, x_istore_5, x_istore_6, x_istore_7, x_istore_8, x_istore_9, x_istore_10, x_istore_11, x_astore_0, x_astore_1, x_astore_2, x_astore_3, x_astore_4, x_astore_5, x_astore_6, x_astore_7, x_astore_8, x_astore_9, x_astore_10, x_astore_11, x_lstore_0, x_lstore_1, x_lstore_2, x_lstore_3, x_lstore_4, x_lstore_5, x_lstore_6, x_lstore_7, x_lstore_8, x_lstore_9, x_lstore_10, x_iinc_0, x_iinc_1, x_iinc_2, x_iinc_3, x_iinc_4, x_iinc_5, x_iinc_6, x_iinc_7, x_iinc_8, x_iinc_9, x_iinc_10, x_iinc_11, x_iconst, x_bipush, x_sipush, x_lconst, x_ldc_w, x_ldc2_w, x_iadd, x_isub, x_imul, x_iand, x_ior, x_ixor, x_ishl, x_ishr, x_iushr, x_ladd, x_lsub, x_lmul, x_ineg, x_lneg, x_lcmp, x_i2l, x_l2i, x_idiv, x_irem, x_ldiv, x_lrem, x_dup_int, x_pop_int, x_dup_ref, x_pop_ref, x_dup2, x_goto, x_nop, x_if_eq, x_if_ne, x_if_lt, x_if_ge, x_if_gt, x_if_le, x_icmp_eq, x_icmp_ne, x_icmp_lt, x_icmp_ge, x_icmp_gt, x_icmp_le, x_getfield, x_putfield, x_iaload, x_baload, x_laload, x_iastore, x_bastore, x_lastore, x_arraylength, x_virtual_0, x_virtual_1, x_virtual_2, x_virtual_3, x_virtual_4, x_virtual_5, x_static_0, x_static_1, x_static_2, x_static_3, x_static_4, x_static_5, x_static_6, x_min, x_max, x_abs, x_labs, x_tsw, oM_some, k_int, k_ref, k_long, k_null, vc_nil, vc_int, vc_ref, vc_long, tl_some, tl_none, q1.1, List.getElem?_cons_succ, List.getElem?_cons_zero, List.length_cons, List.length_nil, List.set_cons_zero, List.set_cons_succ, true_and, and_true]
    refine ⟨⟨by decide, rfl⟩, ?_⟩
    exact fin _ f gd pa se wa fw q1.setO q2 q3 q4 (e1.tr (eqr.O _ (by omega) (by omega) _ _))
  rcases id h with ⟨f, gr, gd, pa, se, wa, fw, h1, h2⟩ | ⟨gd, f, xd, pa, se, wa, fw, h1, h2, h3, h4⟩
  · exact go ⟨_, _, _, _, _, _, _, _, h1⟩
  · rcases h4 with rfl | ⟨rfl, h4⟩
    · exact go ⟨_, _, _, _, _, _, _, _, h1⟩
    · refine ru_at (b := k_63_0) (cl_mono _ _ _ _) rfl ?_
      simp only [k_63_0, x_iload_0, x_iload_1, x_iload_2, x_iload_3, x_iload_4, x_iload_5, x_iload_6, x_iload_7, x_iload_8, x_iload_9, x_iload_10, x_iload_11, x_lload_0, x_lload_1, x_lload_2, x_lload_3, x_lload_4, x_lload_5, x_lload_6, x_lload_7, x_lload_8, x_lload_9, x_lload_10, x_lload_11, x_aload_0, x_aload_1, x_aload_2, x_aload_3, x_aload_4, x_aload_5, x_aload_6, x_aload_7, x_aload_8, x_aload_9, x_aload_10, x_aload_11, x_istore_0, x_istore_1, x_istore_2, x_istore_3, x_istore_4, x_istore_5, x_istore_6, x_istore_7, x_istore_8, x_istore_9, x_istore_10, x_istore_11, x_astore_0, x_astore_1, x_astore_2, x_astore_3, x_astore_4, x_astore_5, x_astore_6, x_astore_7, x_astore_8, x_astore_9, x_astore_10, x_astore_11, x_lstore_0, x_lstore_1, x_lstore_2, x_lstore_3, x_lstore_4, x_lstore_5, x_lstore_6, x_lstore_7, x_lstore_8, x_lstore_9, x_lstore_10, x_iinc_0, x_iinc_1, x_iinc_2, x_iinc_3, x_iinc_4, x_iinc_5, x_iinc_6, x_iinc_7, x_iinc_8, x_iinc_9, x_iinc_10, x_iinc_11, x_iconst, x_bipush, x_sipush, x_lconst, x_ldc_w, x_ldc2_w, x_iadd, x_isub, x_imul, x_iand, x_ior, x_ixor, x_ishl, x_ishr, x_iushr, x_ladd, x_lsub, x_lmul, x_ineg, x_lneg, x_lcmp, x_i2l, x_l2i, x_idiv, x_irem, x_ldiv, x_lrem, x_dup_int, x_pop_int, x_dup_ref, x_pop_ref, x_dup2, x_goto, x_nop, x_if_eq, x_if_ne, x_if_lt, x_if_ge, x_if_gt, x_if_le, x_icmp_eq, x_icmp_ne, x_icmp_lt, x_icmp_ge, x_icmp_gt, x_icmp_le, x_getfield, x_putfield, x_iaload, x_baload, x_laload, x_iastore, x_bastore, x_lastore, x_arraylength, x_virtual_0, x_virtual_1, x_virtual_2, x_virtual_3, x_virtual_4, x_virtual_5, x_static_0, x_static_1, x_static_2, x_static_3, x_static_4, x_static_5, x_static_6, x_min, x_max, x_abs, x_labs, x_tsw, oM_some, k_int, k_ref, k_long, k_null, vc_nil, vc_int, vc_ref, vc_long, tl_some, tl_none, h1.1, List.getElem?_cons_succ, List.getElem?_cons_zero, List.length_cons, List.length_nil, List.set_cons_zero, List.set_cons_succ, true_and, and_true, ia_10, ia_00, not_true, not_false_iff, if_true, if_false, x_ireturn (M := m_63) rfl]
      exact fin w f gd pa se wa fw h1 h2 h3 h4 (eqr.rf _ _ _)
