/-! ===== the law: both sides stay as the state says; a case of the switch ===== -/
theorem CJ.keepR {w w' : aW} {n : Nat} {R : Nat → Nat → Nat} {n0 : Nat} {R0 : Nat → Nat → Nat} {ts : List (Nat × (Nat → Nat → Nat))} {e : Nat → Int32} {T : List Nat} (h : CJ w n R n0 R0 ts e T) (q : eqr 62 88 w w') : CJ w' n R n0 R0 ts e T := by
  obtain ⟨hR, hA, hB, hC, hD, hE, hF, hG, hH, hI, hJ, hK, hL, hM⟩ := h
  exact ⟨hR, hA.keep q (by omega), hB.keep q (by omega), hC.keep q (by omega), hD.keep q (by omega), hE.keep q (by omega), hF.keep q (by omega), hG.keep q (by omega), hH.keep q (by omega), hI.keep q (by omega), hJ.keep q (by omega), hK.keep q (by omega), hL.keep q (by omega), hM.keep q (by omega)⟩
theorem RI.keepC {w w' : aW} {σ : St} (h : RI w w σ) (q : eqr 0 61 w w') : RI w' w' σ := by
  obtain ⟨s, l, A, B, ⟨hO, hi, hl, -⟩, hk⟩ := h
  refine ⟨s, l, A, B, ⟨⟨by rw [q.o (by omega)]; exact hO.1, by rw [q.1]; exact hO.2⟩, fun a n e => ?_, fun a n e => ?_, eqr.rf _ _ _⟩, hk⟩
  · rw [q.i (by have := rI_rg e; omega)]; exact hi a n e
  · rw [q.l (by have := rL_rg e; omega)]; exact hl a n e
def Inv (w : aW) (σ : St) : Prop := CI w w σ ∧ RI w w σ
theorem CI.base {v w : aW} {σ : St} (h : CI v w σ) : CI w w σ := ⟨eqr.rf _ _ _, h.2⟩
theorem RI.base {v w : aW} {σ : St} (h : RI v w σ) : RI w w σ := by
  obtain ⟨s, l, A, B, h, hk⟩ := h
  exact ⟨s, l, A, B, h.base, hk⟩
theorem RI.eqr {v w : aW} {σ : St} (h : RI v w σ) : eqr 62 88 v w := by
  obtain ⟨s, l, A, B, h, hk⟩ := h
  exact h.e
section LAW2
variable {p : Program} {l : Launch} {e : Env} {s : State} {m : MethodId} {below : List Frame} {meth : Method} {c : Code} {b B L : Nat} {xs : Nat → Int32} {g : FieldType → ClassId} {D : va_G} {pc : Nat} {lv : List (Nat × Value)} {st rest : List Value} {w : aW}
def lvs (b B i : Nat) : List (Nat × Value) := [(0, .ref b), (1, .ref B), (2, .ref (B + 62)), (3, .int (Int32.ofInt (i : Int)))]
def dArg (pc k : Nat) : Prop := decode code pc = .ok (.aload_n 0, 1) ∧ decode code (pc + 1) = .ok (.iload_n 3, 1) ∧ decode code (pc + 2) = .ok (.iconst (k : Int), 1) ∧ decode code (pc + 3) = .ok (.iadd, 1) ∧ decode code (pc + 4) = .ok (.iaload, 1)
theorem lw_arg (C : lC p s m meth c b B L xs g D) (hL : L ≤ 2560) {i k : Nat} (hik : i + k < L) (hd : dArg pc k) (kk : LT p l e s m below meth c b B g D (pc + 5) (lvs b B i) (.int (xs (i + k)) :: st) w) : LT p l e s m below meth c b B g D pc (lvs b B i) st w := by
  obtain ⟨hx, hb, hr, hml, hown, hts, hX, hbl, hlocks, hKK, hB⟩ := C
  obtain ⟨d0, d1, d2, d3, d4⟩ := hd
  intro ls H locs hl hH hS
  have hin : vp_in (Int32.ofInt (i : Int) + Int32.ofInt (k : Int)) L := by
    rw [ia_add]; exact inb_of (by omega) (by omega) (by omega)
  have hbA : ¬ (fun q : Nat => B ≤ q) b := by rw [← hB]; exact Nat.not_le.mpr hbl
  refine lv_aload_n hx hb d0 rfl (lv_at hl 0 rfl) ?_
  refine lv_iload_n hx hb d1 rfl (lv_at hl 3 rfl) ?_
  refine lv_iconst (v := Int32.ofInt (k : Int)) hx hb d2 rfl ?_
  refine lv_iadd hx hb d3 ?_
  refine va_sld hx hb hX hbl hbA hS hin d4 ?_
  have e1 : (Int32.ofInt (i : Int) + Int32.ofInt (k : Int)).toNatClampNeg = i + k := by rw [ia_add]; exact tn_of (by omega) (by omega)
  rw [e1]
  exact kk ls H locs hl hH hS
def asR (xs : Nat → Int32) (i : Nat) : Nat → List Value
  | 0 => []
  | n + 1 => .int (xs (i + (n + 1))) :: asR xs i n
theorem lw_args (C : lC p s m meth c b B L xs g D) (hL : L ≤ 2560) {i : Nat} : ∀ (n : Nat), i + n < L → (∀ j, j < n → dArg (pc + 5 * j) (j + 1)) → LT p l e s m below meth c b B g D (pc + 5 * n) (lvs b B i) (asR xs i n ++ st) w → LT p l e s m below meth c b B g D pc (lvs b B i) st w := by
  intro n
  induction n with
  | zero => intro _ _ h; exact h
  | succ n ih =>
    intro hn hd h
    refine ih (by omega) (fun j hj => hd j (by omega)) (lw_arg C hL (k := n + 1) (by omega) (hd n (by omega)) ?_)
    exact h
theorem asR_v (xs : Nat → Int32) (i B : Nat) : ∀ n, ((asR xs i n).reverse).map (a_v B) = (asR xs i n).reverse := by
  intro n
  rw [List.map_reverse]
  congr 1
  induction n with
  | zero => rfl
  | succ n ih => show a_v B (.int _) :: (asR xs i n).map (a_v B) = _; rw [ih]; rfl
theorem asR_l (xs : Nat → Int32) (i : Nat) : ∀ n, (asR xs i n).length = n := by
  intro n
  induction n with
  | zero => rfl
  | succ n ih => show (asR xs i n).length + 1 = n + 1; rw [ih]
/-- what the code is at a case -/
def dCs (pc n idx1 idx2 : Nat) : Prop := decode code pc = .ok (.aload_n 1, 1) ∧ (∀ j, j < n → dArg (pc + 1 + 5 * j) (j + 1)) ∧ decode code (pc + 1 + 5 * n) = .ok (.invokevirtual idx1, 3) ∧ decode code (pc + 1 + 5 * n + 3) = .ok (.aload_n 2, 1) ∧ (∀ j, j < n → dArg (pc + 1 + 5 * n + 3 + 1 + 5 * j) (j + 1)) ∧ decode code (pc + 1 + 5 * n + 3 + 1 + 5 * n) = .ok (.invokevirtual idx2, 3)
/-- a method that the law calls -/
def okM (mi idx n c1 : Nat) : Prop := Cond.methodLink "PairSortsLaw" idx (pM mi).1 ∈ lw_gd ∧ (pM mi).2.2.2.2.2.1.1 = 1 ∧ (pM mi).2.2.2.2.1 = (0, 0) ∧ (pM mi).2.2.2.2.2.1.2.1 = n ∧ (pM mi).2.2.2.2.2.1.2.2.1 = c1
theorem lw_case (C : lC p s m meth c b B L xs g D) (hL : L ≤ 2560) {i n idx1 idx2 mi1 mi2 dd1 dd2 : Nat} {σ σ' : St} {val : Value} (hval : a_v B val = val) (hd : dCs pc n idx1 idx2) (hin : i + n < L) (o1 : okM mi1 idx1 n 10) (o2 : okM mi2 idx2 n 11) (hd1 : dd1 ≤ 40) (hd2 : dd2 ≤ 40) (hw1 : w.length = 89) (hw2 : aW_s w ≤ 7302250) (hI : Inv w σ) (h1 : Ct dd1 mi1 (.ref 0 :: (asR xs i n).reverse) w (fun r w' => r = some val ∧ CI w w' σ')) (h2 : ∀ w', RI w' w' σ → Ct dd2 mi2 (.ref 62 :: (asR xs i n).reverse) w' (fun r w'' => r = some val ∧ RI w' w'' σ'))
    (kk : ∀ w'', Inv w'' σ' → w''.length = 89 → aW_s w'' = aW_s w → LT p l e s m below meth c b B g D (pc + 1 + 5 * n + 3 + 1 + 5 * n + 3) (lvs b B i) [val, val] w'') : LT p l e s m below meth c b B g D pc (lvs b B i) [] w := by
  obtain ⟨d1, d2, d3, d4, d5, d6⟩ := hd
  obtain ⟨p1, p2, p3, p4, p5⟩ := o1
  obtain ⟨q1, q2, q3, q4, q5⟩ := o2
  have hx := C.1
  have hb := C.2.1
  have c8 : ∀ v : Value, (([v] : List Value).map fun v => v.category).sum ≤ 8 := fun v => by cases v <;> exact Nat.le_of_ble_eq_true rfl
  intro ls H locs hl hH hS
  refine lv_aload_n hx hb d1 rfl (lv_at hl 1 rfl) ?_
  refine lw_args C hL n hin d2 ?_ ls H locs hl hH hS
  have key1 := lw_virt (l := l) (e := e) (below := below) (pc := pc + 1 + 5 * n) (lv := lvs b B i) (rest := []) C hd1 h1 p1 p2 p3 (by rw [p4, List.length_reverse, asR_l]) p5 hI.1.2.o (asR_v xs i B n) (by decide) (by omega) hw2 d3 (fun r w' hr hl1 hs1 => ?_)
  · rw [List.reverse_reverse] at key1
    exact key1
  obtain ⟨rfl, hC1⟩ := hr
  have hR1 := hI.2.keepC hC1.1
  obtain ⟨s1, l1, A1, B1, hX1, hk1⟩ := id hR1
  show LT p l e s m below meth c b B g D (pc + 1 + 5 * n + 3) (lvs b B i) [a_v B val] w'
  rw [hval]
  intro ls H locs hl hH hS
  refine lv_aload_n hx hb d4 rfl (lv_at hl 2 rfl) ?_
  refine lw_args C hL n hin d5 ?_ ls H locs hl hH hS
  have key2 := lw_virt (l := l) (e := e) (below := below) (pc := pc + 1 + 5 * n + 3 + 1 + 5 * n) (lv := lvs b B i) (rest := [val]) C hd2 (h2 w' hR1) q1 q2 q3 (by rw [q4, List.length_reverse, asR_l]) q5 hX1.o (asR_v xs i B n) (c8 val) (by omega) (by omega) d6 (fun r w'' hr hl2 hs2 => ?_)
  · rw [List.reverse_reverse] at key2
    exact key2
  obtain ⟨rfl, hR2⟩ := hr
  show LT p l e s m below meth c b B g D (pc + 1 + 5 * n + 3 + 1 + 5 * n + 3) (lvs b B i) [a_v B val, val] w''
  rw [hval]
  exact kk w'' ⟨⟨eqr.rf _ _ _, hC1.2.keepR hR2.eqr⟩, hR2.base⟩ (by omega) (by omega)
end LAW2
