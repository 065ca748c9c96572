/-! ===== the law: from its entry ===== -/
theorem k_nest {s : State} {b : Nat} (hts : ∀ w ∈ lw_tbl, w.before #[Value.ref b] s = true) : ∀ q ∈ a_nest, va_Nw (.methodLinkNest q.1 q.2.1 q.2.2.1 q.2.2.2) s := by
  have one : ∀ {w : Cond} (i : Nat), lw_tbl[i]? = some w → w.onTables = true → va_Nw w s := fun i h ht => va_Nw.of ht (hts _ (List.mem_of_getElem? h))
  unfold a_nest
  refine List.forall_mem_cons.mpr ⟨one 145 (by decide +kernel) rfl, List.forall_mem_cons.mpr ⟨one 231 (by decide +kernel) rfl, List.forall_mem_cons.mpr ⟨one 241 (by decide +kernel) rfl, List.forall_mem_cons.mpr ⟨one 278 (by decide +kernel) rfl, List.forall_mem_cons.mpr ⟨one 307 (by decide +kernel) rfl, List.forall_mem_cons.mpr ⟨one 312 (by decide +kernel) rfl, List.forall_mem_cons.mpr ⟨one 334 (by decide +kernel) rfl, List.forall_mem_cons.mpr ⟨one 350 (by decide +kernel) rfl, List.forall_mem_cons.mpr ⟨one 373 (by decide +kernel) rfl, fun _ h => absurd h List.not_mem_nil⟩⟩⟩⟩⟩⟩⟩⟩⟩
theorem k_arr {s : State} {b : Nat} {ty : FieldType} (h : (Cond.arrayClass ty).before #[Value.ref b] s = true) : ∃ cA : ClassId, ArrOfT s cA ty ∧ s.vm.findClass ("[" ++ ty.toString) = some cA := by
  obtain ⟨cA, kA, comp, h1, h2, h3⟩ := Cond.arrayClass_spec h
  exact ⟨cA, fun n z => ⟨fun k h => (by cases h), kA, h2, comp, h3⟩, h1⟩
theorem k_all {s : State} {b : Nat} (hts : ∀ w ∈ lw_tbl, w.before #[Value.ref b] s = true) : ∃ (g : FieldType → ClassId) (D : va_G), a_K g D s := by
  have hgd : ∀ w ∈ lw_gd, w.before #[Value.ref b] s = true := fun w hw => hts w (List.mem_filter.mp hw).1
  have h1 : ∀ ci : Nat, ∃ q : ClassId × (Nat → Nat), ∀ C T N, pCl[ci]? = some (C, T, N) → u_Kn s C T N q.1 q.2 := by
    intro ci
    cases h : pCl[ci]? with
    | none => exact ⟨(0, fun _ => 0), fun C T N h => by cases h⟩
    | some q =>
      obtain ⟨C, T, N⟩ := q
      obtain ⟨g1, g2, g3, g4, g5, g6, g7⟩ := cl_all _ _ _ _ h
      obtain ⟨cC, iS, hk⟩ := u_known hgd g1 (hgd _ g6)
      exact ⟨(cC, iS), fun C' T' N' h' => by cases h'; exact hk⟩
  obtain ⟨f, hf⟩ := Classical.axiomOfChoice h1
  have at_ : ∀ {w : Cond} (i : Nat), lw_tbl[i]? = some w → w.before #[Value.ref b] s = true := fun i h => hts _ (List.mem_of_getElem? h)
  obtain ⟨cI, i1, i2⟩ := k_arr (at_ (w := .arrayClass .int) 174 (by decide +kernel))
  obtain ⟨cZ, z1, z2⟩ := k_arr (at_ (w := .arrayClass .boolean) 209 (by decide +kernel))
  obtain ⟨cJ, j1, j2⟩ := k_arr (at_ (w := .arrayClass .long) 304 (by decide +kernel))
  have hov := at_ (w := .arrayOver (.object "PairSorts$Table")) 219 (by decide +kernel)
  obtain ⟨comp, cT, kT, t1, t2, t3, t4, t5⟩ := Cond.arrayOver_spec hov
  refine ⟨fun ty => match ty with | .int => cI | .long => cJ | .boolean => cZ | _ => cT, (fun ci => (f ci).1, fun ci => (f ci).2), ⟨fun ci q h => hf ci q.1 q.2.1 q.2.2 h, fun k q h => ?_⟩, va_AO.of hov, k_nest hts⟩
  unfold a_tys a_ty at h
  match k, h with
  | 0, h => cases h; exact ⟨i1, i2⟩
  | 1, h => cases h; exact ⟨j1, j2⟩
  | 2, h => cases h; exact ⟨z1, z2⟩
  | 3, h => cases h; exact ⟨fun n z => ⟨fun k h => (by cases h), kT, t3, comp, t4⟩, kT, comp, t3, t4, t1, t5⟩
  | k + 4, h => cases h
section BEGIN_
variable {p : Program} {l : Launch} {e : Env} {s : State} {m : MethodId} {below : List Frame} {meth : Method} {c : Code} {b B L : Nat} {xs : Nat → Int32} {g : FieldType → ClassId} {D : va_G} {pc : Nat} {lv : List (Nat × Value)} {st rest : List Value} {w : aW}
theorem lw_new (C : lC p s m meth c b B L xs g D) {idx ci N : Nat} {Cn : String} {T : u_T} (h1 : pCl[ci]? = some (Cn, T, N)) (hcl : Cond.classLink "PairSortsLaw" idx Cn ∈ lw_gd) (hd : decode code pc = .ok (.new idx, 3)) (hw1 : w.length + 1 ≤ 600000) (hw2 : aW_s w + N ≤ 7302250) (kk : LT p l e s m below meth c b B g D (pc + 3) lv (.ref (B + w.length) :: st) (w ++ [.inr (ci, pD ci)])) : LT p l e s m below meth c b B g D pc lv st w := by
  obtain ⟨hx, hb, hr, hml, hown, hts, hX, hbl, hlocks, hKK, hB⟩ := C
  obtain ⟨g1, g2, g3, g4, g5, g6, g7⟩ := cl_all _ _ _ _ h1
  intro ls H locs hl hH hS
  refine a_sz (N0 := 0) (by rw [hB]; rfl) hH hS (by omega) (fun hsz => ?_)
  have hKn := hKK.1.1 ci _ h1
  refine W.newcK hx hb hown (hts _ hcl) (hts _ g6) (hts _ g7) rfl hd hw1 hw2 hKn.2.1 rfl (fun H1 kC hkC q1 q2 q3 => ?_)
  have hk : ∀ (k : Nat) (x : Nat × va_E), (a_W B g w)[k]? = some x → H1[x.1]? = H[x.1]? := fun k x hx1 => q3 x.1 ((hH k x hx1).lt)
  have hdm : (pD ci).map (a_v B) = pD ci := a_pD B ci
  have hP1 : a_H D B g (w ++ [.inr (ci, pD ci)]) H1 := by
    unfold a_H
    rw [a_W_push]
    refine (va_P.kept hH hk).app (fun k x hx1 => ?_)
    have hz : k < 1 := (List.getElem?_eq_some_iff.mp hx1).1
    rw [show k = 0 by omega] at hx1
    cases hx1
    refine ⟨(Cn, T, N), h1, ?_⟩
    show t_OB (B + w.length) _ _ _ _ (vp_V ((pD ci).map (a_v B)))
    rw [hdm, ← hsz]
    exact (u_born (pY ci) hts (fun q hq => g1 q hq) hKn hkC q1 g2).to g4
  have hS1 : va_S (fun q => B ≤ q) s.heap H1 locs := ⟨by have := hS.1; omega, fun x h1 h2 => (q3 x (Nat.lt_of_lt_of_le h1 hS.1)).trans (hS.2.1 x h1 h2), hS.2.2⟩
  have := kk ls H1 locs hl hP1 hS1
  rw [show (w ++ [(.inr (ci, pD ci) : aC)]).length = w.length + 1 by simp, a_s_push, show aC_n (.inr (ci, pD ci)) = (pD ci).length from rfl, g5] at this
  have h9 : (F0 m (pc + 3) ls (.ref H.size :: st)) = (F0 m (pc + 3) ls (.ref (B + w.length) :: st)) := by rw [hsz]
  exact W.eq h9 this
theorem lw_spec (C : lC p s m meth c b B L xs g D) {dd mi idx a mc ms : Nat} {Qp : Option Value → aW → Prop} (hdd : dd ≤ 40) (hC : Ct dd mi [.ref a] w Qp) (hlink : Cond.methodLink "PairSortsLaw" idx (pM mi).1 ∈ lw_gd) (hk : (pM mi).2.2.2.2.2.1.1 = 2) (h0 : (pM mi).2.2.2.2.1 = (mc, ms)) (hn : (pM mi).2.2.2.2.2.1.2.1 = 0) (hr8 : (rest.map fun v => v.category).sum ≤ 8) (hw1 : w.length + mc ≤ 600000) (hw2 : aW_s w + ms ≤ 7302250) (hd : decode code pc = .ok (.invokespecial idx, 3))
    (kk : ∀ r w', Qp r w' → LT p l e s m below meth c b B g D (pc + 3) lv ((r.map (a_v B)).toList ++ rest) w') : LT p l e s m below meth c b B g D pc lv (.ref (B + a) :: rest) w := by
  obtain ⟨hx, hb, hr, hml, hown, hts, hX, hbl, hlocks, hKK, hB⟩ := C
  have hs := okHd_spec (cd_all mi) (okHd_all mi)
  obtain ⟨⟨k1, k2, k3, k4, k5, k6⟩, -, -, -, hv⟩ := hs
  obtain ⟨hi2, hret⟩ := hv hk
  rw [hn] at k6
  have hM := pM_sound (l := l) (B := B) (g := g) (D := D) dd mi [.ref a] w Qp (hC dd (Nat.le_refl _) Qp (fun _ _ h => h))
  unfold a_Met at hM
  rw [h0] at hM
  have hws : aws (pM mi) = Cond.code (pM mi).1 (pM mi).2.1 (pM mi).2.2.1 none :: lw_gd := by unfold aws; rw [hret]
  intro ls H locs hl hH hS
  refine a_sz (N0 := 0) (by rw [hB]; rfl) hH hS (by omega) (fun hsz => ?_)
  refine a_call (va_runI (b := B + a) (As := []) (rest := rest) ⟨hx, hb, hml, hown, hts⟩ hM (cwI 0 hts (gd_goodI k2) hws (by show (pM mi).2.2.2.2.1.1 = mc; rw [h0]) (by show (pM mi).2.2.2.2.1.2 = ms; rw [h0]) (hts _ k3) (hts _ hlink) (hts _ hi2.1) hi2.2 ⟨k4, k5, k6⟩ ⟨by show dd + 1 ≤ 2048; omega, by show 8 + ((pM mi).2.2.1 + 11) + 40 * dd ≤ 84000; omega⟩) ⟨a_blind D B g _ w, fun U hU hW => ⟨rfl, by rw [hU]; exact hsz, by rw [hU]; exact hH, a_K.warm hKK hW⟩⟩ rfl rfl hl.1 rfl (lv_room hr8) hd ⟨hw1, hw2⟩) hS (fun r w' H1 locs1 hq hP1 hn1 hs1 hS1 => ?_)
  have := kk r w' hq ls H1 locs1 hl hP1 hS1
  rw [hn1, hs1] at this
  exact this
end BEGIN_
