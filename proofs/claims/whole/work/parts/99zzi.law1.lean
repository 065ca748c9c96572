/-! ===== the law: its calls ===== -/
def lC (p : Program) (s : State) (m : MethodId) (meth : Method) (c : Code) (b B L : Nat) (xs : Nat → Int32) (g : FieldType → ClassId) (D : va_G) : Prop :=
  p.tables.exec = Jvm.exec ∧ c.code = code ∧ meth.sig.returnType = ret ∧ c.maxLocals = 4 ∧ s.vm.findClass "PairSortsLaw" = some m.cls ∧ (∀ w ∈ lw_gd, w.before #[Value.ref b] s = true) ∧ va_X b L xs s s.heap ∧ b < s.heap.size ∧ meth.locks = false ∧ a_K g D s ∧ s.heap.size = B
def LT (p : Program) (l : Launch) (e : Env) (s : State) (m : MethodId) (below : List Frame) (meth : Method) (c : Code) (b B : Nat) (g : FieldType → ClassId) (D : va_G) (pc : Nat) (lv : List (Nat × Value)) (st : List Value) (w : aW) : Prop :=
  ∀ (ls : Array Slot) (H : Heap) (locs : List Loc), lv_has ls 4 lv → a_H D B g w H → va_S (fun q => B ≤ q) s.heap H locs → W p l e room_1 s m #[Value.ref b] below meth c H locs w.length (aW_s w) (lw_Z below #[Value.ref b] s) (F0 m pc ls st)
section LAW
variable {p : Program} {l : Launch} {e : Env} {s : State} {m : MethodId} {below : List Frame} {meth : Method} {c : Code} {b B L : Nat} {xs : Nat → Int32} {g : FieldType → ClassId} {D : va_G} {pc : Nat} {lv : List (Nat × Value)} {st rest : List Value} {w : aW}
theorem gd_goodV {M' : aM} {idx : Nat} {own : String} (h : Cond.code M'.1 M'.2.1 M'.2.2.1 M'.2.2.2.1 ∈ lw_gd) (h1 : Cond.methodLink own idx M'.1 ∈ lw_gd) (h2 : Cond.instanceMethod M'.1 ∈ lw_gd) (h3 : Cond.selects M'.1.cls M'.1 M'.1 ∈ lw_gd) (h4 : Cond.initialized M'.1.cls ∈ lw_gd) : GoodIn lw_gd (wsV own idx M'.1.cls M'.1 (aws M')) := by
  intro x hx
  unfold wsV at hx
  rcases List.mem_append.mp hx with hx | hx
  · have hx : x ∈ lw_gd := by
      simp only [List.mem_cons, List.not_mem_nil, or_false] at hx
      rcases hx with rfl | rfl | rfl | rfl <;> assumption
    exact ⟨hx, gd_good hx⟩
  · rcases List.mem_cons.mp hx with h1 | h1
    · subst h1; exact ⟨h, gd_good h⟩
    · exact ⟨h1, gd_good h1⟩
theorem gd_goodI {M' : aM} (h : Cond.code M'.1 M'.2.1 M'.2.2.1 M'.2.2.2.1 ∈ lw_gd) : GoodIn lw_gd (aws M') := by
  intro x hx
  rcases List.mem_cons.mp hx with h1 | h1
  · subst h1; exact ⟨h, gd_good h⟩
  · exact ⟨h1, gd_good h1⟩
theorem gO_get {w : aW} {a : Nat} {q : Nat × List Value} (h : gO w a = some q) : w[a]? = some (.inr q) := by
  unfold gO at h
  split at h
  · rename_i q' hq; cases h; exact hq
  · cases h
theorem lw_virt (C : lC p s m meth c b B L xs g D) {dd mi idx a c1 : Nat} {as fs : List Value} {Qp : Option Value → aW → Prop} (hdd : dd ≤ 40) (hC : Ct dd mi (.ref a :: as) w Qp) (hlink : Cond.methodLink "PairSortsLaw" idx (pM mi).1 ∈ lw_gd) (hk : (pM mi).2.2.2.2.2.1.1 = 1) (h0 : (pM mi).2.2.2.2.1 = (0, 0)) (hn : (pM mi).2.2.2.2.2.1.2.1 = as.length) (hc1 : (pM mi).2.2.2.2.2.1.2.2.1 = c1) (hw : gO w a = some (c1, fs)) (has : as.map (a_v B) = as) (hr8 : (rest.map fun v => v.category).sum ≤ 8) (hw1 : w.length ≤ 600000) (hw2 : aW_s w ≤ 7302250) (hd : decode code pc = .ok (.invokevirtual idx, 3))
    (kk : ∀ r w', Qp r w' → w'.length = w.length → aW_s w' = aW_s w → LT p l e s m below meth c b B g D (pc + 3) lv ((r.map (a_v B)).toList ++ rest) w') : LT p l e s m below meth c b B g D pc lv (as.reverse ++ .ref (B + a) :: rest) w := by
  obtain ⟨hx, hb, hr, hml, hown, hts, hX, hbl, hlocks, hKK, hB⟩ := C
  have hs := okHd_spec (cd_all mi) (okHd_all mi)
  obtain ⟨⟨k1, k2, k3, k4, k5, k6⟩, -, -, hv, -⟩ := hs
  obtain ⟨hi2, T, N, hc0⟩ := hv hk
  rw [hc1] at hc0
  rw [hn] at k6
  have hM := pM_sound (l := l) (B := B) (g := g) (D := D) dd mi (.ref a :: as) w Qp (hC dd (Nat.le_refl _) Qp (fun _ _ h => h))
  unfold a_Met at hM
  rw [h0] at hM
  intro ls H locs hl hH hS
  refine a_sz (N0 := 0) (by rw [hB]; rfl) hH hS (by omega) (fun hsz => ?_)
  refine a_call (va_runV (C := (pM mi).1.cls) (b := B + a) (As := as) (rest := rest) ⟨hx, hb, hml, hown, hts⟩ hM (cwV as.length hts (gd_goodV k2 hlink hi2.1 hi2.2 k3) rfl (by show (pM mi).2.2.2.2.1.1 = 0; rw [h0]) (by show (pM mi).2.2.2.2.1.2 = 0; rw [h0]) ⟨rfl, k4, k5, k6⟩ ⟨by show dd + 1 ≤ 2048; omega, by show 8 + ((pM mi).2.2.1 + 11) + 40 * dd ≤ 84000; omega⟩) ⟨a_blind D B g _ w, va_recv hKK.1 hH hc0 (a_W_at (gO_get hw)), fun U hU hW => ⟨by rw [List.map_cons, has]; rfl, by rw [hU]; exact hsz, by rw [hU]; exact hH, a_K.warm hKK hW⟩⟩ rfl rfl hl.1 rfl (lv_room hr8) hd ⟨hw1, hw2⟩) hS (fun r w' H1 locs1 hq hP1 hn1 hs1 hS1 => ?_)
  have e1 : w'.length = w.length := hn1
  have e2 : aW_s w' = aW_s w := hs1
  have := kk r w' hq e1 e2 ls H1 locs1 hl hP1 hS1
  rw [e1, e2] at this
  exact this
end LAW
