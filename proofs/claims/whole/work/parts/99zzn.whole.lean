/-! ===== the law, whole ===== -/
theorem d_0 : decode code 0 = .ok (.new 7, 3) := by decide +kernel
theorem d_3 : decode code 3 = .ok (.dup, 1) := by decide +kernel
theorem d_4 : decode code 4 = .ok (.invokespecial 9, 3) := by decide +kernel
theorem d_7 : decode code 7 = .ok (.astore_n 1, 1) := by decide +kernel
theorem d_8 : decode code 8 = .ok (.new 10, 3) := by decide +kernel
theorem d_11 : decode code 11 = .ok (.dup, 1) := by decide +kernel
theorem d_12 : decode code 12 = .ok (.invokespecial 12, 3) := by decide +kernel
theorem d_15 : decode code 15 = .ok (.astore_n 2, 1) := by decide +kernel
theorem d_16 : decode code 16 = .ok (.iconst 0, 1) := by decide +kernel
theorem d_17 : decode code 17 = .ok (.istore_n 3, 1) := by decide +kernel
theorem whole_start {p : Program} {e : Env} {s : State} {m : MethodId} {below : List Frame} {meth : Method} {c : Code} (l : Launch) (hflags : l.flags = flags0) {b L : Nat} {xs : Nat → Int32} (hL : L ≤ 2560) (C0 : lw_At p s m meth c b L xs) : W p l e room_1 s m #[Value.ref b] below meth c s.heap [] 0 0 (lw_Z below #[Value.ref b] s) (entryFrame m ([Value.ref b] : List Value).toArray 4) := by
  obtain ⟨hx, hb, hr, hml, hown, hts, hX, hbl, hlocks, hgv⟩ := C0
  obtain ⟨g, D, hK⟩ := k_all hts
  have C : lC p s m meth c b s.heap.size L xs g D := ⟨hx, hb, hr, hml, hown, fun w hw => hts w (List.mem_filter.mp hw).1, hX, hbl, hlocks, hK, rfl⟩
  have hl := lv_entry ([.ref b]) (n := 4) (Nat.le_of_ble_eq_true rfl)
  rw [lg_entry_eq]
  generalize (lg_sl ([.ref b]) ++ List.replicate (4 - (lg_sl ([.ref b])).length) Slot.unset).toArray = ls at hl ⊢
  have hl : lv_has ls 4 [(0, .ref b)] := hl
  have hH : a_H D s.heap.size g [] s.heap := fun k q h => by simp [a_W] at h
  suffices key : LT p l e s m below meth c b s.heap.size g D 0 [(0, .ref b)] [] [] from key ls s.heap [] hl hH va_S.rf
  clear hl hH
  refine lw_new C (ci := 10) (idx := 7) rfl (inGd_in (pl := 135) (by decide +kernel)) d_0 (by decide) (by decide) ?_
  intro ls H locs hl hH hS
  refine lv_dup hx hb d_3 rfl ?_
  refine lw_spec C (a := 0) (mi := 1) (idx := 9) (mc := 61) (ms := 2867) (dd := 6) (rest := [.ref (s.heap.size + 0)]) (by decide) c_newP (inGd_in (pl := 137) (by decide +kernel)) rfl rfl rfl (Nat.le_of_ble_eq_true rfl) (by decide) (by decide) d_4 (fun r w1 hw1 => ?_) ls H locs hl hH hS
  obtain ⟨rfl, fS, fT, f0, f1, f2, f3, f4, f5, fF, gq, hfS, hfT, hgq, rfl⟩ := hw1
  clear hl hH hS ls H locs
  intro ls H locs hl hH hS
  refine lv_astore_n (lv' := [(1, .ref s.heap.size), (0, .ref b)]) hx hb d_7 rfl hl (by decide) rfl (fun ls hl => ?_)
  have l62 : (wP fS fT f0 f1 f2 f3 f4 f5 fF gq).length = 62 := rfl
  have s62 : aW_s (wP fS fT f0 f1 f2 f3 f4 f5 fF gq) = 2880 := by simp [wP, aW_s, aC_n]
  refine lw_new C (ci := 11) (idx := 10) (lv := [(1, .ref s.heap.size), (0, .ref b)]) (w := wP fS fT f0 f1 f2 f3 f4 f5 fF gq) rfl (inGd_in (pl := 1002) (by decide +kernel)) d_8 (by rw [l62]; decide) (by rw [s62]; decide) ?_ ls H locs hl hH hS
  clear hl hH hS ls H locs
  intro ls H locs hl hH hS
  refine lv_dup hx hb d_11 rfl ?_
  have l63 : (wP fS fT f0 f1 f2 f3 f4 f5 fF gq ++ [(.inr (11, pD 11) : aC)]).length = 63 := rfl
  have s63 : aW_s (wP fS fT f0 f1 f2 f3 f4 f5 fF gq ++ [(.inr (11, pD 11) : aC)]) = 2916 := by rw [s_app, s62]; rfl
  refine lw_spec C (a := 62) (mi := 144) (idx := 12) (mc := 26) (ms := 2307) (dd := 2) (rest := [.ref (s.heap.size + 62)]) (by decide) (c_newR _ l62) (inGd_in (pl := 1004) (by decide +kernel)) rfl rfl rfl (Nat.le_of_ble_eq_true rfl) (by rw [l63]; decide) (by rw [s63]; decide) d_12 (fun r w1 hw1 => ?_) ls H locs hl hH hS
  obtain ⟨rfl, fA, hA0, hA, rfl⟩ := hw1
  clear hl hH hS ls H locs
  intro ls H locs hl hH hS
  refine lv_astore_n (lv' := [(2, .ref (s.heap.size + 62)), (1, .ref s.heap.size), (0, .ref b)]) hx hb d_15 rfl hl (by decide) rfl (fun ls hl => ?_)
  refine lv_iconst (v := Int32.ofInt 0) hx hb d_16 rfl ?_
  refine lv_istore_n (lv' := [(3, .int (Int32.ofInt 0)), (2, .ref (s.heap.size + 62)), (1, .ref s.heap.size), (0, .ref b)]) hx hb d_17 rfl hl (by decide) rfl (fun ls hl => ?_)
  have hI : Inv (wP fS fT f0 f1 f2 f3 f4 f5 fF gq ++ wR fA) s00 := ⟨w0_CI hfS hfT hgq, w0_RI hA0 hA⟩
  have s89 : aW_s (wP fS fT f0 f1 f2 f3 f4 f5 fF gq ++ wR fA) = 5223 := by rw [s_app, s62]; simp [wR, aW_s, aC_n]
  exact law_loop C hL (L + 1) 0 (Nat.zero_le _) (by omega) _ s00 hI rfl s89 ls H locs (lv_sub hl [3, 2, 1, 0] rfl) hH hS
