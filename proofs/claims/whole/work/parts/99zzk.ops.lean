/-! ===== the law: its cases (written by gen_law.py) ===== -/
def dArgB (pc k : Nat) : Bool := decide (decode code pc = .ok (.aload_n 0, 1)) && (decide (decode code (pc + 1) = .ok (.iload_n 3, 1)) && (decide (decode code (pc + 2) = .ok (.iconst (k : Int), 1)) && (decide (decode code (pc + 3) = .ok (.iadd, 1)) && decide (decode code (pc + 4) = .ok (.iaload, 1)))))
theorem dArgB_is {pc k : Nat} (h : dArgB pc k = true) : dArg pc k := by
  simp only [dArgB, Bool.and_eq_true, decide_eq_true_eq] at h
  exact h
def dCsB (pc n idx1 idx2 : Nat) : Bool := decide (decode code pc = .ok (.aload_n 1, 1)) && ((List.range n).all (fun j => dArgB (pc + 1 + 5 * j) (j + 1)) && (decide (decode code (pc + 1 + 5 * n) = .ok (.invokevirtual idx1, 3)) && (decide (decode code (pc + 1 + 5 * n + 3) = .ok (.aload_n 2, 1)) && ((List.range n).all (fun j => dArgB (pc + 1 + 5 * n + 3 + 1 + 5 * j) (j + 1)) && decide (decode code (pc + 1 + 5 * n + 3 + 1 + 5 * n) = .ok (.invokevirtual idx2, 3))))))
theorem dCsB_is {pc n idx1 idx2 : Nat} (h : dCsB pc n idx1 idx2 = true) : dCs pc n idx1 idx2 := by
  simp only [dCsB, Bool.and_eq_true, decide_eq_true_eq, List.all_eq_true, List.mem_range] at h
  exact ⟨h.1, fun j hj => dArgB_is (h.2.1 j hj), h.2.2.1, h.2.2.2.1, fun j hj => dArgB_is (h.2.2.2.2.1 j hj), h.2.2.2.2.2⟩
theorem cmp_self (x : Int64) : lg_cmp x x = 0 := by
  have h := lc_eq x x
  rw [h]
section OPS
variable {p : Program} {l : Launch} {e : Env} {s : State} {m : MethodId} {below : List Frame} {meth : Method} {c : Code} {b B L : Nat} {xs : Nat → Int32} {g : FieldType → ClassId} {D : va_G} {w : aW} {σ : St}
set_option maxRecDepth 20000 in
theorem dC_0 : dCsB 164 1 13 17 = true := by decide +kernel
set_option maxRecDepth 20000 in
theorem ok1_0 : okM 14 13 1 10 := ⟨inGd_in (pl := 447) (by decide +kernel), rfl, rfl, rfl, rfl⟩
set_option maxRecDepth 20000 in
theorem ok2_0 : okM 146 17 1 11 := ⟨inGd_in (pl := 1121) (by decide +kernel), rfl, rfl, rfl, rfl⟩
theorem de_0 : decode code 182 = .ok (.if_icmp .eq 854, 3) := by decide +kernel
theorem op_0 (C : lC p s m meth c b B L xs g D) (hL : L ≤ 2560) {i : Nat} (hi : i + 5 ≤ L) (hw1 : w.length = 89) (hw2 : aW_s w ≤ 7302250) (hI : Inv w σ) (kk : ∀ w2 σ2, Inv w2 σ2 → w2.length = 89 → aW_s w2 = aW_s w → LT p l e s m below meth c b B g D 1036 (lvs b B i) [] w2) : LT p l e s m below meth c b B g D 164 (lvs b B i) [] w := by
  have h1 := cq_points hI.1 (ia_rg (xs (i + 1)))
  have h2 : ∀ w', RI w' w' σ → _ := fun w' hR => (match hR with | ⟨s0, l0, A0, B0, hX, hk⟩ => rp_points hX hk (ia_rg (xs (i + 1))))
  simp only [ia_of] at h1 h2
  refine lw_case C hL (n := 1) rfl (dCsB_is dC_0) (by omega) ok1_0 ok2_0 (by decide) (by decide) hw1 hw2 hI h1 h2 (fun w2 hI2 hl2 hs2 => ?_)
  have hx := C.1
  have hb := C.2.1
  intro ls H locs hl hH hS
  refine lv_icmp_eq (tgt := 1036) hx hb de_0 (by decide) (fun _ => kk w2 _ hI2 hl2 hs2 ls H locs hl hH hS) (fun q => absurd rfl q)
set_option maxRecDepth 20000 in
theorem dC_1 : dCsB 187 3 18 22 = true := by decide +kernel
set_option maxRecDepth 20000 in
theorem ok1_1 : okM 56 18 3 10 := ⟨inGd_in (pl := 635) (by decide +kernel), rfl, rfl, rfl, rfl⟩
set_option maxRecDepth 20000 in
theorem ok2_1 : okM 152 22 3 11 := ⟨inGd_in (pl := 1145) (by decide +kernel), rfl, rfl, rfl, rfl⟩
theorem de_1 : decode code 225 = .ok (.if_icmp .eq 811, 3) := by decide +kernel
theorem op_1 (C : lC p s m meth c b B L xs g D) (hL : L ≤ 2560) {i : Nat} (hi : i + 5 ≤ L) (hw1 : w.length = 89) (hw2 : aW_s w ≤ 7302250) (hI : Inv w σ) (kk : ∀ w2 σ2, Inv w2 σ2 → w2.length = 89 → aW_s w2 = aW_s w → LT p l e s m below meth c b B g D 1036 (lvs b B i) [] w2) : LT p l e s m below meth c b B g D 187 (lvs b B i) [] w := by
  have h1 := cq_pair hI.1 (ia_rg (xs (i + 1))) (ia_rg (xs (i + 2))) (ia_rg (xs (i + 3)))
  have h2 : ∀ w', RI w' w' σ → _ := fun w' hR => (match hR with | ⟨s0, l0, A0, B0, hX, hk⟩ => rp_pair hX hk (ia_rg (xs (i + 1))) (ia_rg (xs (i + 2))) (ia_rg (xs (i + 3))))
  simp only [ia_of] at h1 h2
  refine lw_case C hL (n := 3) rfl (dCsB_is dC_1) (by omega) ok1_1 ok2_1 (by decide) (by decide) hw1 hw2 hI h1 h2 (fun w2 hI2 hl2 hs2 => ?_)
  have hx := C.1
  have hb := C.2.1
  intro ls H locs hl hH hS
  refine lv_icmp_eq (tgt := 1036) hx hb de_1 (by decide) (fun _ => kk w2 _ hI2 hl2 hs2 ls H locs hl hH hS) (fun q => absurd rfl q)
set_option maxRecDepth 20000 in
theorem dC_2 : dCsB 230 3 23 26 = true := by decide +kernel
set_option maxRecDepth 20000 in
theorem ok1_2 : okM 57 23 3 10 := ⟨inGd_in (pl := 639) (by decide +kernel), rfl, rfl, rfl, rfl⟩
set_option maxRecDepth 20000 in
theorem ok2_2 : okM 157 26 3 11 := ⟨inGd_in (pl := 1166) (by decide +kernel), rfl, rfl, rfl, rfl⟩
theorem de_2 : decode code 268 = .ok (.if_icmp .eq 768, 3) := by decide +kernel
theorem op_2 (C : lC p s m meth c b B L xs g D) (hL : L ≤ 2560) {i : Nat} (hi : i + 5 ≤ L) (hw1 : w.length = 89) (hw2 : aW_s w ≤ 7302250) (hI : Inv w σ) (kk : ∀ w2 σ2, Inv w2 σ2 → w2.length = 89 → aW_s w2 = aW_s w → LT p l e s m below meth c b B g D 1036 (lvs b B i) [] w2) : LT p l e s m below meth c b B g D 230 (lvs b B i) [] w := by
  have h1 := cq_makes hI.1 (ia_rg (xs (i + 1))) (ia_rg (xs (i + 2))) (ia_rg (xs (i + 3)))
  have h2 : ∀ w', RI w' w' σ → _ := fun w' hR => (match hR with | ⟨s0, l0, A0, B0, hX, hk⟩ => rp_makes hX hk (ia_rg (xs (i + 1))) (ia_rg (xs (i + 2))) (ia_rg (xs (i + 3))))
  simp only [ia_of] at h1 h2
  refine lw_case C hL (n := 3) rfl (dCsB_is dC_2) (by omega) ok1_2 ok2_2 (by decide) (by decide) hw1 hw2 hI h1 h2 (fun w2 hI2 hl2 hs2 => ?_)
  have hx := C.1
  have hb := C.2.1
  intro ls H locs hl hH hS
  refine lv_icmp_eq (tgt := 1036) hx hb de_2 (by decide) (fun _ => kk w2 _ hI2 hl2 hs2 ls H locs hl hH hS) (fun q => absurd rfl q)
set_option maxRecDepth 20000 in
theorem dC_3 : dCsB 273 2 27 31 = true := by decide +kernel
set_option maxRecDepth 20000 in
theorem ok1_3 : okM 58 27 2 10 := ⟨inGd_in (pl := 643) (by decide +kernel), rfl, rfl, rfl, rfl⟩
set_option maxRecDepth 20000 in
theorem ok2_3 : okM 170 31 2 11 := ⟨inGd_in (pl := 1214) (by decide +kernel), rfl, rfl, rfl, rfl⟩
theorem de_3 : decode code 301 = .ok (.if_icmp .eq 735, 3) := by decide +kernel
theorem op_3 (C : lC p s m meth c b B L xs g D) (hL : L ≤ 2560) {i : Nat} (hi : i + 5 ≤ L) (hw1 : w.length = 89) (hw2 : aW_s w ≤ 7302250) (hI : Inv w σ) (kk : ∀ w2 σ2, Inv w2 σ2 → w2.length = 89 → aW_s w2 = aW_s w → LT p l e s m below meth c b B g D 1036 (lvs b B i) [] w2) : LT p l e s m below meth c b B g D 273 (lvs b B i) [] w := by
  have h1 := cq_renames hI.1 (ia_rg (xs (i + 1))) (ia_rg (xs (i + 2)))
  have h2 : ∀ w', RI w' w' σ → _ := fun w' hR => (match hR with | ⟨s0, l0, A0, B0, hX, hk⟩ => rp_renames hX hk (ia_rg (xs (i + 1))) (ia_rg (xs (i + 2))))
  simp only [ia_of] at h1 h2
  refine lw_case C hL (n := 2) rfl (dCsB_is dC_3) (by omega) ok1_3 ok2_3 (by decide) (by decide) hw1 hw2 hI h1 h2 (fun w2 hI2 hl2 hs2 => ?_)
  have hx := C.1
  have hb := C.2.1
  intro ls H locs hl hH hS
  refine lv_icmp_eq (tgt := 1036) hx hb de_3 (by decide) (fun _ => kk w2 _ hI2 hl2 hs2 ls H locs hl hH hS) (fun q => absurd rfl q)
set_option maxRecDepth 20000 in
theorem dC_4 : dCsB 306 1 32 35 = true := by decide +kernel
set_option maxRecDepth 20000 in
theorem ok1_4 : okM 59 32 1 10 := ⟨inGd_in (pl := 647) (by decide +kernel), rfl, rfl, rfl, rfl⟩
set_option maxRecDepth 20000 in
theorem ok2_4 : okM 173 35 1 11 := ⟨inGd_in (pl := 1226) (by decide +kernel), rfl, rfl, rfl, rfl⟩
theorem de_4 : decode code 324 = .ok (.if_icmp .eq 712, 3) := by decide +kernel
theorem op_4 (C : lC p s m meth c b B L xs g D) (hL : L ≤ 2560) {i : Nat} (hi : i + 5 ≤ L) (hw1 : w.length = 89) (hw2 : aW_s w ≤ 7302250) (hI : Inv w σ) (kk : ∀ w2 σ2, Inv w2 σ2 → w2.length = 89 → aW_s w2 = aW_s w → LT p l e s m below meth c b B g D 1036 (lvs b B i) [] w2) : LT p l e s m below meth c b B g D 306 (lvs b B i) [] w := by
  have h1 := cq_drops hI.1 (ia_rg (xs (i + 1)))
  have h2 : ∀ w', RI w' w' σ → _ := fun w' hR => (match hR with | ⟨s0, l0, A0, B0, hX, hk⟩ => rp_drops hX hk (ia_rg (xs (i + 1))))
  simp only [ia_of] at h1 h2
  refine lw_case C hL (n := 1) rfl (dCsB_is dC_4) (by omega) ok1_4 ok2_4 (by decide) (by decide) hw1 hw2 hI h1 h2 (fun w2 hI2 hl2 hs2 => ?_)
  have hx := C.1
  have hb := C.2.1
  intro ls H locs hl hH hS
  refine lv_icmp_eq (tgt := 1036) hx hb de_4 (by decide) (fun _ => kk w2 _ hI2 hl2 hs2 ls H locs hl hH hS) (fun q => absurd rfl q)
set_option maxRecDepth 20000 in
theorem dC_5 : dCsB 329 1 36 39 = true := by decide +kernel
set_option maxRecDepth 20000 in
theorem ok1_5 : okM 60 36 1 10 := ⟨inGd_in (pl := 651) (by decide +kernel), rfl, rfl, rfl, rfl⟩
set_option maxRecDepth 20000 in
theorem ok2_5 : okM 219 39 1 11 := ⟨inGd_in (pl := 1409) (by decide +kernel), rfl, rfl, rfl, rfl⟩
theorem de_5 : decode code 347 = .ok (.if_icmp .eq 689, 3) := by decide +kernel
theorem op_5 (C : lC p s m meth c b B L xs g D) (hL : L ≤ 2560) {i : Nat} (hi : i + 5 ≤ L) (hw1 : w.length = 89) (hw2 : aW_s w ≤ 7302250) (hI : Inv w σ) (kk : ∀ w2 σ2, Inv w2 σ2 → w2.length = 89 → aW_s w2 = aW_s w → LT p l e s m below meth c b B g D 1036 (lvs b B i) [] w2) : LT p l e s m below meth c b B g D 329 (lvs b B i) [] w := by
  have h1 := cq_fuses hI.1 (ia_rg (xs (i + 1)))
  have h2 : ∀ w', RI w' w' σ → _ := fun w' hR => (match hR with | ⟨s0, l0, A0, B0, hX, hk⟩ => rp_fuses hX hk (ia_rg (xs (i + 1))))
  simp only [ia_of] at h1 h2
  refine lw_case C hL (n := 1) rfl (dCsB_is dC_5) (by omega) ok1_5 ok2_5 (by decide) (by decide) hw1 hw2 hI h1 h2 (fun w2 hI2 hl2 hs2 => ?_)
  have hx := C.1
  have hb := C.2.1
  intro ls H locs hl hH hS
  refine lv_icmp_eq (tgt := 1036) hx hb de_5 (by decide) (fun _ => kk w2 _ hI2 hl2 hs2 ls H locs hl hH hS) (fun q => absurd rfl q)
set_option maxRecDepth 20000 in
theorem dC_6 : dCsB 352 2 40 43 = true := by decide +kernel
set_option maxRecDepth 20000 in
theorem ok1_6 : okM 61 40 2 10 := ⟨inGd_in (pl := 655) (by decide +kernel), rfl, rfl, rfl, rfl⟩
set_option maxRecDepth 20000 in
theorem ok2_6 : okM 176 43 2 11 := ⟨inGd_in (pl := 1238) (by decide +kernel), rfl, rfl, rfl, rfl⟩
theorem de_6 : decode code 380 = .ok (.if_icmp .eq 656, 3) := by decide +kernel
theorem op_6 (C : lC p s m meth c b B L xs g D) (hL : L ≤ 2560) {i : Nat} (hi : i + 5 ≤ L) (hw1 : w.length = 89) (hw2 : aW_s w ≤ 7302250) (hI : Inv w σ) (kk : ∀ w2 σ2, Inv w2 σ2 → w2.length = 89 → aW_s w2 = aW_s w → LT p l e s m below meth c b B g D 1036 (lvs b B i) [] w2) : LT p l e s m below meth c b B g D 352 (lvs b B i) [] w := by
  have h1 := cq_sort hI.1 (ia_rg (xs (i + 1))) (ia_rg (xs (i + 2)))
  have h2 : ∀ w', RI w' w' σ → _ := fun w' hR => (match hR with | ⟨s0, l0, A0, B0, hX, hk⟩ => rp_sort hX hk (ia_rg (xs (i + 1))) (ia_rg (xs (i + 2))))
  simp only [ia_of] at h1 h2
  refine lw_case C hL (n := 2) rfl (dCsB_is dC_6) (by omega) ok1_6 ok2_6 (by decide) (by decide) hw1 hw2 hI h1 h2 (fun w2 hI2 hl2 hs2 => ?_)
  have hx := C.1
  have hb := C.2.1
  intro ls H locs hl hH hS
  refine lv_icmp_eq (tgt := 1036) hx hb de_6 (by decide) (fun _ => kk w2 _ hI2 hl2 hs2 ls H locs hl hH hS) (fun q => absurd rfl q)
set_option maxRecDepth 20000 in
theorem dC_7 : dCsB 385 1 44 47 = true := by decide +kernel
set_option maxRecDepth 20000 in
theorem ok1_7 : okM 62 44 1 10 := ⟨inGd_in (pl := 659) (by decide +kernel), rfl, rfl, rfl, rfl⟩
set_option maxRecDepth 20000 in
theorem ok2_7 : okM 177 47 1 11 := ⟨inGd_in (pl := 1242) (by decide +kernel), rfl, rfl, rfl, rfl⟩
theorem de_7 : decode code 403 = .ok (.if_icmp .eq 633, 3) := by decide +kernel
theorem op_7 (C : lC p s m meth c b B L xs g D) (hL : L ≤ 2560) {i : Nat} (hi : i + 5 ≤ L) (hw1 : w.length = 89) (hw2 : aW_s w ≤ 7302250) (hI : Inv w σ) (kk : ∀ w2 σ2, Inv w2 σ2 → w2.length = 89 → aW_s w2 = aW_s w → LT p l e s m below meth c b B g D 1036 (lvs b B i) [] w2) : LT p l e s m below meth c b B g D 385 (lvs b B i) [] w := by
  have h1 := cq_verdict hI.1 (ia_rg (xs (i + 1)))
  have h2 : ∀ w', RI w' w' σ → _ := fun w' hR => (match hR with | ⟨s0, l0, A0, B0, hX, hk⟩ => rp_verdict hX hk (ia_rg (xs (i + 1))))
  simp only [ia_of] at h1 h2
  refine lw_case C hL (n := 1) rfl (dCsB_is dC_7) (by omega) ok1_7 ok2_7 (by decide) (by decide) hw1 hw2 hI h1 h2 (fun w2 hI2 hl2 hs2 => ?_)
  have hx := C.1
  have hb := C.2.1
  intro ls H locs hl hH hS
  refine lv_icmp_eq (tgt := 1036) hx hb de_7 (by decide) (fun _ => kk w2 _ hI2 hl2 hs2 ls H locs hl hH hS) (fun q => absurd rfl q)
set_option maxRecDepth 20000 in
theorem dC_8 : dCsB 408 1 48 51 = true := by decide +kernel
set_option maxRecDepth 20000 in
theorem ok1_8 : okM 68 48 1 10 := ⟨inGd_in (pl := 684) (by decide +kernel), rfl, rfl, rfl, rfl⟩
set_option maxRecDepth 20000 in
theorem ok2_8 : okM 191 51 1 11 := ⟨inGd_in (pl := 1297) (by decide +kernel), rfl, rfl, rfl, rfl⟩
theorem de_8 : decode code 426 = .ok (.if_icmp .eq 610, 3) := by decide +kernel
theorem op_8 (C : lC p s m meth c b B L xs g D) (hL : L ≤ 2560) {i : Nat} (hi : i + 5 ≤ L) (hw1 : w.length = 89) (hw2 : aW_s w ≤ 7302250) (hI : Inv w σ) (kk : ∀ w2 σ2, Inv w2 σ2 → w2.length = 89 → aW_s w2 = aW_s w → LT p l e s m below meth c b B g D 1036 (lvs b B i) [] w2) : LT p l e s m below meth c b B g D 408 (lvs b B i) [] w := by
  have h1 := cq_valence hI.1 (ia_rg (xs (i + 1)))
  have h2 : ∀ w', RI w' w' σ → _ := fun w' hR => (match hR with | ⟨s0, l0, A0, B0, hX, hk⟩ => rp_valence hX hk (ia_rg (xs (i + 1))))
  simp only [ia_of] at h1 h2
  refine lw_case C hL (n := 1) rfl (dCsB_is dC_8) (by omega) ok1_8 ok2_8 (by decide) (by decide) hw1 hw2 hI h1 h2 (fun w2 hI2 hl2 hs2 => ?_)
  have hx := C.1
  have hb := C.2.1
  intro ls H locs hl hH hS
  refine lv_icmp_eq (tgt := 1036) hx hb de_8 (by decide) (fun _ => kk w2 _ hI2 hl2 hs2 ls H locs hl hH hS) (fun q => absurd rfl q)
set_option maxRecDepth 20000 in
theorem dC_9 : dCsB 431 3 52 55 = true := by decide +kernel
set_option maxRecDepth 20000 in
theorem ok1_9 : okM 71 52 3 10 := ⟨inGd_in (pl := 696) (by decide +kernel), rfl, rfl, rfl, rfl⟩
set_option maxRecDepth 20000 in
theorem ok2_9 : okM 195 55 3 11 := ⟨inGd_in (pl := 1313) (by decide +kernel), rfl, rfl, rfl, rfl⟩
theorem de_9 : decode code 469 = .ok (.if_icmp .eq 567, 3) := by decide +kernel
theorem op_9 (C : lC p s m meth c b B L xs g D) (hL : L ≤ 2560) {i : Nat} (hi : i + 5 ≤ L) (hw1 : w.length = 89) (hw2 : aW_s w ≤ 7302250) (hI : Inv w σ) (kk : ∀ w2 σ2, Inv w2 σ2 → w2.length = 89 → aW_s w2 = aW_s w → LT p l e s m below meth c b B g D 1036 (lvs b B i) [] w2) : LT p l e s m below meth c b B g D 431 (lvs b B i) [] w := by
  have h1 := cq_paths hI.1 (ia_rg (xs (i + 1))) (ia_rg (xs (i + 2))) (ia_rg (xs (i + 3)))
  have h2 : ∀ w', RI w' w' σ → _ := fun w' hR => (match hR with | ⟨s0, l0, A0, B0, hX, hk⟩ => rp_paths hX hk (ia_rg (xs (i + 1))) (ia_rg (xs (i + 2))) (ia_rg (xs (i + 3))))
  simp only [ia_of] at h1 h2
  refine lw_case C hL (n := 3) rfl (dCsB_is dC_9) (by omega) ok1_9 ok2_9 (by decide) (by decide) hw1 hw2 hI h1 h2 (fun w2 hI2 hl2 hs2 => ?_)
  have hx := C.1
  have hb := C.2.1
  intro ls H locs hl hH hS
  refine lv_icmp_eq (tgt := 1036) hx hb de_9 (by decide) (fun _ => kk w2 _ hI2 hl2 hs2 ls H locs hl hH hS) (fun q => absurd rfl q)
set_option maxRecDepth 20000 in
theorem dC_10 : dCsB 474 0 56 60 = true := by decide +kernel
set_option maxRecDepth 20000 in
theorem ok1_10 : okM 73 56 0 10 := ⟨inGd_in (pl := 705) (by decide +kernel), rfl, rfl, rfl, rfl⟩
set_option maxRecDepth 20000 in
theorem ok2_10 : okM 197 60 0 11 := ⟨inGd_in (pl := 1321) (by decide +kernel), rfl, rfl, rfl, rfl⟩
theorem de_10 : decode code 482 = .ok (.if_icmp .eq 554, 3) := by decide +kernel
theorem op_10 (C : lC p s m meth c b B L xs g D) (hL : L ≤ 2560) {i : Nat} (hi : i + 5 ≤ L) (hw1 : w.length = 89) (hw2 : aW_s w ≤ 7302250) (hI : Inv w σ) (kk : ∀ w2 σ2, Inv w2 σ2 → w2.length = 89 → aW_s w2 = aW_s w → LT p l e s m below meth c b B g D 1036 (lvs b B i) [] w2) : LT p l e s m below meth c b B g D 474 (lvs b B i) [] w := by
  have h1 := cq_rows hI.1
  have h2 : ∀ w', RI w' w' σ → _ := fun w' hR => (match hR with | ⟨s0, l0, A0, B0, hX, hk⟩ => rp_rows hX hk)
  skip
  refine lw_case C hL (n := 0) rfl (dCsB_is dC_10) (by omega) ok1_10 ok2_10 (by decide) (by decide) hw1 hw2 hI h1 h2 (fun w2 hI2 hl2 hs2 => ?_)
  have hx := C.1
  have hb := C.2.1
  intro ls H locs hl hH hS
  refine lv_icmp_eq (tgt := 1036) hx hb de_10 (by decide) (fun _ => kk w2 _ hI2 hl2 hs2 ls H locs hl hH hS) (fun q => absurd rfl q)
set_option maxRecDepth 20000 in
theorem dC_11 : dCsB 487 2 61 64 = true := by decide +kernel
set_option maxRecDepth 20000 in
theorem ok1_11 : okM 81 61 2 10 := ⟨inGd_in (pl := 741) (by decide +kernel), rfl, rfl, rfl, rfl⟩
set_option maxRecDepth 20000 in
theorem ok2_11 : okM 201 64 2 11 := ⟨inGd_in (pl := 1337) (by decide +kernel), rfl, rfl, rfl, rfl⟩
theorem de_11 : decode code 515 = .ok (.if_icmp .eq 521, 3) := by decide +kernel
theorem op_11 (C : lC p s m meth c b B L xs g D) (hL : L ≤ 2560) {i : Nat} (hi : i + 5 ≤ L) (hw1 : w.length = 89) (hw2 : aW_s w ≤ 7302250) (hI : Inv w σ) (kk : ∀ w2 σ2, Inv w2 σ2 → w2.length = 89 → aW_s w2 = aW_s w → LT p l e s m below meth c b B g D 1036 (lvs b B i) [] w2) : LT p l e s m below meth c b B g D 487 (lvs b B i) [] w := by
  have h1 := cq_row hI.1 (ia_rg (xs (i + 1))) (ia_rg (xs (i + 2)))
  have h2 : ∀ w', RI w' w' σ → _ := fun w' hR => (match hR with | ⟨s0, l0, A0, B0, hX, hk⟩ => rp_row hX hk (ia_rg (xs (i + 1))) (ia_rg (xs (i + 2))))
  simp only [ia_of] at h1 h2
  refine lw_case C hL (n := 2) rfl (dCsB_is dC_11) (by omega) ok1_11 ok2_11 (by decide) (by decide) hw1 hw2 hI h1 h2 (fun w2 hI2 hl2 hs2 => ?_)
  have hx := C.1
  have hb := C.2.1
  intro ls H locs hl hH hS
  refine lv_icmp_eq (tgt := 1036) hx hb de_11 (by decide) (fun _ => kk w2 _ hI2 hl2 hs2 ls H locs hl hH hS) (fun q => absurd rfl q)
set_option maxRecDepth 20000 in
theorem dC_12 : dCsB 520 1 65 68 = true := by decide +kernel
set_option maxRecDepth 20000 in
theorem ok1_12 : okM 84 65 1 10 := ⟨inGd_in (pl := 753) (by decide +kernel), rfl, rfl, rfl, rfl⟩
set_option maxRecDepth 20000 in
theorem ok2_12 : okM 202 68 1 11 := ⟨inGd_in (pl := 1341) (by decide +kernel), rfl, rfl, rfl, rfl⟩
theorem de_12 : decode code 538 = .ok (.if_icmp .eq 498, 3) := by decide +kernel
theorem op_12 (C : lC p s m meth c b B L xs g D) (hL : L ≤ 2560) {i : Nat} (hi : i + 5 ≤ L) (hw1 : w.length = 89) (hw2 : aW_s w ≤ 7302250) (hI : Inv w σ) (kk : ∀ w2 σ2, Inv w2 σ2 → w2.length = 89 → aW_s w2 = aW_s w → LT p l e s m below meth c b B g D 1036 (lvs b B i) [] w2) : LT p l e s m below meth c b B g D 520 (lvs b B i) [] w := by
  have h1 := cq_times hI.1 (ia_rg (xs (i + 1)))
  have h2 : ∀ w', RI w' w' σ → _ := fun w' hR => (match hR with | ⟨s0, l0, A0, B0, hX, hk⟩ => rp_times hX hk (ia_rg (xs (i + 1))))
  simp only [ia_of] at h1 h2
  refine lw_case C hL (n := 1) rfl (dCsB_is dC_12) (by omega) ok1_12 ok2_12 (by decide) (by decide) hw1 hw2 hI h1 h2 (fun w2 hI2 hl2 hs2 => ?_)
  have hx := C.1
  have hb := C.2.1
  intro ls H locs hl hH hS
  refine lv_icmp_eq (tgt := 1036) hx hb de_12 (by decide) (fun _ => kk w2 _ hI2 hl2 hs2 ls H locs hl hH hS) (fun q => absurd rfl q)
set_option maxRecDepth 20000 in
theorem dC_13 : dCsB 543 3 69 73 = true := by decide +kernel
set_option maxRecDepth 20000 in
theorem ok1_13 : okM 86 69 3 10 := ⟨inGd_in (pl := 761) (by decide +kernel), rfl, rfl, rfl, rfl⟩
set_option maxRecDepth 20000 in
theorem ok2_13 : okM 203 73 3 11 := ⟨inGd_in (pl := 1345) (by decide +kernel), rfl, rfl, rfl, rfl⟩
theorem de_13 : decode code 581 = .ok (.lcmp, 1) ∧ decode code 582 = .ok (.ifCond .eq 454, 3) := ⟨by decide +kernel, by decide +kernel⟩
theorem op_13 (C : lC p s m meth c b B L xs g D) (hL : L ≤ 2560) {i : Nat} (hi : i + 5 ≤ L) (hw1 : w.length = 89) (hw2 : aW_s w ≤ 7302250) (hI : Inv w σ) (kk : ∀ w2 σ2, Inv w2 σ2 → w2.length = 89 → aW_s w2 = aW_s w → LT p l e s m below meth c b B g D 1036 (lvs b B i) [] w2) : LT p l e s m below meth c b B g D 543 (lvs b B i) [] w := by
  have h1 := cq_back hI.1 (ia_rg (xs (i + 1))) (ia_rg (xs (i + 2))) (ia_rg (xs (i + 3)))
  have h2 : ∀ w', RI w' w' σ → _ := fun w' hR => (match hR with | ⟨s0, l0, A0, B0, hX, hk⟩ => rp_back hX hk (ia_rg (xs (i + 1))) (ia_rg (xs (i + 2))) (ia_rg (xs (i + 3))))
  simp only [ia_of] at h1 h2
  refine lw_case C hL (n := 3) rfl (dCsB_is dC_13) (by omega) ok1_13 ok2_13 (by decide) (by decide) hw1 hw2 hI h1 h2 (fun w2 hI2 hl2 hs2 => ?_)
  have hx := C.1
  have hb := C.2.1
  intro ls H locs hl hH hS
  refine W.lcmp hx hb de_13.1 ?_
  refine lv_if_eq (tgt := 1036) hx hb de_13.2 (by decide) (fun _ => kk w2 _ hI2 hl2 hs2 ls H locs hl hH hS) (fun q => absurd (cmp_self _) q)
set_option maxRecDepth 20000 in
theorem dC_14 : dCsB 587 4 74 78 = true := by decide +kernel
set_option maxRecDepth 20000 in
theorem ok1_14 : okM 89 74 4 10 := ⟨inGd_in (pl := 777) (by decide +kernel), rfl, rfl, rfl, rfl⟩
set_option maxRecDepth 20000 in
theorem ok2_14 : okM 206 78 4 11 := ⟨inGd_in (pl := 1357) (by decide +kernel), rfl, rfl, rfl, rfl⟩
theorem de_14 : decode code 635 = .ok (.lcmp, 1) ∧ decode code 636 = .ok (.ifCond .eq 400, 3) := ⟨by decide +kernel, by decide +kernel⟩
theorem op_14 (C : lC p s m meth c b B L xs g D) (hL : L ≤ 2560) {i : Nat} (hi : i + 5 ≤ L) (hw1 : w.length = 89) (hw2 : aW_s w ≤ 7302250) (hI : Inv w σ) (kk : ∀ w2 σ2, Inv w2 σ2 → w2.length = 89 → aW_s w2 = aW_s w → LT p l e s m below meth c b B g D 1036 (lvs b B i) [] w2) : LT p l e s m below meth c b B g D 587 (lvs b B i) [] w := by
  have h1 := cq_cross hI.1 (ia_rg (xs (i + 1))) (ia_rg (xs (i + 2))) (ia_rg (xs (i + 3))) (ia_rg (xs (i + 4)))
  have h2 : ∀ w', RI w' w' σ → _ := fun w' hR => (match hR with | ⟨s0, l0, A0, B0, hX, hk⟩ => rp_cross hX hk (ia_rg (xs (i + 1))) (ia_rg (xs (i + 2))) (ia_rg (xs (i + 3))) (ia_rg (xs (i + 4))))
  simp only [ia_of] at h1 h2
  refine lw_case C hL (n := 4) rfl (dCsB_is dC_14) (by omega) ok1_14 ok2_14 (by decide) (by decide) hw1 hw2 hI h1 h2 (fun w2 hI2 hl2 hs2 => ?_)
  have hx := C.1
  have hb := C.2.1
  intro ls H locs hl hH hS
  refine W.lcmp hx hb de_14.1 ?_
  refine lv_if_eq (tgt := 1036) hx hb de_14.2 (by decide) (fun _ => kk w2 _ hI2 hl2 hs2 ls H locs hl hH hS) (fun q => absurd (cmp_self _) q)
set_option maxRecDepth 20000 in
theorem dC_15 : dCsB 641 2 79 82 = true := by decide +kernel
set_option maxRecDepth 20000 in
theorem ok1_15 : okM 92 79 2 10 := ⟨inGd_in (pl := 790) (by decide +kernel), rfl, rfl, rfl, rfl⟩
set_option maxRecDepth 20000 in
theorem ok2_15 : okM 209 82 2 11 := ⟨inGd_in (pl := 1369) (by decide +kernel), rfl, rfl, rfl, rfl⟩
theorem de_15 : decode code 669 = .ok (.if_icmp .eq 367, 3) := by decide +kernel
theorem op_15 (C : lC p s m meth c b B L xs g D) (hL : L ≤ 2560) {i : Nat} (hi : i + 5 ≤ L) (hw1 : w.length = 89) (hw2 : aW_s w ≤ 7302250) (hI : Inv w σ) (kk : ∀ w2 σ2, Inv w2 σ2 → w2.length = 89 → aW_s w2 = aW_s w → LT p l e s m below meth c b B g D 1036 (lvs b B i) [] w2) : LT p l e s m below meth c b B g D 641 (lvs b B i) [] w := by
  have h1 := cq_orders hI.1 (ia_rg (xs (i + 1))) (ia_rg (xs (i + 2)))
  have h2 : ∀ w', RI w' w' σ → _ := fun w' hR => (match hR with | ⟨s0, l0, A0, B0, hX, hk⟩ => rp_orders hX hk (ia_rg (xs (i + 1))) (ia_rg (xs (i + 2))))
  simp only [ia_of] at h1 h2
  refine lw_case C hL (n := 2) rfl (dCsB_is dC_15) (by omega) ok1_15 ok2_15 (by decide) (by decide) hw1 hw2 hI h1 h2 (fun w2 hI2 hl2 hs2 => ?_)
  have hx := C.1
  have hb := C.2.1
  intro ls H locs hl hH hS
  refine lv_icmp_eq (tgt := 1036) hx hb de_15 (by decide) (fun _ => kk w2 _ hI2 hl2 hs2 ls H locs hl hH hS) (fun q => absurd rfl q)
set_option maxRecDepth 20000 in
theorem dC_16 : dCsB 674 1 83 86 = true := by decide +kernel
set_option maxRecDepth 20000 in
theorem ok1_16 : okM 102 83 1 10 := ⟨inGd_in (pl := 830) (by decide +kernel), rfl, rfl, rfl, rfl⟩
set_option maxRecDepth 20000 in
theorem ok2_16 : okM 215 86 1 11 := ⟨inGd_in (pl := 1393) (by decide +kernel), rfl, rfl, rfl, rfl⟩
theorem de_16 : decode code 692 = .ok (.if_icmp .eq 344, 3) := by decide +kernel
theorem op_16 (C : lC p s m meth c b B L xs g D) (hL : L ≤ 2560) {i : Nat} (hi : i + 5 ≤ L) (hw1 : w.length = 89) (hw2 : aW_s w ≤ 7302250) (hI : Inv w σ) (kk : ∀ w2 σ2, Inv w2 σ2 → w2.length = 89 → aW_s w2 = aW_s w → LT p l e s m below meth c b B g D 1036 (lvs b B i) [] w2) : LT p l e s m below meth c b B g D 674 (lvs b B i) [] w := by
  have h1 := cq_fusions hI.1 (ia_rg (xs (i + 1)))
  have h2 : ∀ w', RI w' w' σ → _ := fun w' hR => (match hR with | ⟨s0, l0, A0, B0, hX, hk⟩ => rp_fusions hX hk (ia_rg (xs (i + 1))))
  simp only [ia_of] at h1 h2
  refine lw_case C hL (n := 1) rfl (dCsB_is dC_16) (by omega) ok1_16 ok2_16 (by decide) (by decide) hw1 hw2 hI h1 h2 (fun w2 hI2 hl2 hs2 => ?_)
  have hx := C.1
  have hb := C.2.1
  intro ls H locs hl hH hS
  refine lv_icmp_eq (tgt := 1036) hx hb de_16 (by decide) (fun _ => kk w2 _ hI2 hl2 hs2 ls H locs hl hH hS) (fun q => absurd rfl q)
set_option maxRecDepth 20000 in
theorem dC_17 : dCsB 697 3 87 90 = true := by decide +kernel
set_option maxRecDepth 20000 in
theorem ok1_17 : okM 103 87 3 10 := ⟨inGd_in (pl := 834) (by decide +kernel), rfl, rfl, rfl, rfl⟩
set_option maxRecDepth 20000 in
theorem ok2_17 : okM 222 90 3 11 := ⟨inGd_in (pl := 1421) (by decide +kernel), rfl, rfl, rfl, rfl⟩
theorem de_17 : decode code 735 = .ok (.if_icmp .eq 301, 3) := by decide +kernel
theorem op_17 (C : lC p s m meth c b B L xs g D) (hL : L ≤ 2560) {i : Nat} (hi : i + 5 ≤ L) (hw1 : w.length = 89) (hw2 : aW_s w ≤ 7302250) (hI : Inv w σ) (kk : ∀ w2 σ2, Inv w2 σ2 → w2.length = 89 → aW_s w2 = aW_s w → LT p l e s m below meth c b B g D 1036 (lvs b B i) [] w2) : LT p l e s m below meth c b B g D 697 (lvs b B i) [] w := by
  have h1 := cq_spread hI.1 (ia_rg (xs (i + 1))) (ia_rg (xs (i + 2))) (ia_rg (xs (i + 3)))
  have h2 : ∀ w', RI w' w' σ → _ := fun w' hR => (match hR with | ⟨s0, l0, A0, B0, hX, hk⟩ => rp_spread hX hk (ia_rg (xs (i + 1))) (ia_rg (xs (i + 2))) (ia_rg (xs (i + 3))))
  simp only [ia_of] at h1 h2
  refine lw_case C hL (n := 3) rfl (dCsB_is dC_17) (by omega) ok1_17 ok2_17 (by decide) (by decide) hw1 hw2 hI h1 h2 (fun w2 hI2 hl2 hs2 => ?_)
  have hx := C.1
  have hb := C.2.1
  intro ls H locs hl hH hS
  refine lv_icmp_eq (tgt := 1036) hx hb de_17 (by decide) (fun _ => kk w2 _ hI2 hl2 hs2 ls H locs hl hH hS) (fun q => absurd rfl q)
set_option maxRecDepth 20000 in
theorem dC_18 : dCsB 740 3 91 94 = true := by decide +kernel
set_option maxRecDepth 20000 in
theorem ok1_18 : okM 107 91 3 10 := ⟨inGd_in (pl := 852) (by decide +kernel), rfl, rfl, rfl, rfl⟩
set_option maxRecDepth 20000 in
theorem ok2_18 : okM 225 94 3 11 := ⟨inGd_in (pl := 1433) (by decide +kernel), rfl, rfl, rfl, rfl⟩
theorem de_18 : decode code 778 = .ok (.lcmp, 1) ∧ decode code 779 = .ok (.ifCond .eq 257, 3) := ⟨by decide +kernel, by decide +kernel⟩
theorem op_18 (C : lC p s m meth c b B L xs g D) (hL : L ≤ 2560) {i : Nat} (hi : i + 5 ≤ L) (hw1 : w.length = 89) (hw2 : aW_s w ≤ 7302250) (hI : Inv w σ) (kk : ∀ w2 σ2, Inv w2 σ2 → w2.length = 89 → aW_s w2 = aW_s w → LT p l e s m below meth c b B g D 1036 (lvs b B i) [] w2) : LT p l e s m below meth c b B g D 740 (lvs b B i) [] w := by
  have h1 := cq_shadow hI.1 (ia_rg (xs (i + 1))) (ia_rg (xs (i + 2))) (ia_rg (xs (i + 3)))
  have h2 : ∀ w', RI w' w' σ → _ := fun w' hR => (match hR with | ⟨s0, l0, A0, B0, hX, hk⟩ => rp_shadow hX hk (ia_rg (xs (i + 1))) (ia_rg (xs (i + 2))) (ia_rg (xs (i + 3))))
  simp only [ia_of] at h1 h2
  refine lw_case C hL (n := 3) rfl (dCsB_is dC_18) (by omega) ok1_18 ok2_18 (by decide) (by decide) hw1 hw2 hI h1 h2 (fun w2 hI2 hl2 hs2 => ?_)
  have hx := C.1
  have hb := C.2.1
  intro ls H locs hl hH hS
  refine W.lcmp hx hb de_18.1 ?_
  refine lv_if_eq (tgt := 1036) hx hb de_18.2 (by decide) (fun _ => kk w2 _ hI2 hl2 hs2 ls H locs hl hH hS) (fun q => absurd (cmp_self _) q)
set_option maxRecDepth 20000 in
theorem dC_19 : dCsB 784 2 95 99 = true := by decide +kernel
set_option maxRecDepth 20000 in
theorem ok1_19 : okM 108 95 2 10 := ⟨inGd_in (pl := 857) (by decide +kernel), rfl, rfl, rfl, rfl⟩
set_option maxRecDepth 20000 in
theorem ok2_19 : okM 226 99 2 11 := ⟨inGd_in (pl := 1437) (by decide +kernel), rfl, rfl, rfl, rfl⟩
theorem de_19 : decode code 812 = .ok (.lcmp, 1) ∧ decode code 813 = .ok (.ifCond .eq 223, 3) := ⟨by decide +kernel, by decide +kernel⟩
theorem op_19 (C : lC p s m meth c b B L xs g D) (hL : L ≤ 2560) {i : Nat} (hi : i + 5 ≤ L) (hw1 : w.length = 89) (hw2 : aW_s w ≤ 7302250) (hI : Inv w σ) (kk : ∀ w2 σ2, Inv w2 σ2 → w2.length = 89 → aW_s w2 = aW_s w → LT p l e s m below meth c b B g D 1036 (lvs b B i) [] w2) : LT p l e s m below meth c b B g D 784 (lvs b B i) [] w := by
  have h1 := cq_bound hI.1 (ia_rg (xs (i + 1))) (ia_rg (xs (i + 2)))
  have h2 : ∀ w', RI w' w' σ → _ := fun w' hR => (match hR with | ⟨s0, l0, A0, B0, hX, hk⟩ => rp_bound hX hk (ia_rg (xs (i + 1))) (ia_rg (xs (i + 2))))
  simp only [ia_of] at h1 h2
  refine lw_case C hL (n := 2) rfl (dCsB_is dC_19) (by omega) ok1_19 ok2_19 (by decide) (by decide) hw1 hw2 hI h1 h2 (fun w2 hI2 hl2 hs2 => ?_)
  have hx := C.1
  have hb := C.2.1
  intro ls H locs hl hH hS
  refine W.lcmp hx hb de_19.1 ?_
  refine lv_if_eq (tgt := 1036) hx hb de_19.2 (by decide) (fun _ => kk w2 _ hI2 hl2 hs2 ls H locs hl hH hS) (fun q => absurd (cmp_self _) q)
set_option maxRecDepth 20000 in
theorem dC_20 : dCsB 818 2 100 103 = true := by decide +kernel
set_option maxRecDepth 20000 in
theorem ok1_20 : okM 118 100 2 10 := ⟨inGd_in (pl := 899) (by decide +kernel), rfl, rfl, rfl, rfl⟩
set_option maxRecDepth 20000 in
theorem ok2_20 : okM 234 103 2 11 := ⟨inGd_in (pl := 1469) (by decide +kernel), rfl, rfl, rfl, rfl⟩
theorem de_20 : decode code 846 = .ok (.if_icmp .eq 190, 3) := by decide +kernel
theorem op_20 (C : lC p s m meth c b B L xs g D) (hL : L ≤ 2560) {i : Nat} (hi : i + 5 ≤ L) (hw1 : w.length = 89) (hw2 : aW_s w ≤ 7302250) (hI : Inv w σ) (kk : ∀ w2 σ2, Inv w2 σ2 → w2.length = 89 → aW_s w2 = aW_s w → LT p l e s m below meth c b B g D 1036 (lvs b B i) [] w2) : LT p l e s m below meth c b B g D 818 (lvs b B i) [] w := by
  have h1 := cq_most hI.1 (ia_rg (xs (i + 1))) (ia_rg (xs (i + 2)))
  have h2 : ∀ w', RI w' w' σ → _ := fun w' hR => (match hR with | ⟨s0, l0, A0, B0, hX, hk⟩ => rp_most hX hk (ia_rg (xs (i + 1))) (ia_rg (xs (i + 2))))
  simp only [ia_of] at h1 h2
  refine lw_case C hL (n := 2) rfl (dCsB_is dC_20) (by omega) ok1_20 ok2_20 (by decide) (by decide) hw1 hw2 hI h1 h2 (fun w2 hI2 hl2 hs2 => ?_)
  have hx := C.1
  have hb := C.2.1
  intro ls H locs hl hH hS
  refine lv_icmp_eq (tgt := 1036) hx hb de_20 (by decide) (fun _ => kk w2 _ hI2 hl2 hs2 ls H locs hl hH hS) (fun q => absurd rfl q)
set_option maxRecDepth 20000 in
theorem dC_21 : dCsB 851 4 104 108 = true := by decide +kernel
set_option maxRecDepth 20000 in
theorem ok1_21 : okM 121 104 4 10 := ⟨inGd_in (pl := 912) (by decide +kernel), rfl, rfl, rfl, rfl⟩
set_option maxRecDepth 20000 in
theorem ok2_21 : okM 236 108 4 11 := ⟨inGd_in (pl := 1477) (by decide +kernel), rfl, rfl, rfl, rfl⟩
theorem de_21 : decode code 899 = .ok (.if_icmp .eq 137, 3) := by decide +kernel
theorem op_21 (C : lC p s m meth c b B L xs g D) (hL : L ≤ 2560) {i : Nat} (hi : i + 5 ≤ L) (hw1 : w.length = 89) (hw2 : aW_s w ≤ 7302250) (hI : Inv w σ) (kk : ∀ w2 σ2, Inv w2 σ2 → w2.length = 89 → aW_s w2 = aW_s w → LT p l e s m below meth c b B g D 1036 (lvs b B i) [] w2) : LT p l e s m below meth c b B g D 851 (lvs b B i) [] w := by
  have h1 := cq_sieve hI.1 (ia_rg (xs (i + 1))) (ia_rg (xs (i + 2))) (ia_rg (xs (i + 3))) (ia_rg (xs (i + 4)))
  have h2 : ∀ w', RI w' w' σ → _ := fun w' hR => (match hR with | ⟨s0, l0, A0, B0, hX, hk⟩ => rp_sieve hX hk (ia_rg (xs (i + 1))) (ia_rg (xs (i + 2))) (ia_rg (xs (i + 3))) (ia_rg (xs (i + 4))))
  simp only [ia_of] at h1 h2
  refine lw_case C hL (n := 4) rfl (dCsB_is dC_21) (by omega) ok1_21 ok2_21 (by decide) (by decide) hw1 hw2 hI h1 h2 (fun w2 hI2 hl2 hs2 => ?_)
  have hx := C.1
  have hb := C.2.1
  intro ls H locs hl hH hS
  refine lv_icmp_eq (tgt := 1036) hx hb de_21 (by decide) (fun _ => kk w2 _ hI2 hl2 hs2 ls H locs hl hH hS) (fun q => absurd rfl q)
set_option maxRecDepth 20000 in
theorem dC_22 : dCsB 904 2 109 112 = true := by decide +kernel
set_option maxRecDepth 20000 in
theorem ok1_22 : okM 125 109 2 10 := ⟨inGd_in (pl := 925) (by decide +kernel), rfl, rfl, rfl, rfl⟩
set_option maxRecDepth 20000 in
theorem ok2_22 : okM 240 112 2 11 := ⟨inGd_in (pl := 1491) (by decide +kernel), rfl, rfl, rfl, rfl⟩
theorem de_22 : decode code 932 = .ok (.if_icmp .eq 104, 3) := by decide +kernel
theorem op_22 (C : lC p s m meth c b B L xs g D) (hL : L ≤ 2560) {i : Nat} (hi : i + 5 ≤ L) (hw1 : w.length = 89) (hw2 : aW_s w ≤ 7302250) (hI : Inv w σ) (kk : ∀ w2 σ2, Inv w2 σ2 → w2.length = 89 → aW_s w2 = aW_s w → LT p l e s m below meth c b B g D 1036 (lvs b B i) [] w2) : LT p l e s m below meth c b B g D 904 (lvs b B i) [] w := by
  have h1 := cq_sieved hI.1 (ia_rg (xs (i + 1))) (ia_rg (xs (i + 2)))
  have h2 : ∀ w', RI w' w' σ → _ := fun w' hR => (match hR with | ⟨s0, l0, A0, B0, hX, hk⟩ => rp_sieved hX hk (ia_rg (xs (i + 1))) (ia_rg (xs (i + 2))))
  simp only [ia_of] at h1 h2
  refine lw_case C hL (n := 2) rfl (dCsB_is dC_22) (by omega) ok1_22 ok2_22 (by decide) (by decide) hw1 hw2 hI h1 h2 (fun w2 hI2 hl2 hs2 => ?_)
  have hx := C.1
  have hb := C.2.1
  intro ls H locs hl hH hS
  refine lv_icmp_eq (tgt := 1036) hx hb de_22 (by decide) (fun _ => kk w2 _ hI2 hl2 hs2 ls H locs hl hH hS) (fun q => absurd rfl q)
set_option maxRecDepth 20000 in
theorem dC_23 : dCsB 937 1 113 116 = true := by decide +kernel
set_option maxRecDepth 20000 in
theorem ok1_23 : okM 127 113 1 10 := ⟨inGd_in (pl := 933) (by decide +kernel), rfl, rfl, rfl, rfl⟩
set_option maxRecDepth 20000 in
theorem ok2_23 : okM 242 116 1 11 := ⟨inGd_in (pl := 1498) (by decide +kernel), rfl, rfl, rfl, rfl⟩
theorem de_23 : decode code 955 = .ok (.if_icmp .eq 81, 3) := by decide +kernel
theorem op_23 (C : lC p s m meth c b B L xs g D) (hL : L ≤ 2560) {i : Nat} (hi : i + 5 ≤ L) (hw1 : w.length = 89) (hw2 : aW_s w ≤ 7302250) (hI : Inv w σ) (kk : ∀ w2 σ2, Inv w2 σ2 → w2.length = 89 → aW_s w2 = aW_s w → LT p l e s m below meth c b B g D 1036 (lvs b B i) [] w2) : LT p l e s m below meth c b B g D 937 (lvs b B i) [] w := by
  have h1 := cq_type hI.1 (ia_rg (xs (i + 1)))
  have h2 : ∀ w', RI w' w' σ → _ := fun w' hR => (match hR with | ⟨s0, l0, A0, B0, hX, hk⟩ => rp_type hX hk (ia_rg (xs (i + 1))))
  simp only [ia_of] at h1 h2
  refine lw_case C hL (n := 1) rfl (dCsB_is dC_23) (by omega) ok1_23 ok2_23 (by decide) (by decide) hw1 hw2 hI h1 h2 (fun w2 hI2 hl2 hs2 => ?_)
  have hx := C.1
  have hb := C.2.1
  intro ls H locs hl hH hS
  refine lv_icmp_eq (tgt := 1036) hx hb de_23 (by decide) (fun _ => kk w2 _ hI2 hl2 hs2 ls H locs hl hH hS) (fun q => absurd rfl q)
set_option maxRecDepth 20000 in
theorem dC_24 : dCsB 960 0 117 120 = true := by decide +kernel
set_option maxRecDepth 20000 in
theorem ok1_24 : okM 129 117 0 10 := ⟨inGd_in (pl := 941) (by decide +kernel), rfl, rfl, rfl, rfl⟩
set_option maxRecDepth 20000 in
theorem ok2_24 : okM 243 120 0 11 := ⟨inGd_in (pl := 1503) (by decide +kernel), rfl, rfl, rfl, rfl⟩
theorem de_24 : decode code 968 = .ok (.if_icmp .eq 68, 3) := by decide +kernel
theorem op_24 (C : lC p s m meth c b B L xs g D) (hL : L ≤ 2560) {i : Nat} (hi : i + 5 ≤ L) (hw1 : w.length = 89) (hw2 : aW_s w ≤ 7302250) (hI : Inv w σ) (kk : ∀ w2 σ2, Inv w2 σ2 → w2.length = 89 → aW_s w2 = aW_s w → LT p l e s m below meth c b B g D 1036 (lvs b B i) [] w2) : LT p l e s m below meth c b B g D 960 (lvs b B i) [] w := by
  have h1 := cq_clear hI.1
  have h2 : ∀ w', RI w' w' σ → _ := fun w' hR => (match hR with | ⟨s0, l0, A0, B0, hX, hk⟩ => rp_clear hX hk)
  skip
  refine lw_case C hL (n := 0) rfl (dCsB_is dC_24) (by omega) ok1_24 ok2_24 (by decide) (by decide) hw1 hw2 hI h1 h2 (fun w2 hI2 hl2 hs2 => ?_)
  have hx := C.1
  have hb := C.2.1
  intro ls H locs hl hH hS
  refine lv_icmp_eq (tgt := 1036) hx hb de_24 (by decide) (fun _ => kk w2 _ hI2 hl2 hs2 ls H locs hl hH hS) (fun q => absurd rfl q)
set_option maxRecDepth 20000 in
theorem dC_25 : dCsB 973 0 121 124 = true := by decide +kernel
set_option maxRecDepth 20000 in
theorem ok1_25 : okM 130 121 0 10 := ⟨inGd_in (pl := 945) (by decide +kernel), rfl, rfl, rfl, rfl⟩
set_option maxRecDepth 20000 in
theorem ok2_25 : okM 244 124 0 11 := ⟨inGd_in (pl := 1507) (by decide +kernel), rfl, rfl, rfl, rfl⟩
theorem de_25 : decode code 981 = .ok (.if_icmp .eq 55, 3) := by decide +kernel
theorem op_25 (C : lC p s m meth c b B L xs g D) (hL : L ≤ 2560) {i : Nat} (hi : i + 5 ≤ L) (hw1 : w.length = 89) (hw2 : aW_s w ≤ 7302250) (hI : Inv w σ) (kk : ∀ w2 σ2, Inv w2 σ2 → w2.length = 89 → aW_s w2 = aW_s w → LT p l e s m below meth c b B g D 1036 (lvs b B i) [] w2) : LT p l e s m below meth c b B g D 973 (lvs b B i) [] w := by
  have h1 := cq_reads hI.1
  have h2 : ∀ w', RI w' w' σ → _ := fun w' hR => (match hR with | ⟨s0, l0, A0, B0, hX, hk⟩ => rp_reads hX hk)
  skip
  refine lw_case C hL (n := 0) rfl (dCsB_is dC_25) (by omega) ok1_25 ok2_25 (by decide) (by decide) hw1 hw2 hI h1 h2 (fun w2 hI2 hl2 hs2 => ?_)
  have hx := C.1
  have hb := C.2.1
  intro ls H locs hl hH hS
  refine lv_icmp_eq (tgt := 1036) hx hb de_25 (by decide) (fun _ => kk w2 _ hI2 hl2 hs2 ls H locs hl hH hS) (fun q => absurd rfl q)
set_option maxRecDepth 20000 in
theorem dC_26 : dCsB 986 0 125 128 = true := by decide +kernel
set_option maxRecDepth 20000 in
theorem ok1_26 : okM 138 125 0 10 := ⟨inGd_in (pl := 976) (by decide +kernel), rfl, rfl, rfl, rfl⟩
set_option maxRecDepth 20000 in
theorem ok2_26 : okM 254 128 0 11 := ⟨inGd_in (pl := 1548) (by decide +kernel), rfl, rfl, rfl, rfl⟩
theorem de_26 : decode code 994 = .ok (.if_icmp .eq 42, 3) := by decide +kernel
theorem op_26 (C : lC p s m meth c b B L xs g D) (hL : L ≤ 2560) {i : Nat} (hi : i + 5 ≤ L) (hw1 : w.length = 89) (hw2 : aW_s w ≤ 7302250) (hI : Inv w σ) (kk : ∀ w2 σ2, Inv w2 σ2 → w2.length = 89 → aW_s w2 = aW_s w → LT p l e s m below meth c b B g D 1036 (lvs b B i) [] w2) : LT p l e s m below meth c b B g D 986 (lvs b B i) [] w := by
  have h1 := cq_undo hI.1
  have h2 : ∀ w', RI w' w' σ → _ := fun w' hR => (match hR with | ⟨s0, l0, A0, B0, hX, hk⟩ => rp_undo hX hk)
  skip
  refine lw_case C hL (n := 0) rfl (dCsB_is dC_26) (by omega) ok1_26 ok2_26 (by decide) (by decide) hw1 hw2 hI h1 h2 (fun w2 hI2 hl2 hs2 => ?_)
  have hx := C.1
  have hb := C.2.1
  intro ls H locs hl hH hS
  refine lv_icmp_eq (tgt := 1036) hx hb de_26 (by decide) (fun _ => kk w2 _ hI2 hl2 hs2 ls H locs hl hH hS) (fun q => absurd rfl q)
set_option maxRecDepth 20000 in
theorem dC_27 : dCsB 999 1 129 132 = true := by decide +kernel
set_option maxRecDepth 20000 in
theorem ok1_27 : okM 140 129 1 10 := ⟨inGd_in (pl := 984) (by decide +kernel), rfl, rfl, rfl, rfl⟩
set_option maxRecDepth 20000 in
theorem ok2_27 : okM 255 132 1 11 := ⟨inGd_in (pl := 1552) (by decide +kernel), rfl, rfl, rfl, rfl⟩
theorem de_27 : decode code 1017 = .ok (.if_icmp .eq 19, 3) := by decide +kernel
theorem op_27 (C : lC p s m meth c b B L xs g D) (hL : L ≤ 2560) {i : Nat} (hi : i + 5 ≤ L) (hw1 : w.length = 89) (hw2 : aW_s w ≤ 7302250) (hI : Inv w σ) (kk : ∀ w2 σ2, Inv w2 σ2 → w2.length = 89 → aW_s w2 = aW_s w → LT p l e s m below meth c b B g D 1036 (lvs b B i) [] w2) : LT p l e s m below meth c b B g D 999 (lvs b B i) [] w := by
  have h1 := cq_told hI.1 (ia_rg (xs (i + 1)))
  have h2 : ∀ w', RI w' w' σ → _ := fun w' hR => (match hR with | ⟨s0, l0, A0, B0, hX, hk⟩ => rp_told hX hk (ia_rg (xs (i + 1))))
  simp only [ia_of] at h1 h2
  refine lw_case C hL (n := 1) rfl (dCsB_is dC_27) (by omega) ok1_27 ok2_27 (by decide) (by decide) hw1 hw2 hI h1 h2 (fun w2 hI2 hl2 hs2 => ?_)
  have hx := C.1
  have hb := C.2.1
  intro ls H locs hl hH hS
  refine lv_icmp_eq (tgt := 1036) hx hb de_27 (by decide) (fun _ => kk w2 _ hI2 hl2 hs2 ls H locs hl hH hS) (fun q => absurd rfl q)
set_option maxRecDepth 20000 in
theorem dC_28 : dCsB 1022 0 133 137 = true := by decide +kernel
set_option maxRecDepth 20000 in
theorem ok1_28 : okM 142 133 0 10 := ⟨inGd_in (pl := 992) (by decide +kernel), rfl, rfl, rfl, rfl⟩
set_option maxRecDepth 20000 in
theorem ok2_28 : okM 257 137 0 11 := ⟨inGd_in (pl := 1560) (by decide +kernel), rfl, rfl, rfl, rfl⟩
theorem de_28 : decode code 1030 = .ok (.lcmp, 1) ∧ decode code 1031 = .ok (.ifCond .eq 5, 3) := ⟨by decide +kernel, by decide +kernel⟩
theorem op_28 (C : lC p s m meth c b B L xs g D) (hL : L ≤ 2560) {i : Nat} (hi : i + 5 ≤ L) (hw1 : w.length = 89) (hw2 : aW_s w ≤ 7302250) (hI : Inv w σ) (kk : ∀ w2 σ2, Inv w2 σ2 → w2.length = 89 → aW_s w2 = aW_s w → LT p l e s m below meth c b B g D 1036 (lvs b B i) [] w2) : LT p l e s m below meth c b B g D 1022 (lvs b B i) [] w := by
  have h1 := cq_digest hI.1
  have h2 : ∀ w', RI w' w' σ → _ := fun w' hR => (match hR with | ⟨s0, l0, A0, B0, hX, hk⟩ => rp_digest hX hk)
  skip
  refine lw_case C hL (n := 0) rfl (dCsB_is dC_28) (by omega) ok1_28 ok2_28 (by decide) (by decide) hw1 hw2 hI h1 h2 (fun w2 hI2 hl2 hs2 => ?_)
  have hx := C.1
  have hb := C.2.1
  intro ls H locs hl hH hS
  refine W.lcmp hx hb de_28.1 ?_
  refine lv_if_eq (tgt := 1036) hx hb de_28.2 (by decide) (fun _ => kk w2 _ hI2 hl2 hs2 ls H locs hl hH hS) (fun q => absurd (cmp_self _) q)
end OPS
