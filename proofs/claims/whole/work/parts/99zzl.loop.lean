/-! ===== the law: its loop ===== -/
theorem and31 (x : Int32) : ∃ k : Nat, k < 32 ∧ x &&& Int32.ofInt 31 = Int32.ofInt (k : Int) := by
  refine ⟨(x &&& Int32.ofInt 31).toBitVec.toNat, ?_, ?_⟩
  · have e : (x &&& Int32.ofInt 31).toBitVec.toNat = x.toBitVec.toNat &&& 31 := rfl
    rw [e]
    have := Nat.and_le_right (n := x.toBitVec.toNat) (m := 31)
    omega
  · apply Int32.toBitVec_inj.mp
    show _ = BitVec.ofInt 32 _
    rw [BitVec.ofInt_natCast, BitVec.ofNat_toNat, BitVec.setWidth_eq]
theorem d_18 : decode code 18 = .ok (.iload_n 3, 1) := by decide +kernel
theorem d_19 : decode code 19 = .ok (.aload_n 0, 1) := by decide +kernel
theorem d_20 : decode code 20 = .ok (.arraylength, 1) := by decide +kernel
theorem d_21 : decode code 21 = .ok (.iconst 5, 1) := by decide +kernel
theorem d_22 : decode code 22 = .ok (.isub, 1) := by decide +kernel
theorem d_23 : decode code 23 = .ok (.if_icmp .gt 1019, 3) := by decide +kernel
theorem d_26 : decode code 26 = .ok (.aload_n 0, 1) := by decide +kernel
theorem d_27 : decode code 27 = .ok (.iload_n 3, 1) := by decide +kernel
theorem d_28 : decode code 28 = .ok (.iaload, 1) := by decide +kernel
theorem d_29 : decode code 29 = .ok (.bipush 31, 2) := by decide +kernel
theorem d_31 : decode code 31 = .ok (.iand, 1) := by decide +kernel
theorem d_32 : decode code 32 = .ok (.tableswitch 1004 0 28 #[132, 155, 198, 241, 274, 297, 320, 353, 376, 399, 442, 455, 488, 511, 555, 609, 642, 665, 708, 752, 786, 819, 872, 905, 928, 941, 954, 967, 990], 132) := by decide +kernel
theorem d_1036 : decode code 1036 = .ok (.iinc 3 5, 3) := by decide +kernel
theorem d_1039 : decode code 1039 = .ok (.goto (-1021), 3) := by decide +kernel
theorem d_1042 : decode code 1042 = .ok (.iconst 1, 1) := by decide +kernel
theorem d_1043 : decode code 1043 = .ok (.ireturn, 1) := by decide +kernel
section LOOP
variable {p : Program} {l : Launch} {e : Env} {s : State} {m : MethodId} {below : List Frame} {meth : Method} {c : Code} {b B L : Nat} {xs : Nat → Int32} {g : FieldType → ClassId} {D : va_G}
set_option maxHeartbeats 4000000 in
theorem law_loop (C : lC p s m meth c b B L xs g D) (hL : L ≤ 2560) : ∀ (n i : Nat), i ≤ L → L + 1 ≤ i + n → ∀ (w : aW) (σ : St), Inv w σ → w.length = 89 → aW_s w = 5223 → LT p l e s m below meth c b B g D 18 (lvs b B i) [] w := by
  obtain ⟨hx, hb, hr, hml, hown, hts, hX, hbl, hlocks, hKK, hB⟩ := id C
  have hbA : ¬ (fun q : Nat => B ≤ q) b := by rw [← hB]; exact Nat.not_le.mpr hbl
  have eL : Int32.ofNat L = Int32.ofInt (L : Int) := by rw [ia_nat]; rfl
  intro n
  induction n with
  | zero => intro i h1 h2; omega
  | succ n ih =>
    intro i hi hin w σ hI hw1 hw2
    intro ls H locs hl hH hS
    refine lv_iload_n hx hb d_18 rfl (lv_at hl 3 rfl) ?_
    refine lv_aload_n hx hb d_19 rfl (lv_at hl 0 rfl) ?_
    refine va_slen hx hb hX hbl hbA hS d_20 ?_
    refine lv_iconst (v := Int32.ofInt 5) hx hb d_21 rfl ?_
    refine lv_isub hx hb d_22 ?_
    rw [eL, ia_sub]
    refine lv_icmp_gt (tgt := 1042) hx hb d_23 (by decide) (fun q => ?_) (fun q => ?_)
    · refine lv_iconst (v := 1) hx hb d_1042 (by decide) ?_
      refine va_forget (fun q hq => by rw [hB]; exact hS.2.2 q hq) ?_
      refine W.widen (k := 600000) (n := 7302250) (by omega) (by omega) ?_
      exact lw_ret hx hb hr hlocks d_1043
    · rw [ia_lt ⟨by omega, by omega⟩ ⟨by omega, by omega⟩] at q
      have h5 : i + 5 ≤ L := by omega
      have hvi : vp_in (Int32.ofInt (i : Int)) L := inb_of (by omega) (by omega) (by omega)
      have eti : (Int32.ofInt (i : Int)).toNatClampNeg = i := tn_of rfl (by omega)
      refine lv_aload_n hx hb d_26 rfl (lv_at hl 0 rfl) ?_
      refine lv_iload_n hx hb d_27 rfl (lv_at hl 3 rfl) ?_
      refine va_sld hx hb hX hbl hbA hS hvi d_28 ?_
      rw [eti]
      refine lv_bipush (v := Int32.ofInt 31) hx hb d_29 (by decide) ?_
      refine lv_iand hx hb d_31 ?_
      have kk : ∀ w2 σ2, Inv w2 σ2 → w2.length = 89 → aW_s w2 = aW_s w → LT p l e s m below meth c b B g D 1036 (lvs b B i) [] w2 := by
        intro w2 σ2 hI2 hl2 hs2 ls H locs hl hH hS
        refine lv_iinc (v := Int32.ofInt ((i + 5 : Nat) : Int)) (lv' := [(3, .int (Int32.ofInt ((i + 5 : Nat) : Int))), (0, .ref b), (1, .ref B), (2, .ref (B + 62))]) hx hb d_1036 hl (k := 3) rfl (by rw [show ((i + 5 : Nat) : Int) = (i : Int) + 5 by omega, ← ia_add]) (by decide) rfl (fun ls hl => ?_)
        refine lv_goto (tgt := 18) hx hb d_1039 (by decide) ?_
        exact ih (i + 5) h5 (by omega) w2 σ2 hI2 hl2 (by omega) ls H locs (lv_sub hl [1, 2, 3, 0] rfl) hH hS
      have w7 : aW_s w ≤ 7302250 := by omega
      obtain ⟨k, hk, ek⟩ := and31 (xs i)
      rw [ek]
      rcases (show k = 0 ∨ k = 1 ∨ k = 2 ∨ k = 3 ∨ k = 4 ∨ k = 5 ∨ k = 6 ∨ k = 7 ∨ k = 8 ∨ k = 9 ∨ k = 10 ∨ k = 11 ∨ k = 12 ∨ k = 13 ∨ k = 14 ∨ k = 15 ∨ k = 16 ∨ k = 17 ∨ k = 18 ∨ k = 19 ∨ k = 20 ∨ k = 21 ∨ k = 22 ∨ k = 23 ∨ k = 24 ∨ k = 25 ∨ k = 26 ∨ k = 27 ∨ k = 28 ∨ k = 29 ∨ k = 30 ∨ k = 31 by omega) with rfl | rfl | rfl | rfl | rfl | rfl | rfl | rfl | rfl | rfl | rfl | rfl | rfl | rfl | rfl | rfl | rfl | rfl | rfl | rfl | rfl | rfl | rfl | rfl | rfl | rfl | rfl | rfl | rfl | rfl | rfl | rfl
      · exact lv_tableIn (off := 132) (tgt := 164) hx hb d_32 (by decide) (by decide) rfl (by decide) (op_0 C hL h5 hw1 w7 hI kk ls H locs hl hH hS)
      · exact lv_tableIn (off := 155) (tgt := 187) hx hb d_32 (by decide) (by decide) rfl (by decide) (op_1 C hL h5 hw1 w7 hI kk ls H locs hl hH hS)
      · exact lv_tableIn (off := 198) (tgt := 230) hx hb d_32 (by decide) (by decide) rfl (by decide) (op_2 C hL h5 hw1 w7 hI kk ls H locs hl hH hS)
      · exact lv_tableIn (off := 241) (tgt := 273) hx hb d_32 (by decide) (by decide) rfl (by decide) (op_3 C hL h5 hw1 w7 hI kk ls H locs hl hH hS)
      · exact lv_tableIn (off := 274) (tgt := 306) hx hb d_32 (by decide) (by decide) rfl (by decide) (op_4 C hL h5 hw1 w7 hI kk ls H locs hl hH hS)
      · exact lv_tableIn (off := 297) (tgt := 329) hx hb d_32 (by decide) (by decide) rfl (by decide) (op_5 C hL h5 hw1 w7 hI kk ls H locs hl hH hS)
      · exact lv_tableIn (off := 320) (tgt := 352) hx hb d_32 (by decide) (by decide) rfl (by decide) (op_6 C hL h5 hw1 w7 hI kk ls H locs hl hH hS)
      · exact lv_tableIn (off := 353) (tgt := 385) hx hb d_32 (by decide) (by decide) rfl (by decide) (op_7 C hL h5 hw1 w7 hI kk ls H locs hl hH hS)
      · exact lv_tableIn (off := 376) (tgt := 408) hx hb d_32 (by decide) (by decide) rfl (by decide) (op_8 C hL h5 hw1 w7 hI kk ls H locs hl hH hS)
      · exact lv_tableIn (off := 399) (tgt := 431) hx hb d_32 (by decide) (by decide) rfl (by decide) (op_9 C hL h5 hw1 w7 hI kk ls H locs hl hH hS)
      · exact lv_tableIn (off := 442) (tgt := 474) hx hb d_32 (by decide) (by decide) rfl (by decide) (op_10 C hL h5 hw1 w7 hI kk ls H locs hl hH hS)
      · exact lv_tableIn (off := 455) (tgt := 487) hx hb d_32 (by decide) (by decide) rfl (by decide) (op_11 C hL h5 hw1 w7 hI kk ls H locs hl hH hS)
      · exact lv_tableIn (off := 488) (tgt := 520) hx hb d_32 (by decide) (by decide) rfl (by decide) (op_12 C hL h5 hw1 w7 hI kk ls H locs hl hH hS)
      · exact lv_tableIn (off := 511) (tgt := 543) hx hb d_32 (by decide) (by decide) rfl (by decide) (op_13 C hL h5 hw1 w7 hI kk ls H locs hl hH hS)
      · exact lv_tableIn (off := 555) (tgt := 587) hx hb d_32 (by decide) (by decide) rfl (by decide) (op_14 C hL h5 hw1 w7 hI kk ls H locs hl hH hS)
      · exact lv_tableIn (off := 609) (tgt := 641) hx hb d_32 (by decide) (by decide) rfl (by decide) (op_15 C hL h5 hw1 w7 hI kk ls H locs hl hH hS)
      · exact lv_tableIn (off := 642) (tgt := 674) hx hb d_32 (by decide) (by decide) rfl (by decide) (op_16 C hL h5 hw1 w7 hI kk ls H locs hl hH hS)
      · exact lv_tableIn (off := 665) (tgt := 697) hx hb d_32 (by decide) (by decide) rfl (by decide) (op_17 C hL h5 hw1 w7 hI kk ls H locs hl hH hS)
      · exact lv_tableIn (off := 708) (tgt := 740) hx hb d_32 (by decide) (by decide) rfl (by decide) (op_18 C hL h5 hw1 w7 hI kk ls H locs hl hH hS)
      · exact lv_tableIn (off := 752) (tgt := 784) hx hb d_32 (by decide) (by decide) rfl (by decide) (op_19 C hL h5 hw1 w7 hI kk ls H locs hl hH hS)
      · exact lv_tableIn (off := 786) (tgt := 818) hx hb d_32 (by decide) (by decide) rfl (by decide) (op_20 C hL h5 hw1 w7 hI kk ls H locs hl hH hS)
      · exact lv_tableIn (off := 819) (tgt := 851) hx hb d_32 (by decide) (by decide) rfl (by decide) (op_21 C hL h5 hw1 w7 hI kk ls H locs hl hH hS)
      · exact lv_tableIn (off := 872) (tgt := 904) hx hb d_32 (by decide) (by decide) rfl (by decide) (op_22 C hL h5 hw1 w7 hI kk ls H locs hl hH hS)
      · exact lv_tableIn (off := 905) (tgt := 937) hx hb d_32 (by decide) (by decide) rfl (by decide) (op_23 C hL h5 hw1 w7 hI kk ls H locs hl hH hS)
      · exact lv_tableIn (off := 928) (tgt := 960) hx hb d_32 (by decide) (by decide) rfl (by decide) (op_24 C hL h5 hw1 w7 hI kk ls H locs hl hH hS)
      · exact lv_tableIn (off := 941) (tgt := 973) hx hb d_32 (by decide) (by decide) rfl (by decide) (op_25 C hL h5 hw1 w7 hI kk ls H locs hl hH hS)
      · exact lv_tableIn (off := 954) (tgt := 986) hx hb d_32 (by decide) (by decide) rfl (by decide) (op_26 C hL h5 hw1 w7 hI kk ls H locs hl hH hS)
      · exact lv_tableIn (off := 967) (tgt := 999) hx hb d_32 (by decide) (by decide) rfl (by decide) (op_27 C hL h5 hw1 w7 hI kk ls H locs hl hH hS)
      · exact lv_tableIn (off := 990) (tgt := 1022) hx hb d_32 (by decide) (by decide) rfl (by decide) (op_28 C hL h5 hw1 w7 hI kk ls H locs hl hH hS)
      · exact lv_tableOut (tgt := 1036) hx hb d_32 (by decide) (by decide) (kk w σ hI hw1 rfl ls H locs hl hH hS)
      · exact lv_tableOut (tgt := 1036) hx hb d_32 (by decide) (by decide) (kk w σ hI hw1 rfl ls H locs hl hH hS)
      · exact lv_tableOut (tgt := 1036) hx hb d_32 (by decide) (by decide) (kk w σ hI hw1 rfl ls H locs hl hH hS)
end LOOP
