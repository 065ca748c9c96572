/-! ===== bits of small numbers ===== -/
theorem ia_nat (k : Nat) : Int32.ofInt (k : Int) = nI k := by
  apply Int32.toBitVec_inj.1
  show BitVec.ofInt 32 (k : Int) = BitVec.ofNat 32 k
  simp
theorem s_l : ∀ n, n < 32 → ((nI n &&& 31).toBitVec.smod 32).toNat = n := by decide +kernel
theorem ia_and (a b : Nat) : Int32.ofInt (a : Int) &&& Int32.ofInt (b : Int) = Int32.ofInt ((a &&& b : Nat) : Int) := by
  rw [ia_nat, ia_nat, ia_nat]
  apply Int32.toBitVec_inj.1
  show BitVec.ofNat 32 a &&& BitVec.ofNat 32 b = BitVec.ofNat 32 (a &&& b)
  apply BitVec.eq_of_getLsbD_eq
  intro i hi
  simp [hi]
theorem ia_or (a b : Nat) : Int32.ofInt (a : Int) ||| Int32.ofInt (b : Int) = Int32.ofInt ((a ||| b : Nat) : Int) := by
  rw [ia_nat, ia_nat, ia_nat]
  apply Int32.toBitVec_inj.1
  show BitVec.ofNat 32 a ||| BitVec.ofNat 32 b = BitVec.ofNat 32 (a ||| b)
  apply BitVec.eq_of_getLsbD_eq
  intro i hi
  simp [hi]
theorem ia_shl (a : Nat) {s : Nat} (hs : s < 32) : Int32.ofInt (a : Int) <<< (Int32.ofInt (s : Int) &&& 31) = Int32.ofInt ((a * 2 ^ s : Nat) : Int) := by
  rw [ia_nat, ia_nat, ia_nat]
  apply Int32.toBitVec_inj.1
  rw [Int32.toBitVec_shiftLeft]
  show (BitVec.ofNat 32 a <<< ((nI s &&& 31).toBitVec.smod 32).toNat) = BitVec.ofNat 32 (a * 2 ^ s)
  rw [s_l s hs]
  apply BitVec.eq_of_toNat_eq
  rw [BitVec.toNat_shiftLeft, BitVec.toNat_ofNat, BitVec.toNat_ofNat, Nat.shiftLeft_eq, Nat.mod_mul_mod]
theorem ia_shr {a s : Nat} (ha : a < 2147483648) (hs : s < 32) : Int32.ofInt (a : Int) >>> (Int32.ofInt (s : Int) &&& 31) = Int32.ofInt ((a / 2 ^ s : Nat) : Int) := by
  rw [ia_nat, ia_nat, ia_nat]
  apply Int32.toBitVec_inj.1
  rw [Int32.toBitVec_shiftRight]
  show ((BitVec.ofNat 32 a).sshiftRight ((nI s &&& 31).toBitVec.smod 32).toNat) = BitVec.ofNat 32 (a / 2 ^ s)
  rw [s_l s hs]
  have hm : (BitVec.ofNat 32 a).msb = false := by
    rw [BitVec.msb_eq_decide]
    simp
    omega
  rw [BitVec.sshiftRight_eq_of_msb_false hm]
  apply BitVec.eq_of_toNat_eq
  have h1 : a / 2 ^ s ≤ a := Nat.div_le_self _ _
  rw [BitVec.toNat_ushiftRight, BitVec.toNat_ofNat, BitVec.toNat_ofNat, Nat.shiftRight_eq_div_pow, Nat.mod_eq_of_lt (by omega : a < 2 ^ 32), Nat.mod_eq_of_lt (by omega : a / 2 ^ s < 2 ^ 32)]
theorem ia_and15 (a : Nat) : Int32.ofInt (a : Int) &&& Int32.ofInt 15 = Int32.ofInt ((a % 16 : Nat) : Int) := by
  have := ia_and a 15
  rw [show a &&& 15 = a % 16 from Nat.and_two_pow_sub_one_eq_mod a 4] at this
  exact this
theorem ia_and1 (a : Nat) : Int32.ofInt (a : Int) &&& Int32.ofInt 1 = Int32.ofInt ((a % 2 : Nat) : Int) := by
  have := ia_and a 1
  rw [show a &&& 1 = a % 2 from Nat.and_two_pow_sub_one_eq_mod a 1] at this
  exact this
theorem ia_16 {c : Nat} (hc : c ≤ 5) : Int32.ofInt 1 <<< (Int32.ofInt (4 * (c : Int)) &&& 31) = Int32.ofInt ((16 ^ c : Nat) : Int) := by
  rcases (show c = 0 ∨ c = 1 ∨ c = 2 ∨ c = 3 ∨ c = 4 ∨ c = 5 by omega) with rfl | rfl | rfl | rfl | rfl | rfl <;> decide +kernel
theorem ia_nib {a j : Nat} (ha : a < 2147483648) (hj : j ≤ 5) : (Int32.ofInt (a : Int) >>> (Int32.ofInt (4 * (j : Int)) &&& 31)) &&& Int32.ofInt 15 = Int32.ofInt ((a / 16 ^ j % 16 : Nat) : Int) := by
  rw [show (4 * (j : Int)) = ((4 * j : Nat) : Int) by omega, ia_shr ha (by omega), ia_and15, show (2 : Nat) ^ (4 * j) = 16 ^ j by rw [Nat.pow_mul]]
/-- what a world keeps outside some places -/
def eqr (lo hi : Nat) (w w' : aW) : Prop := w'.length = w.length ∧ ∀ k, k < lo ∨ hi < k → w'[k]? = w[k]?
theorem eqr.rf (lo hi : Nat) (w : aW) : eqr lo hi w w := ⟨rfl, fun _ _ => rfl⟩
theorem eqr.tr {lo hi : Nat} {w w1 w2 : aW} (h : eqr lo hi w w1) (h2 : eqr lo hi w1 w2) : eqr lo hi w w2 := ⟨h2.1.trans h.1, fun k hk => (h2.2 k hk).trans (h.2 k hk)⟩
theorem eqr.wd {lo hi lo' hi' : Nat} {w w1 : aW} (h : eqr lo hi w w1) (h1 : lo' ≤ lo) (h2 : hi ≤ hi') : eqr lo' hi' w w1 := ⟨h.1, fun k hk => h.2 k (by omega)⟩
theorem eqr.O {lo hi : Nat} (w : aW) {a : Nat} (h1 : lo ≤ a) (h2 : a ≤ hi) (c : Nat) (fs : List Value) : eqr lo hi w (sO w a c fs) := ⟨len_sO _ _ _ _, fun k hk => by unfold sO; rw [List.getElem?_set_ne (by omega)]⟩
theorem eqr.I {lo hi : Nat} (w : aW) {a : Nat} (h1 : lo ≤ a) (h2 : a ≤ hi) (n : Nat) (f : Nat → Int32) : eqr lo hi w (sI w a n f) := ⟨len_sI _ _ _ _, fun k hk => by unfold sI; rw [List.getElem?_set_ne (by omega)]⟩
theorem eqr.Z {lo hi : Nat} (w : aW) {a : Nat} (h1 : lo ≤ a) (h2 : a ≤ hi) (n : Nat) (f : Nat → Int32) : eqr lo hi w (sZ w a n f) := ⟨len_sZ _ _ _ _, fun k hk => by unfold sZ; rw [List.getElem?_set_ne (by omega)]⟩
theorem eqr.L {lo hi : Nat} (w : aW) {a : Nat} (h1 : lo ≤ a) (h2 : a ≤ hi) (n : Nat) (f : Nat → Int64) : eqr lo hi w (sL w a n f) := ⟨len_sL _ _ _ _, fun k hk => by unfold sL; rw [List.getElem?_set_ne (by omega)]⟩
theorem eqr.Qq {lo hi : Nat} (w : aW) {a : Nat} (h1 : lo ≤ a) (h2 : a ≤ hi) (n : Nat) (f : Nat → Option Nat) : eqr lo hi w (sQ w a n f) := ⟨len_sQ _ _ _ _, fun k hk => by unfold sQ; rw [List.getElem?_set_ne (by omega)]⟩
theorem eqr.o {lo hi k : Nat} {w w' : aW} (h : eqr lo hi w w') (hk : k < lo ∨ hi < k) : gO w' k = gO w k := by unfold gO; rw [h.2 k hk]
theorem eqr.i {lo hi k : Nat} {w w' : aW} (h : eqr lo hi w w') (hk : k < lo ∨ hi < k) : gI w' k = gI w k := by unfold gI; rw [h.2 k hk]
theorem eqr.z {lo hi k : Nat} {w w' : aW} (h : eqr lo hi w w') (hk : k < lo ∨ hi < k) : gZ w' k = gZ w k := by unfold gZ; rw [h.2 k hk]
theorem eqr.l {lo hi k : Nat} {w w' : aW} (h : eqr lo hi w w') (hk : k < lo ∨ hi < k) : gL w' k = gL w k := by unfold gL; rw [h.2 k hk]
theorem eqr.q {lo hi k : Nat} {w w' : aW} (h : eqr lo hi w w') (hk : k < lo ∨ hi < k) : gQ w' k = gQ w k := by unfold gQ; rw [h.2 k hk]
theorem eqr.tb {lo hi t a n : Nat} {f : Nat → Int32} {w w' : aW} (h : eqr lo hi w w') (ht : t < lo ∨ hi < t) (ha : a < lo ∨ hi < a) (hb : tbl w t a n f) : tbl w' t a n f := ⟨by rw [h.o ht]; exact hb.1, by rw [h.i ha]; exact hb.2.1, hb.2.2.1, by rw [h.1]; exact hb.2.2.2.1, by rw [h.1]; exact hb.2.2.2.2⟩
theorem sQ_self {w : aW} {a n : Nat} {f : Nat → Option Nat} (h : gQ w a = some (n, f)) : sQ w a n f = w := by
  unfold gQ at h
  split at h
  · rename_i h1
    split at h
    · rename_i hC
      subst hC
      cases h
      apply List.ext_getElem?
      intro i
      unfold sQ
      rw [List.getElem?_set]
      by_cases hi : a = i
      · subst hi
        rw [if_pos rfl, h1, if_pos (List.getElem?_eq_some_iff.mp h1).1]
      · rw [if_neg hi]
    · cases h
  · cases h
