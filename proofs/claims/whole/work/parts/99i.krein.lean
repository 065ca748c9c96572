/-! ===== the Krein condition ===== -/
theorem sg_out (G : Nat → Nat → Nat → Int) (p q m : Nat) : sg (fun x => sg (fun y => sg (fun u => G x y u) m) q) p = sg (fun u => sg (fun x => sg (fun y => G x y u) q) p) m := by
  have e : sg (fun x => sg (fun y => sg (fun u => G x y u) m) q) p = sg (fun x => sg (fun u => sg (fun y => G x y u) q) m) p := sg_cg (fun x _ => sg_com _ _ _)
  rw [e, sg_com]
theorem sg_m3 (f g h : Nat → Int) (n : Nat) : sg f n * sg g n * sg h n = sg (fun u => sg (fun v => sg (fun t => f u * g v * h t) n) n) n := by
  have e : ∀ u, sg (fun v => sg (fun t => f u * g v * h t) n) n = f u * (sg g n * sg h n) := by
    intro u
    have e1 : sg (fun v => sg (fun t => f u * g v * h t) n) n = sg (fun v => f u * (g v * sg h n)) n := sg_cg (fun v _ => by rw [sg_mul]; simp only [Int.mul_assoc])
    rw [e1, sg_mul, sg_mur]
  have e2 : sg (fun u => sg (fun v => sg (fun t => f u * g v * h t) n) n) n = sg (fun u => f u * (sg g n * sg h n)) n := sg_cg (fun u _ => e u)
  rw [e2, sg_mur, Int.mul_assoc]
/-- a row over the pairs of points -/
def eM (n : Nat) (R : Nat → Nat → Nat) (a : Nat → Int) (x y : Nat) : Int := a (R x y) * shK n R (R x y)
theorem eM_sq {n : Nat} {R : Nat → Nat → Nat} (hR : tOK n R) (hs : isSc n R) {a : Nat → Int} (h0 : a 0 = 1) (ha : mulP n R a) {x y : Nat} (hx : x < n) (hy : y < n) : sg (fun z => eM n R a x z * eM n R a z y) n = ipr n R a a * eM n R a x y := by
  have ma := mulP_all hR hs h0 ha
  have hk := R_le hR hx hy
  -- by sorts
  have e1 : sg (fun z => eM n R a x z * eM n R a z y) n = sg (fun i => sg (fun j => (a i * shK n R i) * (a j * shK n R j) * (pjk n R i j (R x y) : Int)) (gry R n + 1)) (gry R n + 1) := by
    have e2 : sg (fun i => sg (fun j => (a i * shK n R i) * (a j * shK n R j) * (pjk n R i j (R x y) : Int)) (gry R n + 1)) (gry R n + 1) = sg (fun i => sg (fun j => sg (fun z => (ind (R x z = i) * (a i * shK n R i)) * (ind (R z y = j) * (a j * shK n R j))) n) (gry R n + 1)) (gry R n + 1) := by
      refine sg_cg (fun i _ => sg_cg (fun j _ => ?_))
      rw [pjk_at hR hs hx hy, pnz_sg, ← sg_mul]
      refine sg_cg (fun z _ => ?_)
      simp only [Int.mul_assoc, Int.mul_comm, Int.mul_left_comm]
    rw [e2, sg_out]
    refine sg_cg (fun z hz => ?_)
    have hxz := R_le hR hx hz
    have hzy := R_le hR hz hy
    have e3 : sg (fun i => sg (fun j => (ind (R x z = i) * (a i * shK n R i)) * (ind (R z y = j) * (a j * shK n R j))) (gry R n + 1)) (gry R n + 1) = sg (fun i => (ind (R x z = i) * (a i * shK n R i)) * eM n R a z y) (gry R n + 1) := by
      refine sg_cg (fun i _ => ?_)
      rw [sg_mul, sg_dl (fun j => a j * shK n R j), if_pos (by omega)]
      rfl
    rw [e3, sg_mur, sg_dl (fun i => a i * shK n R i), if_pos (by omega)]
    rfl
  rw [e1, sg_com]
  unfold ipr
  rw [← sg_mur]
  refine sg_cg (fun j hj => ?_)
  have e4 : sg (fun i => (a i * shK n R i) * (a j * shK n R j) * (pjk n R i j (R x y) : Int)) (gry R n + 1) = sg (fun i => ((pjk n R (R x y) j i : Int) * a i) * (a j * shK n R j * shK n R (R x y))) (gry R n + 1) := by
    refine sg_cg (fun i hi => ?_)
    have q := pjk_w hR hs (i := i) (j := j) (k := R x y) (by omega) hk
    have l1 : (a i * shK n R i) * (a j * shK n R j) * (pjk n R i j (R x y) : Int) = ((pjk n R i j (R x y) : Int) * shK n R i) * (a i * (a j * shK n R j)) := by simp only [Int.mul_assoc, Int.mul_comm, Int.mul_left_comm]
    rw [l1, q]
    simp only [Int.mul_assoc, Int.mul_comm, Int.mul_left_comm]
  rw [e4, sg_mur, ma (R x y) j hk (by omega)]
  unfold eM
  simp only [Int.mul_assoc, Int.mul_comm, Int.mul_left_comm]
theorem eM_sy {n : Nat} {R : Nat → Nat → Nat} (hR : tOK n R) {a : Nat → Int} {x y : Nat} (hx : x < n) (hy : y < n) : eM n R a x y = eM n R a y x := by
  unfold eM
  rw [hR.2.2.2.1 x y hx hy]
/-- a sum over all pairs, by sorts -/
theorem sg_pairs {n : Nat} {R : Nat → Nat → Nat} (hR : tOK n R) (hs : isSc n R) (f : Nat → Int) : sg (fun x => sg (fun y => f (R x y)) n) n = (n : Int) * sg (fun i => (kv n R i : Int) * f i) (gry R n + 1) := by
  have key : ∀ x, x < n → sg (fun y => f (R x y)) n = sg (fun i => (kv n R i : Int) * f i) (gry R n + 1) := by
    intro x hx
    have e1 : sg (fun y => f (R x y)) n = sg (fun y => sg (fun i => ind (R x y = i) * f i) (gry R n + 1)) n := by
      refine sg_cg (fun y hy => ?_)
      have := R_le hR hx hy
      rw [sg_dl, if_pos (by omega)]
    rw [e1, sg_com]
    refine sg_cg (fun i hi => ?_)
    rw [sg_mur, val_at hR hs hx (by omega)]
  have e2 : sg (fun x => sg (fun y => f (R x y)) n) n = sg (fun _ => sg (fun i => (kv n R i : Int) * f i) (gry R n + 1)) n := sg_cg (fun x hx => key x hx)
  rw [e2]
  have : ∀ (c : Int) (m : Nat), sg (fun _ => c) m = (m : Int) * c := by
    intro c m
    induction m with
    | zero => rw [show sg (fun _ => c) 0 = 0 from rfl]; simp
    | succ m ih => rw [sg_s, ih, show ((m + 1 : Nat) : Int) = (m : Int) + 1 by omega, Int.add_mul, Int.one_mul]
  exact this _ n
theorem kre_nn {n : Nat} {R : Nat → Nat → Nat} (hR : tOK n R) (hs : isSc n R) {a b c : Nat → Int} (ha0 : a 0 = 1) (ha : mulP n R a) (hb0 : b 0 = 1) (hb : mulP n R b) (hc0 : c 0 = 1) (hc : mulP n R c) : 0 ≤ kre n R a b c := by
  have pa := ipr_pos hR hs ha0
  have pb := ipr_pos hR hs hb0
  have pc := ipr_pos hR hs hc0
  have hp := prK_pos hR hs
  have hn := hR.1
  -- the sum over all pairs
  have e1 : sg (fun x => sg (fun y => eM n R a x y * eM n R b x y * eM n R c x y) n) n = (n : Int) * ((prK n R : Int) * kre n R a b c) := by
    have := sg_pairs hR hs (fun i => (a i * shK n R i) * (b i * shK n R i) * (c i * shK n R i))
    have e : sg (fun x => sg (fun y => eM n R a x y * eM n R b x y * eM n R c x y) n) n = sg (fun x => sg (fun y => (fun i => (a i * shK n R i) * (b i * shK n R i) * (c i * shK n R i)) (R x y)) n) n := rfl
    rw [e, this]
    congr 1
    unfold kre
    rw [← sg_mul]
    refine sg_cg (fun i hi => ?_)
    have hk : (kv n R i : Int) * (shK n R i : Int) = (prK n R : Int) := by exact_mod_cast shK_k (by omega)
    rw [← hk]
    simp only [Int.mul_assoc, Int.mul_comm, Int.mul_left_comm]
  have e2 : (ipr n R a a * ipr n R b b * ipr n R c c) * sg (fun x => sg (fun y => eM n R a x y * eM n R b x y * eM n R c x y) n) n = sg (fun u => sg (fun v => sg (fun t => sg (fun x => eM n R a x u * eM n R b x v * eM n R c x t) n * sg (fun x => eM n R a x u * eM n R b x v * eM n R c x t) n) n) n) n := by
    have l1 : (ipr n R a a * ipr n R b b * ipr n R c c) * sg (fun x => sg (fun y => eM n R a x y * eM n R b x y * eM n R c x y) n) n = sg (fun x => sg (fun y => sg (fun u => sg (fun v => sg (fun t => (eM n R a x u * eM n R b x v * eM n R c x t) * (eM n R a y u * eM n R b y v * eM n R c y t)) n) n) n) n) n := by
      rw [← sg_mul]
      refine sg_cg (fun x hx => ?_)
      rw [← sg_mul]
      refine sg_cg (fun y hy => ?_)
      have q : (ipr n R a a * ipr n R b b * ipr n R c c) * (eM n R a x y * eM n R b x y * eM n R c x y) = (ipr n R a a * eM n R a x y) * (ipr n R b b * eM n R b x y) * (ipr n R c c * eM n R c x y) := by simp only [Int.mul_assoc, Int.mul_comm, Int.mul_left_comm]
      rw [q, ← eM_sq hR hs ha0 ha hx hy, ← eM_sq hR hs hb0 hb hx hy, ← eM_sq hR hs hc0 hc hx hy, sg_m3]
      refine sg_cg (fun u hu => sg_cg (fun v hv => sg_cg (fun t ht => ?_)))
      rw [eM_sy hR hu hy, eM_sy hR hv hy, eM_sy hR ht hy]
      simp only [Int.mul_assoc, Int.mul_comm, Int.mul_left_comm]
    rw [l1, sg_out]
    refine sg_cg (fun u _ => ?_)
    rw [sg_out]
    refine sg_cg (fun v _ => ?_)
    rw [sg_out]
    refine sg_cg (fun t _ => ?_)
    rw [← sg_mur]
    refine sg_cg (fun x _ => ?_)
    rw [sg_mul]
  have e3 : 0 ≤ (ipr n R a a * ipr n R b b * ipr n R c c) * ((n : Int) * ((prK n R : Int) * kre n R a b c)) := by
    rw [← e1, e2]
    exact sg_nn (fun u _ => sg_nn (fun v _ => sg_nn (fun t _ => sq_nn _)))
  have p1 : 0 < ipr n R a a * ipr n R b b * ipr n R c c := Int.mul_pos (Int.mul_pos pa pb) pc
  have p2 : 0 < (n : Int) * (prK n R : Int) := Int.mul_pos (by omega) (by omega)
  rw [← Int.mul_assoc (n : Int)] at e3
  refine Decidable.byContradiction fun q => ?_
  have q1 : (n : Int) * (prK n R : Int) * kre n R a b c < 0 := Int.mul_neg_of_pos_of_neg p2 (by omega)
  have q2 := Int.mul_neg_of_pos_of_neg p1 q1
  omega
