/-! what the class calls of Math and Integer; its own plain pieces -/
theorem x_nn (x : Int32) : (0 ≤ x) = (x.toBitVec.msb = false) := by
  apply propext
  rw [Int32.le_iff_toInt_le, BitVec.msb_eq_toInt]
  show (0 : Int) ≤ x.toBitVec.toInt ↔ _
  simp
theorem x_xor {x y : Int} (h1 : -2147483648 ≤ x) (h2 : x < 2147483648) (h3 : 0 ≤ y) (h4 : y < 2147483648) : (0 ≤ Int32.ofInt x ^^^ Int32.ofInt y) = (0 ≤ x) := by
  have e1 : (Int32.ofInt y).toBitVec.msb = false := by
    rw [← x_nn, j_0le (by omega) h4]; exact h3
  rw [x_nn, Int32.toBitVec_xor, BitVec.msb_xor, e1, Bool.xor_false, ← x_nn, j_0le h1 h2]
theorem j_tdiv {x y : Int} (h1 : -2147483648 < x) (h2 : x < 2147483648) (h3 : 0 < y) (h4 : y < 2147483648) : Int32.ofInt x / Int32.ofInt y = Int32.ofInt (x.tdiv y) := by
  apply Int32.toInt_inj.mp
  have hb : -2147483648 ≤ x.tdiv y ∧ x.tdiv y < 2147483648 := by
    have e1 : (x.tdiv y).natAbs ≤ x.natAbs := Int.natAbs_tdiv_le_natAbs x y
    omega
  rw [Int32.toInt_div_of_ne_right, j_ti (by omega) h2, j_ti (by omega) h4, j_ti hb.1 hb.2]
  intro e
  have := congrArg Int32.toInt e
  rw [j_ti (by omega) h4] at this
  have e2 : (-1 : Int32).toInt = -1 := rfl
  omega
theorem tdiv_le {x y : Int} (h3 : 0 < y) : (0 ≤ x → x.tdiv y = x / y) ∧ (x < 0 → (x.tdiv y * y = x → x.tdiv y = x / y) ∧ (¬ x.tdiv y * y = x → x.tdiv y = x / y + 1)) := by
  refine ⟨fun h => Int.tdiv_eq_ediv_of_nonneg h, fun h => ⟨fun e => ?_, fun e => ?_⟩⟩
  · have e2 : x / y = (x.tdiv y * y) / y := by rw [e]
    rw [e2, Int.mul_ediv_cancel _ (by omega)]
  · have e3 := Int.tdiv_eq_ediv (a := x) (b := y)
    have e4 : ¬ (0 ≤ x ∨ y ∣ x) := by
      rintro (q | q)
      · omega
      · exact e (Int.tdiv_mul_cancel q)
    rw [if_neg e4, Int.sign_eq_one_of_pos h3] at e3
    exact e3
set_option maxRecDepth 100000 in
set_option maxHeartbeats 4000000 in
theorem k_floorMod (B : jm_B) (l : Launch) (h : jm_H) (x : Int) (hx0 : -100000 ≤ x) (hx1 : x ≤ 100000) : jm_Ct gG B l (gm 103) [.inl (Int32.ofInt x), .inl (Int32.ofInt 3600)] h (fun v h' => h' = h ∧ v = .inl (Int32.ofInt (x % 3600))) := by
  show jm_Ct gG B l M_Math_floorMod _ _ _
  refine jm_C0 (code := k_Math_floorMod) (Or.inr (by decide +kernel)) (by decide) v_Math_floorMod rfl (Nat.le_of_ble_eq_true rfl) [some (.inl (Int32.ofInt x)), some (.inl (Int32.ofInt 3600)), none] rfl rfl ⟨20, ?_⟩
  have t := tdiv_le (x := x) (y := 3600) (by decide)
  obtain ⟨d, hd⟩ : ∃ d, x.tdiv 3600 = d := ⟨_, rfl⟩
  rw [hd] at t
  have jd : Int32.ofInt x / Int32.ofInt 3600 = Int32.ofInt d := by rw [← hd]; exact j_tdiv (by omega) (by omega) (by decide) (by decide)
  have hb : -100000 ≤ d ∧ d ≤ 100000 := by
    have e1 : (x.tdiv 3600).natAbs ≤ x.natAbs := Int.natAbs_tdiv_le_natAbs x 3600
    omega
  simp (disch := omega) only [e_Math_floorMod_0, e_Math_floorMod_1, e_Math_floorMod_2, e_Math_floorMod_3, e_Math_floorMod_4, e_Math_floorMod_5, e_Math_floorMod_6, e_Math_floorMod_7, e_Math_floorMod_8, e_Math_floorMod_9, e_Math_floorMod_10, e_Math_floorMod_11, e_Math_floorMod_12, e_Math_floorMod_13, e_Math_floorMod_14, e_Math_floorMod_15, jm_ia, jm_na, jm_qa, jm_aa, jm_asg, jm_l4, jm_Kr, jm_okv, jm_rc, jm_bo, true_and, and_true, Nat.add_zero, Nat.le_refl, j_lt, j_le, j_eq, j_lt0, j_0lt, j_le0, j_0le, j_eq0, j_add, j_sub, j_mul, j_neg, j_0sub, j_nat, j_in, j_div, j_rem, Sum.inl.injEq, exists_eq', true_or, or_true, if_true, if_false, not_true_eq_false, not_false_eq_true, implies_true, j_eq1, reduceIte, Nat.reduceEqDiff, Int.reduceEq, Int.reduceToNat, Nat.reduceAdd, Int.reduceAdd, Int.reduceSub, Int.reduceMul, Int.reduceNeg, and_false, false_and, and_self, u2r, j_b0, j_b1, Classical.not_not, eq_self, true_implies, false_implies, not_true_eq_false, not_false_eq_true, Int.reduceLT, Int.reduceLE, jd, x_xor]
  repeat' (first | intro _ | apply And.intro)
  all_goals first
    | rfl
    | omega
    | (congr 1; omega)
set_option maxRecDepth 100000 in
set_option maxHeartbeats 4000000 in
theorem k_floorDiv (B : jm_B) (l : Launch) (h : jm_H) (x y : Int) (hx0 : -100000000 ≤ x) (hx1 : x ≤ 100000000) (hy0 : 0 < y) (hy1 : y ≤ 100000) : jm_Ct gG B l (gm 102) [.inl (Int32.ofInt x), .inl (Int32.ofInt y)] h (fun v h' => h' = h ∧ v = .inl (Int32.ofInt (x / y))) := by
  show jm_Ct gG B l M_Math_floorDiv _ _ _
  refine jm_C0 (code := k_Math_floorDiv) (Or.inr (by decide +kernel)) (by decide) v_Math_floorDiv rfl (Nat.le_of_ble_eq_true rfl) [some (.inl (Int32.ofInt x)), some (.inl (Int32.ofInt y)), none] rfl rfl ⟨23, ?_⟩
  have t := tdiv_le (x := x) (y := y) hy0
  have hm : -100000000 ≤ x.tdiv y * y ∧ x.tdiv y * y ≤ 100000000 := by
    have e1 : ∀ z : Int, 0 ≤ z → 0 ≤ z.tdiv y * y ∧ z.tdiv y * y ≤ z := fun z hz => by
      rw [Int.tdiv_eq_ediv_of_nonneg hz]
      exact ⟨Int.mul_nonneg (Int.ediv_nonneg hz (by omega)) (by omega), Int.ediv_mul_le z (by omega)⟩
    by_cases hx : 0 ≤ x
    · have := e1 x hx; omega
    · have e2 := e1 (-x) (by omega)
      rw [Int.neg_tdiv, Int.neg_mul] at e2
      omega
  obtain ⟨d, hd⟩ : ∃ d, x.tdiv y = d := ⟨_, rfl⟩
  have jd : Int32.ofInt x / Int32.ofInt y = Int32.ofInt d := by rw [← hd]; exact j_tdiv (by omega) (by omega) hy0 (by omega)
  have hb : -100000000 ≤ d ∧ d ≤ 100000000 := by
    have e1 : (x.tdiv y).natAbs ≤ x.natAbs := Int.natAbs_tdiv_le_natAbs x y
    omega
  rw [hd] at t hm
  simp (disch := omega) only [e_Math_floorDiv_0, e_Math_floorDiv_1, e_Math_floorDiv_2, e_Math_floorDiv_3, e_Math_floorDiv_4, e_Math_floorDiv_5, e_Math_floorDiv_6, e_Math_floorDiv_7, e_Math_floorDiv_8, e_Math_floorDiv_9, e_Math_floorDiv_10, e_Math_floorDiv_11, e_Math_floorDiv_12, e_Math_floorDiv_13, e_Math_floorDiv_14, e_Math_floorDiv_15, e_Math_floorDiv_16, e_Math_floorDiv_17, e_Math_floorDiv_18, jm_ia, jm_na, jm_qa, jm_aa, jm_asg, jm_l4, jm_Kr, jm_okv, jm_rc, jm_bo, true_and, and_true, Nat.add_zero, Nat.le_refl, j_lt, j_le, j_eq, j_lt0, j_0lt, j_le0, j_0le, j_eq0, j_add, j_sub, j_mul, j_neg, j_0sub, j_nat, j_in, j_div, j_rem, Sum.inl.injEq, exists_eq', true_or, or_true, if_true, if_false, not_true_eq_false, not_false_eq_true, implies_true, j_eq1, reduceIte, Nat.reduceEqDiff, Int.reduceEq, Int.reduceToNat, Nat.reduceAdd, Int.reduceAdd, Int.reduceSub, Int.reduceMul, Int.reduceNeg, and_false, false_and, and_self, u2r, j_b0, j_b1, Classical.not_not, eq_self, true_implies, false_implies, not_true_eq_false, not_false_eq_true, Int.reduceLT, Int.reduceLE, jd, x_xor]
  repeat' (first | intro _ | apply And.intro)
  all_goals first
    | rfl
    | omega
    | (congr 1; omega)
theorem sgn_row : ∀ k : Fin 21, (Int32.ofInt ((k.val : Int) - 10) >>> (Int32.ofInt 31 &&& 31) ||| ((-Int32.ofInt ((k.val : Int) - 10)).toUInt32 >>> ((Int32.ofInt 31).toUInt32 &&& Int32.toUInt32 31)).toInt32) = Int32.ofInt (if 0 < (k.val : Int) - 10 then 1 else if (k.val : Int) - 10 < 0 then -1 else 0) := by decide +kernel
set_option maxRecDepth 100000 in
set_option maxHeartbeats 4000000 in
theorem k_signum (B : jm_B) (l : Launch) (h : jm_H) (x : Int) (hx0 : -10 ≤ x) (hx1 : x ≤ 10) : jm_Ct gG B l (gm 101) [.inl (Int32.ofInt x)] h (fun v h' => h' = h ∧ v = .inl (Int32.ofInt (if 0 < x then 1 else if x < 0 then -1 else 0))) := by
  show jm_Ct gG B l M_Int_signum _ _ _
  refine jm_C0 (code := k_Int_signum) (Or.inr (by decide +kernel)) (by decide) v_Int_signum rfl (Nat.le_of_ble_eq_true rfl) [some (.inl (Int32.ofInt x))] rfl rfl ⟨13, ?_⟩
  have e := sgn_row ⟨(x + 10).toNat, by omega⟩
  rw [show (((x + 10).toNat : Nat) : Int) - 10 = x by omega] at e
  simp (disch := omega) only [e_Int_signum_0, e_Int_signum_1, e_Int_signum_2, e_Int_signum_3, e_Int_signum_4, e_Int_signum_5, e_Int_signum_6, e_Int_signum_7, e_Int_signum_8, jm_ia, jm_na, jm_qa, jm_aa, jm_asg, jm_l4, jm_Kr, jm_okv, jm_rc, jm_bo, true_and, and_true, Nat.add_zero, Nat.le_refl, Sum.inl.injEq, exists_eq', true_or, or_true, if_true, if_false, not_true_eq_false, not_false_eq_true, implies_true, j_eq1, reduceIte, Nat.reduceEqDiff, Int.reduceEq, Int.reduceToNat, Nat.reduceAdd, Int.reduceAdd, Int.reduceSub, Int.reduceMul, Int.reduceNeg, and_false, false_and, and_self, u2r, j_b0, j_b1, Classical.not_not, eq_self, true_implies, false_implies, not_true_eq_false, not_false_eq_true, Int.reduceLT, Int.reduceLE]
  exact e
set_option maxRecDepth 100000 in
set_option maxHeartbeats 4000000 in
theorem k_isWithin (B : jm_B) (l : Launch) (h : jm_H) (x lo hi : Int) (xa : -2147483648 ≤ x) (xb : x < 2147483648) (loa : -2147483648 ≤ lo) (lob : lo < 2147483648) (hia : -2147483648 ≤ hi) (hib : hi < 2147483648) : jm_Ct gG B l (gm 63) [.inl (Int32.ofInt (x)), .inl (Int32.ofInt (lo)), .inl (Int32.ofInt (hi))] h (fun v h' => h' = h ∧ v = .inl (Int32.ofInt (if lo ≤ x ∧ x ≤ hi then 1 else 0))) := by
  show jm_Ct gG B l M_Site_isWithin _ _ _
  refine jm_C0 (code := k_Site_isWithin) (Or.inl (by decide)) (by decide) v_Site_isWithin rfl (Nat.le_of_ble_eq_true rfl) [some (.inl (Int32.ofInt (x))), some (.inl (Int32.ofInt (lo))), some (.inl (Int32.ofInt (hi)))] rfl rfl ⟨14, ?_⟩
  simp (disch := omega) only [e_Site_isWithin_0, e_Site_isWithin_1, e_Site_isWithin_2, e_Site_isWithin_3, e_Site_isWithin_4, e_Site_isWithin_5, e_Site_isWithin_6, e_Site_isWithin_7, e_Site_isWithin_8, e_Site_isWithin_9, jm_ia, jm_na, jm_qa, jm_aa, jm_asg, jm_l4, jm_Kr, jm_okv, jm_rc, jm_bo, true_and, and_true, Nat.add_zero, Nat.le_refl, j_lt, j_le, j_eq, j_lt0, j_0lt, j_le0, j_0le, j_eq0, j_add, j_sub, j_mul, j_neg, j_0sub, j_nat, j_in, j_div, j_rem, Sum.inl.injEq, exists_eq', true_or, or_true, if_true, if_false, not_true_eq_false, not_false_eq_true, implies_true, j_eq1]
  repeat' (first | intro _ | apply And.intro)
  all_goals first
    | exact trivial
    | rfl
    | omega
    | exact congrArg Sum.inl (bi1 (by omega)).symm
    | exact congrArg Sum.inl (bi0 (by omega)).symm
    | exact (bi1 (by omega)).symm
    | exact (bi0 (by omega)).symm
    | (rw [if_pos (by omega)]; done)
    | (rw [if_neg (by omega)]; done)
theorem k_wiW (B : jm_B) (l : Launch) (h : jm_H) (x lo hi : Int) (xa : -2147483648 ≤ x) (xb : x < 2147483648) (loa : -2147483648 ≤ lo) (lob : lo < 2147483648) (hia : -2147483648 ≤ hi) (hib : hi < 2147483648) {w : Int} (hw : Flg (lo ≤ x ∧ x ≤ hi) w) : jm_Ct gG B l (gm 63) [.inl (Int32.ofInt x), .inl (Int32.ofInt lo), .inl (Int32.ofInt hi)] h (fun v h' => h' = h ∧ v = .inl (Int32.ofInt w)) := by
  rw [← flg_i hw]
  exact k_isWithin B l h x lo hi xa xb loa lob hia hib
set_option maxRecDepth 100000 in
set_option maxHeartbeats 4000000 in
theorem k_isArc (B : jm_B) (l : Launch) (h : jm_H) (f n : Int) (fa : -2147483648 ≤ f) (fb : f < 2147483648) (na : -2147483648 ≤ n) (nb : n < 2147483648) : jm_Ct gG B l (gm 62) [.inl (Int32.ofInt (f)), .inl (Int32.ofInt (n))] h (fun v h' => h' = h ∧ v = .inl (Int32.ofInt (if (0 ≤ f ∧ f ≤ 3599) ∧ (1 ≤ n ∧ n ≤ 3599) then 1 else 0))) := by
  show jm_Ct gG B l M_Site_isArc _ _ _
  refine jm_C0 (code := k_Site_isArc) (Or.inl (by decide)) (by decide) v_Site_isArc rfl (Nat.le_of_ble_eq_true rfl) [some (.inl (Int32.ofInt (f))), some (.inl (Int32.ofInt (n)))] rfl rfl ⟨18, ?_⟩
  simp (disch := omega) only [e_Site_isArc_0, e_Site_isArc_1, e_Site_isArc_2, e_Site_isArc_3, e_Site_isArc_4, e_Site_isArc_5, e_Site_isArc_6, e_Site_isArc_7, e_Site_isArc_8, e_Site_isArc_9, e_Site_isArc_10, e_Site_isArc_11, e_Site_isArc_12, e_Site_isArc_13, jm_ia, jm_na, jm_qa, jm_aa, jm_asg, jm_l4, jm_Kr, jm_okv, jm_rc, jm_bo, true_and, and_true, Nat.add_zero, Nat.le_refl, j_lt, j_le, j_eq, j_lt0, j_0lt, j_le0, j_0le, j_eq0, j_add, j_sub, j_mul, j_neg, j_0sub, j_nat, j_in, j_div, j_rem, Sum.inl.injEq, exists_eq', true_or, or_true, if_true, if_false, not_true_eq_false, not_false_eq_true, implies_true, j_eq1, reduceIte, Nat.reduceEqDiff, Int.reduceEq, Int.reduceToNat, Nat.reduceAdd, Int.reduceAdd, Int.reduceSub, Int.reduceMul, Int.reduceNeg, and_false, false_and, and_self, u2r, j_b0, j_b1, Classical.not_not, eq_self, true_implies, false_implies, not_true_eq_false, not_false_eq_true, Int.reduceLT, Int.reduceLE]
  repeat' first
    | apply And.intro
    | (intro _)
    | (refine ⟨_, k_isWithin B l _ _ _ _ (by omega) (by omega) (by omega) (by omega) (by omega) (by omega), ?_⟩; rintro y h' ⟨rfl, hy⟩; cases hy; try simp (disch := omega) only [e_Site_isArc_0, e_Site_isArc_1, e_Site_isArc_2, e_Site_isArc_3, e_Site_isArc_4, e_Site_isArc_5, e_Site_isArc_6, e_Site_isArc_7, e_Site_isArc_8, e_Site_isArc_9, e_Site_isArc_10, e_Site_isArc_11, e_Site_isArc_12, e_Site_isArc_13, jm_ia, jm_na, jm_qa, jm_aa, jm_asg, jm_l4, jm_Kr, jm_okv, jm_rc, jm_bo, true_and, and_true, Nat.add_zero, Nat.le_refl, j_lt, j_le, j_eq, j_lt0, j_0lt, j_le0, j_0le, j_eq0, j_add, j_sub, j_mul, j_neg, j_0sub, j_nat, j_in, j_div, j_rem, Sum.inl.injEq, exists_eq', true_or, or_true, if_true, if_false, not_true_eq_false, not_false_eq_true, implies_true, j_eq1, reduceIte, Nat.reduceEqDiff, Int.reduceEq, Int.reduceToNat, Nat.reduceAdd, Int.reduceAdd, Int.reduceSub, Int.reduceMul, Int.reduceNeg, and_false, false_and, and_self, u2r, j_b0, j_b1, Classical.not_not, eq_self, true_implies, false_implies, not_true_eq_false, not_false_eq_true, Int.reduceLT, Int.reduceLE])
  repeat' (first | intro _ | apply And.intro)
  all_goals first
    | exact trivial
    | rfl
    | omega
    | exact congrArg Sum.inl (bi1 (by omega)).symm
    | exact congrArg Sum.inl (bi0 (by omega)).symm
    | exact (bi1 (by omega)).symm
    | exact (bi0 (by omega)).symm
    | (rw [if_pos (by omega)]; done)
    | (rw [if_neg (by omega)]; done)
set_option maxRecDepth 100000 in
set_option maxHeartbeats 4000000 in
theorem k_isOrder (B : jm_B) (l : Launch) (h : jm_H) (w o : Int) (wa : -2147483648 ≤ w) (wb : w < 2147483648) (oa : -2147483648 ≤ o) (ob : o < 2147483648) : jm_Ct gG B l (gm 61) [.inl (Int32.ofInt (w)), .inl (Int32.ofInt (o))] h (fun v h' => h' = h ∧ v = .inl (Int32.ofInt (if (w = 0 ∧ -10 ≤ o ∧ o ≤ 10) ∨ (w = 1 ∧ -5 ≤ o ∧ o ≤ 5) ∨ (w = 2 ∧ -20 ≤ o ∧ o ≤ 20) then 1 else 0))) := by
  show jm_Ct gG B l M_Site_isOrder _ _ _
  refine jm_C0 (code := k_Site_isOrder) (Or.inl (by decide)) (by decide) v_Site_isOrder rfl (Nat.le_of_ble_eq_true rfl) [some (.inl (Int32.ofInt (w))), some (.inl (Int32.ofInt (o)))] rfl rfl ⟨23, ?_⟩
  simp (disch := omega) only [e_Site_isOrder_0, e_Site_isOrder_1, e_Site_isOrder_2, e_Site_isOrder_3, e_Site_isOrder_4, e_Site_isOrder_5, e_Site_isOrder_6, e_Site_isOrder_7, e_Site_isOrder_8, e_Site_isOrder_9, e_Site_isOrder_10, e_Site_isOrder_11, e_Site_isOrder_12, e_Site_isOrder_13, e_Site_isOrder_14, e_Site_isOrder_15, e_Site_isOrder_16, e_Site_isOrder_17, e_Site_isOrder_18, jm_ia, jm_na, jm_qa, jm_aa, jm_asg, jm_l4, jm_Kr, jm_okv, jm_rc, jm_bo, true_and, and_true, Nat.add_zero, Nat.le_refl, j_lt, j_le, j_eq, j_lt0, j_0lt, j_le0, j_0le, j_eq0, j_add, j_sub, j_mul, j_neg, j_0sub, j_nat, j_in, j_div, j_rem, Sum.inl.injEq, exists_eq', true_or, or_true, if_true, if_false, not_true_eq_false, not_false_eq_true, implies_true, j_eq1, reduceIte, Nat.reduceEqDiff, Int.reduceEq, Int.reduceToNat, Nat.reduceAdd, Int.reduceAdd, Int.reduceSub, Int.reduceMul, Int.reduceNeg, and_false, false_and, and_self, u2r, j_b0, j_b1, Classical.not_not, eq_self, true_implies, false_implies, not_true_eq_false, not_false_eq_true, Int.reduceLT, Int.reduceLE]
  repeat' first
    | apply And.intro
    | (intro _)
    | (refine ⟨_, k_isWithin B l _ _ _ _ (by omega) (by omega) (by omega) (by omega) (by omega) (by omega), ?_⟩; rintro y h' ⟨rfl, hy⟩; cases hy; try simp (disch := omega) only [e_Site_isOrder_0, e_Site_isOrder_1, e_Site_isOrder_2, e_Site_isOrder_3, e_Site_isOrder_4, e_Site_isOrder_5, e_Site_isOrder_6, e_Site_isOrder_7, e_Site_isOrder_8, e_Site_isOrder_9, e_Site_isOrder_10, e_Site_isOrder_11, e_Site_isOrder_12, e_Site_isOrder_13, e_Site_isOrder_14, e_Site_isOrder_15, e_Site_isOrder_16, e_Site_isOrder_17, e_Site_isOrder_18, jm_ia, jm_na, jm_qa, jm_aa, jm_asg, jm_l4, jm_Kr, jm_okv, jm_rc, jm_bo, true_and, and_true, Nat.add_zero, Nat.le_refl, j_lt, j_le, j_eq, j_lt0, j_0lt, j_le0, j_0le, j_eq0, j_add, j_sub, j_mul, j_neg, j_0sub, j_nat, j_in, j_div, j_rem, Sum.inl.injEq, exists_eq', true_or, or_true, if_true, if_false, not_true_eq_false, not_false_eq_true, implies_true, j_eq1, reduceIte, Nat.reduceEqDiff, Int.reduceEq, Int.reduceToNat, Nat.reduceAdd, Int.reduceAdd, Int.reduceSub, Int.reduceMul, Int.reduceNeg, and_false, false_and, and_self, u2r, j_b0, j_b1, Classical.not_not, eq_self, true_implies, false_implies, not_true_eq_false, not_false_eq_true, Int.reduceLT, Int.reduceLE])
  repeat' (first | intro _ | apply And.intro)
  all_goals first
    | exact trivial
    | (split <;> first | (rw [if_pos (by omega)]; done) | (rw [if_neg (by omega)]; done))
    | rfl
    | omega
    | exact congrArg Sum.inl (bi1 (by omega)).symm
    | exact congrArg Sum.inl (bi0 (by omega)).symm
    | exact (bi1 (by omega)).symm
    | exact (bi0 (by omega)).symm
    | (rw [if_pos (by omega)]; done)
    | (rw [if_neg (by omega)]; done)
set_option maxRecDepth 100000 in
set_option maxHeartbeats 4000000 in
theorem k_asNumber (B : jm_B) (l : Launch) (h : jm_H) (x : Int) (hx : 0 ≤ x) (hx1 : x ≤ 1) : jm_Ct gG B l (gm 64) [.inl (Int32.ofInt (x))] h (fun v h' => h' = h ∧ v = .inl (Int32.ofInt x)) := by
  show jm_Ct gG B l M_Site_asNumber _ _ _
  refine jm_C0 (code := k_Site_asNumber) (Or.inl (by decide)) (by decide) v_Site_asNumber rfl (Nat.le_of_ble_eq_true rfl) [some (.inl (Int32.ofInt (x)))] rfl rfl ⟨10, ?_⟩
  simp (disch := omega) only [e_Site_asNumber_0, e_Site_asNumber_1, e_Site_asNumber_2, e_Site_asNumber_3, e_Site_asNumber_4, e_Site_asNumber_5, jm_ia, jm_na, jm_qa, jm_aa, jm_asg, jm_l4, jm_Kr, jm_okv, jm_rc, jm_bo, true_and, and_true, Nat.add_zero, Nat.le_refl, j_lt, j_le, j_eq, j_lt0, j_0lt, j_le0, j_0le, j_eq0, j_add, j_sub, j_mul, j_neg, j_0sub, j_nat, j_in, j_div, j_rem, Sum.inl.injEq, exists_eq', true_or, or_true, if_true, if_false, not_true_eq_false, not_false_eq_true, implies_true, j_eq1]
  repeat' (first | intro _ | apply And.intro)
  all_goals first
    | exact trivial
    | rfl
    | omega
    | exact congrArg Sum.inl (bi1 (by omega)).symm
    | exact congrArg Sum.inl (bi0 (by omega)).symm
    | exact (bi1 (by omega)).symm
    | exact (bi0 (by omega)).symm
    | (rw [if_pos (by omega)]; done)
    | (rw [if_neg (by omega)]; done)
    | (congr 1; omega)
