/-! arcs, messages, tables of the class -/
set_option maxRecDepth 100000 in
set_option maxHeartbeats 4000000 in
theorem k_has (B : jm_B) (l : Launch) (h : jm_H) (a : Nat) (hk : jm_k h a = some (.inl 0)) (f z : Int) (h0 : jm_i h a 0 = Int32.ofInt f) (h1 : jm_i h a 1 = Int32.ofInt z) (hf0 : 0 ≤ f) (hf1 : f < 3600) (hz0 : 0 ≤ z) (hz1 : z < 3600) (x : Int) (hx0 : 0 ≤ x) (hx1 : x < 3600) {w : Int} (hw : Flg (IN_ x f z) w) : jm_Ct gG B l (gm 3) [.inr (.inl (some (a))), .inl (Int32.ofInt (x))] h (fun v h' => h' = h ∧ v = .inl (Int32.ofInt w)) := by
  show jm_Ct gG B l M_Arc_has _ _ _
  refine jm_C0 (code := k_Arc_has) (Or.inl (by decide)) (by decide) v_Arc_has rfl (Nat.le_of_ble_eq_true rfl) [some (.inr (.inl (some (a)))), some (.inl (Int32.ofInt (x)))] rfl rfl ⟨17, ?_⟩
  have hw1 := flg1 hw
  have hw0 := flg01 hw
  unfold IN_ at hw1
  simp (disch := omega) only [e_Arc_has_0, e_Arc_has_1, e_Arc_has_2, e_Arc_has_3, e_Arc_has_4, e_Arc_has_5, e_Arc_has_6, e_Arc_has_7, e_Arc_has_8, e_Arc_has_9, e_Arc_has_10, e_Arc_has_11, e_Arc_has_12, jm_ia, jm_na, jm_qa, jm_aa, jm_asg, jm_l4, jm_Kr, jm_okv, jm_rc, jm_bo, true_and, and_true, Nat.add_zero, Nat.le_refl, j_lt, j_le, j_eq, j_lt0, j_0lt, j_le0, j_0le, j_eq0, j_add, j_sub, j_mul, j_neg, j_0sub, j_nat, j_in, j_div, j_rem, Sum.inl.injEq, exists_eq', true_or, or_true, if_true, if_false, not_true_eq_false, not_false_eq_true, implies_true, j_eq1, reduceIte, Nat.reduceEqDiff, Int.reduceEq, Int.reduceToNat, Nat.reduceAdd, Int.reduceAdd, Int.reduceSub, Int.reduceMul, Int.reduceNeg, and_false, false_and, and_self, u2r, j_b0, j_b1, Classical.not_not, eq_self, true_implies, false_implies, not_true_eq_false, not_false_eq_true, Int.reduceLT, Int.reduceLE, hk, h0, h1]
  repeat' first
    | apply And.intro
    | (intro _)
    | (refine ⟨_, k_floorMod B l _ _ (by omega) (by omega), ?_⟩; rintro y h' ⟨rfl, hy⟩; cases hy; try simp (disch := omega) only [e_Arc_has_0, e_Arc_has_1, e_Arc_has_2, e_Arc_has_3, e_Arc_has_4, e_Arc_has_5, e_Arc_has_6, e_Arc_has_7, e_Arc_has_8, e_Arc_has_9, e_Arc_has_10, e_Arc_has_11, e_Arc_has_12, jm_ia, jm_na, jm_qa, jm_aa, jm_asg, jm_l4, jm_Kr, jm_okv, jm_rc, jm_bo, true_and, and_true, Nat.add_zero, Nat.le_refl, j_lt, j_le, j_eq, j_lt0, j_0lt, j_le0, j_0le, j_eq0, j_add, j_sub, j_mul, j_neg, j_0sub, j_nat, j_in, j_div, j_rem, Sum.inl.injEq, exists_eq', true_or, or_true, if_true, if_false, not_true_eq_false, not_false_eq_true, implies_true, j_eq1, reduceIte, Nat.reduceEqDiff, Int.reduceEq, Int.reduceToNat, Nat.reduceAdd, Int.reduceAdd, Int.reduceSub, Int.reduceMul, Int.reduceNeg, and_false, false_and, and_self, u2r, j_b0, j_b1, Classical.not_not, eq_self, true_implies, false_implies, not_true_eq_false, not_false_eq_true, Int.reduceLT, Int.reduceLE, hk, h0, h1])
  all_goals first
    | contradiction
    | exact trivial
    | rfl
    | omega
    | exact (bi1 (by omega)).symm
    | exact (bi0 (by omega)).symm
    | exact (bi1 (by assumption)).symm
    | exact (bi0 (by assumption)).symm
    | (congr 1; unfold IN_ at hw1; omega)
    | ((try unfold IN_); (repeat (first | rw [if_pos (by omega)] | rw [if_neg (by omega)])); done)
    | ((try unfold IN_); (repeat (first | rw [if_pos (by omega)] | rw [if_neg (by omega)])); rfl)
    | ((try unfold IN_); (repeat (first | rw [if_pos (by omega)] | rw [if_neg (by omega)] | rw [if_pos (by assumption)] | rw [if_neg (by assumption)])); rfl)
set_option maxRecDepth 100000 in
set_option maxHeartbeats 4000000 in
theorem k_ahead (B : jm_B) (l : Launch) (h : jm_H) (a : Nat) (hk : jm_k h a = some (.inl 0)) (f z : Int) (h0 : jm_i h a 0 = Int32.ofInt f) (h1 : jm_i h a 1 = Int32.ofInt z) (hf0 : 0 ≤ f) (hf1 : f < 3600) (hz0 : 0 ≤ z) (hz1 : z < 3600) (x : Int) (hx0 : 0 ≤ x) (hx1 : x < 3600) (s : Int) (hs0 : -100 ≤ s) (hs1 : s ≤ 100) : jm_Ct gG B l (gm 4) [.inr (.inl (some (a))), .inl (Int32.ofInt (x)), .inl (Int32.ofInt (s))] h (fun v h' => h' = h ∧ v = .inl (Int32.ofInt (if 0 < s then (f - x) % 3600 else (x - (f + z - 1)) % 3600))) := by
  show jm_Ct gG B l M_Arc_ahead _ _ _
  refine jm_C0 (code := k_Arc_ahead) (Or.inl (by decide)) (by decide) v_Arc_ahead rfl (Nat.le_of_ble_eq_true rfl) [some (.inr (.inl (some (a)))), some (.inl (Int32.ofInt (x))), some (.inl (Int32.ofInt (s))), none] rfl rfl ⟨27, ?_⟩
  simp (disch := omega) only [e_Arc_ahead_0, e_Arc_ahead_1, e_Arc_ahead_2, e_Arc_ahead_3, e_Arc_ahead_4, e_Arc_ahead_5, e_Arc_ahead_6, e_Arc_ahead_7, e_Arc_ahead_8, e_Arc_ahead_9, e_Arc_ahead_10, e_Arc_ahead_11, e_Arc_ahead_12, e_Arc_ahead_13, e_Arc_ahead_14, e_Arc_ahead_15, e_Arc_ahead_16, e_Arc_ahead_17, e_Arc_ahead_18, e_Arc_ahead_19, e_Arc_ahead_20, e_Arc_ahead_21, e_Arc_ahead_22, jm_ia, jm_na, jm_qa, jm_aa, jm_asg, jm_l4, jm_Kr, jm_okv, jm_rc, jm_bo, true_and, and_true, Nat.add_zero, Nat.le_refl, j_lt, j_le, j_eq, j_lt0, j_0lt, j_le0, j_0le, j_eq0, j_add, j_sub, j_mul, j_neg, j_0sub, j_nat, j_in, j_div, j_rem, Sum.inl.injEq, exists_eq', true_or, or_true, if_true, if_false, not_true_eq_false, not_false_eq_true, implies_true, j_eq1, reduceIte, Nat.reduceEqDiff, Int.reduceEq, Int.reduceToNat, Nat.reduceAdd, Int.reduceAdd, Int.reduceSub, Int.reduceMul, Int.reduceNeg, and_false, false_and, and_self, u2r, j_b0, j_b1, Classical.not_not, eq_self, true_implies, false_implies, not_true_eq_false, not_false_eq_true, Int.reduceLT, Int.reduceLE, hk, h0, h1]
  repeat' first
    | apply And.intro
    | (intro _)
    | (refine ⟨_, k_floorMod B l _ _ (by omega) (by omega), ?_⟩; rintro y h' ⟨rfl, hy⟩; cases hy; try simp (disch := omega) only [e_Arc_ahead_0, e_Arc_ahead_1, e_Arc_ahead_2, e_Arc_ahead_3, e_Arc_ahead_4, e_Arc_ahead_5, e_Arc_ahead_6, e_Arc_ahead_7, e_Arc_ahead_8, e_Arc_ahead_9, e_Arc_ahead_10, e_Arc_ahead_11, e_Arc_ahead_12, e_Arc_ahead_13, e_Arc_ahead_14, e_Arc_ahead_15, e_Arc_ahead_16, e_Arc_ahead_17, e_Arc_ahead_18, e_Arc_ahead_19, e_Arc_ahead_20, e_Arc_ahead_21, e_Arc_ahead_22, jm_ia, jm_na, jm_qa, jm_aa, jm_asg, jm_l4, jm_Kr, jm_okv, jm_rc, jm_bo, true_and, and_true, Nat.add_zero, Nat.le_refl, j_lt, j_le, j_eq, j_lt0, j_0lt, j_le0, j_0le, j_eq0, j_add, j_sub, j_mul, j_neg, j_0sub, j_nat, j_in, j_div, j_rem, Sum.inl.injEq, exists_eq', true_or, or_true, if_true, if_false, not_true_eq_false, not_false_eq_true, implies_true, j_eq1, reduceIte, Nat.reduceEqDiff, Int.reduceEq, Int.reduceToNat, Nat.reduceAdd, Int.reduceAdd, Int.reduceSub, Int.reduceMul, Int.reduceNeg, and_false, false_and, and_self, u2r, j_b0, j_b1, Classical.not_not, eq_self, true_implies, false_implies, not_true_eq_false, not_false_eq_true, Int.reduceLT, Int.reduceLE, hk, h0, h1])
  all_goals first
    | contradiction
    | exact trivial
    | rfl
    | omega
    | exact (bi1 (by omega)).symm
    | exact (bi0 (by omega)).symm
    | exact (bi1 (by assumption)).symm
    | exact (bi0 (by assumption)).symm
    | ((try unfold IN_); (repeat (first | rw [if_pos (by omega)] | rw [if_neg (by omega)])); done)
    | ((try unfold IN_); (repeat (first | rw [if_pos (by omega)] | rw [if_neg (by omega)])); rfl)
    | ((try unfold IN_); (repeat (first | rw [if_pos (by omega)] | rw [if_neg (by omega)] | rw [if_pos (by assumption)] | rw [if_neg (by assumption)])); rfl)
set_option maxRecDepth 100000 in
set_option maxHeartbeats 4000000 in
theorem k_exists (B : jm_B) (l : Launch) (h : jm_H) (a : Nat) (hk : jm_k h a = some (.inl 0)) (f z : Int) (h0 : jm_i h a 0 = Int32.ofInt f) (h1 : jm_i h a 1 = Int32.ofInt z) (hf0 : 0 ≤ f) (hf1 : f < 3600) (hz0 : 0 ≤ z) (hz1 : z < 3600) : jm_Ct gG B l (gm 2) [.inr (.inl (some (a)))] h (fun v h' => h' = h ∧ v = .inl (Int32.ofInt (if 0 < z then 1 else 0))) := by
  show jm_Ct gG B l M_Arc_exists _ _ _
  refine jm_C0 (code := k_Arc_exists) (Or.inl (by decide)) (by decide) v_Arc_exists rfl (Nat.le_of_ble_eq_true rfl) [some (.inr (.inl (some (a))))] rfl rfl ⟨11, ?_⟩
  simp (disch := omega) only [e_Arc_exists_0, e_Arc_exists_1, e_Arc_exists_2, e_Arc_exists_3, e_Arc_exists_4, e_Arc_exists_5, e_Arc_exists_6, jm_ia, jm_na, jm_qa, jm_aa, jm_asg, jm_l4, jm_Kr, jm_okv, jm_rc, jm_bo, true_and, and_true, Nat.add_zero, Nat.le_refl, j_lt, j_le, j_eq, j_lt0, j_0lt, j_le0, j_0le, j_eq0, j_add, j_sub, j_mul, j_neg, j_0sub, j_nat, j_in, j_div, j_rem, Sum.inl.injEq, exists_eq', true_or, or_true, if_true, if_false, not_true_eq_false, not_false_eq_true, implies_true, j_eq1, reduceIte, Nat.reduceEqDiff, Int.reduceEq, Int.reduceToNat, Nat.reduceAdd, Int.reduceAdd, Int.reduceSub, Int.reduceMul, Int.reduceNeg, and_false, false_and, and_self, u2r, j_b0, j_b1, Classical.not_not, eq_self, true_implies, false_implies, not_true_eq_false, not_false_eq_true, Int.reduceLT, Int.reduceLE, hk, h0, h1]
  repeat' first
    | apply And.intro
    | (intro _)
  all_goals first
    | contradiction
    | exact trivial
    | rfl
    | omega
    | exact (bi1 (by omega)).symm
    | exact (bi0 (by omega)).symm
    | exact (bi1 (by assumption)).symm
    | exact (bi0 (by assumption)).symm
    | ((try unfold IN_); (repeat (first | rw [if_pos (by omega)] | rw [if_neg (by omega)])); done)
    | ((try unfold IN_); (repeat (first | rw [if_pos (by omega)] | rw [if_neg (by omega)])); rfl)
    | ((try unfold IN_); (repeat (first | rw [if_pos (by omega)] | rw [if_neg (by omega)] | rw [if_pos (by assumption)] | rw [if_neg (by assumption)])); rfl)
set_option maxRecDepth 100000 in
set_option maxHeartbeats 4000000 in
theorem k_lay (B : jm_B) (l : Launch) (h : jm_H) (a : Nat) (hk : jm_k h a = some (.inl 0)) (f z : Int) : jm_Ct gG B l (gm 1) [.inr (.inl (some (a))), .inl (Int32.ofInt (f)), .inl (Int32.ofInt (z))] h (fun v h' => h' = jm_si (jm_si h a 0 (Int32.ofInt f)) a 1 (Int32.ofInt z)) := by
  show jm_Ct gG B l M_Arc_lay _ _ _
  refine jm_C0 (code := k_Arc_lay) (Or.inl (by decide)) (by decide) v_Arc_lay rfl (Nat.le_of_ble_eq_true rfl) [some (.inr (.inl (some (a)))), some (.inl (Int32.ofInt (f))), some (.inl (Int32.ofInt (z)))] rfl rfl ⟨11, ?_⟩
  simp (disch := omega) only [e_Arc_lay_0, e_Arc_lay_1, e_Arc_lay_2, e_Arc_lay_3, e_Arc_lay_4, e_Arc_lay_5, e_Arc_lay_6, jm_ia, jm_na, jm_qa, jm_aa, jm_asg, jm_l4, jm_Kr, jm_okv, jm_rc, jm_bo, true_and, and_true, Nat.add_zero, Nat.le_refl, j_lt, j_le, j_eq, j_lt0, j_0lt, j_le0, j_0le, j_eq0, j_add, j_sub, j_mul, j_neg, j_0sub, j_nat, j_in, j_div, j_rem, Sum.inl.injEq, exists_eq', true_or, or_true, if_true, if_false, not_true_eq_false, not_false_eq_true, implies_true, j_eq1, reduceIte, Nat.reduceEqDiff, Int.reduceEq, Int.reduceToNat, Nat.reduceAdd, Int.reduceAdd, Int.reduceSub, Int.reduceMul, Int.reduceNeg, and_false, false_and, and_self, u2r, j_b0, j_b1, Classical.not_not, eq_self, true_implies, false_implies, not_true_eq_false, not_false_eq_true, Int.reduceLT, Int.reduceLE, hk, kk_si]
  repeat' first
    | apply And.intro
    | (intro _)
  all_goals first
    | contradiction
    | exact trivial
    | rfl
    | omega
    | exact (bi1 (by omega)).symm
    | exact (bi0 (by omega)).symm
    | exact (bi1 (by assumption)).symm
    | exact (bi0 (by assumption)).symm
    | ((try unfold IN_); (repeat (first | rw [if_pos (by omega)] | rw [if_neg (by omega)])); done)
    | ((try unfold IN_); (repeat (first | rw [if_pos (by omega)] | rw [if_neg (by omega)])); rfl)
    | ((try unfold IN_); (repeat (first | rw [if_pos (by omega)] | rw [if_neg (by omega)] | rw [if_pos (by assumption)] | rw [if_neg (by assumption)])); rfl)
set_option maxRecDepth 100000 in
set_option maxHeartbeats 4000000 in
theorem kc_Arc_init (B : jm_B) (l : Launch) (h : jm_H) (a : Nat) (hk : jm_k h a = some (.inl 0)) : jm_Ct gG B l (gm 0) [.inr (.inl (some (a)))] h (fun v h' => h' = jm_si h a 2 (Int32.ofInt 1)) := by
  show jm_Ct gG B l M_Arc_init _ _ _
  refine jm_C0 (code := k_Arc_init) (Or.inl (by decide)) (by decide) v_Arc_init rfl (Nat.le_of_ble_eq_true rfl) [some (.inr (.inl (some (a))))] rfl rfl ⟨10, ?_⟩
  simp (disch := omega) only [e_Arc_init_0, e_Arc_init_1, e_Arc_init_2, e_Arc_init_3, e_Arc_init_4, e_Arc_init_5, jm_ia, jm_na, jm_qa, jm_aa, jm_asg, jm_l4, jm_Kr, jm_okv, jm_rc, jm_bo, true_and, and_true, Nat.add_zero, Nat.le_refl, j_lt, j_le, j_eq, j_lt0, j_0lt, j_le0, j_0le, j_eq0, j_add, j_sub, j_mul, j_neg, j_0sub, j_nat, j_in, j_div, j_rem, Sum.inl.injEq, exists_eq', true_or, or_true, if_true, if_false, not_true_eq_false, not_false_eq_true, implies_true, j_eq1, reduceIte, Nat.reduceEqDiff, Int.reduceEq, Int.reduceToNat, Nat.reduceAdd, Int.reduceAdd, Int.reduceSub, Int.reduceMul, Int.reduceNeg, and_false, false_and, and_self, u2r, j_b0, j_b1, Classical.not_not, eq_self, true_implies, false_implies, not_true_eq_false, not_false_eq_true, Int.reduceLT, Int.reduceLE, hk, kk_si]
  repeat' first
    | apply And.intro
    | (intro _)
  all_goals first
    | contradiction
    | exact trivial
    | rfl
    | omega
    | exact (bi1 (by omega)).symm
    | exact (bi0 (by omega)).symm
    | exact (bi1 (by assumption)).symm
    | exact (bi0 (by assumption)).symm
    | ((try unfold IN_); (repeat (first | rw [if_pos (by omega)] | rw [if_neg (by omega)])); done)
    | ((try unfold IN_); (repeat (first | rw [if_pos (by omega)] | rw [if_neg (by omega)])); rfl)
    | ((try unfold IN_); (repeat (first | rw [if_pos (by omega)] | rw [if_neg (by omega)] | rw [if_pos (by assumption)] | rw [if_neg (by assumption)])); rfl)
set_option maxRecDepth 100000 in
set_option maxHeartbeats 4000000 in
theorem kc_Msg_init (B : jm_B) (l : Launch) (h : jm_H) (a : Nat) (hk : jm_k h a = some (.inl 6)) : jm_Ct gG B l (gm 43) [.inr (.inl (some (a)))] h (fun v h' => h' = h) := by
  show jm_Ct gG B l M_Msg_init _ _ _
  refine jm_C0 (code := k_Msg_init) (Or.inl (by decide)) (by decide) v_Msg_init rfl (Nat.le_of_ble_eq_true rfl) [some (.inr (.inl (some (a))))] rfl rfl ⟨7, ?_⟩
  simp (disch := omega) only [e_Msg_init_0, e_Msg_init_1, e_Msg_init_2, jm_ia, jm_na, jm_qa, jm_aa, jm_asg, jm_l4, jm_Kr, jm_okv, jm_rc, jm_bo, true_and, and_true, Nat.add_zero, Nat.le_refl, j_lt, j_le, j_eq, j_lt0, j_0lt, j_le0, j_0le, j_eq0, j_add, j_sub, j_mul, j_neg, j_0sub, j_nat, j_in, j_div, j_rem, Sum.inl.injEq, exists_eq', true_or, or_true, if_true, if_false, not_true_eq_false, not_false_eq_true, implies_true, j_eq1, reduceIte, Nat.reduceEqDiff, Int.reduceEq, Int.reduceToNat, Nat.reduceAdd, Int.reduceAdd, Int.reduceSub, Int.reduceMul, Int.reduceNeg, and_false, false_and, and_self, u2r, j_b0, j_b1, Classical.not_not, eq_self, true_implies, false_implies, not_true_eq_false, not_false_eq_true, Int.reduceLT, Int.reduceLE, hk]
  repeat' first
    | apply And.intro
    | (intro _)
  all_goals first
    | contradiction
    | exact trivial
    | rfl
    | omega
    | exact (bi1 (by omega)).symm
    | exact (bi0 (by omega)).symm
    | exact (bi1 (by assumption)).symm
    | exact (bi0 (by assumption)).symm
    | ((try unfold IN_); (repeat (first | rw [if_pos (by omega)] | rw [if_neg (by omega)])); done)
    | ((try unfold IN_); (repeat (first | rw [if_pos (by omega)] | rw [if_neg (by omega)])); rfl)
    | ((try unfold IN_); (repeat (first | rw [if_pos (by omega)] | rw [if_neg (by omega)] | rw [if_pos (by assumption)] | rw [if_neg (by assumption)])); rfl)
set_option maxRecDepth 100000 in
set_option maxHeartbeats 4000000 in
theorem k_write (B : jm_B) (l : Launch) (h : jm_H) (a : Nat) (hk : jm_k h a = some (.inl 6)) (p k s : Int) : jm_Ct gG B l (gm 45) [.inr (.inl (some (a))), .inl (Int32.ofInt (p)), .inl (Int32.ofInt (k)), .inl (Int32.ofInt (s))] h (fun v h' => h' = jm_si (jm_si (jm_si h a 0 (Int32.ofInt p)) a 1 (Int32.ofInt k)) a 2 (Int32.ofInt s)) := by
  show jm_Ct gG B l M_Msg_write _ _ _
  refine jm_C0 (code := k_Msg_write) (Or.inl (by decide)) (by decide) v_Msg_write rfl (Nat.le_of_ble_eq_true rfl) [some (.inr (.inl (some (a)))), some (.inl (Int32.ofInt (p))), some (.inl (Int32.ofInt (k))), some (.inl (Int32.ofInt (s)))] rfl rfl ⟨14, ?_⟩
  simp (disch := omega) only [e_Msg_write_0, e_Msg_write_1, e_Msg_write_2, e_Msg_write_3, e_Msg_write_4, e_Msg_write_5, e_Msg_write_6, e_Msg_write_7, e_Msg_write_8, e_Msg_write_9, jm_ia, jm_na, jm_qa, jm_aa, jm_asg, jm_l4, jm_Kr, jm_okv, jm_rc, jm_bo, true_and, and_true, Nat.add_zero, Nat.le_refl, j_lt, j_le, j_eq, j_lt0, j_0lt, j_le0, j_0le, j_eq0, j_add, j_sub, j_mul, j_neg, j_0sub, j_nat, j_in, j_div, j_rem, Sum.inl.injEq, exists_eq', true_or, or_true, if_true, if_false, not_true_eq_false, not_false_eq_true, implies_true, j_eq1, reduceIte, Nat.reduceEqDiff, Int.reduceEq, Int.reduceToNat, Nat.reduceAdd, Int.reduceAdd, Int.reduceSub, Int.reduceMul, Int.reduceNeg, and_false, false_and, and_self, u2r, j_b0, j_b1, Classical.not_not, eq_self, true_implies, false_implies, not_true_eq_false, not_false_eq_true, Int.reduceLT, Int.reduceLE, hk, kk_si]
  repeat' first
    | apply And.intro
    | (intro _)
  all_goals first
    | contradiction
    | exact trivial
    | rfl
    | omega
    | exact (bi1 (by omega)).symm
    | exact (bi0 (by omega)).symm
    | exact (bi1 (by assumption)).symm
    | exact (bi0 (by assumption)).symm
    | ((try unfold IN_); (repeat (first | rw [if_pos (by omega)] | rw [if_neg (by omega)])); done)
    | ((try unfold IN_); (repeat (first | rw [if_pos (by omega)] | rw [if_neg (by omega)])); rfl)
    | ((try unfold IN_); (repeat (first | rw [if_pos (by omega)] | rw [if_neg (by omega)] | rw [if_pos (by assumption)] | rw [if_neg (by assumption)])); rfl)
set_option maxRecDepth 100000 in
set_option maxHeartbeats 4000000 in
theorem k_forAsker (B : jm_B) (l : Launch) (h : jm_H) (a : Nat) (hk : jm_k h a = some (.inl 6)) (k : Int) (h1 : jm_i h a 1 = Int32.ofInt k) (hk0 : 0 ≤ k) (hk1 : k ≤ 4) : jm_Ct gG B l (gm 44) [.inr (.inl (some (a)))] h (fun v h' => h' = h ∧ v = .inl (Int32.ofInt (if 3 ≤ k then 1 else 0))) := by
  show jm_Ct gG B l M_Msg_isForAsker _ _ _
  refine jm_C0 (code := k_Msg_isForAsker) (Or.inl (by decide)) (by decide) v_Msg_isForAsker rfl (Nat.le_of_ble_eq_true rfl) [some (.inr (.inl (some (a))))] rfl rfl ⟨16, ?_⟩
  simp (disch := omega) only [e_Msg_isForAsker_0, e_Msg_isForAsker_1, e_Msg_isForAsker_2, e_Msg_isForAsker_3, e_Msg_isForAsker_4, e_Msg_isForAsker_5, e_Msg_isForAsker_6, e_Msg_isForAsker_7, e_Msg_isForAsker_8, e_Msg_isForAsker_9, e_Msg_isForAsker_10, e_Msg_isForAsker_11, jm_ia, jm_na, jm_qa, jm_aa, jm_asg, jm_l4, jm_Kr, jm_okv, jm_rc, jm_bo, true_and, and_true, Nat.add_zero, Nat.le_refl, j_lt, j_le, j_eq, j_lt0, j_0lt, j_le0, j_0le, j_eq0, j_add, j_sub, j_mul, j_neg, j_0sub, j_nat, j_in, j_div, j_rem, Sum.inl.injEq, exists_eq', true_or, or_true, if_true, if_false, not_true_eq_false, not_false_eq_true, implies_true, j_eq1, reduceIte, Nat.reduceEqDiff, Int.reduceEq, Int.reduceToNat, Nat.reduceAdd, Int.reduceAdd, Int.reduceSub, Int.reduceMul, Int.reduceNeg, and_false, false_and, and_self, u2r, j_b0, j_b1, Classical.not_not, eq_self, true_implies, false_implies, not_true_eq_false, not_false_eq_true, Int.reduceLT, Int.reduceLE, hk, h1]
  repeat' first
    | apply And.intro
    | (intro _)
  all_goals first
    | contradiction
    | exact trivial
    | rfl
    | omega
    | exact (bi1 (by omega)).symm
    | exact (bi0 (by omega)).symm
    | exact (bi1 (by assumption)).symm
    | exact (bi0 (by assumption)).symm
    | ((try unfold IN_); (repeat (first | rw [if_pos (by omega)] | rw [if_neg (by omega)])); done)
    | ((try unfold IN_); (repeat (first | rw [if_pos (by omega)] | rw [if_neg (by omega)])); rfl)
    | ((try unfold IN_); (repeat (first | rw [if_pos (by omega)] | rw [if_neg (by omega)] | rw [if_pos (by assumption)] | rw [if_neg (by assumption)])); rfl)
set_option maxRecDepth 100000 in
set_option maxHeartbeats 4000000 in
theorem k_isFull (B : jm_B) (l : Launch) (h : jm_H) (ac : Nat) (κ : S_) (μ : M_) (H : RC B ac h) (n : Nat) (hn : n < 3) {m f : Int} (hB : BB m f κ) (hS : SS κ) : jm_Ct gG B l (gm 38) [.inr (.inl (some ((ac + (39 + 5 * n)))))] (cs h ac κ μ) (fun v h' => h' = cs h ac κ μ ∧ v = .inl (Int32.ofInt (if κ 7 n = 8 then 1 else 0))) := by
  show jm_Ct gG B l M_Table_isFull _ _ _
  refine jm_C0 (code := k_Table_isFull) (Or.inl (by decide)) (by decide) v_Table_isFull rfl (Nat.le_of_ble_eq_true rfl) [some (.inr (.inl (some ((ac + (39 + 5 * n))))))] rfl rfl ⟨12, ?_⟩
  have b : 0 ≤ κ 7 n ∧ κ 7 n ≤ 8 := hB 7 n
  simp (disch := omega) only [e_Table_isFull_0, e_Table_isFull_1, e_Table_isFull_2, e_Table_isFull_3, e_Table_isFull_4, e_Table_isFull_5, e_Table_isFull_6, e_Table_isFull_7, jm_ia, jm_na, jm_qa, jm_aa, jm_asg, jm_l4, jm_Kr, jm_okv, jm_rc, jm_bo, true_and, and_true, Nat.add_zero, Nat.le_refl, j_lt, j_le, j_eq, j_lt0, j_0lt, j_le0, j_0le, j_eq0, j_add, j_sub, j_mul, j_neg, j_0sub, j_nat, j_in, j_div, j_rem, Sum.inl.injEq, exists_eq', true_or, or_true, if_true, if_false, not_true_eq_false, not_false_eq_true, implies_true, j_eq1, reduceIte, Nat.reduceEqDiff, Int.reduceEq, Int.reduceToNat, Nat.reduceAdd, Int.reduceAdd, Int.reduceSub, Int.reduceMul, Int.reduceNeg, and_false, false_and, and_self, u2r, j_b0, j_b1, Classical.not_not, eq_self, true_implies, false_implies, not_true_eq_false, not_false_eq_true, Int.reduceLT, Int.reduceLE, ck, cn, ck0 H, ck1 H, ck2 H, ck3 H, ck4 H, ck5 H, ck6 H, ck7 H, ck8 H, ck9 H, ck10 H, ck11 H, ck12 H, ck13 H, ck14 H, ck15 H, ck16 H, ck17 H, ck18 H, cr0 H, cr1 H, cr2 H, cr3 H, cr4 H, cr5 H, cr6 H, cr7 H, cr8 H, cr9 H, cr10 H, cr11 H, cr12 H, cr13 H, cr14 H, cr15 H, cr16 H, i_s4, i_b3, i_b4, i_b5, i_b6, i_b7, i_b8, i_b9, i_c2, i_c3, i_c4, i_c5, i_c6, i_c7, i_c8, i_c9, i_c10, i_c11, i_t2, i_k0, i_k2, i_k3, i_k4, i_k5, i_ka0, i_ka1, i_ka2, i_a0, i_a2, i_a3, i_a4, i_aa0, i_aa1, i_aa2, i_o0, i_o1, i_o2, i_f, i_u, i_rd, i_ld, w_s4, w_b3, w_b4, w_b5, w_b6, w_b7, w_b8, w_b9, w_c2, w_c3, w_c4, w_c5, w_c6, w_c7, w_c8, w_c9, w_c10, w_c11, w_t2, w_k0, w_k2, w_k3, w_k4, w_k5, w_ka0, w_ka1, w_ka2, w_a0, w_a2, w_a3, w_a4, w_aa0, w_aa1, w_aa2, w_o0, w_o1, w_o2, w_f, w_u, w_rd, w_ld, csk0 H, csk1 H, csi0 H, csi1 H, cr, wr]
  repeat' first
    | apply And.intro
    | (intro _)
  all_goals first
    | contradiction
    | exact trivial
    | rfl
    | omega
    | exact (bi1 (by omega)).symm
    | exact (bi0 (by omega)).symm
    | exact (bi1 (by assumption)).symm
    | exact (bi0 (by assumption)).symm
    | ((try unfold IN_); (repeat (first | rw [if_pos (by omega)] | rw [if_neg (by omega)])); done)
    | ((try unfold IN_); (repeat (first | rw [if_pos (by omega)] | rw [if_neg (by omega)])); rfl)
    | ((try unfold IN_); (repeat (first | rw [if_pos (by omega)] | rw [if_neg (by omega)] | rw [if_pos (by assumption)] | rw [if_neg (by assumption)])); rfl)
set_option maxRecDepth 100000 in
set_option maxHeartbeats 4000000 in
theorem k_rises (B : jm_B) (l : Launch) (h : jm_H) (ac : Nat) (κ : S_) (μ : M_) (H : RC B ac h) (n : Nat) (hn : n < 3) {m f : Int} (hB : BB m f κ) (hS : SS κ) (r : Int) (hr0 : 0 ≤ r) (hr1 : r ≤ 6000) {w : Int} (hw : Flg (κ 7 n = 0 ∨ κ 8 ((n : Int) * 8 + κ 7 n - 1).toNat < r) w) : jm_Ct gG B l (gm 39) [.inr (.inl (some ((ac + (39 + 5 * n))))), .inl (Int32.ofInt (r))] (cs h ac κ μ) (fun v h' => h' = cs h ac κ μ ∧ v = .inl (Int32.ofInt w)) := by
  show jm_Ct gG B l M_Table_risesWith _ _ _
  refine jm_C0 (code := k_Table_risesWith) (Or.inl (by decide)) (by decide) v_Table_risesWith rfl (Nat.le_of_ble_eq_true rfl) [some (.inr (.inl (some ((ac + (39 + 5 * n)))))), some (.inl (Int32.ofInt (r)))] rfl rfl ⟨20, ?_⟩
  have b : 0 ≤ κ 7 n ∧ κ 7 n ≤ 8 := hB 7 n
  have hw1 := flg1 hw
  have hw0 := flg01 hw
  have e1 : ¬ κ 7 n = 0 → κ 8 (8 * n + (κ 7 n - 1).toNat) = κ 8 ((n : Int) * 8 + κ 7 n - 1).toNat := fun q => by rw [show ((n : Int) * 8 + κ 7 n - 1).toNat = 8 * n + (κ 7 n - 1).toNat by omega]
  have e2 : 0 ≤ κ 8 (8 * n + (κ 7 n - 1).toNat) ∧ κ 8 (8 * n + (κ 7 n - 1).toNat) ≤ 6000 := hB 8 _
  simp (disch := omega) only [e_Table_risesWith_0, e_Table_risesWith_1, e_Table_risesWith_2, e_Table_risesWith_3, e_Table_risesWith_4, e_Table_risesWith_5, e_Table_risesWith_6, e_Table_risesWith_7, e_Table_risesWith_8, e_Table_risesWith_9, e_Table_risesWith_10, e_Table_risesWith_11, e_Table_risesWith_12, e_Table_risesWith_13, e_Table_risesWith_14, e_Table_risesWith_15, jm_ia, jm_na, jm_qa, jm_aa, jm_asg, jm_l4, jm_Kr, jm_okv, jm_rc, jm_bo, true_and, and_true, Nat.add_zero, Nat.le_refl, j_lt, j_le, j_eq, j_lt0, j_0lt, j_le0, j_0le, j_eq0, j_add, j_sub, j_mul, j_neg, j_0sub, j_nat, j_in, j_div, j_rem, Sum.inl.injEq, exists_eq', true_or, or_true, if_true, if_false, not_true_eq_false, not_false_eq_true, implies_true, j_eq1, reduceIte, Nat.reduceEqDiff, Int.reduceEq, Int.reduceToNat, Nat.reduceAdd, Int.reduceAdd, Int.reduceSub, Int.reduceMul, Int.reduceNeg, and_false, false_and, and_self, u2r, j_b0, j_b1, Classical.not_not, eq_self, true_implies, false_implies, not_true_eq_false, not_false_eq_true, Int.reduceLT, Int.reduceLE, ck, cn, ck0 H, ck1 H, ck2 H, ck3 H, ck4 H, ck5 H, ck6 H, ck7 H, ck8 H, ck9 H, ck10 H, ck11 H, ck12 H, ck13 H, ck14 H, ck15 H, ck16 H, ck17 H, ck18 H, cr0 H, cr1 H, cr2 H, cr3 H, cr4 H, cr5 H, cr6 H, cr7 H, cr8 H, cr9 H, cr10 H, cr11 H, cr12 H, cr13 H, cr14 H, cr15 H, cr16 H, i_s4, i_b3, i_b4, i_b5, i_b6, i_b7, i_b8, i_b9, i_c2, i_c3, i_c4, i_c5, i_c6, i_c7, i_c8, i_c9, i_c10, i_c11, i_t2, i_k0, i_k2, i_k3, i_k4, i_k5, i_ka0, i_ka1, i_ka2, i_a0, i_a2, i_a3, i_a4, i_aa0, i_aa1, i_aa2, i_o0, i_o1, i_o2, i_f, i_u, i_rd, i_ld, w_s4, w_b3, w_b4, w_b5, w_b6, w_b7, w_b8, w_b9, w_c2, w_c3, w_c4, w_c5, w_c6, w_c7, w_c8, w_c9, w_c10, w_c11, w_t2, w_k0, w_k2, w_k3, w_k4, w_k5, w_ka0, w_ka1, w_ka2, w_a0, w_a2, w_a3, w_a4, w_aa0, w_aa1, w_aa2, w_o0, w_o1, w_o2, w_f, w_u, w_rd, w_ld, csk0 H, csk1 H, csi0 H, csi1 H, cr, wr]
  repeat' first
    | apply And.intro
    | (intro _)
  all_goals (try simp (disch := omega) only [j_nat, i_rd, j_lt, j_le] at *)
  all_goals first
    | contradiction
    | exact trivial
    | rfl
    | omega
    | exact (bi1 (by omega)).symm
    | exact (bi0 (by omega)).symm
    | exact (bi1 (by assumption)).symm
    | exact (bi0 (by assumption)).symm
    | (congr 1; omega)
    | ((try unfold IN_); (repeat (first | rw [if_pos (by omega)] | rw [if_neg (by omega)])); done)
    | ((try unfold IN_); (repeat (first | rw [if_pos (by omega)] | rw [if_neg (by omega)])); rfl)
    | ((try unfold IN_); (repeat (first | rw [if_pos (by omega)] | rw [if_neg (by omega)] | rw [if_pos (by assumption)] | rw [if_neg (by assumption)])); rfl)
set_option maxRecDepth 100000 in
set_option maxHeartbeats 4000000 in
theorem k_add (B : jm_B) (l : Launch) (h : jm_H) (ac : Nat) (κ : S_) (μ : M_) (H : RC B ac h) (n : Nat) (hn : n < 3) {m f : Int} (hB : BB m f κ) (hS : SS κ) (r k : Int) (hc : κ 7 n < 8) : jm_Ct gG B l (gm 40) [.inr (.inl (some ((ac + (39 + 5 * n))))), .inl (Int32.ofInt (r)), .inl (Int32.ofInt (k))] (cs h ac κ μ) (fun v h' => h' = cs h ac (jm_u2 (jm_u2 (jm_u2 κ 8 ((n : Int) * 8 + κ 7 n).toNat r) 9 ((n : Int) * 8 + κ 7 n).toNat k) 7 n (κ 7 n + 1)) μ) := by
  show jm_Ct gG B l M_Table_add _ _ _
  refine jm_C0 (code := k_Table_add) (Or.inl (by decide)) (by decide) v_Table_add rfl (Nat.le_of_ble_eq_true rfl) [some (.inr (.inl (some ((ac + (39 + 5 * n)))))), some (.inl (Int32.ofInt (r))), some (.inl (Int32.ofInt (k)))] rfl rfl ⟨23, ?_⟩
  have b : 0 ≤ κ 7 n ∧ κ 7 n ≤ 8 := hB 7 n
  have e1 : ((n : Int) * 8 + κ 7 n).toNat = 8 * n + (κ 7 n).toNat := by omega
  rw [e1]
  simp (disch := omega) only [e_Table_add_0, e_Table_add_1, e_Table_add_2, e_Table_add_3, e_Table_add_4, e_Table_add_5, e_Table_add_6, e_Table_add_7, e_Table_add_8, e_Table_add_9, e_Table_add_10, e_Table_add_11, e_Table_add_12, e_Table_add_13a, e_Table_add_13b, e_Table_add_14, e_Table_add_15, e_Table_add_16, e_Table_add_17, e_Table_add_18, jm_ia, jm_na, jm_qa, jm_aa, jm_asg, jm_l4, jm_Kr, jm_okv, jm_rc, jm_bo, true_and, and_true, Nat.add_zero, Nat.le_refl, j_lt, j_le, j_eq, j_lt0, j_0lt, j_le0, j_0le, j_eq0, j_add, j_sub, j_mul, j_neg, j_0sub, j_nat, j_in, j_div, j_rem, Sum.inl.injEq, exists_eq', true_or, or_true, if_true, if_false, not_true_eq_false, not_false_eq_true, implies_true, j_eq1, reduceIte, Nat.reduceEqDiff, Int.reduceEq, Int.reduceToNat, Nat.reduceAdd, Int.reduceAdd, Int.reduceSub, Int.reduceMul, Int.reduceNeg, and_false, false_and, and_self, u2r, j_b0, j_b1, Classical.not_not, eq_self, true_implies, false_implies, not_true_eq_false, not_false_eq_true, Int.reduceLT, Int.reduceLE, ck, cn, ck0 H, ck1 H, ck2 H, ck3 H, ck4 H, ck5 H, ck6 H, ck7 H, ck8 H, ck9 H, ck10 H, ck11 H, ck12 H, ck13 H, ck14 H, ck15 H, ck16 H, ck17 H, ck18 H, cr0 H, cr1 H, cr2 H, cr3 H, cr4 H, cr5 H, cr6 H, cr7 H, cr8 H, cr9 H, cr10 H, cr11 H, cr12 H, cr13 H, cr14 H, cr15 H, cr16 H, i_s4, i_b3, i_b4, i_b5, i_b6, i_b7, i_b8, i_b9, i_c2, i_c3, i_c4, i_c5, i_c6, i_c7, i_c8, i_c9, i_c10, i_c11, i_t2, i_k0, i_k2, i_k3, i_k4, i_k5, i_ka0, i_ka1, i_ka2, i_a0, i_a2, i_a3, i_a4, i_aa0, i_aa1, i_aa2, i_o0, i_o1, i_o2, i_f, i_u, i_rd, i_ld, w_s4, w_b3, w_b4, w_b5, w_b6, w_b7, w_b8, w_b9, w_c2, w_c3, w_c4, w_c5, w_c6, w_c7, w_c8, w_c9, w_c10, w_c11, w_t2, w_k0, w_k2, w_k3, w_k4, w_k5, w_ka0, w_ka1, w_ka2, w_a0, w_a2, w_a3, w_a4, w_aa0, w_aa1, w_aa2, w_o0, w_o1, w_o2, w_f, w_u, w_rd, w_ld, csk0 H, csk1 H, csi0 H, csi1 H, cr, wr]
  repeat' first
    | apply And.intro
    | (intro _)
  all_goals first
    | contradiction
    | exact trivial
    | rfl
    | omega
    | exact (bi1 (by omega)).symm
    | exact (bi0 (by omega)).symm
    | exact (bi1 (by assumption)).symm
    | exact (bi0 (by assumption)).symm
    | ((try unfold IN_); (repeat (first | rw [if_pos (by omega)] | rw [if_neg (by omega)])); done)
    | ((try unfold IN_); (repeat (first | rw [if_pos (by omega)] | rw [if_neg (by omega)])); rfl)
    | ((try unfold IN_); (repeat (first | rw [if_pos (by omega)] | rw [if_neg (by omega)] | rw [if_pos (by assumption)] | rw [if_neg (by assumption)])); rfl)
set_option maxRecDepth 100000 in
set_option maxHeartbeats 4000000 in
theorem k_onLine (B : jm_B) (l : Launch) (h : jm_H) (ac : Nat) (κ : S_) (μ : M_) (H : RC B ac h) (n : Nat) (hn : n < 3) {m f : Int} (hB : BB m f κ) (hS : SS κ) (i r : Int) (hi0 : 1 ≤ i) (hi1 : i < κ 7 n) (hr0 : κ 8 (8 * n + (i - 1).toNat) < r) (hr1 : r ≤ κ 8 (8 * n + i.toNat)) : jm_Ct gG B l (gm 42) [.inr (.inl (some ((ac + (39 + 5 * n))))), .inl (Int32.ofInt (i)), .inl (Int32.ofInt (r))] (cs h ac κ μ) (fun v h' => h' = cs h ac κ μ ∧ v = .inl (Int32.ofInt (lineS κ ((n : Int) * 8) i r))) := by
  show jm_Ct gG B l M_Table_onLineTo _ _ _
  refine jm_C0 (code := k_Table_onLineTo) (Or.inl (by decide)) (by decide) v_Table_onLineTo rfl (Nat.le_of_ble_eq_true rfl) [some (.inr (.inl (some ((ac + (39 + 5 * n)))))), some (.inl (Int32.ofInt (i))), some (.inl (Int32.ofInt (r))), none, none] rfl rfl ⟨55, ?_⟩
  have b : 0 ≤ κ 7 n ∧ κ 7 n ≤ 8 := hB 7 n
  have c1 : 0 ≤ κ 8 (8 * n + i.toNat) ∧ κ 8 (8 * n + i.toNat) ≤ 6000 := hB 8 _
  have c2 : 0 ≤ κ 8 (8 * n + (i - 1).toNat) ∧ κ 8 (8 * n + (i - 1).toNat) ≤ 6000 := hB 8 _
  have c3 : 0 ≤ κ 9 (8 * n + i.toNat) ∧ κ 9 (8 * n + i.toNat) ≤ 1000 := hB 9 _
  have c4 : 0 ≤ κ 9 (8 * n + (i - 1).toNat) ∧ κ 9 (8 * n + (i - 1).toNat) ≤ 1000 := hB 9 _
  have e1 : lineS κ ((n : Int) * 8) i r = κ 9 (8 * n + (i - 1).toNat) + ((κ 9 (8 * n + i.toNat) - κ 9 (8 * n + (i - 1).toNat)) * (r - κ 8 (8 * n + (i - 1).toNat))) / (κ 8 (8 * n + i.toNat) - κ 8 (8 * n + (i - 1).toNat)) := by
    unfold lineS
    rw [show ((n : Int) * 8 + i).toNat = 8 * n + i.toNat by omega, show ((n : Int) * 8 + i - 1).toNat = 8 * n + (i - 1).toNat by omega]
  rw [e1]
  have e2 := mulb (show 0 ≤ κ 9 (8 * n + i.toNat) by omega) c3.2 (show 0 ≤ r - κ 8 (8 * n + (i - 1).toNat) by omega) (show r - κ 8 (8 * n + (i - 1).toNat) ≤ 6000 by omega)
  have e3 := mulb (show 0 ≤ κ 9 (8 * n + (i - 1).toNat) by omega) c4.2 (show 0 ≤ r - κ 8 (8 * n + (i - 1).toNat) by omega) (show r - κ 8 (8 * n + (i - 1).toNat) ≤ 6000 by omega)
  have e4 : (κ 9 (8 * n + i.toNat) - κ 9 (8 * n + (i - 1).toNat)) * (r - κ 8 (8 * n + (i - 1).toNat)) = κ 9 (8 * n + i.toNat) * (r - κ 8 (8 * n + (i - 1).toNat)) - κ 9 (8 * n + (i - 1).toNat) * (r - κ 8 (8 * n + (i - 1).toNat)) := Int.sub_mul _ _ _
  simp (disch := omega) only [e_Table_onLineTo_0, e_Table_onLineTo_1, e_Table_onLineTo_2, e_Table_onLineTo_3, e_Table_onLineTo_4, e_Table_onLineTo_5, e_Table_onLineTo_6, e_Table_onLineTo_7, e_Table_onLineTo_8, e_Table_onLineTo_9, e_Table_onLineTo_10, e_Table_onLineTo_11, e_Table_onLineTo_12, e_Table_onLineTo_13, e_Table_onLineTo_14, e_Table_onLineTo_15, e_Table_onLineTo_16, e_Table_onLineTo_17, e_Table_onLineTo_18, e_Table_onLineTo_19, e_Table_onLineTo_20, e_Table_onLineTo_21, e_Table_onLineTo_22, e_Table_onLineTo_23, e_Table_onLineTo_24, e_Table_onLineTo_25, e_Table_onLineTo_26, e_Table_onLineTo_27, e_Table_onLineTo_28, e_Table_onLineTo_29, e_Table_onLineTo_30, e_Table_onLineTo_31, e_Table_onLineTo_32, e_Table_onLineTo_33, e_Table_onLineTo_34, e_Table_onLineTo_35, e_Table_onLineTo_36, e_Table_onLineTo_37, e_Table_onLineTo_38, e_Table_onLineTo_39, e_Table_onLineTo_40, e_Table_onLineTo_41, e_Table_onLineTo_42, e_Table_onLineTo_43, e_Table_onLineTo_44, e_Table_onLineTo_45, e_Table_onLineTo_46, e_Table_onLineTo_47, e_Table_onLineTo_48, e_Table_onLineTo_49, e_Table_onLineTo_50, jm_ia, jm_na, jm_qa, jm_aa, jm_asg, jm_l4, jm_Kr, jm_okv, jm_rc, jm_bo, true_and, and_true, Nat.add_zero, Nat.le_refl, j_lt, j_le, j_eq, j_lt0, j_0lt, j_le0, j_0le, j_eq0, j_add, j_sub, j_mul, j_neg, j_0sub, j_nat, j_in, j_div, j_rem, Sum.inl.injEq, exists_eq', true_or, or_true, if_true, if_false, not_true_eq_false, not_false_eq_true, implies_true, j_eq1, reduceIte, Nat.reduceEqDiff, Int.reduceEq, Int.reduceToNat, Nat.reduceAdd, Int.reduceAdd, Int.reduceSub, Int.reduceMul, Int.reduceNeg, and_false, false_and, and_self, u2r, j_b0, j_b1, Classical.not_not, eq_self, true_implies, false_implies, not_true_eq_false, not_false_eq_true, Int.reduceLT, Int.reduceLE, ck, cn, ck0 H, ck1 H, ck2 H, ck3 H, ck4 H, ck5 H, ck6 H, ck7 H, ck8 H, ck9 H, ck10 H, ck11 H, ck12 H, ck13 H, ck14 H, ck15 H, ck16 H, ck17 H, ck18 H, cr0 H, cr1 H, cr2 H, cr3 H, cr4 H, cr5 H, cr6 H, cr7 H, cr8 H, cr9 H, cr10 H, cr11 H, cr12 H, cr13 H, cr14 H, cr15 H, cr16 H, i_s4, i_b3, i_b4, i_b5, i_b6, i_b7, i_b8, i_b9, i_c2, i_c3, i_c4, i_c5, i_c6, i_c7, i_c8, i_c9, i_c10, i_c11, i_t2, i_k0, i_k2, i_k3, i_k4, i_k5, i_ka0, i_ka1, i_ka2, i_a0, i_a2, i_a3, i_a4, i_aa0, i_aa1, i_aa2, i_o0, i_o1, i_o2, i_f, i_u, i_rd, i_ld, w_s4, w_b3, w_b4, w_b5, w_b6, w_b7, w_b8, w_b9, w_c2, w_c3, w_c4, w_c5, w_c6, w_c7, w_c8, w_c9, w_c10, w_c11, w_t2, w_k0, w_k2, w_k3, w_k4, w_k5, w_ka0, w_ka1, w_ka2, w_a0, w_a2, w_a3, w_a4, w_aa0, w_aa1, w_aa2, w_o0, w_o1, w_o2, w_f, w_u, w_rd, w_ld, csk0 H, csk1 H, csi0 H, csi1 H, cr, wr]
  repeat' first
    | apply And.intro
    | (intro _)
    | (refine ⟨_, k_floorDiv B l _ _ _ (by omega) (by omega) (by omega) (by omega), ?_⟩; rintro y h' ⟨rfl, hy⟩; cases hy; try simp (disch := omega) only [e_Table_onLineTo_0, e_Table_onLineTo_1, e_Table_onLineTo_2, e_Table_onLineTo_3, e_Table_onLineTo_4, e_Table_onLineTo_5, e_Table_onLineTo_6, e_Table_onLineTo_7, e_Table_onLineTo_8, e_Table_onLineTo_9, e_Table_onLineTo_10, e_Table_onLineTo_11, e_Table_onLineTo_12, e_Table_onLineTo_13, e_Table_onLineTo_14, e_Table_onLineTo_15, e_Table_onLineTo_16, e_Table_onLineTo_17, e_Table_onLineTo_18, e_Table_onLineTo_19, e_Table_onLineTo_20, e_Table_onLineTo_21, e_Table_onLineTo_22, e_Table_onLineTo_23, e_Table_onLineTo_24, e_Table_onLineTo_25, e_Table_onLineTo_26, e_Table_onLineTo_27, e_Table_onLineTo_28, e_Table_onLineTo_29, e_Table_onLineTo_30, e_Table_onLineTo_31, e_Table_onLineTo_32, e_Table_onLineTo_33, e_Table_onLineTo_34, e_Table_onLineTo_35, e_Table_onLineTo_36, e_Table_onLineTo_37, e_Table_onLineTo_38, e_Table_onLineTo_39, e_Table_onLineTo_40, e_Table_onLineTo_41, e_Table_onLineTo_42, e_Table_onLineTo_43, e_Table_onLineTo_44, e_Table_onLineTo_45, e_Table_onLineTo_46, e_Table_onLineTo_47, e_Table_onLineTo_48, e_Table_onLineTo_49, e_Table_onLineTo_50, jm_ia, jm_na, jm_qa, jm_aa, jm_asg, jm_l4, jm_Kr, jm_okv, jm_rc, jm_bo, true_and, and_true, Nat.add_zero, Nat.le_refl, j_lt, j_le, j_eq, j_lt0, j_0lt, j_le0, j_0le, j_eq0, j_add, j_sub, j_mul, j_neg, j_0sub, j_nat, j_in, j_div, j_rem, Sum.inl.injEq, exists_eq', true_or, or_true, if_true, if_false, not_true_eq_false, not_false_eq_true, implies_true, j_eq1, reduceIte, Nat.reduceEqDiff, Int.reduceEq, Int.reduceToNat, Nat.reduceAdd, Int.reduceAdd, Int.reduceSub, Int.reduceMul, Int.reduceNeg, and_false, false_and, and_self, u2r, j_b0, j_b1, Classical.not_not, eq_self, true_implies, false_implies, not_true_eq_false, not_false_eq_true, Int.reduceLT, Int.reduceLE, ck, cn, ck0 H, ck1 H, ck2 H, ck3 H, ck4 H, ck5 H, ck6 H, ck7 H, ck8 H, ck9 H, ck10 H, ck11 H, ck12 H, ck13 H, ck14 H, ck15 H, ck16 H, ck17 H, ck18 H, cr0 H, cr1 H, cr2 H, cr3 H, cr4 H, cr5 H, cr6 H, cr7 H, cr8 H, cr9 H, cr10 H, cr11 H, cr12 H, cr13 H, cr14 H, cr15 H, cr16 H, i_s4, i_b3, i_b4, i_b5, i_b6, i_b7, i_b8, i_b9, i_c2, i_c3, i_c4, i_c5, i_c6, i_c7, i_c8, i_c9, i_c10, i_c11, i_t2, i_k0, i_k2, i_k3, i_k4, i_k5, i_ka0, i_ka1, i_ka2, i_a0, i_a2, i_a3, i_a4, i_aa0, i_aa1, i_aa2, i_o0, i_o1, i_o2, i_f, i_u, i_rd, i_ld, w_s4, w_b3, w_b4, w_b5, w_b6, w_b7, w_b8, w_b9, w_c2, w_c3, w_c4, w_c5, w_c6, w_c7, w_c8, w_c9, w_c10, w_c11, w_t2, w_k0, w_k2, w_k3, w_k4, w_k5, w_ka0, w_ka1, w_ka2, w_a0, w_a2, w_a3, w_a4, w_aa0, w_aa1, w_aa2, w_o0, w_o1, w_o2, w_f, w_u, w_rd, w_ld, csk0 H, csk1 H, csi0 H, csi1 H, cr, wr])
  all_goals first
    | contradiction
    | exact trivial
    | rfl
    | omega
    | exact (bi1 (by omega)).symm
    | exact (bi0 (by omega)).symm
    | exact (bi1 (by assumption)).symm
    | exact (bi0 (by assumption)).symm
    | ((try unfold IN_); (repeat (first | rw [if_pos (by omega)] | rw [if_neg (by omega)])); done)
    | ((try unfold IN_); (repeat (first | rw [if_pos (by omega)] | rw [if_neg (by omega)])); rfl)
    | ((try unfold IN_); (repeat (first | rw [if_pos (by omega)] | rw [if_neg (by omega)] | rw [if_pos (by assumption)] | rw [if_neg (by assumption)])); rfl)
def Iv_k_at (h : jm_H) (ac : Nat) (κ : S_) (μ : M_) (n : Nat) (r : Int) : Nat → Nat → List (Option jm_V) → List jm_V → jm_H → Nat → Nat → Prop := fun kq pc L st h' ce sl =>
  (pc = 2 ∧ ∃ (i : Int), L = [some (.inr (.inl (some ((ac + (39 + 5 * n)))))), some (.inl (Int32.ofInt (r))), some (.inl (Int32.ofInt (i)))] ∧ st = [] ∧ h' = cs h ac κ μ ∧ ce = 0 ∧ sl = 0 ∧ kq = (κ 7 n - i).toNat ∧ (0 ≤ i ∧ i ≤ κ 7 n ∧ ∀ j, 0 ≤ j → j < i → κ 8 (8 * n + j.toNat) < r))
set_option maxRecDepth 100000 in
set_option maxHeartbeats 4000000 in
theorem k_at (B : jm_B) (l : Launch) (h : jm_H) (ac : Nat) (κ : S_) (μ : M_) (H : RC B ac h) (n : Nat) (hn : n < 3) {m f : Int} (hB : BB m f κ) (hS : SS κ) (r : Int) (hr0 : 0 ≤ r) (hr1 : r ≤ 6000) : jm_Ct gG B l (gm 41) [.inr (.inl (some ((ac + (39 + 5 * n))))), .inl (Int32.ofInt (r))] (cs h ac κ μ) (fun v h' => h' = cs h ac κ μ ∧ v = .inl (Int32.ofInt (tabS κ n r))) := by
  show jm_Ct gG B l M_Table_at _ _ _
  refine jm_CL (code := k_Table_at) (Or.inl (by decide)) (by decide) v_Table_at rfl (Nat.le_of_ble_eq_true rfl) [some (.inr (.inl (some ((ac + (39 + 5 * n)))))), some (.inl (Int32.ofInt (r))), none] rfl rfl (Iv_k_at h ac κ μ n r) ?_ ⟨32, ?_⟩
  · intro k pc L st h' ce sl hI
    rcases hI with ⟨rfl, i, rfl, rfl, rfl, rfl, rfl, rfl, hc⟩
    · refine ⟨32, 2, ⟨_, _, rfl, rfl⟩, ?_⟩
      obtain ⟨k1, k2, k3⟩ := hc
      have b : 0 ≤ κ 7 n ∧ κ 7 n ≤ 8 := hB 7 n
      have c1 : 0 ≤ κ 8 (8 * n + i.toNat) ∧ κ 8 (8 * n + i.toNat) ≤ 6000 := hB 8 _
      have c2 : 0 ≤ κ 8 (8 * n + (i - 1).toNat) ∧ κ 8 (8 * n + (i - 1).toNat) ≤ 6000 := hB 8 _
      have c3 : 0 ≤ κ 9 (8 * n + i.toNat) ∧ κ 9 (8 * n + i.toNat) ≤ 1000 := hB 9 _
      have c4 : 0 ≤ κ 9 (8 * n + (i - 1).toNat) ∧ κ 9 (8 * n + (i - 1).toNat) ≤ 1000 := hB 9 _
      have q1 : ∀ j, 0 ≤ j → κ 8 ((n : Int) * 8 + j).toNat = κ 8 (8 * n + j.toNat) := fun j hj => by rw [show ((n : Int) * 8 + j).toNat = 8 * n + j.toNat by omega]
      have q2 : 1 ≤ i → κ 8 (8 * n + (i - 1).toNat) < r := fun q => k3 (i - 1) (by omega) (by omega)
      have q9 : ((n : Int)).toNat = n := Int.toNat_natCast n
      have t0 : Unit → κ 7 n ≤ i → tabS κ n r = 0 := fun _ q => tabF_0 κ n r 9 0 (fun j g1 g2 => by rw [q1 j g1]; rw [q9] at g2; exact k3 j g1 (by omega))
      have t1 : Unit → i < κ 7 n → r ≤ κ 8 (8 * n + i.toNat) → tabS κ n r = if i = 0 then κ 9 ((n : Int) * 8).toNat else lineS κ ((n : Int) * 8) i r := fun _ g1 g2 => tabF_k κ n r i (by rw [q9]; exact g1) (by rw [q1 i k1]; exact g2) 9 0 (by omega) (by omega) (fun j g3 g4 => by rw [q1 j g3]; exact k3 j g3 g4)
      have t2 : Unit → i < κ 7 n → r ≤ κ 8 (8 * n + i.toNat) → i = 0 → tabS κ n r = κ 9 (8 * n) := fun _ g1 g2 g3 => by rw [t1 () g1 g2, if_pos g3, show ((n : Int) * 8).toNat = 8 * n by omega]
      have t3 : Unit → i < κ 7 n → r ≤ κ 8 (8 * n + i.toNat) → ¬ i = 0 → tabS κ n r = lineS κ ((n : Int) * 8) i r := fun _ g1 g2 g3 => by rw [t1 () g1 g2, if_neg g3]
      have s4 : Unit → κ 8 (8 * n + i.toNat) < r → ∀ j, 0 ≤ j → j < i + 1 → κ 8 (8 * n + j.toNat) < r := fun _ e j g1 g2 => by
        by_cases q : j = i
        · subst q; exact e
        · exact k3 j g1 (by omega)
      simp (disch := omega) only [e_Table_at_0, e_Table_at_1, c_Table_at_2, e_Table_at_2, e_Table_at_3, e_Table_at_4, e_Table_at_5, e_Table_at_6, e_Table_at_7, e_Table_at_8, e_Table_at_9, e_Table_at_10, e_Table_at_11, e_Table_at_12, e_Table_at_13, e_Table_at_14, e_Table_at_15, e_Table_at_16, e_Table_at_17, e_Table_at_18, e_Table_at_19, e_Table_at_20, e_Table_at_21, e_Table_at_22, e_Table_at_23, e_Table_at_24, e_Table_at_25, e_Table_at_26, e_Table_at_27, jm_ia, jm_na, jm_qa, jm_aa, jm_asg, jm_l4, jm_Kr, jm_okv, jm_rc, jm_bo, true_and, and_true, Nat.add_zero, Nat.le_refl, j_lt, j_le, j_eq, j_lt0, j_0lt, j_le0, j_0le, j_eq0, j_add, j_sub, j_mul, j_neg, j_0sub, j_nat, j_in, j_div, j_rem, Sum.inl.injEq, exists_eq', true_or, or_true, if_true, if_false, not_true_eq_false, not_false_eq_true, implies_true, j_eq1, reduceIte, Nat.reduceEqDiff, Int.reduceEq, Int.reduceToNat, Nat.reduceAdd, Int.reduceAdd, Int.reduceSub, Int.reduceMul, Int.reduceNeg, and_false, false_and, and_self, u2r, j_b0, j_b1, Classical.not_not, eq_self, true_implies, false_implies, not_true_eq_false, not_false_eq_true, Int.reduceLT, Int.reduceLE, ck, cn, ck0 H, ck1 H, ck2 H, ck3 H, ck4 H, ck5 H, ck6 H, ck7 H, ck8 H, ck9 H, ck10 H, ck11 H, ck12 H, ck13 H, ck14 H, ck15 H, ck16 H, ck17 H, ck18 H, cr0 H, cr1 H, cr2 H, cr3 H, cr4 H, cr5 H, cr6 H, cr7 H, cr8 H, cr9 H, cr10 H, cr11 H, cr12 H, cr13 H, cr14 H, cr15 H, cr16 H, i_s4, i_b3, i_b4, i_b5, i_b6, i_b7, i_b8, i_b9, i_c2, i_c3, i_c4, i_c5, i_c6, i_c7, i_c8, i_c9, i_c10, i_c11, i_t2, i_k0, i_k2, i_k3, i_k4, i_k5, i_ka0, i_ka1, i_ka2, i_a0, i_a2, i_a3, i_a4, i_aa0, i_aa1, i_aa2, i_o0, i_o1, i_o2, i_f, i_u, i_rd, i_ld, w_s4, w_b3, w_b4, w_b5, w_b6, w_b7, w_b8, w_b9, w_c2, w_c3, w_c4, w_c5, w_c6, w_c7, w_c8, w_c9, w_c10, w_c11, w_t2, w_k0, w_k2, w_k3, w_k4, w_k5, w_ka0, w_ka1, w_ka2, w_a0, w_a2, w_a3, w_a4, w_aa0, w_aa1, w_aa2, w_o0, w_o1, w_o2, w_f, w_u, w_rd, w_ld, csk0 H, csk1 H, csi0 H, csi1 H, cr, wr]
      repeat' first
        | apply And.intro
        | (intro _)
        | (refine ⟨_, k_onLine B l _ _ _ _ H _ hn hB hS i r (by omega) (by omega) (by omega) (by first | omega | (simp (disch := omega) only [j_nat, i_rd, i_ld, j_lt, j_le] at *; omega)), ?_⟩; rintro y h' ⟨rfl, hy⟩; cases hy; try simp (disch := omega) only [e_Table_at_0, e_Table_at_1, c_Table_at_2, e_Table_at_2, e_Table_at_3, e_Table_at_4, e_Table_at_5, e_Table_at_6, e_Table_at_7, e_Table_at_8, e_Table_at_9, e_Table_at_10, e_Table_at_11, e_Table_at_12, e_Table_at_13, e_Table_at_14, e_Table_at_15, e_Table_at_16, e_Table_at_17, e_Table_at_18, e_Table_at_19, e_Table_at_20, e_Table_at_21, e_Table_at_22, e_Table_at_23, e_Table_at_24, e_Table_at_25, e_Table_at_26, e_Table_at_27, jm_ia, jm_na, jm_qa, jm_aa, jm_asg, jm_l4, jm_Kr, jm_okv, jm_rc, jm_bo, true_and, and_true, Nat.add_zero, Nat.le_refl, j_lt, j_le, j_eq, j_lt0, j_0lt, j_le0, j_0le, j_eq0, j_add, j_sub, j_mul, j_neg, j_0sub, j_nat, j_in, j_div, j_rem, Sum.inl.injEq, exists_eq', true_or, or_true, if_true, if_false, not_true_eq_false, not_false_eq_true, implies_true, j_eq1, reduceIte, Nat.reduceEqDiff, Int.reduceEq, Int.reduceToNat, Nat.reduceAdd, Int.reduceAdd, Int.reduceSub, Int.reduceMul, Int.reduceNeg, and_false, false_and, and_self, u2r, j_b0, j_b1, Classical.not_not, eq_self, true_implies, false_implies, not_true_eq_false, not_false_eq_true, Int.reduceLT, Int.reduceLE, ck, cn, ck0 H, ck1 H, ck2 H, ck3 H, ck4 H, ck5 H, ck6 H, ck7 H, ck8 H, ck9 H, ck10 H, ck11 H, ck12 H, ck13 H, ck14 H, ck15 H, ck16 H, ck17 H, ck18 H, cr0 H, cr1 H, cr2 H, cr3 H, cr4 H, cr5 H, cr6 H, cr7 H, cr8 H, cr9 H, cr10 H, cr11 H, cr12 H, cr13 H, cr14 H, cr15 H, cr16 H, i_s4, i_b3, i_b4, i_b5, i_b6, i_b7, i_b8, i_b9, i_c2, i_c3, i_c4, i_c5, i_c6, i_c7, i_c8, i_c9, i_c10, i_c11, i_t2, i_k0, i_k2, i_k3, i_k4, i_k5, i_ka0, i_ka1, i_ka2, i_a0, i_a2, i_a3, i_a4, i_aa0, i_aa1, i_aa2, i_o0, i_o1, i_o2, i_f, i_u, i_rd, i_ld, w_s4, w_b3, w_b4, w_b5, w_b6, w_b7, w_b8, w_b9, w_c2, w_c3, w_c4, w_c5, w_c6, w_c7, w_c8, w_c9, w_c10, w_c11, w_t2, w_k0, w_k2, w_k3, w_k4, w_k5, w_ka0, w_ka1, w_ka2, w_a0, w_a2, w_a3, w_a4, w_aa0, w_aa1, w_aa2, w_o0, w_o1, w_o2, w_f, w_u, w_rd, w_ld, csk0 H, csk1 H, csi0 H, csi1 H, cr, wr])
      all_goals (try simp (disch := omega) only [j_nat, i_rd, i_ld, j_lt, j_le, Int.toNat_zero] at *)
      all_goals first
        | (refine ⟨_, ?_, ⟨rfl, _, rfl, rfl, rfl, rfl, rfl, rfl, ?_⟩⟩ <;> first | omega | exact ⟨by omega, by omega, i0⟩ | exact ⟨by omega, by omega, s4 () (by omega)⟩)
        | (refine ⟨_, ⟨rfl, _, rfl, rfl, rfl, rfl, rfl, rfl, ?_⟩ ⟩ <;> first | omega | exact ⟨by omega, by omega, i0⟩ | exact ⟨by omega, by omega, s4 () (by omega)⟩)
        | contradiction
        | exact trivial
        | rfl
        | omega
        | exact (bi1 (by omega)).symm
        | exact (bi0 (by omega)).symm
        | exact (bi1 (by assumption)).symm
        | exact (bi0 (by assumption)).symm
        | (rw [t0 () (by omega)]; done)
        | (rw [t2 () (by omega) (by omega) (by omega)]; done)
        | (rw [t3 () (by omega) (by omega) (by omega)]; done)
        | ((try unfold IN_); (repeat (first | rw [if_pos (by omega)] | rw [if_neg (by omega)])); done)
        | ((try unfold IN_); (repeat (first | rw [if_pos (by omega)] | rw [if_neg (by omega)])); rfl)
        | ((try unfold IN_); (repeat (first | rw [if_pos (by omega)] | rw [if_neg (by omega)] | rw [if_pos (by assumption)] | rw [if_neg (by assumption)])); rfl)
  · have b : 0 ≤ κ 7 n ∧ κ 7 n ≤ 8 := hB 7 n
    have i0 : ∀ j, 0 ≤ j → j < (0 : Int) → κ 8 (8 * n + j.toNat) < r := fun j g1 g2 => by omega
    simp (disch := omega) only [e_Table_at_0, e_Table_at_1, c_Table_at_2, e_Table_at_2, e_Table_at_3, e_Table_at_4, e_Table_at_5, e_Table_at_6, e_Table_at_7, e_Table_at_8, e_Table_at_9, e_Table_at_10, e_Table_at_11, e_Table_at_12, e_Table_at_13, e_Table_at_14, e_Table_at_15, e_Table_at_16, e_Table_at_17, e_Table_at_18, e_Table_at_19, e_Table_at_20, e_Table_at_21, e_Table_at_22, e_Table_at_23, e_Table_at_24, e_Table_at_25, e_Table_at_26, e_Table_at_27, jm_ia, jm_na, jm_qa, jm_aa, jm_asg, jm_l4, jm_Kr, jm_okv, jm_rc, jm_bo, true_and, and_true, Nat.add_zero, Nat.le_refl, j_lt, j_le, j_eq, j_lt0, j_0lt, j_le0, j_0le, j_eq0, j_add, j_sub, j_mul, j_neg, j_0sub, j_nat, j_in, j_div, j_rem, Sum.inl.injEq, exists_eq', true_or, or_true, if_true, if_false, not_true_eq_false, not_false_eq_true, implies_true, j_eq1, reduceIte, Nat.reduceEqDiff, Int.reduceEq, Int.reduceToNat, Nat.reduceAdd, Int.reduceAdd, Int.reduceSub, Int.reduceMul, Int.reduceNeg, and_false, false_and, and_self, u2r, j_b0, j_b1, Classical.not_not, eq_self, true_implies, false_implies, not_true_eq_false, not_false_eq_true, Int.reduceLT, Int.reduceLE, ck, cn, ck0 H, ck1 H, ck2 H, ck3 H, ck4 H, ck5 H, ck6 H, ck7 H, ck8 H, ck9 H, ck10 H, ck11 H, ck12 H, ck13 H, ck14 H, ck15 H, ck16 H, ck17 H, ck18 H, cr0 H, cr1 H, cr2 H, cr3 H, cr4 H, cr5 H, cr6 H, cr7 H, cr8 H, cr9 H, cr10 H, cr11 H, cr12 H, cr13 H, cr14 H, cr15 H, cr16 H, i_s4, i_b3, i_b4, i_b5, i_b6, i_b7, i_b8, i_b9, i_c2, i_c3, i_c4, i_c5, i_c6, i_c7, i_c8, i_c9, i_c10, i_c11, i_t2, i_k0, i_k2, i_k3, i_k4, i_k5, i_ka0, i_ka1, i_ka2, i_a0, i_a2, i_a3, i_a4, i_aa0, i_aa1, i_aa2, i_o0, i_o1, i_o2, i_f, i_u, i_rd, i_ld, w_s4, w_b3, w_b4, w_b5, w_b6, w_b7, w_b8, w_b9, w_c2, w_c3, w_c4, w_c5, w_c6, w_c7, w_c8, w_c9, w_c10, w_c11, w_t2, w_k0, w_k2, w_k3, w_k4, w_k5, w_ka0, w_ka1, w_ka2, w_a0, w_a2, w_a3, w_a4, w_aa0, w_aa1, w_aa2, w_o0, w_o1, w_o2, w_f, w_u, w_rd, w_ld, csk0 H, csk1 H, csi0 H, csi1 H, cr, wr]
    repeat' first
      | apply And.intro
      | (intro _)
      | (refine ⟨_, k_onLine B l _ _ _ _ H _ hn hB hS i r (by omega) (by omega) (by omega) (by first | omega | (simp (disch := omega) only [j_nat, i_rd, i_ld, j_lt, j_le] at *; omega)), ?_⟩; rintro y h' ⟨rfl, hy⟩; cases hy; try simp (disch := omega) only [e_Table_at_0, e_Table_at_1, c_Table_at_2, e_Table_at_2, e_Table_at_3, e_Table_at_4, e_Table_at_5, e_Table_at_6, e_Table_at_7, e_Table_at_8, e_Table_at_9, e_Table_at_10, e_Table_at_11, e_Table_at_12, e_Table_at_13, e_Table_at_14, e_Table_at_15, e_Table_at_16, e_Table_at_17, e_Table_at_18, e_Table_at_19, e_Table_at_20, e_Table_at_21, e_Table_at_22, e_Table_at_23, e_Table_at_24, e_Table_at_25, e_Table_at_26, e_Table_at_27, jm_ia, jm_na, jm_qa, jm_aa, jm_asg, jm_l4, jm_Kr, jm_okv, jm_rc, jm_bo, true_and, and_true, Nat.add_zero, Nat.le_refl, j_lt, j_le, j_eq, j_lt0, j_0lt, j_le0, j_0le, j_eq0, j_add, j_sub, j_mul, j_neg, j_0sub, j_nat, j_in, j_div, j_rem, Sum.inl.injEq, exists_eq', true_or, or_true, if_true, if_false, not_true_eq_false, not_false_eq_true, implies_true, j_eq1, reduceIte, Nat.reduceEqDiff, Int.reduceEq, Int.reduceToNat, Nat.reduceAdd, Int.reduceAdd, Int.reduceSub, Int.reduceMul, Int.reduceNeg, and_false, false_and, and_self, u2r, j_b0, j_b1, Classical.not_not, eq_self, true_implies, false_implies, not_true_eq_false, not_false_eq_true, Int.reduceLT, Int.reduceLE, ck, cn, ck0 H, ck1 H, ck2 H, ck3 H, ck4 H, ck5 H, ck6 H, ck7 H, ck8 H, ck9 H, ck10 H, ck11 H, ck12 H, ck13 H, ck14 H, ck15 H, ck16 H, ck17 H, ck18 H, cr0 H, cr1 H, cr2 H, cr3 H, cr4 H, cr5 H, cr6 H, cr7 H, cr8 H, cr9 H, cr10 H, cr11 H, cr12 H, cr13 H, cr14 H, cr15 H, cr16 H, i_s4, i_b3, i_b4, i_b5, i_b6, i_b7, i_b8, i_b9, i_c2, i_c3, i_c4, i_c5, i_c6, i_c7, i_c8, i_c9, i_c10, i_c11, i_t2, i_k0, i_k2, i_k3, i_k4, i_k5, i_ka0, i_ka1, i_ka2, i_a0, i_a2, i_a3, i_a4, i_aa0, i_aa1, i_aa2, i_o0, i_o1, i_o2, i_f, i_u, i_rd, i_ld, w_s4, w_b3, w_b4, w_b5, w_b6, w_b7, w_b8, w_b9, w_c2, w_c3, w_c4, w_c5, w_c6, w_c7, w_c8, w_c9, w_c10, w_c11, w_t2, w_k0, w_k2, w_k3, w_k4, w_k5, w_ka0, w_ka1, w_ka2, w_a0, w_a2, w_a3, w_a4, w_aa0, w_aa1, w_aa2, w_o0, w_o1, w_o2, w_f, w_u, w_rd, w_ld, csk0 H, csk1 H, csi0 H, csi1 H, cr, wr])
    all_goals (try simp (disch := omega) only [j_nat, i_rd, i_ld, j_lt, j_le, Int.toNat_zero] at *)
    all_goals first
      | (refine ⟨_, ?_, ⟨rfl, _, rfl, rfl, rfl, rfl, rfl, rfl, ?_⟩⟩ <;> first | omega | exact ⟨by omega, by omega, i0⟩ | exact ⟨by omega, by omega, s4 () (by omega)⟩)
      | (refine ⟨_, ⟨rfl, _, rfl, rfl, rfl, rfl, rfl, rfl, ?_⟩ ⟩ <;> first | omega | exact ⟨by omega, by omega, i0⟩ | exact ⟨by omega, by omega, s4 () (by omega)⟩)
      | contradiction
      | exact trivial
      | rfl
      | omega
      | exact (bi1 (by omega)).symm
      | exact (bi0 (by omega)).symm
      | exact (bi1 (by assumption)).symm
      | exact (bi0 (by assumption)).symm
      | (rw [t0 () (by omega)]; done)
      | (rw [t2 () (by omega) (by omega) (by omega)]; done)
      | (rw [t3 () (by omega) (by omega) (by omega)]; done)
      | ((try unfold IN_); (repeat (first | rw [if_pos (by omega)] | rw [if_neg (by omega)])); done)
      | ((try unfold IN_); (repeat (first | rw [if_pos (by omega)] | rw [if_neg (by omega)])); rfl)
      | ((try unfold IN_); (repeat (first | rw [if_pos (by omega)] | rw [if_neg (by omega)] | rw [if_pos (by assumption)] | rw [if_neg (by assumption)])); rfl)
