set_option maxRecDepth 100000 in
set_option maxHeartbeats 4000000 in
theorem m_in (B : jm_B) (l : Launch) (h : jm_H) (x lo hi : Int) (xa : -2147483648 ≤ x) (xb : x < 2147483648) (loa : -2147483648 ≤ lo) (lob : lo < 2147483648) (hia : -2147483648 ≤ hi) (hib : hi < 2147483648) : jm_Ct gG B l (gm 67) [.inl (Int32.ofInt x), .inl (Int32.ofInt lo), .inl (Int32.ofInt hi)] h (fun v h' => h' = h ∧ v = .inl (Int32.ofInt (if lo ≤ x ∧ x ≤ hi then 1 else 0))) := by
  show jm_Ct gG B l M_Mod_in _ _ _
  refine jm_C0 (code := k_Mod_in) (Or.inl (by decide)) (by decide) v_Mod_in rfl (Nat.le_of_ble_eq_true rfl) [some (.inl (Int32.ofInt x)), some (.inl (Int32.ofInt lo)), some (.inl (Int32.ofInt hi))] rfl rfl ⟨14, ?_⟩
  simp (disch := omega) only [e_Mod_in_0, e_Mod_in_1, e_Mod_in_2, e_Mod_in_3, e_Mod_in_4, e_Mod_in_5, e_Mod_in_6, e_Mod_in_7, e_Mod_in_8, e_Mod_in_9, jm_ia, jm_na, jm_qa, jm_aa, jm_asg, jm_l4, jm_Kr, jm_okv, jm_rc, jm_bo, true_and, and_true, Nat.add_zero, Nat.le_refl, j_lt, j_le, j_eq, j_lt0, j_0lt, j_le0, j_0le, j_eq0, j_add, j_sub, j_mul, j_neg, j_0sub, j_nat, j_in, j_div, j_rem, Sum.inl.injEq, exists_eq', true_or, or_true, if_true, if_false, not_true_eq_false, not_false_eq_true, implies_true, j_eq1]
  repeat' (first | intro _ | apply And.intro)
  all_goals first
    | exact trivial
    | rfl
    | omega
    | exact congrArg Sum.inl (bi1 (by omega)).symm
    | exact congrArg Sum.inl (bi0 (by omega)).symm
    | exact (bi1 (by omega)).symm
    | exact (bi0 (by omega)).symm
    | (rw [if_pos (by omega)]; done)
    | (rw [if_neg (by omega)]; done)
set_option maxRecDepth 100000 in
set_option maxHeartbeats 4000000 in
theorem m_isIn (B : jm_B) (l : Launch) (h : jm_H) (x f n : Int) (h1 : 0 ≤ x) (h2 : x < 3600) (h3 : 0 ≤ f) (h4 : f < 3600) (h5 : 0 ≤ n) (h6 : n < 3600) : jm_Ct gG B l (gm 81) [.inl (Int32.ofInt x), .inl (Int32.ofInt f), .inl (Int32.ofInt n)] h (fun v h' => h' = h ∧ v = .inl (Int32.ofInt (if (x - f + 3600) % 3600 < n then 1 else 0))) := by
  show jm_Ct gG B l M_Mod_isIn _ _ _
  refine jm_C0 (code := k_Mod_isIn) (Or.inl (by decide)) (by decide) v_Mod_isIn rfl (Nat.le_of_ble_eq_true rfl) [some (.inl (Int32.ofInt x)), some (.inl (Int32.ofInt f)), some (.inl (Int32.ofInt n))] rfl rfl ⟨17, ?_⟩
  simp (disch := omega) only [e_Mod_isIn_0, e_Mod_isIn_1, e_Mod_isIn_2, e_Mod_isIn_3, e_Mod_isIn_4, e_Mod_isIn_5, e_Mod_isIn_6, e_Mod_isIn_7, e_Mod_isIn_8, e_Mod_isIn_9, e_Mod_isIn_10, e_Mod_isIn_11, e_Mod_isIn_12, jm_ia, jm_na, jm_qa, jm_aa, jm_asg, jm_l4, jm_Kr, jm_okv, jm_rc, jm_bo, true_and, and_true, Nat.add_zero, Nat.le_refl, j_lt, j_le, j_eq, j_lt0, j_0lt, j_le0, j_0le, j_eq0, j_add, j_sub, j_mul, j_neg, j_0sub, j_nat, j_in, j_div, j_rem, Sum.inl.injEq, exists_eq', true_or, or_true, if_true, if_false, not_true_eq_false, not_false_eq_true, implies_true, j_eq1]
  repeat' (first | intro _ | apply And.intro)
  all_goals first
    | exact trivial
    | rfl
    | omega
    | exact congrArg Sum.inl (bi1 (by omega)).symm
    | exact congrArg Sum.inl (bi0 (by omega)).symm
    | exact (bi1 (by omega)).symm
    | exact (bi0 (by omega)).symm
    | (rw [if_pos (by omega)]; done)
    | (rw [if_neg (by omega)]; done)
set_option maxRecDepth 100000 in
set_option maxHeartbeats 4000000 in
theorem m_off (B : jm_B) (l : Launch) (h : jm_H) (x y : Int) (h1 : -100000 ≤ x) (h2 : x ≤ 100000) (h3 : -100000 ≤ y) (h4 : y ≤ 100000) : jm_Ct gG B l (gm 90) [.inl (Int32.ofInt x), .inl (Int32.ofInt y)] h (fun v h' => h' = h ∧ v = .inl (Int32.ofInt (if y < x then x - y else y - x))) := by
  show jm_Ct gG B l M_Mod_off _ _ _
  refine jm_C0 (code := k_Mod_off) (Or.inl (by decide)) (by decide) v_Mod_off rfl (Nat.le_of_ble_eq_true rfl) [some (.inl (Int32.ofInt x)), some (.inl (Int32.ofInt y))] rfl rfl ⟨15, ?_⟩
  simp (disch := omega) only [e_Mod_off_0, e_Mod_off_1, e_Mod_off_2, e_Mod_off_3, e_Mod_off_4, e_Mod_off_5, e_Mod_off_6, e_Mod_off_7, e_Mod_off_8, e_Mod_off_9, e_Mod_off_10, jm_ia, jm_na, jm_qa, jm_aa, jm_asg, jm_l4, jm_Kr, jm_okv, jm_rc, jm_bo, true_and, and_true, Nat.add_zero, Nat.le_refl, j_lt, j_le, j_eq, j_lt0, j_0lt, j_le0, j_0le, j_eq0, j_add, j_sub, j_mul, j_neg, j_0sub, j_nat, j_in, j_div, j_rem, Sum.inl.injEq, exists_eq', true_or, or_true, if_true, if_false, not_true_eq_false, not_false_eq_true, implies_true, j_eq1]
  repeat' (first | intro _ | apply And.intro)
  all_goals first
    | exact trivial
    | rfl
    | omega
    | exact congrArg Sum.inl (bi1 (by omega)).symm
    | exact congrArg Sum.inl (bi0 (by omega)).symm
    | exact (bi1 (by omega)).symm
    | exact (bi0 (by omega)).symm
    | (rw [if_pos (by omega)]; done)
    | (rw [if_neg (by omega)]; done)
set_option maxRecDepth 100000 in
set_option maxHeartbeats 4000000 in
theorem m_within (B : jm_B) (l : Launch) (h : jm_H) (x y : Int) (h1 : -100000 ≤ x) (h2 : x ≤ 100000) (h3 : 0 ≤ y) (h4 : y ≤ 100000) : jm_Ct gG B l (gm 94) [.inl (Int32.ofInt x), .inl (Int32.ofInt y)] h (fun v h' => h' = h ∧ v = .inl (Int32.ofInt (if x < 0 then 0 else if y < x then y else x))) := by
  show jm_Ct gG B l M_Mod_within _ _ _
  refine jm_C0 (code := k_Mod_within) (Or.inl (by decide)) (by decide) v_Mod_within rfl (Nat.le_of_ble_eq_true rfl) [some (.inl (Int32.ofInt x)), some (.inl (Int32.ofInt y))] rfl rfl ⟨15, ?_⟩
  simp (disch := omega) only [e_Mod_within_0, e_Mod_within_1, e_Mod_within_2, e_Mod_within_3, e_Mod_within_4, e_Mod_within_5, e_Mod_within_6, e_Mod_within_7, e_Mod_within_8, e_Mod_within_9, e_Mod_within_10, jm_ia, jm_na, jm_qa, jm_aa, jm_asg, jm_l4, jm_Kr, jm_okv, jm_rc, jm_bo, true_and, and_true, Nat.add_zero, Nat.le_refl, j_lt, j_le, j_eq, j_lt0, j_0lt, j_le0, j_0le, j_eq0, j_add, j_sub, j_mul, j_neg, j_0sub, j_nat, j_in, j_div, j_rem, Sum.inl.injEq, exists_eq', true_or, or_true, if_true, if_false, not_true_eq_false, not_false_eq_true, implies_true, j_eq1]
  repeat' (first | intro _ | apply And.intro)
  all_goals first
    | rfl
    | (congr 1; split <;> (try split) <;> omega)
    | (congr 2; split <;> (try split) <;> omega)
set_option maxRecDepth 100000 in
set_option maxHeartbeats 4000000 in
theorem m_thrown (B : jm_B) (l : Launch) (h : jm_H) (am : Nat) (σ : S_) (H : RM B am h) : jm_Ct gG B l (gm 66) [.inr (.inl (some am))] (mo h am σ) (fun v h' => h' = mo h am σ ∧ v = .inl (Int32.ofInt (σ 0 0))) := by
  show jm_Ct gG B l M_Mod_thrown _ _ _
  refine jm_C0 (code := k_Mod_thrown) (Or.inl (by decide)) (by decide) v_Mod_thrown rfl (Nat.le_of_ble_eq_true rfl) [some (.inr (.inl (some am)))] rfl rfl ⟨7, ?_⟩
  simp (disch := omega) only [e_Mod_thrown_0, e_Mod_thrown_1, e_Mod_thrown_2, jm_ia, jm_na, jm_qa, jm_aa, jm_asg, jm_l4, jm_Kr, jm_okv, jm_rc, jm_bo, true_and, and_true, Nat.add_zero, Nat.le_refl, j_lt, j_le, j_eq, j_lt0, j_0lt, j_le0, j_0le, j_eq0, j_add, j_sub, j_mul, j_neg, j_0sub, j_nat, j_in, j_div, j_rem, Sum.inl.injEq, exists_eq', true_or, or_true, if_true, if_false, not_true_eq_false, not_false_eq_true, implies_true, j_eq1, rk H, mi0, ms0, rs2 H, rs3 H, rr1 H, ra1 H, rr2 H, ra2 H, rr3 H, ra3 H, rr4 H, ra4 H, rr5 H, ra5 H, rr6 H, ra6 H, rr7 H, ra7 H, rr8 H, ra8 H, rr9 H, ra9 H, rr10 H, ra10 H, rr11 H, ra11 H, rr12 H, ra12 H, rr13 H, ra13 H, rr14 H, ra14 H, rr15 H, ra15 H, rr16 H, ra16 H, rr17 H, ra17 H, rr18 H, ra18 H, rr19 H, ra19 H, rr20 H, ra20 H, rr21 H, ra21 H, rr22 H, ra22 H, rr23 H, ra23 H, rr24 H, ra24 H, rr25 H, ra25 H, rr26 H, ra26 H, rr27 H, ra27 H, rr28 H, ra28 H, rr29 H, ra29 H, rr30 H, ra30 H, mia, msa]
  repeat' (first | intro _ | apply And.intro)
  all_goals first
    | exact trivial
    | rfl
    | omega
    | exact congrArg Sum.inl (bi1 (by omega)).symm
    | exact congrArg Sum.inl (bi0 (by omega)).symm
    | exact (bi1 (by omega)).symm
    | exact (bi0 (by omega)).symm
    | (rw [if_pos (by omega)]; done)
    | (rw [if_neg (by omega)]; done)
set_option maxRecDepth 100000 in
set_option maxHeartbeats 4000000 in
theorem m_says (B : jm_B) (l : Launch) (h : jm_H) (am : Nat) (σ : S_) (H : RM B am h) (g : Int) (hg : g = 0 ∨ g = 1) : jm_Ct gG B l (gm 68) [.inr (.inl (some am)), .inl (Int32.ofInt g)] (mo h am σ) (fun v h' => h' = mo h am (jm_u2 σ 0 0 (if g = 1 then 0 else 1)) ∧ v = .inl (Int32.ofInt g)) := by
  show jm_Ct gG B l M_Mod_says _ _ _
  refine jm_C0 (code := k_Mod_says) (Or.inl (by decide)) (by decide) v_Mod_says rfl (Nat.le_of_ble_eq_true rfl) [some (.inr (.inl (some am))), some (.inl (Int32.ofInt g))] rfl rfl ⟨13, ?_⟩
  simp (disch := omega) only [e_Mod_says_0, e_Mod_says_1, e_Mod_says_2, e_Mod_says_3, e_Mod_says_4, e_Mod_says_5, e_Mod_says_6, e_Mod_says_7, e_Mod_says_8, jm_ia, jm_na, jm_qa, jm_aa, jm_asg, jm_l4, jm_Kr, jm_okv, jm_rc, jm_bo, true_and, and_true, Nat.add_zero, Nat.le_refl, j_lt, j_le, j_eq, j_lt0, j_0lt, j_le0, j_0le, j_eq0, j_add, j_sub, j_mul, j_neg, j_0sub, j_nat, j_in, j_div, j_rem, Sum.inl.injEq, exists_eq', true_or, or_true, if_true, if_false, not_true_eq_false, not_false_eq_true, implies_true, j_eq1, rk H, mi0, ms0, rs2 H, rs3 H, rr1 H, ra1 H, rr2 H, ra2 H, rr3 H, ra3 H, rr4 H, ra4 H, rr5 H, ra5 H, rr6 H, ra6 H, rr7 H, ra7 H, rr8 H, ra8 H, rr9 H, ra9 H, rr10 H, ra10 H, rr11 H, ra11 H, rr12 H, ra12 H, rr13 H, ra13 H, rr14 H, ra14 H, rr15 H, ra15 H, rr16 H, ra16 H, rr17 H, ra17 H, rr18 H, ra18 H, rr19 H, ra19 H, rr20 H, ra20 H, rr21 H, ra21 H, rr22 H, ra22 H, rr23 H, ra23 H, rr24 H, ra24 H, rr25 H, ra25 H, rr26 H, ra26 H, rr27 H, ra27 H, rr28 H, ra28 H, rr29 H, ra29 H, rr30 H, ra30 H, mia, msa]
  repeat' (first | intro _ | apply And.intro)
  all_goals first
    | exact trivial
    | rfl
    | omega
    | exact congrArg Sum.inl (bi1 (by omega)).symm
    | exact congrArg Sum.inl (bi0 (by omega)).symm
    | exact (bi1 (by omega)).symm
    | exact (bi0 (by omega)).symm
    | (rw [if_pos (by omega)]; done)
    | (rw [if_neg (by omega)]; done)
