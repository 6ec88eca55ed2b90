/-! the cranes of the class -/
theorem absE (x y : Int) : (if 0 ≤ x - y then x - y else 0 - (x - y)) = off2 x y := by unfold off2; split <;> split <;> omega
theorem absE0 (x : Int) : (if 0 ≤ x then x else 0 - x) = off2 x 0 := by unfold off2; split <;> split <;> omega
theorem clampE (x y : Int) (h : 0 ≤ y) : (if 0 < (if x < y then x else y) then (if x < y then x else y) else 0) = clampS x y := by
  unfold clampS
  split <;> split <;> split <;> omega
theorem nat3 (n : Nat) : ((n : Int)).toNat = n := Int.toNat_natCast n
theorem n3a (n : Nat) : (3 * (n : Int)).toNat = 3 * n := by omega
theorem n3b (n : Nat) : (3 * (n : Int) + 1).toNat = 3 * n + 1 := by omega
theorem n3c (n : Nat) : (3 * (n : Int) + 2).toNat = 3 * n + 2 := by omega
set_option maxRecDepth 100000 in
set_option maxHeartbeats 4000000 in
theorem k_over (B : jm_B) (l : Launch) (h : jm_H) (ac : Nat) (κ : S_) (μ : M_) (H : RC B ac h) (n : Nat) (hn : n < 3) {m f : Int} (hB : BB m f κ) (hS : SS κ) {w : Int} (hw : Flg (tabS κ n (κ 3 n) < κ 5 n) w) : jm_Ct gG B l (gm 28) [.inr (.inl (some ((ac + (38 + 5 * n)))))] (cs h ac κ μ) (fun v h' => h' = cs h ac κ μ ∧ v = .inl (Int32.ofInt w)) := by
  show jm_Ct gG B l M_Crane_isOverloaded _ _ _
  refine jm_C0 (code := k_Crane_isOverloaded) (Or.inl (by decide)) (by decide) v_Crane_isOverloaded rfl (Nat.le_of_ble_eq_true rfl) [some (.inr (.inl (some ((ac + (38 + 5 * n))))))] rfl rfl ⟨16, ?_⟩
  have b3 : 0 ≤ κ 3 n ∧ κ 3 n ≤ 6000 := hB 3 n
  have b4 : 0 ≤ κ 4 n ∧ κ 4 n ≤ 8000 := hB 4 n
  have b5 : 0 ≤ κ 5 n ∧ κ 5 n ≤ 1000 := hB 5 n
  have b6 : -20 ≤ κ 6 (3 * n + 1) ∧ κ 6 (3 * n + 1) ≤ 20 := hB 6 _
  have b7 : -20 ≤ κ 6 (3 * n + 2) ∧ κ 6 (3 * n + 2) ≤ 20 := hB 6 _
  have bt := tabb hB hS (c := n) (by omega) (by omega) (κ 3 n) b3.1
  have w1 := flg1 hw
  have w0 := flg01 hw
  simp (disch := omega) only [e_Crane_isOverloaded_0, e_Crane_isOverloaded_1, e_Crane_isOverloaded_2, e_Crane_isOverloaded_3, e_Crane_isOverloaded_4, e_Crane_isOverloaded_5, e_Crane_isOverloaded_6, e_Crane_isOverloaded_7, e_Crane_isOverloaded_8, e_Crane_isOverloaded_9, e_Crane_isOverloaded_10, e_Crane_isOverloaded_11, jm_ia, jm_na, jm_qa, jm_aa, jm_asg, jm_l4, jm_Kr, jm_okv, jm_rc, jm_bo, true_and, and_true, Nat.add_zero, Nat.le_refl, j_lt, j_le, j_eq, j_lt0, j_0lt, j_le0, j_0le, j_eq0, j_add, j_sub, j_mul, j_neg, j_0sub, j_nat, j_in, j_div, j_rem, Sum.inl.injEq, exists_eq', true_or, or_true, if_true, if_false, not_true_eq_false, not_false_eq_true, implies_true, j_eq1, reduceIte, Nat.reduceEqDiff, Int.reduceEq, Int.reduceToNat, Nat.reduceAdd, Int.reduceAdd, Int.reduceSub, Int.reduceMul, Int.reduceNeg, and_false, false_and, and_self, u2r, j_b0, j_b1, Classical.not_not, eq_self, true_implies, false_implies, not_true_eq_false, not_false_eq_true, Int.reduceLT, Int.reduceLE, ck, cn, ck0 H, ck1 H, ck2 H, ck3 H, ck4 H, ck5 H, ck6 H, ck7 H, ck8 H, ck9 H, ck10 H, ck11 H, ck12 H, ck13 H, ck14 H, ck15 H, ck16 H, ck17 H, ck18 H, cr0 H, cr1 H, cr2 H, cr3 H, cr4 H, cr5 H, cr6 H, cr7 H, cr8 H, cr9 H, cr10 H, cr11 H, cr12 H, cr13 H, cr14 H, cr15 H, cr16 H, i_s4, i_b3, i_b4, i_b5, i_b6, i_b7, i_b8, i_b9, i_c2, i_c3, i_c4, i_c5, i_c6, i_c7, i_c8, i_c9, i_c10, i_c11, i_t2, i_k0, i_k2, i_k3, i_k4, i_k5, i_ka0, i_ka1, i_ka2, i_a0, i_a2, i_a3, i_a4, i_aa0, i_aa1, i_aa2, i_o0, i_o1, i_o2, i_f, i_u, i_rd, i_ld, w_s4, w_b3, w_b4, w_b5, w_b6, w_b7, w_b8, w_b9, w_c2, w_c3, w_c4, w_c5, w_c6, w_c7, w_c8, w_c9, w_c10, w_c11, w_t2, w_k0, w_k2, w_k3, w_k4, w_k5, w_ka0, w_ka1, w_ka2, w_a0, w_a2, w_a3, w_a4, w_aa0, w_aa1, w_aa2, w_o0, w_o1, w_o2, w_f, w_u, w_rd, w_ld, csk0 H, csk1 H, csi0 H, csi1 H, cr, wr]
  repeat' first
    | apply And.intro
    | (intro _)
    | (refine ⟨_, k_at B l _ _ _ _ H _ hn hB hS (κ 3 n) (by omega) (by omega), ?_⟩; rintro y h' ⟨rfl, hy⟩; cases hy; try simp (disch := omega) only [e_Crane_isOverloaded_0, e_Crane_isOverloaded_1, e_Crane_isOverloaded_2, e_Crane_isOverloaded_3, e_Crane_isOverloaded_4, e_Crane_isOverloaded_5, e_Crane_isOverloaded_6, e_Crane_isOverloaded_7, e_Crane_isOverloaded_8, e_Crane_isOverloaded_9, e_Crane_isOverloaded_10, e_Crane_isOverloaded_11, jm_ia, jm_na, jm_qa, jm_aa, jm_asg, jm_l4, jm_Kr, jm_okv, jm_rc, jm_bo, true_and, and_true, Nat.add_zero, Nat.le_refl, j_lt, j_le, j_eq, j_lt0, j_0lt, j_le0, j_0le, j_eq0, j_add, j_sub, j_mul, j_neg, j_0sub, j_nat, j_in, j_div, j_rem, Sum.inl.injEq, exists_eq', true_or, or_true, if_true, if_false, not_true_eq_false, not_false_eq_true, implies_true, j_eq1, reduceIte, Nat.reduceEqDiff, Int.reduceEq, Int.reduceToNat, Nat.reduceAdd, Int.reduceAdd, Int.reduceSub, Int.reduceMul, Int.reduceNeg, and_false, false_and, and_self, u2r, j_b0, j_b1, Classical.not_not, eq_self, true_implies, false_implies, not_true_eq_false, not_false_eq_true, Int.reduceLT, Int.reduceLE, ck, cn, ck0 H, ck1 H, ck2 H, ck3 H, ck4 H, ck5 H, ck6 H, ck7 H, ck8 H, ck9 H, ck10 H, ck11 H, ck12 H, ck13 H, ck14 H, ck15 H, ck16 H, ck17 H, ck18 H, cr0 H, cr1 H, cr2 H, cr3 H, cr4 H, cr5 H, cr6 H, cr7 H, cr8 H, cr9 H, cr10 H, cr11 H, cr12 H, cr13 H, cr14 H, cr15 H, cr16 H, i_s4, i_b3, i_b4, i_b5, i_b6, i_b7, i_b8, i_b9, i_c2, i_c3, i_c4, i_c5, i_c6, i_c7, i_c8, i_c9, i_c10, i_c11, i_t2, i_k0, i_k2, i_k3, i_k4, i_k5, i_ka0, i_ka1, i_ka2, i_a0, i_a2, i_a3, i_a4, i_aa0, i_aa1, i_aa2, i_o0, i_o1, i_o2, i_f, i_u, i_rd, i_ld, w_s4, w_b3, w_b4, w_b5, w_b6, w_b7, w_b8, w_b9, w_c2, w_c3, w_c4, w_c5, w_c6, w_c7, w_c8, w_c9, w_c10, w_c11, w_t2, w_k0, w_k2, w_k3, w_k4, w_k5, w_ka0, w_ka1, w_ka2, w_a0, w_a2, w_a3, w_a4, w_aa0, w_aa1, w_aa2, w_o0, w_o1, w_o2, w_f, w_u, w_rd, w_ld, csk0 H, csk1 H, csi0 H, csi1 H, cr, wr])
  all_goals first
    | contradiction
    | exact trivial
    | rfl
    | omega
    | exact (bi1 (by omega)).symm
    | exact (bi0 (by omega)).symm
    | exact (bi1 (by assumption)).symm
    | exact (bi0 (by assumption)).symm
    | (congr 1; omega)
    | ((try unfold IN_); (repeat (first | rw [if_pos (by omega)] | rw [if_neg (by omega)])); done)
    | ((try unfold IN_); (repeat (first | rw [if_pos (by omega)] | rw [if_neg (by omega)])); rfl)
    | ((try unfold IN_); (repeat (first | rw [if_pos (by omega)] | rw [if_neg (by omega)] | rw [if_pos (by assumption)] | rw [if_neg (by assumption)])); rfl)
set_option maxRecDepth 100000 in
set_option maxHeartbeats 4000000 in
theorem k_moveT (B : jm_B) (l : Launch) (h : jm_H) (ac : Nat) (κ : S_) (μ : M_) (H : RC B ac h) (n : Nat) (hn : n < 3) {m f : Int} (hB : BB m f κ) (hS : SS κ) : jm_Ct gG B l (gm 29) [.inr (.inl (some ((ac + (38 + 5 * n)))))] (cs h ac κ μ) (fun v h' => h' = cs h ac (sp_tro κ n) μ) := by
  show jm_Ct gG B l M_Crane_moveTrolley _ _ _
  refine jm_C0 (code := k_Crane_moveTrolley) (Or.inl (by decide)) (by decide) v_Crane_moveTrolley rfl (Nat.le_of_ble_eq_true rfl) [some (.inr (.inl (some ((ac + (38 + 5 * n)))))), none] rfl rfl ⟨30, ?_⟩
  have b3 : 0 ≤ κ 3 n ∧ κ 3 n ≤ 6000 := hB 3 n
  have b4 : 0 ≤ κ 4 n ∧ κ 4 n ≤ 8000 := hB 4 n
  have b5 : 0 ≤ κ 5 n ∧ κ 5 n ≤ 1000 := hB 5 n
  have b6 : -20 ≤ κ 6 (3 * n + 1) ∧ κ 6 (3 * n + 1) ≤ 20 := hB 6 _
  have b7 : -20 ≤ κ 6 (3 * n + 2) ∧ κ 6 (3 * n + 2) ≤ 20 := hB 6 _
  have bt := tabb hB hS (c := n) (by omega) (by omega) (κ 3 n) b3.1
  obtain ⟨t, ht⟩ : ∃ t, clampS (κ 3 n + κ 6 (3 * n + 1)) 6000 = t := ⟨_, rfl⟩
  have t1 := clampS_b (κ 3 n + κ 6 (3 * n + 1)) (y := 6000) (by decide)
  rw [ht] at t1
  have q1 := tabb hB hS (c := n) (by omega) (by omega) t t1.1
  have A1 : Unit → (t ≤ κ 3 n ∨ κ 5 n ≤ tabS κ n t) → sp_tro κ n = jm_u2 κ 3 n t := fun _ q => by unfold sp_tro toS; simp only [nat3, n3b, ht]; rw [if_pos q]
  have A2 : Unit → ¬ (t ≤ κ 3 n ∨ κ 5 n ≤ tabS κ n t) → sp_tro κ n = κ := fun _ q => by unfold sp_tro toS; simp only [nat3, n3b, ht]; rw [if_neg q]
  obtain ⟨u, hu⟩ : ∃ u, (if κ 3 n + κ 6 (3 * n + 1) < 6000 then κ 3 n + κ 6 (3 * n + 1) else 6000) = u := ⟨_, rfl⟩
  have ub : -100 ≤ u ∧ u ≤ 6000 := by rw [← hu]; split <;> omega
  have ht' : (if 0 < u then u else 0) = t := by
    have e := clampE (κ 3 n + κ 6 (3 * n + 1)) 6000 (by decide)
    rw [hu, ht] at e
    exact e
  simp (disch := omega) only [e_Crane_moveTrolley_0, e_Crane_moveTrolley_1, e_Crane_moveTrolley_2, e_Crane_moveTrolley_3, e_Crane_moveTrolley_4, e_Crane_moveTrolley_5, e_Crane_moveTrolley_6, e_Crane_moveTrolley_7, e_Crane_moveTrolley_8, e_Crane_moveTrolley_9, e_Crane_moveTrolley_10, e_Crane_moveTrolley_11, e_Crane_moveTrolley_12, e_Crane_moveTrolley_13, e_Crane_moveTrolley_14, e_Crane_moveTrolley_15, e_Crane_moveTrolley_16, e_Crane_moveTrolley_17, e_Crane_moveTrolley_18, e_Crane_moveTrolley_19, e_Crane_moveTrolley_20, e_Crane_moveTrolley_21, e_Crane_moveTrolley_22, e_Crane_moveTrolley_23, e_Crane_moveTrolley_24, e_Crane_moveTrolley_25, jm_ia, jm_na, jm_qa, jm_aa, jm_asg, jm_l4, jm_Kr, jm_okv, jm_rc, jm_bo, true_and, and_true, Nat.add_zero, Nat.le_refl, j_lt, j_le, j_eq, j_lt0, j_0lt, j_le0, j_0le, j_eq0, j_add, j_sub, j_mul, j_neg, j_0sub, j_nat, j_in, j_div, j_rem, Sum.inl.injEq, exists_eq', true_or, or_true, if_true, if_false, not_true_eq_false, not_false_eq_true, implies_true, j_eq1, reduceIte, Nat.reduceEqDiff, Int.reduceEq, Int.reduceToNat, Nat.reduceAdd, Int.reduceAdd, Int.reduceSub, Int.reduceMul, Int.reduceNeg, and_false, false_and, and_self, u2r, j_b0, j_b1, Classical.not_not, eq_self, true_implies, false_implies, not_true_eq_false, not_false_eq_true, Int.reduceLT, Int.reduceLE, ck, cn, ck0 H, ck1 H, ck2 H, ck3 H, ck4 H, ck5 H, ck6 H, ck7 H, ck8 H, ck9 H, ck10 H, ck11 H, ck12 H, ck13 H, ck14 H, ck15 H, ck16 H, ck17 H, ck18 H, cr0 H, cr1 H, cr2 H, cr3 H, cr4 H, cr5 H, cr6 H, cr7 H, cr8 H, cr9 H, cr10 H, cr11 H, cr12 H, cr13 H, cr14 H, cr15 H, cr16 H, i_s4, i_b3, i_b4, i_b5, i_b6, i_b7, i_b8, i_b9, i_c2, i_c3, i_c4, i_c5, i_c6, i_c7, i_c8, i_c9, i_c10, i_c11, i_t2, i_k0, i_k2, i_k3, i_k4, i_k5, i_ka0, i_ka1, i_ka2, i_a0, i_a2, i_a3, i_a4, i_aa0, i_aa1, i_aa2, i_o0, i_o1, i_o2, i_f, i_u, i_rd, i_ld, w_s4, w_b3, w_b4, w_b5, w_b6, w_b7, w_b8, w_b9, w_c2, w_c3, w_c4, w_c5, w_c6, w_c7, w_c8, w_c9, w_c10, w_c11, w_t2, w_k0, w_k2, w_k3, w_k4, w_k5, w_ka0, w_ka1, w_ka2, w_a0, w_a2, w_a3, w_a4, w_aa0, w_aa1, w_aa2, w_o0, w_o1, w_o2, w_f, w_u, w_rd, w_ld, csk0 H, csk1 H, csi0 H, csi1 H, cr, wr, j_ite, hu, ht']
  repeat' first
    | apply And.intro
    | (intro _)
    | (refine ⟨_, k_at B l _ _ _ _ H _ hn hB hS t (by omega) (by omega), ?_⟩; rintro y h' ⟨rfl, hy⟩; cases hy; try simp (disch := omega) only [e_Crane_moveTrolley_0, e_Crane_moveTrolley_1, e_Crane_moveTrolley_2, e_Crane_moveTrolley_3, e_Crane_moveTrolley_4, e_Crane_moveTrolley_5, e_Crane_moveTrolley_6, e_Crane_moveTrolley_7, e_Crane_moveTrolley_8, e_Crane_moveTrolley_9, e_Crane_moveTrolley_10, e_Crane_moveTrolley_11, e_Crane_moveTrolley_12, e_Crane_moveTrolley_13, e_Crane_moveTrolley_14, e_Crane_moveTrolley_15, e_Crane_moveTrolley_16, e_Crane_moveTrolley_17, e_Crane_moveTrolley_18, e_Crane_moveTrolley_19, e_Crane_moveTrolley_20, e_Crane_moveTrolley_21, e_Crane_moveTrolley_22, e_Crane_moveTrolley_23, e_Crane_moveTrolley_24, e_Crane_moveTrolley_25, jm_ia, jm_na, jm_qa, jm_aa, jm_asg, jm_l4, jm_Kr, jm_okv, jm_rc, jm_bo, true_and, and_true, Nat.add_zero, Nat.le_refl, j_lt, j_le, j_eq, j_lt0, j_0lt, j_le0, j_0le, j_eq0, j_add, j_sub, j_mul, j_neg, j_0sub, j_nat, j_in, j_div, j_rem, Sum.inl.injEq, exists_eq', true_or, or_true, if_true, if_false, not_true_eq_false, not_false_eq_true, implies_true, j_eq1, reduceIte, Nat.reduceEqDiff, Int.reduceEq, Int.reduceToNat, Nat.reduceAdd, Int.reduceAdd, Int.reduceSub, Int.reduceMul, Int.reduceNeg, and_false, false_and, and_self, u2r, j_b0, j_b1, Classical.not_not, eq_self, true_implies, false_implies, not_true_eq_false, not_false_eq_true, Int.reduceLT, Int.reduceLE, ck, cn, ck0 H, ck1 H, ck2 H, ck3 H, ck4 H, ck5 H, ck6 H, ck7 H, ck8 H, ck9 H, ck10 H, ck11 H, ck12 H, ck13 H, ck14 H, ck15 H, ck16 H, ck17 H, ck18 H, cr0 H, cr1 H, cr2 H, cr3 H, cr4 H, cr5 H, cr6 H, cr7 H, cr8 H, cr9 H, cr10 H, cr11 H, cr12 H, cr13 H, cr14 H, cr15 H, cr16 H, i_s4, i_b3, i_b4, i_b5, i_b6, i_b7, i_b8, i_b9, i_c2, i_c3, i_c4, i_c5, i_c6, i_c7, i_c8, i_c9, i_c10, i_c11, i_t2, i_k0, i_k2, i_k3, i_k4, i_k5, i_ka0, i_ka1, i_ka2, i_a0, i_a2, i_a3, i_a4, i_aa0, i_aa1, i_aa2, i_o0, i_o1, i_o2, i_f, i_u, i_rd, i_ld, w_s4, w_b3, w_b4, w_b5, w_b6, w_b7, w_b8, w_b9, w_c2, w_c3, w_c4, w_c5, w_c6, w_c7, w_c8, w_c9, w_c10, w_c11, w_t2, w_k0, w_k2, w_k3, w_k4, w_k5, w_ka0, w_ka1, w_ka2, w_a0, w_a2, w_a3, w_a4, w_aa0, w_aa1, w_aa2, w_o0, w_o1, w_o2, w_f, w_u, w_rd, w_ld, csk0 H, csk1 H, csi0 H, csi1 H, cr, wr, j_ite, hu, ht'])
  all_goals first
    | contradiction
    | exact trivial
    | rfl
    | omega
    | exact (bi1 (by omega)).symm
    | exact (bi0 (by omega)).symm
    | exact (bi1 (by assumption)).symm
    | exact (bi0 (by assumption)).symm
    | (rw [A1 () (by omega)]; done)
    | (rw [A2 () (by omega)]; done)
    | ((try unfold IN_); (repeat (first | rw [if_pos (by omega)] | rw [if_neg (by omega)])); done)
    | ((try unfold IN_); (repeat (first | rw [if_pos (by omega)] | rw [if_neg (by omega)])); rfl)
    | ((try unfold IN_); (repeat (first | rw [if_pos (by omega)] | rw [if_neg (by omega)] | rw [if_pos (by assumption)] | rw [if_neg (by assumption)])); rfl)
set_option maxRecDepth 100000 in
set_option maxHeartbeats 4000000 in
theorem k_moveH (B : jm_B) (l : Launch) (h : jm_H) (ac : Nat) (κ : S_) (μ : M_) (H : RC B ac h) (n : Nat) (hn : n < 3) {m f : Int} (hB : BB m f κ) (hS : SS κ) : jm_Ct gG B l (gm 30) [.inr (.inl (some ((ac + (38 + 5 * n)))))] (cs h ac κ μ) (fun v h' => h' = cs h ac (sp_hok κ n) μ) := by
  show jm_Ct gG B l M_Crane_moveHook _ _ _
  refine jm_C0 (code := k_Crane_moveHook) (Or.inl (by decide)) (by decide) v_Crane_moveHook rfl (Nat.le_of_ble_eq_true rfl) [some (.inr (.inl (some ((ac + (38 + 5 * n)))))), none] rfl rfl ⟨26, ?_⟩
  have b3 : 0 ≤ κ 3 n ∧ κ 3 n ≤ 6000 := hB 3 n
  have b4 : 0 ≤ κ 4 n ∧ κ 4 n ≤ 8000 := hB 4 n
  have b5 : 0 ≤ κ 5 n ∧ κ 5 n ≤ 1000 := hB 5 n
  have b6 : -20 ≤ κ 6 (3 * n + 1) ∧ κ 6 (3 * n + 1) ≤ 20 := hB 6 _
  have b7 : -20 ≤ κ 6 (3 * n + 2) ∧ κ 6 (3 * n + 2) ≤ 20 := hB 6 _
  have bt := tabb hB hS (c := n) (by omega) (by omega) (κ 3 n) b3.1
  obtain ⟨t, ht⟩ : ∃ t, clampS (κ 4 n + κ 6 (3 * n + 2)) 8000 = t := ⟨_, rfl⟩
  have t1 := clampS_b (κ 4 n + κ 6 (3 * n + 2)) (y := 8000) (by decide)
  rw [ht] at t1
  obtain ⟨w, hw⟩ := flg_ex (tabS κ n (κ 3 n) < κ 5 n)
  have w1 := flg1 hw
  have w0 := flg01 hw
  have A1 : Unit → (t ≤ κ 4 n ∨ κ 5 n ≤ tabS κ n (κ 3 n)) → sp_hok κ n = jm_u2 κ 4 n t := fun _ q => by unfold sp_hok upS; simp only [nat3, n3c, ht]; rw [if_pos q]
  have A2 : Unit → ¬ (t ≤ κ 4 n ∨ κ 5 n ≤ tabS κ n (κ 3 n)) → sp_hok κ n = κ := fun _ q => by unfold sp_hok upS; simp only [nat3, n3c, ht]; rw [if_neg q]
  obtain ⟨u, hu⟩ : ∃ u, (if κ 4 n + κ 6 (3 * n + 2) < 8000 then κ 4 n + κ 6 (3 * n + 2) else 8000) = u := ⟨_, rfl⟩
  have ub : -100 ≤ u ∧ u ≤ 8000 := by rw [← hu]; split <;> omega
  have ht' : (if 0 < u then u else 0) = t := by
    have e := clampE (κ 4 n + κ 6 (3 * n + 2)) 8000 (by decide)
    rw [hu, ht] at e
    exact e
  simp (disch := omega) only [e_Crane_moveHook_0, e_Crane_moveHook_1, e_Crane_moveHook_2, e_Crane_moveHook_3, e_Crane_moveHook_4, e_Crane_moveHook_5, e_Crane_moveHook_6, e_Crane_moveHook_7, e_Crane_moveHook_8, e_Crane_moveHook_9, e_Crane_moveHook_10, e_Crane_moveHook_11, e_Crane_moveHook_12, e_Crane_moveHook_13, e_Crane_moveHook_14, e_Crane_moveHook_15, e_Crane_moveHook_16, e_Crane_moveHook_17, e_Crane_moveHook_18, e_Crane_moveHook_19, e_Crane_moveHook_20, e_Crane_moveHook_21, jm_ia, jm_na, jm_qa, jm_aa, jm_asg, jm_l4, jm_Kr, jm_okv, jm_rc, jm_bo, true_and, and_true, Nat.add_zero, Nat.le_refl, j_lt, j_le, j_eq, j_lt0, j_0lt, j_le0, j_0le, j_eq0, j_add, j_sub, j_mul, j_neg, j_0sub, j_nat, j_in, j_div, j_rem, Sum.inl.injEq, exists_eq', true_or, or_true, if_true, if_false, not_true_eq_false, not_false_eq_true, implies_true, j_eq1, reduceIte, Nat.reduceEqDiff, Int.reduceEq, Int.reduceToNat, Nat.reduceAdd, Int.reduceAdd, Int.reduceSub, Int.reduceMul, Int.reduceNeg, and_false, false_and, and_self, u2r, j_b0, j_b1, Classical.not_not, eq_self, true_implies, false_implies, not_true_eq_false, not_false_eq_true, Int.reduceLT, Int.reduceLE, ck, cn, ck0 H, ck1 H, ck2 H, ck3 H, ck4 H, ck5 H, ck6 H, ck7 H, ck8 H, ck9 H, ck10 H, ck11 H, ck12 H, ck13 H, ck14 H, ck15 H, ck16 H, ck17 H, ck18 H, cr0 H, cr1 H, cr2 H, cr3 H, cr4 H, cr5 H, cr6 H, cr7 H, cr8 H, cr9 H, cr10 H, cr11 H, cr12 H, cr13 H, cr14 H, cr15 H, cr16 H, i_s4, i_b3, i_b4, i_b5, i_b6, i_b7, i_b8, i_b9, i_c2, i_c3, i_c4, i_c5, i_c6, i_c7, i_c8, i_c9, i_c10, i_c11, i_t2, i_k0, i_k2, i_k3, i_k4, i_k5, i_ka0, i_ka1, i_ka2, i_a0, i_a2, i_a3, i_a4, i_aa0, i_aa1, i_aa2, i_o0, i_o1, i_o2, i_f, i_u, i_rd, i_ld, w_s4, w_b3, w_b4, w_b5, w_b6, w_b7, w_b8, w_b9, w_c2, w_c3, w_c4, w_c5, w_c6, w_c7, w_c8, w_c9, w_c10, w_c11, w_t2, w_k0, w_k2, w_k3, w_k4, w_k5, w_ka0, w_ka1, w_ka2, w_a0, w_a2, w_a3, w_a4, w_aa0, w_aa1, w_aa2, w_o0, w_o1, w_o2, w_f, w_u, w_rd, w_ld, csk0 H, csk1 H, csi0 H, csi1 H, cr, wr, j_ite, hu, ht']
  repeat' first
    | apply And.intro
    | (intro _)
    | (refine ⟨_, k_over B l _ _ _ _ H _ hn hB hS hw, ?_⟩; rintro y h' ⟨rfl, hy⟩; cases hy; try simp (disch := omega) only [e_Crane_moveHook_0, e_Crane_moveHook_1, e_Crane_moveHook_2, e_Crane_moveHook_3, e_Crane_moveHook_4, e_Crane_moveHook_5, e_Crane_moveHook_6, e_Crane_moveHook_7, e_Crane_moveHook_8, e_Crane_moveHook_9, e_Crane_moveHook_10, e_Crane_moveHook_11, e_Crane_moveHook_12, e_Crane_moveHook_13, e_Crane_moveHook_14, e_Crane_moveHook_15, e_Crane_moveHook_16, e_Crane_moveHook_17, e_Crane_moveHook_18, e_Crane_moveHook_19, e_Crane_moveHook_20, e_Crane_moveHook_21, jm_ia, jm_na, jm_qa, jm_aa, jm_asg, jm_l4, jm_Kr, jm_okv, jm_rc, jm_bo, true_and, and_true, Nat.add_zero, Nat.le_refl, j_lt, j_le, j_eq, j_lt0, j_0lt, j_le0, j_0le, j_eq0, j_add, j_sub, j_mul, j_neg, j_0sub, j_nat, j_in, j_div, j_rem, Sum.inl.injEq, exists_eq', true_or, or_true, if_true, if_false, not_true_eq_false, not_false_eq_true, implies_true, j_eq1, reduceIte, Nat.reduceEqDiff, Int.reduceEq, Int.reduceToNat, Nat.reduceAdd, Int.reduceAdd, Int.reduceSub, Int.reduceMul, Int.reduceNeg, and_false, false_and, and_self, u2r, j_b0, j_b1, Classical.not_not, eq_self, true_implies, false_implies, not_true_eq_false, not_false_eq_true, Int.reduceLT, Int.reduceLE, ck, cn, ck0 H, ck1 H, ck2 H, ck3 H, ck4 H, ck5 H, ck6 H, ck7 H, ck8 H, ck9 H, ck10 H, ck11 H, ck12 H, ck13 H, ck14 H, ck15 H, ck16 H, ck17 H, ck18 H, cr0 H, cr1 H, cr2 H, cr3 H, cr4 H, cr5 H, cr6 H, cr7 H, cr8 H, cr9 H, cr10 H, cr11 H, cr12 H, cr13 H, cr14 H, cr15 H, cr16 H, i_s4, i_b3, i_b4, i_b5, i_b6, i_b7, i_b8, i_b9, i_c2, i_c3, i_c4, i_c5, i_c6, i_c7, i_c8, i_c9, i_c10, i_c11, i_t2, i_k0, i_k2, i_k3, i_k4, i_k5, i_ka0, i_ka1, i_ka2, i_a0, i_a2, i_a3, i_a4, i_aa0, i_aa1, i_aa2, i_o0, i_o1, i_o2, i_f, i_u, i_rd, i_ld, w_s4, w_b3, w_b4, w_b5, w_b6, w_b7, w_b8, w_b9, w_c2, w_c3, w_c4, w_c5, w_c6, w_c7, w_c8, w_c9, w_c10, w_c11, w_t2, w_k0, w_k2, w_k3, w_k4, w_k5, w_ka0, w_ka1, w_ka2, w_a0, w_a2, w_a3, w_a4, w_aa0, w_aa1, w_aa2, w_o0, w_o1, w_o2, w_f, w_u, w_rd, w_ld, csk0 H, csk1 H, csi0 H, csi1 H, cr, wr, j_ite, hu, ht'])
  all_goals first
    | contradiction
    | exact trivial
    | rfl
    | omega
    | exact (bi1 (by omega)).symm
    | exact (bi0 (by omega)).symm
    | exact (bi1 (by assumption)).symm
    | exact (bi0 (by assumption)).symm
    | (rw [A1 () (by omega)]; done)
    | (rw [A2 () (by omega)]; done)
    | ((try unfold IN_); (repeat (first | rw [if_pos (by omega)] | rw [if_neg (by omega)])); done)
    | ((try unfold IN_); (repeat (first | rw [if_pos (by omega)] | rw [if_neg (by omega)])); rfl)
    | ((try unfold IN_); (repeat (first | rw [if_pos (by omega)] | rw [if_neg (by omega)] | rw [if_pos (by assumption)] | rw [if_neg (by assumption)])); rfl)
set_option maxRecDepth 100000 in
set_option maxHeartbeats 4000000 in
theorem k_better (B : jm_B) (l : Launch) (h : jm_H) (ac : Nat) (κ : S_) (μ : M_) (H : RC B ac h) (n : Nat) (hn : n < 3) {m f : Int} (hB : BB m f κ) (hS : SS κ) (v t : Int) (hv0 : -11 ≤ v) (hv1 : v ≤ 11) (ht0 : -11 ≤ t) (ht1 : t ≤ 11) {w : Int} (hw : Flg (off2 v (κ 6 (3 * n)) < off2 t (κ 6 (3 * n)) ∨ (off2 v (κ 6 (3 * n)) = off2 t (κ 6 (3 * n)) ∧ off2 v 0 < off2 t 0)) w) : jm_Ct gG B l (gm 26) [.inr (.inl (some ((ac + (38 + 5 * n))))), .inl (Int32.ofInt (v)), .inl (Int32.ofInt (t))] (cs h ac κ μ) (fun v h' => h' = cs h ac κ μ ∧ v = .inl (Int32.ofInt w)) := by
  show jm_Ct gG B l M_Crane_isBetter _ _ _
  refine jm_C0 (code := k_Crane_isBetter) (Or.inl (by decide)) (by decide) v_Crane_isBetter rfl (Nat.le_of_ble_eq_true rfl) [some (.inr (.inl (some ((ac + (38 + 5 * n)))))), some (.inl (Int32.ofInt (v))), some (.inl (Int32.ofInt (t))), none, none] rfl rfl ⟨31, ?_⟩
  have b6 : -20 ≤ κ 6 (3 * n) ∧ κ 6 (3 * n) ≤ 20 := hB 6 _
  have o1 := off2_b v (κ 6 (3 * n)) (by omega) (by omega) (by omega) (by omega)
  have o2 := off2_b t (κ 6 (3 * n)) (by omega) (by omega) (by omega) (by omega)
  have o3 := off2_b v 0 (by omega) (by omega) (by omega) (by omega)
  have o4 := off2_b t 0 (by omega) (by omega) (by omega) (by omega)
  have w1 := flg1 hw
  have w0 := flg01 hw
  simp (disch := omega) only [e_Crane_isBetter_0, e_Crane_isBetter_1, e_Crane_isBetter_2, e_Crane_isBetter_3, e_Crane_isBetter_4, e_Crane_isBetter_5, e_Crane_isBetter_6, e_Crane_isBetter_7, e_Crane_isBetter_8, e_Crane_isBetter_9, e_Crane_isBetter_10, e_Crane_isBetter_11, e_Crane_isBetter_12, e_Crane_isBetter_13, e_Crane_isBetter_14, e_Crane_isBetter_15, e_Crane_isBetter_16, e_Crane_isBetter_17, e_Crane_isBetter_18, e_Crane_isBetter_19, e_Crane_isBetter_20, e_Crane_isBetter_21, e_Crane_isBetter_22, e_Crane_isBetter_23, e_Crane_isBetter_24, e_Crane_isBetter_25, e_Crane_isBetter_26, jm_ia, jm_na, jm_qa, jm_aa, jm_asg, jm_l4, jm_Kr, jm_okv, jm_rc, jm_bo, true_and, and_true, Nat.add_zero, Nat.le_refl, j_lt, j_le, j_eq, j_lt0, j_0lt, j_le0, j_0le, j_eq0, j_add, j_sub, j_mul, j_neg, j_0sub, j_nat, j_in, j_div, j_rem, Sum.inl.injEq, exists_eq', true_or, or_true, if_true, if_false, not_true_eq_false, not_false_eq_true, implies_true, j_eq1, reduceIte, Nat.reduceEqDiff, Int.reduceEq, Int.reduceToNat, Nat.reduceAdd, Int.reduceAdd, Int.reduceSub, Int.reduceMul, Int.reduceNeg, and_false, false_and, and_self, u2r, j_b0, j_b1, Classical.not_not, eq_self, true_implies, false_implies, not_true_eq_false, not_false_eq_true, Int.reduceLT, Int.reduceLE, ck, cn, ck0 H, ck1 H, ck2 H, ck3 H, ck4 H, ck5 H, ck6 H, ck7 H, ck8 H, ck9 H, ck10 H, ck11 H, ck12 H, ck13 H, ck14 H, ck15 H, ck16 H, ck17 H, ck18 H, cr0 H, cr1 H, cr2 H, cr3 H, cr4 H, cr5 H, cr6 H, cr7 H, cr8 H, cr9 H, cr10 H, cr11 H, cr12 H, cr13 H, cr14 H, cr15 H, cr16 H, i_s4, i_b3, i_b4, i_b5, i_b6, i_b7, i_b8, i_b9, i_c2, i_c3, i_c4, i_c5, i_c6, i_c7, i_c8, i_c9, i_c10, i_c11, i_t2, i_k0, i_k2, i_k3, i_k4, i_k5, i_ka0, i_ka1, i_ka2, i_a0, i_a2, i_a3, i_a4, i_aa0, i_aa1, i_aa2, i_o0, i_o1, i_o2, i_f, i_u, i_rd, i_ld, w_s4, w_b3, w_b4, w_b5, w_b6, w_b7, w_b8, w_b9, w_c2, w_c3, w_c4, w_c5, w_c6, w_c7, w_c8, w_c9, w_c10, w_c11, w_t2, w_k0, w_k2, w_k3, w_k4, w_k5, w_ka0, w_ka1, w_ka2, w_a0, w_a2, w_a3, w_a4, w_aa0, w_aa1, w_aa2, w_o0, w_o1, w_o2, w_f, w_u, w_rd, w_ld, csk0 H, csk1 H, csi0 H, csi1 H, cr, wr, j_ite, absE, absE0 v, absE0 t]
  repeat' first
    | apply And.intro
    | (intro _)
  all_goals first
    | contradiction
    | exact trivial
    | rfl
    | omega
    | exact (bi1 (by omega)).symm
    | exact (bi0 (by omega)).symm
    | exact (bi1 (by assumption)).symm
    | exact (bi0 (by assumption)).symm
    | (congr 1; omega)
    | ((try unfold IN_); (repeat (first | rw [if_pos (by omega)] | rw [if_neg (by omega)])); done)
    | ((try unfold IN_); (repeat (first | rw [if_pos (by omega)] | rw [if_neg (by omega)])); rfl)
    | ((try unfold IN_); (repeat (first | rw [if_pos (by omega)] | rw [if_neg (by omega)] | rw [if_pos (by assumption)] | rw [if_neg (by assumption)])); rfl)
set_option maxRecDepth 100000 in
set_option maxHeartbeats 4000000 in
theorem k_wants (B : jm_B) (l : Launch) (h : jm_H) (ac : Nat) (κ : S_) (μ : M_) (H : RC B ac h) (n : Nat) (hn : n < 3) {m f : Int} (hB : BB m f κ) (hS : SS κ) (a : Nat) (hk : jm_k h a = some (.inl 0)) (f' z : Int) (h0 : jm_i (cs h ac κ μ) a 0 = Int32.ofInt f') (h1 : jm_i (cs h ac κ μ) a 1 = Int32.ofInt z) (hf0 : 0 ≤ f') (hf1 : f' < 3600) (hz0 : 0 ≤ z) (hz1 : z < 3600) {w : Int} (hw : Flg (IN_ (κ 1 n) f' z ∨ (0 < κ 6 (3 * n) ∧ (f' - κ 1 n) % 3600 < 200) ∨ (κ 6 (3 * n) < 0 ∧ (κ 1 n - (f' + z - 1)) % 3600 < 200)) w) : jm_Ct gG B l (gm 23) [.inr (.inl (some ((ac + (38 + 5 * n))))), .inr (.inl (some (a)))] (cs h ac κ μ) (fun v h' => h' = cs h ac κ μ ∧ v = .inl (Int32.ofInt w)) := by
  show jm_Ct gG B l M_Crane_wants _ _ _
  refine jm_C0 (code := k_Crane_wants) (Or.inl (by decide)) (by decide) v_Crane_wants rfl (Nat.le_of_ble_eq_true rfl) [some (.inr (.inl (some ((ac + (38 + 5 * n)))))), some (.inr (.inl (some (a))))] rfl rfl ⟨26, ?_⟩
  have b1 : 0 ≤ κ 1 n ∧ κ 1 n < 3600 := hB 1 n
  have b6 : -20 ≤ κ 6 (3 * n) ∧ κ 6 (3 * n) ≤ 20 := hB 6 _
  obtain ⟨wi, hwi⟩ := flg_ex (IN_ (κ 1 n) f' z)
  have w1 := flg1 hw
  have w0 := flg01 hw
  have i1 := flg1 hwi
  have i0 := flg01 hwi
  have d1 : 0 ≤ (f' - κ 1 n) % 3600 ∧ (f' - κ 1 n) % 3600 < 3600 := by omega
  have d2 : 0 ≤ (κ 1 n - (f' + z - 1)) % 3600 ∧ (κ 1 n - (f' + z - 1)) % 3600 < 3600 := by omega
  rw [← i1] at w1
  clear i1
  simp (disch := omega) only [e_Crane_wants_0, e_Crane_wants_1, e_Crane_wants_2, e_Crane_wants_3, e_Crane_wants_4, e_Crane_wants_5, e_Crane_wants_6, e_Crane_wants_7, e_Crane_wants_8, e_Crane_wants_9, e_Crane_wants_10, e_Crane_wants_11, e_Crane_wants_12, e_Crane_wants_13, e_Crane_wants_14, e_Crane_wants_15, e_Crane_wants_16, e_Crane_wants_17, e_Crane_wants_18, e_Crane_wants_19, e_Crane_wants_20, e_Crane_wants_21, jm_ia, jm_na, jm_qa, jm_aa, jm_asg, jm_l4, jm_Kr, jm_okv, jm_rc, jm_bo, true_and, and_true, Nat.add_zero, Nat.le_refl, j_lt, j_le, j_eq, j_lt0, j_0lt, j_le0, j_0le, j_eq0, j_add, j_sub, j_mul, j_neg, j_0sub, j_nat, j_in, j_div, j_rem, Sum.inl.injEq, exists_eq', true_or, or_true, if_true, if_false, not_true_eq_false, not_false_eq_true, implies_true, j_eq1, reduceIte, Nat.reduceEqDiff, Int.reduceEq, Int.reduceToNat, Nat.reduceAdd, Int.reduceAdd, Int.reduceSub, Int.reduceMul, Int.reduceNeg, and_false, false_and, and_self, u2r, j_b0, j_b1, Classical.not_not, eq_self, true_implies, false_implies, not_true_eq_false, not_false_eq_true, Int.reduceLT, Int.reduceLE, ck, cn, ck0 H, ck1 H, ck2 H, ck3 H, ck4 H, ck5 H, ck6 H, ck7 H, ck8 H, ck9 H, ck10 H, ck11 H, ck12 H, ck13 H, ck14 H, ck15 H, ck16 H, ck17 H, ck18 H, cr0 H, cr1 H, cr2 H, cr3 H, cr4 H, cr5 H, cr6 H, cr7 H, cr8 H, cr9 H, cr10 H, cr11 H, cr12 H, cr13 H, cr14 H, cr15 H, cr16 H, i_s4, i_b3, i_b4, i_b5, i_b6, i_b7, i_b8, i_b9, i_c2, i_c3, i_c4, i_c5, i_c6, i_c7, i_c8, i_c9, i_c10, i_c11, i_t2, i_k0, i_k2, i_k3, i_k4, i_k5, i_ka0, i_ka1, i_ka2, i_a0, i_a2, i_a3, i_a4, i_aa0, i_aa1, i_aa2, i_o0, i_o1, i_o2, i_f, i_u, i_rd, i_ld, w_s4, w_b3, w_b4, w_b5, w_b6, w_b7, w_b8, w_b9, w_c2, w_c3, w_c4, w_c5, w_c6, w_c7, w_c8, w_c9, w_c10, w_c11, w_t2, w_k0, w_k2, w_k3, w_k4, w_k5, w_ka0, w_ka1, w_ka2, w_a0, w_a2, w_a3, w_a4, w_aa0, w_aa1, w_aa2, w_o0, w_o1, w_o2, w_f, w_u, w_rd, w_ld, csk0 H, csk1 H, csi0 H, csi1 H, cr, wr]
  repeat' first
    | apply And.intro
    | (intro _)
    | (refine ⟨_, k_has B l (cs h ac κ μ) a hk f' z h0 h1 hf0 hf1 hz0 hz1 _ (by omega) (by omega) hwi, ?_⟩; rintro y h' ⟨rfl, hy⟩; cases hy; try simp (disch := omega) only [e_Crane_wants_0, e_Crane_wants_1, e_Crane_wants_2, e_Crane_wants_3, e_Crane_wants_4, e_Crane_wants_5, e_Crane_wants_6, e_Crane_wants_7, e_Crane_wants_8, e_Crane_wants_9, e_Crane_wants_10, e_Crane_wants_11, e_Crane_wants_12, e_Crane_wants_13, e_Crane_wants_14, e_Crane_wants_15, e_Crane_wants_16, e_Crane_wants_17, e_Crane_wants_18, e_Crane_wants_19, e_Crane_wants_20, e_Crane_wants_21, jm_ia, jm_na, jm_qa, jm_aa, jm_asg, jm_l4, jm_Kr, jm_okv, jm_rc, jm_bo, true_and, and_true, Nat.add_zero, Nat.le_refl, j_lt, j_le, j_eq, j_lt0, j_0lt, j_le0, j_0le, j_eq0, j_add, j_sub, j_mul, j_neg, j_0sub, j_nat, j_in, j_div, j_rem, Sum.inl.injEq, exists_eq', true_or, or_true, if_true, if_false, not_true_eq_false, not_false_eq_true, implies_true, j_eq1, reduceIte, Nat.reduceEqDiff, Int.reduceEq, Int.reduceToNat, Nat.reduceAdd, Int.reduceAdd, Int.reduceSub, Int.reduceMul, Int.reduceNeg, and_false, false_and, and_self, u2r, j_b0, j_b1, Classical.not_not, eq_self, true_implies, false_implies, not_true_eq_false, not_false_eq_true, Int.reduceLT, Int.reduceLE, ck, cn, ck0 H, ck1 H, ck2 H, ck3 H, ck4 H, ck5 H, ck6 H, ck7 H, ck8 H, ck9 H, ck10 H, ck11 H, ck12 H, ck13 H, ck14 H, ck15 H, ck16 H, ck17 H, ck18 H, cr0 H, cr1 H, cr2 H, cr3 H, cr4 H, cr5 H, cr6 H, cr7 H, cr8 H, cr9 H, cr10 H, cr11 H, cr12 H, cr13 H, cr14 H, cr15 H, cr16 H, i_s4, i_b3, i_b4, i_b5, i_b6, i_b7, i_b8, i_b9, i_c2, i_c3, i_c4, i_c5, i_c6, i_c7, i_c8, i_c9, i_c10, i_c11, i_t2, i_k0, i_k2, i_k3, i_k4, i_k5, i_ka0, i_ka1, i_ka2, i_a0, i_a2, i_a3, i_a4, i_aa0, i_aa1, i_aa2, i_o0, i_o1, i_o2, i_f, i_u, i_rd, i_ld, w_s4, w_b3, w_b4, w_b5, w_b6, w_b7, w_b8, w_b9, w_c2, w_c3, w_c4, w_c5, w_c6, w_c7, w_c8, w_c9, w_c10, w_c11, w_t2, w_k0, w_k2, w_k3, w_k4, w_k5, w_ka0, w_ka1, w_ka2, w_a0, w_a2, w_a3, w_a4, w_aa0, w_aa1, w_aa2, w_o0, w_o1, w_o2, w_f, w_u, w_rd, w_ld, csk0 H, csk1 H, csi0 H, csi1 H, cr, wr])
    | (refine ⟨_, k_ahead B l (cs h ac κ μ) a hk f' z h0 h1 hf0 hf1 hz0 hz1 _ (by omega) (by omega) _ (by omega) (by omega), ?_⟩; rintro y h' ⟨rfl, hy⟩; cases hy; try simp (disch := omega) only [e_Crane_wants_0, e_Crane_wants_1, e_Crane_wants_2, e_Crane_wants_3, e_Crane_wants_4, e_Crane_wants_5, e_Crane_wants_6, e_Crane_wants_7, e_Crane_wants_8, e_Crane_wants_9, e_Crane_wants_10, e_Crane_wants_11, e_Crane_wants_12, e_Crane_wants_13, e_Crane_wants_14, e_Crane_wants_15, e_Crane_wants_16, e_Crane_wants_17, e_Crane_wants_18, e_Crane_wants_19, e_Crane_wants_20, e_Crane_wants_21, jm_ia, jm_na, jm_qa, jm_aa, jm_asg, jm_l4, jm_Kr, jm_okv, jm_rc, jm_bo, true_and, and_true, Nat.add_zero, Nat.le_refl, j_lt, j_le, j_eq, j_lt0, j_0lt, j_le0, j_0le, j_eq0, j_add, j_sub, j_mul, j_neg, j_0sub, j_nat, j_in, j_div, j_rem, Sum.inl.injEq, exists_eq', true_or, or_true, if_true, if_false, not_true_eq_false, not_false_eq_true, implies_true, j_eq1, reduceIte, Nat.reduceEqDiff, Int.reduceEq, Int.reduceToNat, Nat.reduceAdd, Int.reduceAdd, Int.reduceSub, Int.reduceMul, Int.reduceNeg, and_false, false_and, and_self, u2r, j_b0, j_b1, Classical.not_not, eq_self, true_implies, false_implies, not_true_eq_false, not_false_eq_true, Int.reduceLT, Int.reduceLE, ck, cn, ck0 H, ck1 H, ck2 H, ck3 H, ck4 H, ck5 H, ck6 H, ck7 H, ck8 H, ck9 H, ck10 H, ck11 H, ck12 H, ck13 H, ck14 H, ck15 H, ck16 H, ck17 H, ck18 H, cr0 H, cr1 H, cr2 H, cr3 H, cr4 H, cr5 H, cr6 H, cr7 H, cr8 H, cr9 H, cr10 H, cr11 H, cr12 H, cr13 H, cr14 H, cr15 H, cr16 H, i_s4, i_b3, i_b4, i_b5, i_b6, i_b7, i_b8, i_b9, i_c2, i_c3, i_c4, i_c5, i_c6, i_c7, i_c8, i_c9, i_c10, i_c11, i_t2, i_k0, i_k2, i_k3, i_k4, i_k5, i_ka0, i_ka1, i_ka2, i_a0, i_a2, i_a3, i_a4, i_aa0, i_aa1, i_aa2, i_o0, i_o1, i_o2, i_f, i_u, i_rd, i_ld, w_s4, w_b3, w_b4, w_b5, w_b6, w_b7, w_b8, w_b9, w_c2, w_c3, w_c4, w_c5, w_c6, w_c7, w_c8, w_c9, w_c10, w_c11, w_t2, w_k0, w_k2, w_k3, w_k4, w_k5, w_ka0, w_ka1, w_ka2, w_a0, w_a2, w_a3, w_a4, w_aa0, w_aa1, w_aa2, w_o0, w_o1, w_o2, w_f, w_u, w_rd, w_ld, csk0 H, csk1 H, csi0 H, csi1 H, cr, wr])
  all_goals (try simp (disch := first | omega | (split <;> omega)) only [j_lt, j_le] at *)
  all_goals first
    | contradiction
    | exact trivial
    | rfl
    | omega
    | exact (bi1 (by omega)).symm
    | exact (bi0 (by omega)).symm
    | exact (bi1 (by assumption)).symm
    | exact (bi0 (by assumption)).symm
    | (congr 1; omega)
    | (split at * <;> omega)
    | (congr 1; split at * <;> omega)
    | ((try unfold IN_); (repeat (first | rw [if_pos (by omega)] | rw [if_neg (by omega)])); done)
    | ((try unfold IN_); (repeat (first | rw [if_pos (by omega)] | rw [if_neg (by omega)])); rfl)
    | ((try unfold IN_); (repeat (first | rw [if_pos (by omega)] | rw [if_neg (by omega)] | rw [if_pos (by assumption)] | rw [if_neg (by assumption)])); rfl)
