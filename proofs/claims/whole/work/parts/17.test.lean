set_option maxRecDepth 100000 in
set_option maxHeartbeats 4000000 in
theorem m_in (B : jm_B) (l : Launch) (h : jm_H) (x lo hi : Int) (h1 : -2147483648 ≤ x) (h2 : x < 2147483648) (h3 : -2147483648 ≤ lo) (h4 : lo < 2147483648) (h5 : -2147483648 ≤ hi) (h6 : hi < 2147483648) : jm_Ct gG B l (gm 67) [.inl (Int32.ofInt x), .inl (Int32.ofInt lo), .inl (Int32.ofInt hi)] h (fun v h' => h' = h ∧ v = .inl (Int32.ofInt (if lo ≤ x ∧ x ≤ hi then 1 else 0))) := by
  show jm_Ct gG B l M_Mod_in _ _ _
  refine jm_C0 (code := k_Mod_in) (Or.inl (by decide)) (by decide) v_Mod_in rfl (Nat.le_of_ble_eq_true rfl) [some (.inl (Int32.ofInt x)), some (.inl (Int32.ofInt lo)), some (.inl (Int32.ofInt hi))] rfl rfl ⟨14, ?_⟩
  simp (disch := omega) only [e_Mod_in_0, e_Mod_in_1, e_Mod_in_2, e_Mod_in_3, e_Mod_in_4, e_Mod_in_5, e_Mod_in_6, e_Mod_in_7, e_Mod_in_8, e_Mod_in_9, jm_ia, jm_na, jm_qa, jm_aa, jm_asg, jm_l4, jm_Kr, jm_okv, jm_rc, jm_bo, true_and, and_true, Nat.add_zero, Nat.le_refl, j_lt, j_le, j_eq, j_lt0, j_0lt, j_le0, j_0le, j_eq0, j_add, j_sub, j_mul, j_neg, j_0sub, j_nat, j_in, j_div, j_rem]
  trace_state
  sorry
set_option maxRecDepth 100000 in
set_option maxHeartbeats 4000000 in
theorem m_isIn (B : jm_B) (l : Launch) (h : jm_H) (x f n : Int) (h1 : 0 ≤ x) (h2 : x < 3600) (h3 : 0 ≤ f) (h4 : f < 3600) (h5 : 0 ≤ n) (h6 : n < 3600) : jm_Ct gG B l (gm 81) [.inl (Int32.ofInt x), .inl (Int32.ofInt f), .inl (Int32.ofInt n)] h (fun v h' => h' = h ∧ v = .inl (Int32.ofInt (if (x - f + 3600) % 3600 < n then 1 else 0))) := by
  show jm_Ct gG B l M_Mod_isIn _ _ _
  refine jm_C0 (code := k_Mod_isIn) (Or.inl (by decide)) (by decide) v_Mod_isIn rfl (Nat.le_of_ble_eq_true rfl) [some (.inl (Int32.ofInt x)), some (.inl (Int32.ofInt f)), some (.inl (Int32.ofInt n))] rfl rfl ⟨17, ?_⟩
  simp (disch := omega) only [e_Mod_isIn_0, e_Mod_isIn_1, e_Mod_isIn_2, e_Mod_isIn_3, e_Mod_isIn_4, e_Mod_isIn_5, e_Mod_isIn_6, e_Mod_isIn_7, e_Mod_isIn_8, e_Mod_isIn_9, e_Mod_isIn_10, e_Mod_isIn_11, e_Mod_isIn_12, jm_ia, jm_na, jm_qa, jm_aa, jm_asg, jm_l4, jm_Kr, jm_okv, jm_rc, jm_bo, true_and, and_true, Nat.add_zero, Nat.le_refl, j_lt, j_le, j_eq, j_lt0, j_0lt, j_le0, j_0le, j_eq0, j_add, j_sub, j_mul, j_neg, j_0sub, j_nat, j_in, j_div, j_rem]
  trace_state
  sorry
