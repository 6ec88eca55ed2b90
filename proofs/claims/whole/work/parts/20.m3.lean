theorem KPb (j : Nat) : 0 ≤ KP j ∧ KP j ≤ 1 := by unfold KP; split <;> omega
theorem ASb (j : Nat) : 1 ≤ AS j ∧ AS j ≤ 2 := by unfold AS; split <;> omega
abbrev IN_ (a f n : Int) : Prop := (a - f + 3600) % 3600 < n
def crk (p s : Int) : Int := if s = 0 then KP p.toNat else AS p.toNat
theorem crkb (p s : Int) : 0 ≤ crk p s ∧ crk p s ≤ 2 := by
  have h1 := KPb p.toNat
  have h2 := ASb p.toNat
  unfold crk; split <;> omega
abbrev inS (σ : S_) (p s : Int) : Prop := ¬ σ 13 p.toNat = 0 ∧ IN_ (σ 1 (crk p s).toNat) (σ 14 (2 * p + s).toNat) (σ 15 (2 * p + s).toNat)
abbrev shutS (σ : S_) (p s : Int) : Prop := ¬ σ 13 p.toNat = 0 ∧ (s = 0 → ¬ σ 16 p.toNat = 1) ∧ (¬ s = 0 → ¬ σ 20 p.toNat = 2)
def Bq (σ : S_) : Prop := (∀ j, 0 ≤ σ 1 j ∧ σ 1 j < 3600) ∧ (∀ j, 0 ≤ σ 13 j ∧ σ 13 j ≤ 1) ∧ (∀ j, 0 ≤ σ 14 j ∧ σ 14 j < 3600) ∧ (∀ j, 0 ≤ σ 15 j ∧ σ 15 j < 3600) ∧ (∀ j, 0 ≤ σ 16 j ∧ σ 16 j ≤ 2) ∧ (∀ j, 0 ≤ σ 20 j ∧ σ 20 j ≤ 3)
set_option maxRecDepth 100000 in
set_option maxHeartbeats 4000000 in
theorem m_inShared0 (B : jm_B) (l : Launch) (h : jm_H) (am : Nat) (σ : S_) (H : RM B am h) (hq : Bq σ) (p : Int) (hp0 : 0 ≤ p) (hp1 : p ≤ 2) : jm_Ct gG B l (gm 82) [.inr (.inl (some am)), .inl (Int32.ofInt p), .inl (Int32.ofInt 0)] (mo h am σ) (fun v h' => h' = mo h am σ ∧ v = .inl (Int32.ofInt (if ¬ σ 13 p.toNat = 0 ∧ IN_ (σ 1 (KP p.toNat).toNat) (σ 14 (2 * p + 0).toNat) (σ 15 (2 * p + 0).toNat) then 1 else 0))) := by
  show jm_Ct gG B l M_Mod_inShared _ _ _
  refine jm_C0 (code := k_Mod_inShared) (Or.inl (by decide)) (by decide) v_Mod_inShared rfl (Nat.le_of_ble_eq_true rfl) [some (.inr (.inl (some am))), some (.inl (Int32.ofInt p)), some (.inl (Int32.ofInt 0)), none] rfl rfl ⟨45, ?_⟩
  have kb := KPb p.toNat
  have b1 := hq.1 (KP p.toNat).toNat
  have b2 := hq.2.1 p.toNat
  have b3 := hq.2.2.1 (2 * p + 0).toNat
  have b4 := hq.2.2.2.1 (2 * p + 0).toNat
  simp (disch := omega) only [e_Mod_inShared_0, e_Mod_inShared_1, e_Mod_inShared_2, e_Mod_inShared_3, e_Mod_inShared_4, e_Mod_inShared_5, e_Mod_inShared_6, e_Mod_inShared_7, e_Mod_inShared_8, e_Mod_inShared_9, e_Mod_inShared_10, e_Mod_inShared_11, e_Mod_inShared_12, e_Mod_inShared_13, e_Mod_inShared_14, e_Mod_inShared_15, e_Mod_inShared_16, e_Mod_inShared_17, e_Mod_inShared_18, e_Mod_inShared_19, e_Mod_inShared_20, e_Mod_inShared_21, e_Mod_inShared_22, e_Mod_inShared_23, e_Mod_inShared_24, e_Mod_inShared_25, e_Mod_inShared_26, e_Mod_inShared_27, e_Mod_inShared_28, e_Mod_inShared_29, e_Mod_inShared_30, e_Mod_inShared_31, e_Mod_inShared_32, e_Mod_inShared_33, e_Mod_inShared_34, e_Mod_inShared_35, e_Mod_inShared_36, e_Mod_inShared_37, e_Mod_inShared_38, e_Mod_inShared_39, e_Mod_inShared_40, jm_ia, jm_na, jm_qa, jm_aa, jm_asg, jm_l4, jm_Kr, jm_okv, jm_rc, jm_bo, true_and, and_true, Nat.add_zero, Nat.le_refl, j_lt, j_le, j_eq, j_lt0, j_0lt, j_le0, j_0le, j_eq0, j_add, j_sub, j_mul, j_neg, j_0sub, j_nat, j_in, j_div, j_rem, Sum.inl.injEq, exists_eq', true_or, or_true, if_true, if_false, not_true_eq_false, not_false_eq_true, implies_true, j_eq1, reduceIte, Nat.reduceEqDiff, Int.reduceEq, Int.reduceToNat, Nat.reduceAdd, Int.reduceAdd, Int.reduceSub, Int.reduceMul, Int.reduceNeg, and_false, false_and, and_self, u2r, j_b0, j_b1, Classical.not_not, eq_self, true_implies, false_implies, not_true_eq_false, not_false_eq_true, Int.reduceLT, Int.reduceLE, rk H, mi0, ms0, rs2 H, rs3 H, rr1 H, ra1 H, rr2 H, ra2 H, rr3 H, ra3 H, rr4 H, ra4 H, rr5 H, ra5 H, rr6 H, ra6 H, rr7 H, ra7 H, rr8 H, ra8 H, rr9 H, ra9 H, rr10 H, ra10 H, rr11 H, ra11 H, rr12 H, ra12 H, rr13 H, ra13 H, rr14 H, ra14 H, rr15 H, ra15 H, rr16 H, ra16 H, rr17 H, ra17 H, rr18 H, ra18 H, rr19 H, ra19 H, rr20 H, ra20 H, rr21 H, ra21 H, rr22 H, ra22 H, rr23 H, ra23 H, rr24 H, ra24 H, rr25 H, ra25 H, rr26 H, ra26 H, rr27 H, ra27 H, rr28 H, ra28 H, rr29 H, ra29 H, rr30 H, ra30 H, mia, msa, ri2 H, ri3 H]
  repeat' first
    | apply And.intro
    | (intro _)
    | (refine ⟨_, m_isIn B l _ _ _ _ (by omega) (by omega) (by omega) (by omega) (by omega) (by omega), ?_⟩; rintro y h' ⟨rfl, hy⟩; cases hy; try simp (disch := omega) only [e_Mod_inShared_0, e_Mod_inShared_1, e_Mod_inShared_2, e_Mod_inShared_3, e_Mod_inShared_4, e_Mod_inShared_5, e_Mod_inShared_6, e_Mod_inShared_7, e_Mod_inShared_8, e_Mod_inShared_9, e_Mod_inShared_10, e_Mod_inShared_11, e_Mod_inShared_12, e_Mod_inShared_13, e_Mod_inShared_14, e_Mod_inShared_15, e_Mod_inShared_16, e_Mod_inShared_17, e_Mod_inShared_18, e_Mod_inShared_19, e_Mod_inShared_20, e_Mod_inShared_21, e_Mod_inShared_22, e_Mod_inShared_23, e_Mod_inShared_24, e_Mod_inShared_25, e_Mod_inShared_26, e_Mod_inShared_27, e_Mod_inShared_28, e_Mod_inShared_29, e_Mod_inShared_30, e_Mod_inShared_31, e_Mod_inShared_32, e_Mod_inShared_33, e_Mod_inShared_34, e_Mod_inShared_35, e_Mod_inShared_36, e_Mod_inShared_37, e_Mod_inShared_38, e_Mod_inShared_39, e_Mod_inShared_40, jm_ia, jm_na, jm_qa, jm_aa, jm_asg, jm_l4, jm_Kr, jm_okv, jm_rc, jm_bo, true_and, and_true, Nat.add_zero, Nat.le_refl, j_lt, j_le, j_eq, j_lt0, j_0lt, j_le0, j_0le, j_eq0, j_add, j_sub, j_mul, j_neg, j_0sub, j_nat, j_in, j_div, j_rem, Sum.inl.injEq, exists_eq', true_or, or_true, if_true, if_false, not_true_eq_false, not_false_eq_true, implies_true, j_eq1, reduceIte, Nat.reduceEqDiff, Int.reduceEq, Int.reduceToNat, Nat.reduceAdd, Int.reduceAdd, Int.reduceSub, Int.reduceMul, Int.reduceNeg, and_false, false_and, and_self, u2r, j_b0, j_b1, Classical.not_not, eq_self, true_implies, false_implies, not_true_eq_false, not_false_eq_true, Int.reduceLT, Int.reduceLE, rk H, mi0, ms0, rs2 H, rs3 H, rr1 H, ra1 H, rr2 H, ra2 H, rr3 H, ra3 H, rr4 H, ra4 H, rr5 H, ra5 H, rr6 H, ra6 H, rr7 H, ra7 H, rr8 H, ra8 H, rr9 H, ra9 H, rr10 H, ra10 H, rr11 H, ra11 H, rr12 H, ra12 H, rr13 H, ra13 H, rr14 H, ra14 H, rr15 H, ra15 H, rr16 H, ra16 H, rr17 H, ra17 H, rr18 H, ra18 H, rr19 H, ra19 H, rr20 H, ra20 H, rr21 H, ra21 H, rr22 H, ra22 H, rr23 H, ra23 H, rr24 H, ra24 H, rr25 H, ra25 H, rr26 H, ra26 H, rr27 H, ra27 H, rr28 H, ra28 H, rr29 H, ra29 H, rr30 H, ra30 H, mia, msa, ri2 H, ri3 H])
  all_goals first
    | contradiction
    | exact trivial
    | rfl
    | omega
    | exact (bi1 (by omega)).symm
    | exact (bi0 (by omega)).symm
    | ((try unfold IN_); (repeat (first | rw [if_pos (by omega)] | rw [if_neg (by omega)])); done)
    | ((try unfold IN_); (repeat (first | rw [if_pos (by omega)] | rw [if_neg (by omega)])); rfl)
set_option maxRecDepth 100000 in
set_option maxHeartbeats 4000000 in
theorem m_isShut0 (B : jm_B) (l : Launch) (h : jm_H) (am : Nat) (σ : S_) (H : RM B am h) (hq : Bq σ) (p : Int) (hp0 : 0 ≤ p) (hp1 : p ≤ 2) : jm_Ct gG B l (gm 87) [.inr (.inl (some am)), .inl (Int32.ofInt p), .inl (Int32.ofInt 0)] (mo h am σ) (fun v h' => h' = mo h am σ ∧ v = .inl (Int32.ofInt (if ¬ σ 13 p.toNat = 0 ∧ ¬ σ 16 p.toNat = 1 then 1 else 0))) := by
  show jm_Ct gG B l M_Mod_isShut _ _ _
  refine jm_C0 (code := k_Mod_isShut) (Or.inl (by decide)) (by decide) v_Mod_isShut rfl (Nat.le_of_ble_eq_true rfl) [some (.inr (.inl (some am))), some (.inl (Int32.ofInt p)), some (.inl (Int32.ofInt 0))] rfl rfl ⟨28, ?_⟩
  have b2 := hq.2.1 p.toNat
  have b3 := hq.2.2.2.2.1 p.toNat
  have b4 := hq.2.2.2.2.2 p.toNat
  simp (disch := omega) only [e_Mod_isShut_0, e_Mod_isShut_1, e_Mod_isShut_2, e_Mod_isShut_3, e_Mod_isShut_4, e_Mod_isShut_5, e_Mod_isShut_6, e_Mod_isShut_7, e_Mod_isShut_8, e_Mod_isShut_9, e_Mod_isShut_10, e_Mod_isShut_11, e_Mod_isShut_12, e_Mod_isShut_13, e_Mod_isShut_14, e_Mod_isShut_15, e_Mod_isShut_16, e_Mod_isShut_17, e_Mod_isShut_18, e_Mod_isShut_19, e_Mod_isShut_20, e_Mod_isShut_21, e_Mod_isShut_22, e_Mod_isShut_23, jm_ia, jm_na, jm_qa, jm_aa, jm_asg, jm_l4, jm_Kr, jm_okv, jm_rc, jm_bo, true_and, and_true, Nat.add_zero, Nat.le_refl, j_lt, j_le, j_eq, j_lt0, j_0lt, j_le0, j_0le, j_eq0, j_add, j_sub, j_mul, j_neg, j_0sub, j_nat, j_in, j_div, j_rem, Sum.inl.injEq, exists_eq', true_or, or_true, if_true, if_false, not_true_eq_false, not_false_eq_true, implies_true, j_eq1, reduceIte, Nat.reduceEqDiff, Int.reduceEq, Int.reduceToNat, Nat.reduceAdd, Int.reduceAdd, Int.reduceSub, Int.reduceMul, Int.reduceNeg, and_false, false_and, and_self, u2r, j_b0, j_b1, Classical.not_not, eq_self, true_implies, false_implies, not_true_eq_false, not_false_eq_true, Int.reduceLT, Int.reduceLE, rk H, mi0, ms0, rs2 H, rs3 H, rr1 H, ra1 H, rr2 H, ra2 H, rr3 H, ra3 H, rr4 H, ra4 H, rr5 H, ra5 H, rr6 H, ra6 H, rr7 H, ra7 H, rr8 H, ra8 H, rr9 H, ra9 H, rr10 H, ra10 H, rr11 H, ra11 H, rr12 H, ra12 H, rr13 H, ra13 H, rr14 H, ra14 H, rr15 H, ra15 H, rr16 H, ra16 H, rr17 H, ra17 H, rr18 H, ra18 H, rr19 H, ra19 H, rr20 H, ra20 H, rr21 H, ra21 H, rr22 H, ra22 H, rr23 H, ra23 H, rr24 H, ra24 H, rr25 H, ra25 H, rr26 H, ra26 H, rr27 H, ra27 H, rr28 H, ra28 H, rr29 H, ra29 H, rr30 H, ra30 H, mia, msa, ri2 H, ri3 H]
  repeat' first
    | apply And.intro
    | (intro _)
  all_goals first
    | contradiction
    | exact trivial
    | rfl
    | omega
    | exact (bi1 (by omega)).symm
    | exact (bi0 (by omega)).symm
    | ((try unfold IN_); (repeat (first | rw [if_pos (by omega)] | rw [if_neg (by omega)])); done)
    | ((try unfold IN_); (repeat (first | rw [if_pos (by omega)] | rw [if_neg (by omega)])); rfl)
set_option maxRecDepth 100000 in
set_option maxHeartbeats 4000000 in
theorem m_inShared1 (B : jm_B) (l : Launch) (h : jm_H) (am : Nat) (σ : S_) (H : RM B am h) (hq : Bq σ) (p : Int) (hp0 : 0 ≤ p) (hp1 : p ≤ 2) : jm_Ct gG B l (gm 82) [.inr (.inl (some am)), .inl (Int32.ofInt p), .inl (Int32.ofInt 1)] (mo h am σ) (fun v h' => h' = mo h am σ ∧ v = .inl (Int32.ofInt (if ¬ σ 13 p.toNat = 0 ∧ IN_ (σ 1 (AS p.toNat).toNat) (σ 14 (2 * p + 1).toNat) (σ 15 (2 * p + 1).toNat) then 1 else 0))) := by
  show jm_Ct gG B l M_Mod_inShared _ _ _
  refine jm_C0 (code := k_Mod_inShared) (Or.inl (by decide)) (by decide) v_Mod_inShared rfl (Nat.le_of_ble_eq_true rfl) [some (.inr (.inl (some am))), some (.inl (Int32.ofInt p)), some (.inl (Int32.ofInt 1)), none] rfl rfl ⟨45, ?_⟩
  have kb := ASb p.toNat
  have b1 := hq.1 (AS p.toNat).toNat
  have b2 := hq.2.1 p.toNat
  have b3 := hq.2.2.1 (2 * p + 1).toNat
  have b4 := hq.2.2.2.1 (2 * p + 1).toNat
  simp (disch := omega) only [e_Mod_inShared_0, e_Mod_inShared_1, e_Mod_inShared_2, e_Mod_inShared_3, e_Mod_inShared_4, e_Mod_inShared_5, e_Mod_inShared_6, e_Mod_inShared_7, e_Mod_inShared_8, e_Mod_inShared_9, e_Mod_inShared_10, e_Mod_inShared_11, e_Mod_inShared_12, e_Mod_inShared_13, e_Mod_inShared_14, e_Mod_inShared_15, e_Mod_inShared_16, e_Mod_inShared_17, e_Mod_inShared_18, e_Mod_inShared_19, e_Mod_inShared_20, e_Mod_inShared_21, e_Mod_inShared_22, e_Mod_inShared_23, e_Mod_inShared_24, e_Mod_inShared_25, e_Mod_inShared_26, e_Mod_inShared_27, e_Mod_inShared_28, e_Mod_inShared_29, e_Mod_inShared_30, e_Mod_inShared_31, e_Mod_inShared_32, e_Mod_inShared_33, e_Mod_inShared_34, e_Mod_inShared_35, e_Mod_inShared_36, e_Mod_inShared_37, e_Mod_inShared_38, e_Mod_inShared_39, e_Mod_inShared_40, jm_ia, jm_na, jm_qa, jm_aa, jm_asg, jm_l4, jm_Kr, jm_okv, jm_rc, jm_bo, true_and, and_true, Nat.add_zero, Nat.le_refl, j_lt, j_le, j_eq, j_lt0, j_0lt, j_le0, j_0le, j_eq0, j_add, j_sub, j_mul, j_neg, j_0sub, j_nat, j_in, j_div, j_rem, Sum.inl.injEq, exists_eq', true_or, or_true, if_true, if_false, not_true_eq_false, not_false_eq_true, implies_true, j_eq1, reduceIte, Nat.reduceEqDiff, Int.reduceEq, Int.reduceToNat, Nat.reduceAdd, Int.reduceAdd, Int.reduceSub, Int.reduceMul, Int.reduceNeg, and_false, false_and, and_self, u2r, j_b0, j_b1, Classical.not_not, eq_self, true_implies, false_implies, not_true_eq_false, not_false_eq_true, Int.reduceLT, Int.reduceLE, rk H, mi0, ms0, rs2 H, rs3 H, rr1 H, ra1 H, rr2 H, ra2 H, rr3 H, ra3 H, rr4 H, ra4 H, rr5 H, ra5 H, rr6 H, ra6 H, rr7 H, ra7 H, rr8 H, ra8 H, rr9 H, ra9 H, rr10 H, ra10 H, rr11 H, ra11 H, rr12 H, ra12 H, rr13 H, ra13 H, rr14 H, ra14 H, rr15 H, ra15 H, rr16 H, ra16 H, rr17 H, ra17 H, rr18 H, ra18 H, rr19 H, ra19 H, rr20 H, ra20 H, rr21 H, ra21 H, rr22 H, ra22 H, rr23 H, ra23 H, rr24 H, ra24 H, rr25 H, ra25 H, rr26 H, ra26 H, rr27 H, ra27 H, rr28 H, ra28 H, rr29 H, ra29 H, rr30 H, ra30 H, mia, msa, ri2 H, ri3 H]
  repeat' first
    | apply And.intro
    | (intro _)
    | (refine ⟨_, m_isIn B l _ _ _ _ (by omega) (by omega) (by omega) (by omega) (by omega) (by omega), ?_⟩; rintro y h' ⟨rfl, hy⟩; cases hy; try simp (disch := omega) only [e_Mod_inShared_0, e_Mod_inShared_1, e_Mod_inShared_2, e_Mod_inShared_3, e_Mod_inShared_4, e_Mod_inShared_5, e_Mod_inShared_6, e_Mod_inShared_7, e_Mod_inShared_8, e_Mod_inShared_9, e_Mod_inShared_10, e_Mod_inShared_11, e_Mod_inShared_12, e_Mod_inShared_13, e_Mod_inShared_14, e_Mod_inShared_15, e_Mod_inShared_16, e_Mod_inShared_17, e_Mod_inShared_18, e_Mod_inShared_19, e_Mod_inShared_20, e_Mod_inShared_21, e_Mod_inShared_22, e_Mod_inShared_23, e_Mod_inShared_24, e_Mod_inShared_25, e_Mod_inShared_26, e_Mod_inShared_27, e_Mod_inShared_28, e_Mod_inShared_29, e_Mod_inShared_30, e_Mod_inShared_31, e_Mod_inShared_32, e_Mod_inShared_33, e_Mod_inShared_34, e_Mod_inShared_35, e_Mod_inShared_36, e_Mod_inShared_37, e_Mod_inShared_38, e_Mod_inShared_39, e_Mod_inShared_40, jm_ia, jm_na, jm_qa, jm_aa, jm_asg, jm_l4, jm_Kr, jm_okv, jm_rc, jm_bo, true_and, and_true, Nat.add_zero, Nat.le_refl, j_lt, j_le, j_eq, j_lt0, j_0lt, j_le0, j_0le, j_eq0, j_add, j_sub, j_mul, j_neg, j_0sub, j_nat, j_in, j_div, j_rem, Sum.inl.injEq, exists_eq', true_or, or_true, if_true, if_false, not_true_eq_false, not_false_eq_true, implies_true, j_eq1, reduceIte, Nat.reduceEqDiff, Int.reduceEq, Int.reduceToNat, Nat.reduceAdd, Int.reduceAdd, Int.reduceSub, Int.reduceMul, Int.reduceNeg, and_false, false_and, and_self, u2r, j_b0, j_b1, Classical.not_not, eq_self, true_implies, false_implies, not_true_eq_false, not_false_eq_true, Int.reduceLT, Int.reduceLE, rk H, mi0, ms0, rs2 H, rs3 H, rr1 H, ra1 H, rr2 H, ra2 H, rr3 H, ra3 H, rr4 H, ra4 H, rr5 H, ra5 H, rr6 H, ra6 H, rr7 H, ra7 H, rr8 H, ra8 H, rr9 H, ra9 H, rr10 H, ra10 H, rr11 H, ra11 H, rr12 H, ra12 H, rr13 H, ra13 H, rr14 H, ra14 H, rr15 H, ra15 H, rr16 H, ra16 H, rr17 H, ra17 H, rr18 H, ra18 H, rr19 H, ra19 H, rr20 H, ra20 H, rr21 H, ra21 H, rr22 H, ra22 H, rr23 H, ra23 H, rr24 H, ra24 H, rr25 H, ra25 H, rr26 H, ra26 H, rr27 H, ra27 H, rr28 H, ra28 H, rr29 H, ra29 H, rr30 H, ra30 H, mia, msa, ri2 H, ri3 H])
  all_goals first
    | contradiction
    | exact trivial
    | rfl
    | omega
    | exact (bi1 (by omega)).symm
    | exact (bi0 (by omega)).symm
    | ((try unfold IN_); (repeat (first | rw [if_pos (by omega)] | rw [if_neg (by omega)])); done)
    | ((try unfold IN_); (repeat (first | rw [if_pos (by omega)] | rw [if_neg (by omega)])); rfl)
set_option maxRecDepth 100000 in
set_option maxHeartbeats 4000000 in
theorem m_isShut1 (B : jm_B) (l : Launch) (h : jm_H) (am : Nat) (σ : S_) (H : RM B am h) (hq : Bq σ) (p : Int) (hp0 : 0 ≤ p) (hp1 : p ≤ 2) : jm_Ct gG B l (gm 87) [.inr (.inl (some am)), .inl (Int32.ofInt p), .inl (Int32.ofInt 1)] (mo h am σ) (fun v h' => h' = mo h am σ ∧ v = .inl (Int32.ofInt (if ¬ σ 13 p.toNat = 0 ∧ ¬ σ 20 p.toNat = 2 then 1 else 0))) := by
  show jm_Ct gG B l M_Mod_isShut _ _ _
  refine jm_C0 (code := k_Mod_isShut) (Or.inl (by decide)) (by decide) v_Mod_isShut rfl (Nat.le_of_ble_eq_true rfl) [some (.inr (.inl (some am))), some (.inl (Int32.ofInt p)), some (.inl (Int32.ofInt 1))] rfl rfl ⟨28, ?_⟩
  have b2 := hq.2.1 p.toNat
  have b3 := hq.2.2.2.2.1 p.toNat
  have b4 := hq.2.2.2.2.2 p.toNat
  simp (disch := omega) only [e_Mod_isShut_0, e_Mod_isShut_1, e_Mod_isShut_2, e_Mod_isShut_3, e_Mod_isShut_4, e_Mod_isShut_5, e_Mod_isShut_6, e_Mod_isShut_7, e_Mod_isShut_8, e_Mod_isShut_9, e_Mod_isShut_10, e_Mod_isShut_11, e_Mod_isShut_12, e_Mod_isShut_13, e_Mod_isShut_14, e_Mod_isShut_15, e_Mod_isShut_16, e_Mod_isShut_17, e_Mod_isShut_18, e_Mod_isShut_19, e_Mod_isShut_20, e_Mod_isShut_21, e_Mod_isShut_22, e_Mod_isShut_23, jm_ia, jm_na, jm_qa, jm_aa, jm_asg, jm_l4, jm_Kr, jm_okv, jm_rc, jm_bo, true_and, and_true, Nat.add_zero, Nat.le_refl, j_lt, j_le, j_eq, j_lt0, j_0lt, j_le0, j_0le, j_eq0, j_add, j_sub, j_mul, j_neg, j_0sub, j_nat, j_in, j_div, j_rem, Sum.inl.injEq, exists_eq', true_or, or_true, if_true, if_false, not_true_eq_false, not_false_eq_true, implies_true, j_eq1, reduceIte, Nat.reduceEqDiff, Int.reduceEq, Int.reduceToNat, Nat.reduceAdd, Int.reduceAdd, Int.reduceSub, Int.reduceMul, Int.reduceNeg, and_false, false_and, and_self, u2r, j_b0, j_b1, Classical.not_not, eq_self, true_implies, false_implies, not_true_eq_false, not_false_eq_true, Int.reduceLT, Int.reduceLE, rk H, mi0, ms0, rs2 H, rs3 H, rr1 H, ra1 H, rr2 H, ra2 H, rr3 H, ra3 H, rr4 H, ra4 H, rr5 H, ra5 H, rr6 H, ra6 H, rr7 H, ra7 H, rr8 H, ra8 H, rr9 H, ra9 H, rr10 H, ra10 H, rr11 H, ra11 H, rr12 H, ra12 H, rr13 H, ra13 H, rr14 H, ra14 H, rr15 H, ra15 H, rr16 H, ra16 H, rr17 H, ra17 H, rr18 H, ra18 H, rr19 H, ra19 H, rr20 H, ra20 H, rr21 H, ra21 H, rr22 H, ra22 H, rr23 H, ra23 H, rr24 H, ra24 H, rr25 H, ra25 H, rr26 H, ra26 H, rr27 H, ra27 H, rr28 H, ra28 H, rr29 H, ra29 H, rr30 H, ra30 H, mia, msa, ri2 H, ri3 H]
  repeat' first
    | apply And.intro
    | (intro _)
  all_goals first
    | contradiction
    | exact trivial
    | rfl
    | omega
    | exact (bi1 (by omega)).symm
    | exact (bi0 (by omega)).symm
    | ((try unfold IN_); (repeat (first | rw [if_pos (by omega)] | rw [if_neg (by omega)])); done)
    | ((try unfold IN_); (repeat (first | rw [if_pos (by omega)] | rw [if_neg (by omega)])); rfl)
theorem m_inShared (B : jm_B) (l : Launch) (h : jm_H) (am : Nat) (σ : S_) (H : RM B am h) (hq : Bq σ) (p s : Int) (hp0 : 0 ≤ p) (hp1 : p ≤ 2) (hs0 : 0 ≤ s) (hs1 : s ≤ 1) : jm_Ct gG B l (gm 82) [.inr (.inl (some am)), .inl (Int32.ofInt p), .inl (Int32.ofInt s)] (mo h am σ) (fun v h' => h' = mo h am σ ∧ v = .inl (Int32.ofInt (if inS σ p s then 1 else 0))) := by
  rcases (show s = 0 ∨ s = 1 by omega) with rfl | rfl
  · exact m_inShared0 B l h am σ H hq p hp0 hp1
  · exact m_inShared1 B l h am σ H hq p hp0 hp1
theorem m_isShut (B : jm_B) (l : Launch) (h : jm_H) (am : Nat) (σ : S_) (H : RM B am h) (hq : Bq σ) (p s : Int) (hp0 : 0 ≤ p) (hp1 : p ≤ 2) (hs0 : 0 ≤ s) (hs1 : s ≤ 1) : jm_Ct gG B l (gm 87) [.inr (.inl (some am)), .inl (Int32.ofInt p), .inl (Int32.ofInt s)] (mo h am σ) (fun v h' => h' = mo h am σ ∧ v = .inl (Int32.ofInt (if shutS σ p s then 1 else 0))) := by
  rcases (show s = 0 ∨ s = 1 by omega) with rfl | rfl
  · have := m_isShut0 B l h am σ H hq p hp0 hp1
    simp only [shutS, not_true_eq_false, false_implies, and_true, true_implies]
    exact this
  · have := m_isShut1 B l h am σ H hq p hp0 hp1
    simp only [shutS, Int.reduceEq, not_false_eq_true, false_implies, true_and, true_implies]
    exact this
