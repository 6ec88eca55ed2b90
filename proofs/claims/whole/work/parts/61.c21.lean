/-! the law's helpers: point, forbid, share, tick, look, pair, bus -/
theorem mo_nw {h : jm_H} {am : Nat} {σ : S_} {kd : Nat ⊕ (Nat × Nat)} (hn : am + 31 ≤ jm_n h) : jm_nw (mo h am σ) kd = mo (jm_nw h kd) am σ := by
  unfold jm_nw mo
  refine Prod.ext rfl (Prod.ext ?_ rfl)
  funext a j
  show (if a = jm_n h then (0 : Int32) else if am ≤ a ∧ a < am + 31 then _ else _) = (if am ≤ a ∧ a < am + 31 then _ else if a = jm_n h then (0 : Int32) else _)
  by_cases e : a = jm_n h
  · rw [if_pos e, if_neg (by omega), if_pos e]
  · rw [if_neg e, if_neg e]
theorem mo_si {h : jm_H} {am : Nat} {σ : S_} {a j : Nat} {v : Int32} (ha : am + 31 ≤ a) : jm_si (mo h am σ) a j v = mo (jm_si h a j v) am σ := by
  unfold jm_si mo
  refine Prod.ext rfl (Prod.ext ?_ rfl)
  funext b i
  show (if b = a ∧ i = j then v else if am ≤ b ∧ b < am + 31 then _ else _) = (if am ≤ b ∧ b < am + 31 then _ else if b = a ∧ i = j then v else _)
  by_cases q : b = a ∧ i = j
  · rw [if_pos q, if_neg (by omega), if_pos q]
  · rw [if_neg q, if_neg q]
theorem mo_nA {h : jm_H} {am : Nat} {σ : S_} (hn : am + 31 ≤ jm_n h) (f z : Int) : nA (mo h am σ) f z = mo (nA h f z) am σ := by
  unfold nA
  have e : jm_n (mo h am σ) = jm_n h := rfl
  rw [e, mo_nw hn, mo_si hn, mo_si hn, mo_si hn]
theorem ov_cfl {σ ρ : S_} {c : Int} {i : Nat} : cfl (ov σ ρ) c i = cfl σ c i := by
  unfold cfl clI shutS fI zI
  simp (disch := omega) only [ov_r, ov_R]
theorem look_EQ {κ σ : S_} (e : EQm κ σ) (c w : Int) : lookS κ c w = lookS σ c w := by
  rw [EQ_ov e]
  unfold lookS
  rw [show cfl (ov σ κ) c = cfl σ c from funext (fun i => ov_cfl)]
  simp (disch := omega) only [ov_R, ov_tab]
theorem lk0 (κ : S_) (c : Int) : lookS κ c 0 = κ 1 c.toNat ∧ lookS κ c 1 = κ 2 c.toNat ∧ lookS κ c 2 = κ 3 c.toNat ∧ lookS κ c 3 = κ 4 c.toNat ∧ lookS κ c 4 = κ 5 c.toNat ∧ lookS κ c 5 = tabS κ c (κ 3 c.toNat) ∧ lookS κ c 6 = (if tabS κ c (κ 3 c.toNat) < κ 5 c.toNat then 1 else 0) ∧ lookS κ c 7 = sumF (cfl κ c) 10 := ⟨rfl, rfl, rfl, rfl, rfl, rfl, rfl, rfl⟩
set_option maxRecDepth 100000 in
set_option maxHeartbeats 4000000 in
theorem H_point0 (B : jm_B) (l : Launch) (h : jm_H) (ac : Nat) (κ : S_) (μ : M_) (u : Nat → Nat) (ids adr : Nat → Nat → Nat) (T : Int) (σ : S_) (hL : LSt B ac h κ μ u ids adr T σ) (hT : T ≤ 511) (hl0 : l.stackTraces = false) (c r k : Int) (hc0 : 0 ≤ c) (hc1 : c ≤ 2) (hr0 : 0 ≤ r) (hr1 : r ≤ 6000) (hk0 : 0 ≤ k) (hk1 : k ≤ 1000) (hr : (κ 7 c.toNat = 0 ∨ κ 8 (c * 8 + κ 7 c.toNat - 1).toNat < r)) (h8 : ¬ κ 7 c.toNat = 8) : jm_Cw B l (gm 105) (hhs 0 12 15 (some 19)) [.inr (.inl (some (ac))), .inl (Int32.ofInt c), .inl (Int32.ofInt r), .inl (Int32.ofInt k), .inr (.inl (some (ac + 96)))] (cs (mo h (ac + 65) σ) ac (CN κ) μ) (fun v h' => PH B ac h T σ (sp_point σ c r k) (some (if ((0 ≤ c ∧ c ≤ 2) ∧ (0 ≤ r ∧ r ≤ 6000) ∧ (0 ≤ k ∧ k ≤ 1000) ∧ (σ 7 c.toNat = 0 ∨ σ 8 (c * 8 + σ 7 c.toNat - 1).toNat < r)) ∧ ¬ σ 7 c.toNat = 8 then σ 7 c.toNat + 1 else 0)) v h') := by
  have H := RC_mo hL.1.1 σ
  have hB := hL.2.1.1.1
  have hS := hL.2.1.1.2.1
  have b01 : 0 ≤ κ 0 1 ∧ κ 0 1 ≤ 600000 := hB 0 1
  have k7 : jm_k (cs (mo h (ac + 65) σ) ac (CN κ) μ) ac = some (.inl 7) := ck0 H
  have k96 : jm_k h (ac + 96) = some (.inr (2, 1)) := hL.1.2.2.2.1
  have kmo : ∀ h1 a, jm_k (mo h1 (ac + 65) σ) a = jm_k h1 a := fun _ _ => rfl
  have cc : ((c.toNat : Nat) : Int) = c := by omega
  have e7 : κ 7 c.toNat = σ 7 c.toNat := hL.2.2.1 7 _ (by omega) (by omega)
  have e8 : ∀ j, κ 8 j = σ 8 j := fun j => hL.2.2.1 8 j (by omega) (by omega)
  have b7 : 0 ≤ κ 7 c.toNat ∧ κ 7 c.toNat ≤ 8 := hB 7 _
  have hr2 : (σ 7 c.toNat = 0 ∨ σ 8 (c * 8 + σ 7 c.toNat - 1).toNat < r) := by rw [← e7, ← e8]; exact hr
  have hsp : sp_point σ c r k = jm_u2 (jm_u2 (jm_u2 (jm_u2 σ 0 0 0) 8 (c * 8 + κ 7 c.toNat).toNat r) 9 (c * 8 + κ 7 c.toNat).toNat k) 7 c.toNat (κ 7 c.toNat + 1) := by unfold sp_point; rw [if_pos ⟨⟨hc0, hc1⟩, ⟨hr0, hr1⟩, ⟨hk0, hk1⟩, hr2⟩, if_neg (by omega), ← e7]
  have hw : (if ((0 ≤ c ∧ c ≤ 2) ∧ (0 ≤ r ∧ r ≤ 6000) ∧ (0 ≤ k ∧ k ≤ 1000) ∧ (σ 7 c.toNat = 0 ∨ σ 8 (c * 8 + σ 7 c.toNat - 1).toNat < r)) ∧ ¬ σ 7 c.toNat = 8 then σ 7 c.toNat + 1 else 0) = κ 7 c.toNat + 1 := by rw [if_pos ⟨⟨⟨hc0, hc1⟩, ⟨hr0, hr1⟩, ⟨hk0, hk1⟩, hr2⟩, by omega⟩, e7]
  have hLp := LSt_point hL (c := c.toNat) (by omega) hr0 hr1 hk0 hk1 (by omega) (by rw [cc]; exact hr)
  rw [cc] at hLp
  have hfin : PH B ac h T σ (sp_point σ c r k) (some (if ((0 ≤ c ∧ c ≤ 2) ∧ (0 ≤ r ∧ r ≤ 6000) ∧ (0 ≤ k ∧ k ≤ 1000) ∧ (σ 7 c.toNat = 0 ∨ σ 8 (c * 8 + σ 7 c.toNat - 1).toNat < r)) ∧ ¬ σ 7 c.toNat = 8 then σ 7 c.toNat + 1 else 0)) (.inl (Int32.ofInt 0)) (jm_sl (cs (mo h (ac + 65) σ) ac (CN (jm_u2 (jm_u2 (jm_u2 κ 8 (c * 8 + κ 7 c.toNat).toNat r) 9 (c * 8 + κ 7 c.toNat).toNat k) 7 c.toNat (κ 7 c.toNat + 1))) μ) (ac + 96) 0 (Int32.ofInt (κ 7 c.toNat + 1)).toInt64) := by
    rw [hsp, hw]
    exact PH_1 hLp (by rw [u2n (by omega), u2n (by omega), u2n (by omega), u2p ⟨rfl, rfl⟩]) _
  show jm_Cw B l M_Law_point _ _ _ _
  refine jm_CW (code := t_Law_point) (pcC := 7) (jC := 6) (mi := 48) (na := 4) (rc := 1) (mc := 1) (ms := 6) (jh := (fun k => if k = 1 then some 10 else some 13)) rfl rfl (by decide) w_Law_point rfl (Nat.le_of_ble_eq_true rfl) [some (.inr (.inl (some (ac)))), some (.inl (Int32.ofInt c)), some (.inl (Int32.ofInt r)), some (.inl (Int32.ofInt k)), some (.inr (.inl (some (ac + 96)))), none] rfl rfl rfl (by decide) (fun j hj => by cases Option.some.inj (show some 10 = some j from hj); exact ⟨_, _, rfl, rfl, rfl⟩) (fun j hj => by cases Option.some.inj (show some 13 = some j from hj); exact ⟨_, _, _, rfl, rfl, rfl, rfl⟩) ⟨22, ?_⟩
  simp (disch := omega) only [x_Law_point_0, x_Law_point_1, x_Law_point_2, x_Law_point_3, x_Law_point_4, x_Law_point_5, z_Law_point_6, x_Law_point_6, x_Law_point_7, x_Law_point_8, x_Law_point_9, x_Law_point_10, x_Law_point_11, x_Law_point_12, x_Law_point_13, x_Law_point_14, x_Law_point_15, x_Law_point_16, x_Law_point_17, jm_ia, jm_na, jm_qa, jm_aa, jm_asg, jm_l4, jm_Kr, jm_okv, jm_rc, jm_bo, true_and, and_true, Nat.add_zero, Nat.le_refl, j_lt, j_le, j_eq, j_lt0, j_0lt, j_le0, j_0le, j_eq0, j_add, j_sub, j_mul, j_neg, j_0sub, j_nat, j_in, j_div, j_rem, Sum.inl.injEq, exists_eq', true_or, or_true, if_true, if_false, not_true_eq_false, not_false_eq_true, implies_true, j_eq1, reduceIte, Nat.reduceEqDiff, Int.reduceEq, Int.reduceToNat, Nat.reduceAdd, Int.reduceAdd, Int.reduceSub, Int.reduceMul, Int.reduceNeg, and_false, false_and, and_self, u2r, j_b0, j_b1, Classical.not_not, eq_self, true_implies, false_implies, not_true_eq_false, not_false_eq_true, Int.reduceLT, Int.reduceLE, k7, ck, kmo, k96]
  refine Or.inl ⟨22, ?_⟩
  simp (disch := omega) only [x_Law_point_0, x_Law_point_1, x_Law_point_2, x_Law_point_3, x_Law_point_4, x_Law_point_5, z_Law_point_6, x_Law_point_6, x_Law_point_7, x_Law_point_8, x_Law_point_9, x_Law_point_10, x_Law_point_11, x_Law_point_12, x_Law_point_13, x_Law_point_14, x_Law_point_15, x_Law_point_16, x_Law_point_17, jm_ia, jm_na, jm_qa, jm_aa, jm_asg, jm_l4, jm_Kr, jm_okv, jm_rc, jm_bo, true_and, and_true, Nat.add_zero, Nat.le_refl, j_lt, j_le, j_eq, j_lt0, j_0lt, j_le0, j_0le, j_eq0, j_add, j_sub, j_mul, j_neg, j_0sub, j_nat, j_in, j_div, j_rem, Sum.inl.injEq, exists_eq', true_or, or_true, if_true, if_false, not_true_eq_false, not_false_eq_true, implies_true, j_eq1, reduceIte, Nat.reduceEqDiff, Int.reduceEq, Int.reduceToNat, Nat.reduceAdd, Int.reduceAdd, Int.reduceSub, Int.reduceMul, Int.reduceNeg, and_false, false_and, and_self, u2r, j_b0, j_b1, Classical.not_not, eq_self, true_implies, false_implies, not_true_eq_false, not_false_eq_true, Int.reduceLT, Int.reduceLE, k7, ck, kmo, k96]
  repeat' first
    | apply And.intro
    | (intro _)
    | (refine ⟨_, p_point B l (mo h (ac + 65) σ) ac κ μ H hB hS c r k hc0 hc1 hr0 hr1 hk0 hk1 hr (by omega), ?_⟩; rintro y h' ⟨rfl, hy⟩; cases hy; try simp (disch := omega) only [x_Law_point_0, x_Law_point_1, x_Law_point_2, x_Law_point_3, x_Law_point_4, x_Law_point_5, z_Law_point_6, x_Law_point_6, x_Law_point_7, x_Law_point_8, x_Law_point_9, x_Law_point_10, x_Law_point_11, x_Law_point_12, x_Law_point_13, x_Law_point_14, x_Law_point_15, x_Law_point_16, x_Law_point_17, jm_ia, jm_na, jm_qa, jm_aa, jm_asg, jm_l4, jm_Kr, jm_okv, jm_rc, jm_bo, true_and, and_true, Nat.add_zero, Nat.le_refl, j_lt, j_le, j_eq, j_lt0, j_0lt, j_le0, j_0le, j_eq0, j_add, j_sub, j_mul, j_neg, j_0sub, j_nat, j_in, j_div, j_rem, Sum.inl.injEq, exists_eq', true_or, or_true, if_true, if_false, not_true_eq_false, not_false_eq_true, implies_true, j_eq1, reduceIte, Nat.reduceEqDiff, Int.reduceEq, Int.reduceToNat, Nat.reduceAdd, Int.reduceAdd, Int.reduceSub, Int.reduceMul, Int.reduceNeg, and_false, false_and, and_self, u2r, j_b0, j_b1, Classical.not_not, eq_self, true_implies, false_implies, not_true_eq_false, not_false_eq_true, Int.reduceLT, Int.reduceLE, k7, ck, kmo, k96])
  all_goals first
    | contradiction
    | exact trivial
    | rfl
    | omega
    | exact (bi1 (by omega)).symm
    | exact (bi0 (by omega)).symm
    | exact (bi1 (by assumption)).symm
    | exact (bi0 (by assumption)).symm
    | exact hfin
    | exact ⟨_, rfl⟩
    | ((try unfold IN_); (repeat (first | rw [if_pos (by omega)] | rw [if_neg (by omega)])); done)
    | ((try unfold IN_); (repeat (first | rw [if_pos (by omega)] | rw [if_neg (by omega)])); rfl)
    | ((try unfold IN_); (repeat (first | rw [if_pos (by omega)] | rw [if_neg (by omega)] | rw [if_pos (by assumption)] | rw [if_neg (by assumption)])); rfl)
set_option maxRecDepth 100000 in
set_option maxHeartbeats 4000000 in
theorem H_point1 (B : jm_B) (l : Launch) (h : jm_H) (ac : Nat) (κ : S_) (μ : M_) (u : Nat → Nat) (ids adr : Nat → Nat → Nat) (T : Int) (σ : S_) (hL : LSt B ac h κ μ u ids adr T σ) (hT : T ≤ 511) (hl0 : l.stackTraces = false) (c r k : Int) (ca : -2147483648 ≤ c) (cb : c < 2147483648) (ra : -2147483648 ≤ r) (rb : r < 2147483648) (ka : -2147483648 ≤ k) (kb : k < 2147483648) (hx : ¬ ((0 ≤ c ∧ c ≤ 2) ∧ (0 ≤ r ∧ r ≤ 6000) ∧ (0 ≤ k ∧ k ≤ 1000))) : jm_Cw B l (gm 105) (hhs 0 12 15 (some 19)) [.inr (.inl (some (ac))), .inl (Int32.ofInt c), .inl (Int32.ofInt r), .inl (Int32.ofInt k), .inr (.inl (some (ac + 96)))] (cs (mo h (ac + 65) σ) ac (CN κ) μ) (fun v h' => PH B ac h T σ (sp_point σ c r k) (some (if ((0 ≤ c ∧ c ≤ 2) ∧ (0 ≤ r ∧ r ≤ 6000) ∧ (0 ≤ k ∧ k ≤ 1000) ∧ (σ 7 c.toNat = 0 ∨ σ 8 (c * 8 + σ 7 c.toNat - 1).toNat < r)) ∧ ¬ σ 7 c.toNat = 8 then σ 7 c.toNat + 1 else 0)) v h') := by
  have H := RC_mo hL.1.1 σ
  have hB := hL.2.1.1.1
  have hS := hL.2.1.1.2.1
  have b01 : 0 ≤ κ 0 1 ∧ κ 0 1 ≤ 600000 := hB 0 1
  have k7 : jm_k (cs (mo h (ac + 65) σ) ac (CN κ) μ) ac = some (.inl 7) := ck0 H
  have k96 : jm_k h (ac + 96) = some (.inr (2, 1)) := hL.1.2.2.2.1
  have kmo : ∀ h1 a, jm_k (mo h1 (ac + 65) σ) a = jm_k h1 a := fun _ _ => rfl
  have hsp : sp_point σ c r k = jm_u2 σ 0 0 1 := by unfold sp_point; rw [if_neg (fun q => hx ⟨q.1, q.2.1, q.2.2.1⟩)]
  show jm_Cw B l M_Law_point _ _ _ _
  refine jm_CW (code := t_Law_point) (pcC := 7) (jC := 6) (mi := 48) (na := 4) (rc := 1) (mc := 1) (ms := 6) (jh := (fun k => if k = 1 then some 10 else some 13)) rfl rfl (by decide) w_Law_point rfl (Nat.le_of_ble_eq_true rfl) [some (.inr (.inl (some (ac)))), some (.inl (Int32.ofInt c)), some (.inl (Int32.ofInt r)), some (.inl (Int32.ofInt k)), some (.inr (.inl (some (ac + 96)))), none] rfl rfl rfl (by decide) (fun j hj => by cases Option.some.inj (show some 10 = some j from hj); exact ⟨_, _, rfl, rfl, rfl⟩) (fun j hj => by cases Option.some.inj (show some 13 = some j from hj); exact ⟨_, _, _, rfl, rfl, rfl, rfl⟩) ⟨22, ?_⟩
  simp (disch := omega) only [x_Law_point_0, x_Law_point_1, x_Law_point_2, x_Law_point_3, x_Law_point_4, x_Law_point_5, z_Law_point_6, x_Law_point_6, x_Law_point_7, x_Law_point_8, x_Law_point_9, x_Law_point_10, x_Law_point_11, x_Law_point_12, x_Law_point_13, x_Law_point_14, x_Law_point_15, x_Law_point_16, x_Law_point_17, jm_ia, jm_na, jm_qa, jm_aa, jm_asg, jm_l4, jm_Kr, jm_okv, jm_rc, jm_bo, true_and, and_true, Nat.add_zero, Nat.le_refl, j_lt, j_le, j_eq, j_lt0, j_0lt, j_le0, j_0le, j_eq0, j_add, j_sub, j_mul, j_neg, j_0sub, j_nat, j_in, j_div, j_rem, Sum.inl.injEq, exists_eq', true_or, or_true, if_true, if_false, not_true_eq_false, not_false_eq_true, implies_true, j_eq1, reduceIte, Nat.reduceEqDiff, Int.reduceEq, Int.reduceToNat, Nat.reduceAdd, Int.reduceAdd, Int.reduceSub, Int.reduceMul, Int.reduceNeg, and_false, false_and, and_self, u2r, j_b0, j_b1, Classical.not_not, eq_self, true_implies, false_implies, not_true_eq_false, not_false_eq_true, Int.reduceLT, Int.reduceLE]
  refine Or.inr ⟨ac, [.inl (Int32.ofInt c), .inl (Int32.ofInt r), .inl (Int32.ofInt k)], [.inl (Int32.ofInt 0), .inr (.inl (some (ac + 96)))], 1, 10, by decide, rfl, rfl, rfl, k7, trivial, by decide, by decide, x_point1 B l (mo h (ac + 65) σ) ac κ μ H hB hS c r k ca cb ra rb ka kb hx hl0, fun q n hn => ⟨22, ?_⟩⟩
  simp (disch := omega) only [x_Law_point_0, x_Law_point_1, x_Law_point_2, x_Law_point_3, x_Law_point_4, x_Law_point_5, z_Law_point_6, x_Law_point_6, x_Law_point_7, x_Law_point_8, x_Law_point_9, x_Law_point_10, x_Law_point_11, x_Law_point_12, x_Law_point_13, x_Law_point_14, x_Law_point_15, x_Law_point_16, x_Law_point_17, jm_ia, jm_na, jm_qa, jm_aa, jm_asg, jm_l4, jm_Kr, jm_okv, jm_rc, jm_bo, true_and, and_true, Nat.add_zero, Nat.le_refl, j_lt, j_le, j_eq, j_lt0, j_0lt, j_le0, j_0le, j_eq0, j_add, j_sub, j_mul, j_neg, j_0sub, j_nat, j_in, j_div, j_rem, Sum.inl.injEq, exists_eq', true_or, or_true, if_true, if_false, not_true_eq_false, not_false_eq_true, implies_true, j_eq1, reduceIte, Nat.reduceEqDiff, Int.reduceEq, Int.reduceToNat, Nat.reduceAdd, Int.reduceAdd, Int.reduceSub, Int.reduceMul, Int.reduceNeg, and_false, false_and, and_self, u2r, j_b0, j_b1, Classical.not_not, eq_self, true_implies, false_implies, not_true_eq_false, not_false_eq_true, Int.reduceLT, Int.reduceLE]
  repeat' first
    | apply And.intro
    | (intro _)
  all_goals first
    | contradiction
    | exact trivial
    | rfl
    | omega
    | exact (bi1 (by omega)).symm
    | exact (bi0 (by omega)).symm
    | exact (bi1 (by assumption)).symm
    | exact (bi0 (by assumption)).symm
    | exact PH_x hL (by decide) hsp hn
    | exact ⟨_, rfl⟩
    | ((try unfold IN_); (repeat (first | rw [if_pos (by omega)] | rw [if_neg (by omega)])); done)
    | ((try unfold IN_); (repeat (first | rw [if_pos (by omega)] | rw [if_neg (by omega)])); rfl)
    | ((try unfold IN_); (repeat (first | rw [if_pos (by omega)] | rw [if_neg (by omega)] | rw [if_pos (by assumption)] | rw [if_neg (by assumption)])); rfl)
set_option maxRecDepth 100000 in
set_option maxHeartbeats 4000000 in
theorem H_point1b (B : jm_B) (l : Launch) (h : jm_H) (ac : Nat) (κ : S_) (μ : M_) (u : Nat → Nat) (ids adr : Nat → Nat → Nat) (T : Int) (σ : S_) (hL : LSt B ac h κ μ u ids adr T σ) (hT : T ≤ 511) (hl0 : l.stackTraces = false) (c r k : Int) (hc0 : 0 ≤ c) (hc1 : c ≤ 2) (hr0 : 0 ≤ r) (hr1 : r ≤ 6000) (hk0 : 0 ≤ k) (hk1 : k ≤ 1000) (hr : ¬ (κ 7 c.toNat = 0 ∨ κ 8 (c * 8 + κ 7 c.toNat - 1).toNat < r)) : jm_Cw B l (gm 105) (hhs 0 12 15 (some 19)) [.inr (.inl (some (ac))), .inl (Int32.ofInt c), .inl (Int32.ofInt r), .inl (Int32.ofInt k), .inr (.inl (some (ac + 96)))] (cs (mo h (ac + 65) σ) ac (CN κ) μ) (fun v h' => PH B ac h T σ (sp_point σ c r k) (some (if ((0 ≤ c ∧ c ≤ 2) ∧ (0 ≤ r ∧ r ≤ 6000) ∧ (0 ≤ k ∧ k ≤ 1000) ∧ (σ 7 c.toNat = 0 ∨ σ 8 (c * 8 + σ 7 c.toNat - 1).toNat < r)) ∧ ¬ σ 7 c.toNat = 8 then σ 7 c.toNat + 1 else 0)) v h') := by
  have H := RC_mo hL.1.1 σ
  have hB := hL.2.1.1.1
  have hS := hL.2.1.1.2.1
  have b01 : 0 ≤ κ 0 1 ∧ κ 0 1 ≤ 600000 := hB 0 1
  have k7 : jm_k (cs (mo h (ac + 65) σ) ac (CN κ) μ) ac = some (.inl 7) := ck0 H
  have k96 : jm_k h (ac + 96) = some (.inr (2, 1)) := hL.1.2.2.2.1
  have kmo : ∀ h1 a, jm_k (mo h1 (ac + 65) σ) a = jm_k h1 a := fun _ _ => rfl
  have cc : ((c.toNat : Nat) : Int) = c := by omega
  have e7 : κ 7 c.toNat = σ 7 c.toNat := hL.2.2.1 7 _ (by omega) (by omega)
  have e8 : ∀ j, κ 8 j = σ 8 j := fun j => hL.2.2.1 8 j (by omega) (by omega)
  have b7 : 0 ≤ κ 7 c.toNat ∧ κ 7 c.toNat ≤ 8 := hB 7 _
  have hsp : sp_point σ c r k = jm_u2 σ 0 0 1 := by unfold sp_point; rw [if_neg (fun q => hr (by rw [e7, e8]; exact q.2.2.2))]
  show jm_Cw B l M_Law_point _ _ _ _
  refine jm_CW (code := t_Law_point) (pcC := 7) (jC := 6) (mi := 48) (na := 4) (rc := 1) (mc := 1) (ms := 6) (jh := (fun k => if k = 1 then some 10 else some 13)) rfl rfl (by decide) w_Law_point rfl (Nat.le_of_ble_eq_true rfl) [some (.inr (.inl (some (ac)))), some (.inl (Int32.ofInt c)), some (.inl (Int32.ofInt r)), some (.inl (Int32.ofInt k)), some (.inr (.inl (some (ac + 96)))), none] rfl rfl rfl (by decide) (fun j hj => by cases Option.some.inj (show some 10 = some j from hj); exact ⟨_, _, rfl, rfl, rfl⟩) (fun j hj => by cases Option.some.inj (show some 13 = some j from hj); exact ⟨_, _, _, rfl, rfl, rfl, rfl⟩) ⟨22, ?_⟩
  simp (disch := omega) only [x_Law_point_0, x_Law_point_1, x_Law_point_2, x_Law_point_3, x_Law_point_4, x_Law_point_5, z_Law_point_6, x_Law_point_6, x_Law_point_7, x_Law_point_8, x_Law_point_9, x_Law_point_10, x_Law_point_11, x_Law_point_12, x_Law_point_13, x_Law_point_14, x_Law_point_15, x_Law_point_16, x_Law_point_17, jm_ia, jm_na, jm_qa, jm_aa, jm_asg, jm_l4, jm_Kr, jm_okv, jm_rc, jm_bo, true_and, and_true, Nat.add_zero, Nat.le_refl, j_lt, j_le, j_eq, j_lt0, j_0lt, j_le0, j_0le, j_eq0, j_add, j_sub, j_mul, j_neg, j_0sub, j_nat, j_in, j_div, j_rem, Sum.inl.injEq, exists_eq', true_or, or_true, if_true, if_false, not_true_eq_false, not_false_eq_true, implies_true, j_eq1, reduceIte, Nat.reduceEqDiff, Int.reduceEq, Int.reduceToNat, Nat.reduceAdd, Int.reduceAdd, Int.reduceSub, Int.reduceMul, Int.reduceNeg, and_false, false_and, and_self, u2r, j_b0, j_b1, Classical.not_not, eq_self, true_implies, false_implies, not_true_eq_false, not_false_eq_true, Int.reduceLT, Int.reduceLE]
  refine Or.inr ⟨ac, [.inl (Int32.ofInt c), .inl (Int32.ofInt r), .inl (Int32.ofInt k)], [.inl (Int32.ofInt 0), .inr (.inl (some (ac + 96)))], 1, 10, by decide, rfl, rfl, rfl, k7, trivial, by decide, by decide, x_point1b B l (mo h (ac + 65) σ) ac κ μ H hB hS c r k hc0 hc1 hr0 hr1 hk0 hk1 hr hl0, fun q n hn => ⟨22, ?_⟩⟩
  simp (disch := omega) only [x_Law_point_0, x_Law_point_1, x_Law_point_2, x_Law_point_3, x_Law_point_4, x_Law_point_5, z_Law_point_6, x_Law_point_6, x_Law_point_7, x_Law_point_8, x_Law_point_9, x_Law_point_10, x_Law_point_11, x_Law_point_12, x_Law_point_13, x_Law_point_14, x_Law_point_15, x_Law_point_16, x_Law_point_17, jm_ia, jm_na, jm_qa, jm_aa, jm_asg, jm_l4, jm_Kr, jm_okv, jm_rc, jm_bo, true_and, and_true, Nat.add_zero, Nat.le_refl, j_lt, j_le, j_eq, j_lt0, j_0lt, j_le0, j_0le, j_eq0, j_add, j_sub, j_mul, j_neg, j_0sub, j_nat, j_in, j_div, j_rem, Sum.inl.injEq, exists_eq', true_or, or_true, if_true, if_false, not_true_eq_false, not_false_eq_true, implies_true, j_eq1, reduceIte, Nat.reduceEqDiff, Int.reduceEq, Int.reduceToNat, Nat.reduceAdd, Int.reduceAdd, Int.reduceSub, Int.reduceMul, Int.reduceNeg, and_false, false_and, and_self, u2r, j_b0, j_b1, Classical.not_not, eq_self, true_implies, false_implies, not_true_eq_false, not_false_eq_true, Int.reduceLT, Int.reduceLE]
  repeat' first
    | apply And.intro
    | (intro _)
  all_goals first
    | contradiction
    | exact trivial
    | rfl
    | omega
    | exact (bi1 (by omega)).symm
    | exact (bi0 (by omega)).symm
    | exact (bi1 (by assumption)).symm
    | exact (bi0 (by assumption)).symm
    | exact PH_x hL (by decide) hsp hn
    | exact ⟨_, rfl⟩
    | ((try unfold IN_); (repeat (first | rw [if_pos (by omega)] | rw [if_neg (by omega)])); done)
    | ((try unfold IN_); (repeat (first | rw [if_pos (by omega)] | rw [if_neg (by omega)])); rfl)
    | ((try unfold IN_); (repeat (first | rw [if_pos (by omega)] | rw [if_neg (by omega)] | rw [if_pos (by assumption)] | rw [if_neg (by assumption)])); rfl)
set_option maxRecDepth 100000 in
set_option maxHeartbeats 4000000 in
theorem H_point2 (B : jm_B) (l : Launch) (h : jm_H) (ac : Nat) (κ : S_) (μ : M_) (u : Nat → Nat) (ids adr : Nat → Nat → Nat) (T : Int) (σ : S_) (hL : LSt B ac h κ μ u ids adr T σ) (hT : T ≤ 511) (hl0 : l.stackTraces = false) (c r k : Int) (hc0 : 0 ≤ c) (hc1 : c ≤ 2) (hr0 : 0 ≤ r) (hr1 : r ≤ 6000) (hk0 : 0 ≤ k) (hk1 : k ≤ 1000) (hr : (κ 7 c.toNat = 0 ∨ κ 8 (c * 8 + κ 7 c.toNat - 1).toNat < r)) (h8 : κ 7 c.toNat = 8) : jm_Cw B l (gm 105) (hhs 0 12 15 (some 19)) [.inr (.inl (some (ac))), .inl (Int32.ofInt c), .inl (Int32.ofInt r), .inl (Int32.ofInt k), .inr (.inl (some (ac + 96)))] (cs (mo h (ac + 65) σ) ac (CN κ) μ) (fun v h' => PH B ac h T σ (sp_point σ c r k) (some (if ((0 ≤ c ∧ c ≤ 2) ∧ (0 ≤ r ∧ r ≤ 6000) ∧ (0 ≤ k ∧ k ≤ 1000) ∧ (σ 7 c.toNat = 0 ∨ σ 8 (c * 8 + σ 7 c.toNat - 1).toNat < r)) ∧ ¬ σ 7 c.toNat = 8 then σ 7 c.toNat + 1 else 0)) v h') := by
  have H := RC_mo hL.1.1 σ
  have hB := hL.2.1.1.1
  have hS := hL.2.1.1.2.1
  have b01 : 0 ≤ κ 0 1 ∧ κ 0 1 ≤ 600000 := hB 0 1
  have k7 : jm_k (cs (mo h (ac + 65) σ) ac (CN κ) μ) ac = some (.inl 7) := ck0 H
  have k96 : jm_k h (ac + 96) = some (.inr (2, 1)) := hL.1.2.2.2.1
  have kmo : ∀ h1 a, jm_k (mo h1 (ac + 65) σ) a = jm_k h1 a := fun _ _ => rfl
  have cc : ((c.toNat : Nat) : Int) = c := by omega
  have e7 : κ 7 c.toNat = σ 7 c.toNat := hL.2.2.1 7 _ (by omega) (by omega)
  have e8 : ∀ j, κ 8 j = σ 8 j := fun j => hL.2.2.1 8 j (by omega) (by omega)
  have b7 : 0 ≤ κ 7 c.toNat ∧ κ 7 c.toNat ≤ 8 := hB 7 _
  have hr2 : (σ 7 c.toNat = 0 ∨ σ 8 (c * 8 + σ 7 c.toNat - 1).toNat < r) := by rw [← e7, ← e8]; exact hr
  have hsp : sp_point σ c r k = jm_u2 σ 0 0 2 := by unfold sp_point; rw [if_pos ⟨⟨hc0, hc1⟩, ⟨hr0, hr1⟩, ⟨hk0, hk1⟩, hr2⟩, if_pos (by omega)]
  show jm_Cw B l M_Law_point _ _ _ _
  refine jm_CW (code := t_Law_point) (pcC := 7) (jC := 6) (mi := 48) (na := 4) (rc := 1) (mc := 1) (ms := 6) (jh := (fun k => if k = 1 then some 10 else some 13)) rfl rfl (by decide) w_Law_point rfl (Nat.le_of_ble_eq_true rfl) [some (.inr (.inl (some (ac)))), some (.inl (Int32.ofInt c)), some (.inl (Int32.ofInt r)), some (.inl (Int32.ofInt k)), some (.inr (.inl (some (ac + 96)))), none] rfl rfl rfl (by decide) (fun j hj => by cases Option.some.inj (show some 10 = some j from hj); exact ⟨_, _, rfl, rfl, rfl⟩) (fun j hj => by cases Option.some.inj (show some 13 = some j from hj); exact ⟨_, _, _, rfl, rfl, rfl, rfl⟩) ⟨22, ?_⟩
  simp (disch := omega) only [x_Law_point_0, x_Law_point_1, x_Law_point_2, x_Law_point_3, x_Law_point_4, x_Law_point_5, z_Law_point_6, x_Law_point_6, x_Law_point_7, x_Law_point_8, x_Law_point_9, x_Law_point_10, x_Law_point_11, x_Law_point_12, x_Law_point_13, x_Law_point_14, x_Law_point_15, x_Law_point_16, x_Law_point_17, jm_ia, jm_na, jm_qa, jm_aa, jm_asg, jm_l4, jm_Kr, jm_okv, jm_rc, jm_bo, true_and, and_true, Nat.add_zero, Nat.le_refl, j_lt, j_le, j_eq, j_lt0, j_0lt, j_le0, j_0le, j_eq0, j_add, j_sub, j_mul, j_neg, j_0sub, j_nat, j_in, j_div, j_rem, Sum.inl.injEq, exists_eq', true_or, or_true, if_true, if_false, not_true_eq_false, not_false_eq_true, implies_true, j_eq1, reduceIte, Nat.reduceEqDiff, Int.reduceEq, Int.reduceToNat, Nat.reduceAdd, Int.reduceAdd, Int.reduceSub, Int.reduceMul, Int.reduceNeg, and_false, false_and, and_self, u2r, j_b0, j_b1, Classical.not_not, eq_self, true_implies, false_implies, not_true_eq_false, not_false_eq_true, Int.reduceLT, Int.reduceLE]
  refine Or.inr ⟨ac, [.inl (Int32.ofInt c), .inl (Int32.ofInt r), .inl (Int32.ofInt k)], [.inl (Int32.ofInt 0), .inr (.inl (some (ac + 96)))], 2, 13, by decide, rfl, rfl, rfl, k7, trivial, by decide, by decide, x_point2 B l (mo h (ac + 65) σ) ac κ μ H hB hS c r k hc0 hc1 hr0 hr1 hk0 hk1 hr h8 hl0, fun q n hn => ⟨22, ?_⟩⟩
  simp (disch := omega) only [x_Law_point_0, x_Law_point_1, x_Law_point_2, x_Law_point_3, x_Law_point_4, x_Law_point_5, z_Law_point_6, x_Law_point_6, x_Law_point_7, x_Law_point_8, x_Law_point_9, x_Law_point_10, x_Law_point_11, x_Law_point_12, x_Law_point_13, x_Law_point_14, x_Law_point_15, x_Law_point_16, x_Law_point_17, jm_ia, jm_na, jm_qa, jm_aa, jm_asg, jm_l4, jm_Kr, jm_okv, jm_rc, jm_bo, true_and, and_true, Nat.add_zero, Nat.le_refl, j_lt, j_le, j_eq, j_lt0, j_0lt, j_le0, j_0le, j_eq0, j_add, j_sub, j_mul, j_neg, j_0sub, j_nat, j_in, j_div, j_rem, Sum.inl.injEq, exists_eq', true_or, or_true, if_true, if_false, not_true_eq_false, not_false_eq_true, implies_true, j_eq1, reduceIte, Nat.reduceEqDiff, Int.reduceEq, Int.reduceToNat, Nat.reduceAdd, Int.reduceAdd, Int.reduceSub, Int.reduceMul, Int.reduceNeg, and_false, false_and, and_self, u2r, j_b0, j_b1, Classical.not_not, eq_self, true_implies, false_implies, not_true_eq_false, not_false_eq_true, Int.reduceLT, Int.reduceLE]
  repeat' first
    | apply And.intro
    | (intro _)
  all_goals first
    | contradiction
    | exact trivial
    | rfl
    | omega
    | exact (bi1 (by omega)).symm
    | exact (bi0 (by omega)).symm
    | exact (bi1 (by assumption)).symm
    | exact (bi0 (by assumption)).symm
    | exact PH_x hL (by decide) hsp hn
    | exact ⟨_, rfl⟩
    | ((try unfold IN_); (repeat (first | rw [if_pos (by omega)] | rw [if_neg (by omega)])); done)
    | ((try unfold IN_); (repeat (first | rw [if_pos (by omega)] | rw [if_neg (by omega)])); rfl)
    | ((try unfold IN_); (repeat (first | rw [if_pos (by omega)] | rw [if_neg (by omega)] | rw [if_pos (by assumption)] | rw [if_neg (by assumption)])); rfl)
set_option maxRecDepth 100000 in
set_option maxHeartbeats 4000000 in
theorem H_forbid0 (B : jm_B) (l : Launch) (h : jm_H) (ac : Nat) (κ : S_) (μ : M_) (u : Nat → Nat) (ids adr : Nat → Nat → Nat) (T : Int) (σ : S_) (hL : LSt B ac h κ μ u ids adr T σ) (hT : T ≤ 511) (hl0 : l.stackTraces = false) (c f n : Int) (hc0 : 0 ≤ c) (hc1 : c ≤ 2) (hf0 : 0 ≤ f) (hf1 : f ≤ 3599) (hn0 : 1 ≤ n) (hn1 : n ≤ 3599) (ht : κ 0 1 = 0) (h4 : ¬ κ 10 c.toNat = 4) : jm_Cw B l (gm 106) (hhs 0 12 15 (some 19)) [.inr (.inl (some (ac))), .inl (Int32.ofInt c), .inl (Int32.ofInt f), .inl (Int32.ofInt n), .inr (.inl (some (ac + 96)))] (cs (mo h (ac + 65) σ) ac (CN κ) μ) (fun v h' => PH B ac h T σ (sp_forbid σ c f n) (some (if ((0 ≤ c ∧ c ≤ 2) ∧ (0 ≤ f ∧ f ≤ 3599) ∧ (1 ≤ n ∧ n ≤ 3599)) ∧ ¬ σ 10 c.toNat = 4 ∧ ¬ 0 < σ 0 1 then σ 10 c.toNat + 1 else 0)) v h') := by
  have H := RC_mo hL.1.1 σ
  have hB := hL.2.1.1.1
  have hS := hL.2.1.1.2.1
  have b01 : 0 ≤ κ 0 1 ∧ κ 0 1 ≤ 600000 := hB 0 1
  have k7 : jm_k (cs (mo h (ac + 65) σ) ac (CN κ) μ) ac = some (.inl 7) := ck0 H
  have k96 : jm_k h (ac + 96) = some (.inr (2, 1)) := hL.1.2.2.2.1
  have kmo : ∀ h1 a, jm_k (mo h1 (ac + 65) σ) a = jm_k h1 a := fun _ _ => rfl
  have cc : ((c.toNat : Nat) : Int) = c := by omega
  have e10 : κ 10 c.toNat = σ 10 c.toNat := hL.2.2.1 10 _ (by omega) (by omega)
  have e01 : κ 0 1 = σ 0 1 := hL.2.2.1 0 1 (by omega) (by omega)
  have b10 : 0 ≤ κ 10 c.toNat ∧ κ 10 c.toNat ≤ 4 := hB 10 _
  have hsp : sp_forbid σ c f n = jm_u2 (jm_u2 (jm_u2 (jm_u2 σ 0 0 0) 11 (c * 4 + κ 10 c.toNat).toNat f) 12 (c * 4 + κ 10 c.toNat).toNat n) 10 c.toNat (κ 10 c.toNat + 1) := by unfold sp_forbid; rw [if_pos ⟨⟨hc0, hc1⟩, ⟨hf0, hf1⟩, hn0, hn1⟩, if_neg (by omega), ← e10]
  have hw : (if ((0 ≤ c ∧ c ≤ 2) ∧ (0 ≤ f ∧ f ≤ 3599) ∧ (1 ≤ n ∧ n ≤ 3599)) ∧ ¬ σ 10 c.toNat = 4 ∧ ¬ 0 < σ 0 1 then σ 10 c.toNat + 1 else 0) = κ 10 c.toNat + 1 := by rw [if_pos ⟨⟨⟨hc0, hc1⟩, ⟨hf0, hf1⟩, hn0, hn1⟩, by omega, by omega⟩, e10]
  obtain ⟨h6, ids', adr', hLp⟩ := LSt_forbid hL (c := c.toNat) (by omega) hf0 hf1 hn0 hn1 (by omega)
  have h45 : 0 ≤ κ 45 c.toNat := (hL.2.1.2.2.2 c.toNat (by omega)).1.1
  rw [cc] at hLp
  have hmn : ac + 65 + 31 ≤ jm_n h := by have := hL.1.2.2.2.2; omega
  have kA : jm_k (nA (mo h (ac + 65) σ) f n) (ac + 96) = some (.inr (2, 1)) := by rw [mo_nA hmn]; show jm_k (nA h f n) (ac + 96) = _; rw [nA_k (by have := hL.1.2.2.2.2; omega)]; exact k96
  have hfin : PH B ac h T σ (sp_forbid σ c f n) (some (if ((0 ≤ c ∧ c ≤ 2) ∧ (0 ≤ f ∧ f ≤ 3599) ∧ (1 ≤ n ∧ n ≤ 3599)) ∧ ¬ σ 10 c.toNat = 4 ∧ ¬ 0 < σ 0 1 then σ 10 c.toNat + 1 else 0)) (.inl (Int32.ofInt 0)) (jm_sl (cs (nA (mo h (ac + 65) σ) f n) ac (CN (jm_u2 (jm_u2 κ 45 c.toNat (κ 45 c.toNat + 1)) 10 c.toNat (κ 10 c.toNat + 1))) (jm_u2 μ (42 + 5 * c.toNat) (κ 45 c.toNat).toNat (some (jm_n (mo h (ac + 65) σ))))) (ac + 96) 0 (Int32.ofInt (κ 10 c.toNat + 1)).toInt64) := by
    rw [hsp, hw, mo_nA hmn, forbid_cs κ f n (c * 4 + κ 10 c.toNat).toNat]
    exact PH_1 hLp (by rw [u2n (by omega), u2n (by omega), u2n (by omega), u2p ⟨rfl, rfl⟩]) _ (fun a q => ⟨nA_k (by omega), fun j => nA_i (by omega)⟩)
  show jm_Cw B l M_Law_forbid _ _ _ _
  refine jm_CW (code := t_Law_forbid) (pcC := 7) (jC := 6) (mi := 49) (na := 4) (rc := 1) (mc := 1) (ms := 6) (jh := (fun k => if k = 1 then some 10 else some 13)) rfl rfl (by decide) w_Law_forbid rfl (Nat.le_of_ble_eq_true rfl) [some (.inr (.inl (some (ac)))), some (.inl (Int32.ofInt c)), some (.inl (Int32.ofInt f)), some (.inl (Int32.ofInt n)), some (.inr (.inl (some (ac + 96)))), none] rfl rfl rfl (by decide) (fun j hj => by cases Option.some.inj (show some 10 = some j from hj); exact ⟨_, _, rfl, rfl, rfl⟩) (fun j hj => by cases Option.some.inj (show some 13 = some j from hj); exact ⟨_, _, _, rfl, rfl, rfl, rfl⟩) ⟨22, ?_⟩
  simp (disch := omega) only [x_Law_forbid_0, x_Law_forbid_1, x_Law_forbid_2, x_Law_forbid_3, x_Law_forbid_4, x_Law_forbid_5, z_Law_forbid_6, x_Law_forbid_6, x_Law_forbid_7, x_Law_forbid_8, x_Law_forbid_9, x_Law_forbid_10, x_Law_forbid_11, x_Law_forbid_12, x_Law_forbid_13, x_Law_forbid_14, x_Law_forbid_15, x_Law_forbid_16, x_Law_forbid_17, jm_ia, jm_na, jm_qa, jm_aa, jm_asg, jm_l4, jm_Kr, jm_okv, jm_rc, jm_bo, true_and, and_true, Nat.add_zero, Nat.le_refl, j_lt, j_le, j_eq, j_lt0, j_0lt, j_le0, j_0le, j_eq0, j_add, j_sub, j_mul, j_neg, j_0sub, j_nat, j_in, j_div, j_rem, Sum.inl.injEq, exists_eq', true_or, or_true, if_true, if_false, not_true_eq_false, not_false_eq_true, implies_true, j_eq1, reduceIte, Nat.reduceEqDiff, Int.reduceEq, Int.reduceToNat, Nat.reduceAdd, Int.reduceAdd, Int.reduceSub, Int.reduceMul, Int.reduceNeg, and_false, false_and, and_self, u2r, j_b0, j_b1, Classical.not_not, eq_self, true_implies, false_implies, not_true_eq_false, not_false_eq_true, Int.reduceLT, Int.reduceLE, k7, ck, kmo, k96, kA]
  refine Or.inl ⟨22, ?_⟩
  simp (disch := omega) only [x_Law_forbid_0, x_Law_forbid_1, x_Law_forbid_2, x_Law_forbid_3, x_Law_forbid_4, x_Law_forbid_5, z_Law_forbid_6, x_Law_forbid_6, x_Law_forbid_7, x_Law_forbid_8, x_Law_forbid_9, x_Law_forbid_10, x_Law_forbid_11, x_Law_forbid_12, x_Law_forbid_13, x_Law_forbid_14, x_Law_forbid_15, x_Law_forbid_16, x_Law_forbid_17, jm_ia, jm_na, jm_qa, jm_aa, jm_asg, jm_l4, jm_Kr, jm_okv, jm_rc, jm_bo, true_and, and_true, Nat.add_zero, Nat.le_refl, j_lt, j_le, j_eq, j_lt0, j_0lt, j_le0, j_0le, j_eq0, j_add, j_sub, j_mul, j_neg, j_0sub, j_nat, j_in, j_div, j_rem, Sum.inl.injEq, exists_eq', true_or, or_true, if_true, if_false, not_true_eq_false, not_false_eq_true, implies_true, j_eq1, reduceIte, Nat.reduceEqDiff, Int.reduceEq, Int.reduceToNat, Nat.reduceAdd, Int.reduceAdd, Int.reduceSub, Int.reduceMul, Int.reduceNeg, and_false, false_and, and_self, u2r, j_b0, j_b1, Classical.not_not, eq_self, true_implies, false_implies, not_true_eq_false, not_false_eq_true, Int.reduceLT, Int.reduceLE, k7, ck, kmo, k96, kA]
  repeat' first
    | apply And.intro
    | (intro _)
    | (refine ⟨_, p_forbid B l (mo h (ac + 65) σ) ac κ μ H hB c f n hc0 hc1 hf0 hf1 hn0 hn1 ht h4 h45 h6, ?_⟩; rintro y h' ⟨rfl, hy⟩; cases hy; try simp (disch := omega) only [x_Law_forbid_0, x_Law_forbid_1, x_Law_forbid_2, x_Law_forbid_3, x_Law_forbid_4, x_Law_forbid_5, z_Law_forbid_6, x_Law_forbid_6, x_Law_forbid_7, x_Law_forbid_8, x_Law_forbid_9, x_Law_forbid_10, x_Law_forbid_11, x_Law_forbid_12, x_Law_forbid_13, x_Law_forbid_14, x_Law_forbid_15, x_Law_forbid_16, x_Law_forbid_17, jm_ia, jm_na, jm_qa, jm_aa, jm_asg, jm_l4, jm_Kr, jm_okv, jm_rc, jm_bo, true_and, and_true, Nat.add_zero, Nat.le_refl, j_lt, j_le, j_eq, j_lt0, j_0lt, j_le0, j_0le, j_eq0, j_add, j_sub, j_mul, j_neg, j_0sub, j_nat, j_in, j_div, j_rem, Sum.inl.injEq, exists_eq', true_or, or_true, if_true, if_false, not_true_eq_false, not_false_eq_true, implies_true, j_eq1, reduceIte, Nat.reduceEqDiff, Int.reduceEq, Int.reduceToNat, Nat.reduceAdd, Int.reduceAdd, Int.reduceSub, Int.reduceMul, Int.reduceNeg, and_false, false_and, and_self, u2r, j_b0, j_b1, Classical.not_not, eq_self, true_implies, false_implies, not_true_eq_false, not_false_eq_true, Int.reduceLT, Int.reduceLE, k7, ck, kmo, k96, kA])
  all_goals first
    | contradiction
    | exact trivial
    | rfl
    | omega
    | exact (bi1 (by omega)).symm
    | exact (bi0 (by omega)).symm
    | exact (bi1 (by assumption)).symm
    | exact (bi0 (by assumption)).symm
    | exact hfin
    | exact ⟨_, rfl⟩
    | ((try unfold IN_); (repeat (first | rw [if_pos (by omega)] | rw [if_neg (by omega)])); done)
    | ((try unfold IN_); (repeat (first | rw [if_pos (by omega)] | rw [if_neg (by omega)])); rfl)
    | ((try unfold IN_); (repeat (first | rw [if_pos (by omega)] | rw [if_neg (by omega)] | rw [if_pos (by assumption)] | rw [if_neg (by assumption)])); rfl)
set_option maxRecDepth 100000 in
set_option maxHeartbeats 4000000 in
theorem H_forbid1 (B : jm_B) (l : Launch) (h : jm_H) (ac : Nat) (κ : S_) (μ : M_) (u : Nat → Nat) (ids adr : Nat → Nat → Nat) (T : Int) (σ : S_) (hL : LSt B ac h κ μ u ids adr T σ) (hT : T ≤ 511) (hl0 : l.stackTraces = false) (c f n : Int) (ca : -2147483648 ≤ c) (cb : c < 2147483648) (fa : -2147483648 ≤ f) (fb : f < 2147483648) (na : -2147483648 ≤ n) (nb : n < 2147483648) (hx : ¬ ((0 ≤ c ∧ c ≤ 2) ∧ (0 ≤ f ∧ f ≤ 3599) ∧ (1 ≤ n ∧ n ≤ 3599))) : jm_Cw B l (gm 106) (hhs 0 12 15 (some 19)) [.inr (.inl (some (ac))), .inl (Int32.ofInt c), .inl (Int32.ofInt f), .inl (Int32.ofInt n), .inr (.inl (some (ac + 96)))] (cs (mo h (ac + 65) σ) ac (CN κ) μ) (fun v h' => PH B ac h T σ (sp_forbid σ c f n) (some (if ((0 ≤ c ∧ c ≤ 2) ∧ (0 ≤ f ∧ f ≤ 3599) ∧ (1 ≤ n ∧ n ≤ 3599)) ∧ ¬ σ 10 c.toNat = 4 ∧ ¬ 0 < σ 0 1 then σ 10 c.toNat + 1 else 0)) v h') := by
  have H := RC_mo hL.1.1 σ
  have hB := hL.2.1.1.1
  have hS := hL.2.1.1.2.1
  have b01 : 0 ≤ κ 0 1 ∧ κ 0 1 ≤ 600000 := hB 0 1
  have k7 : jm_k (cs (mo h (ac + 65) σ) ac (CN κ) μ) ac = some (.inl 7) := ck0 H
  have k96 : jm_k h (ac + 96) = some (.inr (2, 1)) := hL.1.2.2.2.1
  have kmo : ∀ h1 a, jm_k (mo h1 (ac + 65) σ) a = jm_k h1 a := fun _ _ => rfl
  have hsp : sp_forbid σ c f n = jm_u2 σ 0 0 1 := by unfold sp_forbid; rw [if_neg hx]
  show jm_Cw B l M_Law_forbid _ _ _ _
  refine jm_CW (code := t_Law_forbid) (pcC := 7) (jC := 6) (mi := 49) (na := 4) (rc := 1) (mc := 1) (ms := 6) (jh := (fun k => if k = 1 then some 10 else some 13)) rfl rfl (by decide) w_Law_forbid rfl (Nat.le_of_ble_eq_true rfl) [some (.inr (.inl (some (ac)))), some (.inl (Int32.ofInt c)), some (.inl (Int32.ofInt f)), some (.inl (Int32.ofInt n)), some (.inr (.inl (some (ac + 96)))), none] rfl rfl rfl (by decide) (fun j hj => by cases Option.some.inj (show some 10 = some j from hj); exact ⟨_, _, rfl, rfl, rfl⟩) (fun j hj => by cases Option.some.inj (show some 13 = some j from hj); exact ⟨_, _, _, rfl, rfl, rfl, rfl⟩) ⟨22, ?_⟩
  simp (disch := omega) only [x_Law_forbid_0, x_Law_forbid_1, x_Law_forbid_2, x_Law_forbid_3, x_Law_forbid_4, x_Law_forbid_5, z_Law_forbid_6, x_Law_forbid_6, x_Law_forbid_7, x_Law_forbid_8, x_Law_forbid_9, x_Law_forbid_10, x_Law_forbid_11, x_Law_forbid_12, x_Law_forbid_13, x_Law_forbid_14, x_Law_forbid_15, x_Law_forbid_16, x_Law_forbid_17, jm_ia, jm_na, jm_qa, jm_aa, jm_asg, jm_l4, jm_Kr, jm_okv, jm_rc, jm_bo, true_and, and_true, Nat.add_zero, Nat.le_refl, j_lt, j_le, j_eq, j_lt0, j_0lt, j_le0, j_0le, j_eq0, j_add, j_sub, j_mul, j_neg, j_0sub, j_nat, j_in, j_div, j_rem, Sum.inl.injEq, exists_eq', true_or, or_true, if_true, if_false, not_true_eq_false, not_false_eq_true, implies_true, j_eq1, reduceIte, Nat.reduceEqDiff, Int.reduceEq, Int.reduceToNat, Nat.reduceAdd, Int.reduceAdd, Int.reduceSub, Int.reduceMul, Int.reduceNeg, and_false, false_and, and_self, u2r, j_b0, j_b1, Classical.not_not, eq_self, true_implies, false_implies, not_true_eq_false, not_false_eq_true, Int.reduceLT, Int.reduceLE]
  refine Or.inr ⟨ac, [.inl (Int32.ofInt c), .inl (Int32.ofInt f), .inl (Int32.ofInt n)], [.inl (Int32.ofInt 0), .inr (.inl (some (ac + 96)))], 1, 10, by decide, rfl, rfl, rfl, k7, trivial, by decide, by decide, x_forbid1 B l (mo h (ac + 65) σ) ac κ μ H hB c f n ca cb fa fb na nb hx hl0, fun q n hn => ⟨22, ?_⟩⟩
  simp (disch := omega) only [x_Law_forbid_0, x_Law_forbid_1, x_Law_forbid_2, x_Law_forbid_3, x_Law_forbid_4, x_Law_forbid_5, z_Law_forbid_6, x_Law_forbid_6, x_Law_forbid_7, x_Law_forbid_8, x_Law_forbid_9, x_Law_forbid_10, x_Law_forbid_11, x_Law_forbid_12, x_Law_forbid_13, x_Law_forbid_14, x_Law_forbid_15, x_Law_forbid_16, x_Law_forbid_17, jm_ia, jm_na, jm_qa, jm_aa, jm_asg, jm_l4, jm_Kr, jm_okv, jm_rc, jm_bo, true_and, and_true, Nat.add_zero, Nat.le_refl, j_lt, j_le, j_eq, j_lt0, j_0lt, j_le0, j_0le, j_eq0, j_add, j_sub, j_mul, j_neg, j_0sub, j_nat, j_in, j_div, j_rem, Sum.inl.injEq, exists_eq', true_or, or_true, if_true, if_false, not_true_eq_false, not_false_eq_true, implies_true, j_eq1, reduceIte, Nat.reduceEqDiff, Int.reduceEq, Int.reduceToNat, Nat.reduceAdd, Int.reduceAdd, Int.reduceSub, Int.reduceMul, Int.reduceNeg, and_false, false_and, and_self, u2r, j_b0, j_b1, Classical.not_not, eq_self, true_implies, false_implies, not_true_eq_false, not_false_eq_true, Int.reduceLT, Int.reduceLE]
  repeat' first
    | apply And.intro
    | (intro _)
  all_goals first
    | contradiction
    | exact trivial
    | rfl
    | omega
    | exact (bi1 (by omega)).symm
    | exact (bi0 (by omega)).symm
    | exact (bi1 (by assumption)).symm
    | exact (bi0 (by assumption)).symm
    | exact PH_x hL (by decide) hsp hn
    | exact ⟨_, rfl⟩
    | ((try unfold IN_); (repeat (first | rw [if_pos (by omega)] | rw [if_neg (by omega)])); done)
    | ((try unfold IN_); (repeat (first | rw [if_pos (by omega)] | rw [if_neg (by omega)])); rfl)
    | ((try unfold IN_); (repeat (first | rw [if_pos (by omega)] | rw [if_neg (by omega)] | rw [if_pos (by assumption)] | rw [if_neg (by assumption)])); rfl)
set_option maxRecDepth 100000 in
set_option maxHeartbeats 4000000 in
theorem H_forbid2 (B : jm_B) (l : Launch) (h : jm_H) (ac : Nat) (κ : S_) (μ : M_) (u : Nat → Nat) (ids adr : Nat → Nat → Nat) (T : Int) (σ : S_) (hL : LSt B ac h κ μ u ids adr T σ) (hT : T ≤ 511) (hl0 : l.stackTraces = false) (c f n : Int) (hc0 : 0 ≤ c) (hc1 : c ≤ 2) (hf0 : 0 ≤ f) (hf1 : f ≤ 3599) (hn0 : 1 ≤ n) (hn1 : n ≤ 3599) (ht : ¬ κ 0 1 = 0 ∨ κ 10 c.toNat = 4) : jm_Cw B l (gm 106) (hhs 0 12 15 (some 19)) [.inr (.inl (some (ac))), .inl (Int32.ofInt c), .inl (Int32.ofInt f), .inl (Int32.ofInt n), .inr (.inl (some (ac + 96)))] (cs (mo h (ac + 65) σ) ac (CN κ) μ) (fun v h' => PH B ac h T σ (sp_forbid σ c f n) (some (if ((0 ≤ c ∧ c ≤ 2) ∧ (0 ≤ f ∧ f ≤ 3599) ∧ (1 ≤ n ∧ n ≤ 3599)) ∧ ¬ σ 10 c.toNat = 4 ∧ ¬ 0 < σ 0 1 then σ 10 c.toNat + 1 else 0)) v h') := by
  have H := RC_mo hL.1.1 σ
  have hB := hL.2.1.1.1
  have hS := hL.2.1.1.2.1
  have b01 : 0 ≤ κ 0 1 ∧ κ 0 1 ≤ 600000 := hB 0 1
  have k7 : jm_k (cs (mo h (ac + 65) σ) ac (CN κ) μ) ac = some (.inl 7) := ck0 H
  have k96 : jm_k h (ac + 96) = some (.inr (2, 1)) := hL.1.2.2.2.1
  have kmo : ∀ h1 a, jm_k (mo h1 (ac + 65) σ) a = jm_k h1 a := fun _ _ => rfl
  have cc : ((c.toNat : Nat) : Int) = c := by omega
  have e10 : κ 10 c.toNat = σ 10 c.toNat := hL.2.2.1 10 _ (by omega) (by omega)
  have e01 : κ 0 1 = σ 0 1 := hL.2.2.1 0 1 (by omega) (by omega)
  have b10 : 0 ≤ κ 10 c.toNat ∧ κ 10 c.toNat ≤ 4 := hB 10 _
  have hsp : sp_forbid σ c f n = jm_u2 σ 0 0 2 := by unfold sp_forbid; rw [if_pos ⟨⟨hc0, hc1⟩, ⟨hf0, hf1⟩, hn0, hn1⟩, if_pos (by omega)]
  show jm_Cw B l M_Law_forbid _ _ _ _
  refine jm_CW (code := t_Law_forbid) (pcC := 7) (jC := 6) (mi := 49) (na := 4) (rc := 1) (mc := 1) (ms := 6) (jh := (fun k => if k = 1 then some 10 else some 13)) rfl rfl (by decide) w_Law_forbid rfl (Nat.le_of_ble_eq_true rfl) [some (.inr (.inl (some (ac)))), some (.inl (Int32.ofInt c)), some (.inl (Int32.ofInt f)), some (.inl (Int32.ofInt n)), some (.inr (.inl (some (ac + 96)))), none] rfl rfl rfl (by decide) (fun j hj => by cases Option.some.inj (show some 10 = some j from hj); exact ⟨_, _, rfl, rfl, rfl⟩) (fun j hj => by cases Option.some.inj (show some 13 = some j from hj); exact ⟨_, _, _, rfl, rfl, rfl, rfl⟩) ⟨22, ?_⟩
  simp (disch := omega) only [x_Law_forbid_0, x_Law_forbid_1, x_Law_forbid_2, x_Law_forbid_3, x_Law_forbid_4, x_Law_forbid_5, z_Law_forbid_6, x_Law_forbid_6, x_Law_forbid_7, x_Law_forbid_8, x_Law_forbid_9, x_Law_forbid_10, x_Law_forbid_11, x_Law_forbid_12, x_Law_forbid_13, x_Law_forbid_14, x_Law_forbid_15, x_Law_forbid_16, x_Law_forbid_17, jm_ia, jm_na, jm_qa, jm_aa, jm_asg, jm_l4, jm_Kr, jm_okv, jm_rc, jm_bo, true_and, and_true, Nat.add_zero, Nat.le_refl, j_lt, j_le, j_eq, j_lt0, j_0lt, j_le0, j_0le, j_eq0, j_add, j_sub, j_mul, j_neg, j_0sub, j_nat, j_in, j_div, j_rem, Sum.inl.injEq, exists_eq', true_or, or_true, if_true, if_false, not_true_eq_false, not_false_eq_true, implies_true, j_eq1, reduceIte, Nat.reduceEqDiff, Int.reduceEq, Int.reduceToNat, Nat.reduceAdd, Int.reduceAdd, Int.reduceSub, Int.reduceMul, Int.reduceNeg, and_false, false_and, and_self, u2r, j_b0, j_b1, Classical.not_not, eq_self, true_implies, false_implies, not_true_eq_false, not_false_eq_true, Int.reduceLT, Int.reduceLE]
  refine Or.inr ⟨ac, [.inl (Int32.ofInt c), .inl (Int32.ofInt f), .inl (Int32.ofInt n)], [.inl (Int32.ofInt 0), .inr (.inl (some (ac + 96)))], 2, 13, by decide, rfl, rfl, rfl, k7, trivial, by decide, by decide, x_forbid2 B l (mo h (ac + 65) σ) ac κ μ H hB c f n hc0 hc1 hf0 hf1 hn0 hn1 ht hl0, fun q n hn => ⟨22, ?_⟩⟩
  simp (disch := omega) only [x_Law_forbid_0, x_Law_forbid_1, x_Law_forbid_2, x_Law_forbid_3, x_Law_forbid_4, x_Law_forbid_5, z_Law_forbid_6, x_Law_forbid_6, x_Law_forbid_7, x_Law_forbid_8, x_Law_forbid_9, x_Law_forbid_10, x_Law_forbid_11, x_Law_forbid_12, x_Law_forbid_13, x_Law_forbid_14, x_Law_forbid_15, x_Law_forbid_16, x_Law_forbid_17, jm_ia, jm_na, jm_qa, jm_aa, jm_asg, jm_l4, jm_Kr, jm_okv, jm_rc, jm_bo, true_and, and_true, Nat.add_zero, Nat.le_refl, j_lt, j_le, j_eq, j_lt0, j_0lt, j_le0, j_0le, j_eq0, j_add, j_sub, j_mul, j_neg, j_0sub, j_nat, j_in, j_div, j_rem, Sum.inl.injEq, exists_eq', true_or, or_true, if_true, if_false, not_true_eq_false, not_false_eq_true, implies_true, j_eq1, reduceIte, Nat.reduceEqDiff, Int.reduceEq, Int.reduceToNat, Nat.reduceAdd, Int.reduceAdd, Int.reduceSub, Int.reduceMul, Int.reduceNeg, and_false, false_and, and_self, u2r, j_b0, j_b1, Classical.not_not, eq_self, true_implies, false_implies, not_true_eq_false, not_false_eq_true, Int.reduceLT, Int.reduceLE]
  repeat' first
    | apply And.intro
    | (intro _)
  all_goals first
    | contradiction
    | exact trivial
    | rfl
    | omega
    | exact (bi1 (by omega)).symm
    | exact (bi0 (by omega)).symm
    | exact (bi1 (by assumption)).symm
    | exact (bi0 (by assumption)).symm
    | exact PH_x hL (by decide) hsp hn
    | exact ⟨_, rfl⟩
    | ((try unfold IN_); (repeat (first | rw [if_pos (by omega)] | rw [if_neg (by omega)])); done)
    | ((try unfold IN_); (repeat (first | rw [if_pos (by omega)] | rw [if_neg (by omega)])); rfl)
    | ((try unfold IN_); (repeat (first | rw [if_pos (by omega)] | rw [if_neg (by omega)] | rw [if_pos (by assumption)] | rw [if_neg (by assumption)])); rfl)
set_option maxRecDepth 100000 in
set_option maxHeartbeats 4000000 in
theorem H_share0 (B : jm_B) (l : Launch) (h : jm_H) (ac : Nat) (κ : S_) (μ : M_) (u : Nat → Nat) (ids adr : Nat → Nat → Nat) (T : Int) (σ : S_) (hL : LSt B ac h κ μ u ids adr T σ) (hT : T ≤ 511) (hl0 : l.stackTraces = false) (p f n g k : Int) (hp0 : 0 ≤ p) (hp1 : p ≤ 2) (hf0 : 0 ≤ f) (hf1 : f ≤ 3599) (hn0 : 1 ≤ n) (hn1 : n ≤ 3599) (hg0 : 0 ≤ g) (hg1 : g ≤ 3599) (hk0 : 1 ≤ k) (hk1 : k ≤ 3599) (ht : κ 0 1 = 0) (h13 : κ 13 p.toNat = 0) : jm_Cw B l (gm 107) (hhs 0 11 14 (some 18)) [.inr (.inl (some (ac))), .inl (Int32.ofInt p), .inl (Int32.ofInt f), .inl (Int32.ofInt n), .inl (Int32.ofInt g), .inl (Int32.ofInt k)] (cs (mo h (ac + 65) σ) ac (CN κ) μ) (fun v h' => PH B ac h T σ (sp_share σ p f n g k) none v h') := by
  have H := RC_mo hL.1.1 σ
  have hB := hL.2.1.1.1
  have hS := hL.2.1.1.2.1
  have b01 : 0 ≤ κ 0 1 ∧ κ 0 1 ≤ 600000 := hB 0 1
  have k7 : jm_k (cs (mo h (ac + 65) σ) ac (CN κ) μ) ac = some (.inl 7) := ck0 H
  have k96 : jm_k h (ac + 96) = some (.inr (2, 1)) := hL.1.2.2.2.1
  have kmo : ∀ h1 a, jm_k (mo h1 (ac + 65) σ) a = jm_k h1 a := fun _ _ => rfl
  have e13 : κ 13 p.toNat = σ 13 p.toNat := hL.2.2.1 13 _ (by omega) (by omega)
  have e01 : κ 0 1 = σ 0 1 := hL.2.2.1 0 1 (by omega) (by omega)
  have hp3 : p.toNat < 3 := by omega
  have kb := kp_b p.toNat
  have hsp : sp_share σ p f n g k = jm_u2 (jm_u2 (jm_u2 (jm_u2 (jm_u2 (jm_u2 σ 0 0 0) 13 p.toNat 1) 14 (2 * p.toNat) f) 15 (2 * p.toNat) n) 14 (2 * p.toNat + 1) g) 15 (2 * p.toNat + 1) k := by unfold sp_share; rw [if_pos ⟨⟨hp0, hp1⟩, ⟨⟨hf0, hf1⟩, hn0, hn1⟩, ⟨hg0, hg1⟩, hk0, hk1⟩, if_neg (by omega), show (2 * p).toNat = 2 * p.toNat by omega, show (2 * p + 1).toNat = 2 * p.toNat + 1 by omega]
  obtain ⟨⟨h6a, h6b⟩, ids', adr', hLp⟩ := LSt_share hL hp3 hf0 hf1 hn0 hn1 hg0 hg1 hk0 hk1 h13
  have c45 : 0 ≤ κ 45 (KP p.toNat).toNat := (hL.2.1.2.2.2 (KP p.toNat).toNat (by omega)).1.1
  have d45 : 0 ≤ κ 45 (AS p.toNat).toNat := (hL.2.1.2.2.2 (AS p.toNat).toNat (by omega)).1.1
  have hfin : PH B ac h T σ (sp_share σ p f n g k) none (.inl (Int32.ofInt 0)) (cs (mo h (ac + 65) σ) ac (CN (jm_u2 (jm_u2 (jm_u2 (jm_u2 (jm_u2 (jm_u2 κ 14 (2 * p.toNat) f) 15 (2 * p.toNat) n) 14 (2 * p.toNat + 1) g) 15 (2 * p.toNat + 1) k) 45 (KP p.toNat).toNat (κ 45 (KP p.toNat).toNat + 1)) 45 (AS p.toNat).toNat (κ 45 (AS p.toNat).toNat + 1))) (jm_u2 (jm_u2 μ (42 + 5 * (KP p.toNat).toNat) (κ 45 (KP p.toNat).toNat).toNat (some (ac + (54 + 4 * p.toNat)))) (42 + 5 * (AS p.toNat).toNat) (κ 45 (AS p.toNat).toNat).toNat (some (ac + (56 + 4 * p.toNat))))) := by
    rw [hsp, share_cs κ f n g k (kp_ne hp3)]
    exact PH_0 hLp (by rw [u2n (by omega), u2n (by omega), u2n (by omega), u2n (by omega), u2n (by omega), u2p ⟨rfl, rfl⟩])
  show jm_Cw B l M_Law_share _ _ _ _
  refine jm_CW (code := t_Law_share) (pcC := 8) (jC := 6) (mi := 50) (na := 6) (rc := 0) (mc := 1) (ms := 6) (jh := (fun k => if k = 1 then some 8 else some 11)) rfl rfl (by decide) w_Law_share rfl (Nat.le_of_ble_eq_true rfl) [some (.inr (.inl (some (ac)))), some (.inl (Int32.ofInt p)), some (.inl (Int32.ofInt f)), some (.inl (Int32.ofInt n)), some (.inl (Int32.ofInt g)), some (.inl (Int32.ofInt k)), none] rfl rfl rfl (by decide) (fun j hj => by cases Option.some.inj (show some 8 = some j from hj); exact ⟨_, _, rfl, rfl, rfl⟩) (fun j hj => by cases Option.some.inj (show some 11 = some j from hj); exact ⟨_, _, _, rfl, rfl, rfl, rfl⟩) ⟨20, ?_⟩
  simp (disch := omega) only [x_Law_share_0, x_Law_share_1, x_Law_share_2, x_Law_share_3, x_Law_share_4, x_Law_share_5, z_Law_share_6, x_Law_share_6, x_Law_share_7, x_Law_share_8, x_Law_share_9, x_Law_share_10, x_Law_share_11, x_Law_share_12, x_Law_share_13, x_Law_share_14, x_Law_share_15, jm_ia, jm_na, jm_qa, jm_aa, jm_asg, jm_l4, jm_Kr, jm_okv, jm_rc, jm_bo, true_and, and_true, Nat.add_zero, Nat.le_refl, j_lt, j_le, j_eq, j_lt0, j_0lt, j_le0, j_0le, j_eq0, j_add, j_sub, j_mul, j_neg, j_0sub, j_nat, j_in, j_div, j_rem, Sum.inl.injEq, exists_eq', true_or, or_true, if_true, if_false, not_true_eq_false, not_false_eq_true, implies_true, j_eq1, reduceIte, Nat.reduceEqDiff, Int.reduceEq, Int.reduceToNat, Nat.reduceAdd, Int.reduceAdd, Int.reduceSub, Int.reduceMul, Int.reduceNeg, and_false, false_and, and_self, u2r, j_b0, j_b1, Classical.not_not, eq_self, true_implies, false_implies, not_true_eq_false, not_false_eq_true, Int.reduceLT, Int.reduceLE, k7]
  refine Or.inl ⟨20, ?_⟩
  simp (disch := omega) only [x_Law_share_0, x_Law_share_1, x_Law_share_2, x_Law_share_3, x_Law_share_4, x_Law_share_5, z_Law_share_6, x_Law_share_6, x_Law_share_7, x_Law_share_8, x_Law_share_9, x_Law_share_10, x_Law_share_11, x_Law_share_12, x_Law_share_13, x_Law_share_14, x_Law_share_15, jm_ia, jm_na, jm_qa, jm_aa, jm_asg, jm_l4, jm_Kr, jm_okv, jm_rc, jm_bo, true_and, and_true, Nat.add_zero, Nat.le_refl, j_lt, j_le, j_eq, j_lt0, j_0lt, j_le0, j_0le, j_eq0, j_add, j_sub, j_mul, j_neg, j_0sub, j_nat, j_in, j_div, j_rem, Sum.inl.injEq, exists_eq', true_or, or_true, if_true, if_false, not_true_eq_false, not_false_eq_true, implies_true, j_eq1, reduceIte, Nat.reduceEqDiff, Int.reduceEq, Int.reduceToNat, Nat.reduceAdd, Int.reduceAdd, Int.reduceSub, Int.reduceMul, Int.reduceNeg, and_false, false_and, and_self, u2r, j_b0, j_b1, Classical.not_not, eq_self, true_implies, false_implies, not_true_eq_false, not_false_eq_true, Int.reduceLT, Int.reduceLE, k7]
  repeat' first
    | apply And.intro
    | (intro _)
    | (refine ⟨_, p_share B l (mo h (ac + 65) σ) ac κ μ H hB p f n g k hp0 hp1 hf0 hf1 hn0 hn1 hg0 hg1 hk0 hk1 ht (hL.2.1.2.2.1 p.toNat hp3 h13).1 ⟨c45, h6a⟩ ⟨d45, h6b⟩, ?_⟩; rintro h' rfl; try simp (disch := omega) only [x_Law_share_0, x_Law_share_1, x_Law_share_2, x_Law_share_3, x_Law_share_4, x_Law_share_5, z_Law_share_6, x_Law_share_6, x_Law_share_7, x_Law_share_8, x_Law_share_9, x_Law_share_10, x_Law_share_11, x_Law_share_12, x_Law_share_13, x_Law_share_14, x_Law_share_15, jm_ia, jm_na, jm_qa, jm_aa, jm_asg, jm_l4, jm_Kr, jm_okv, jm_rc, jm_bo, true_and, and_true, Nat.add_zero, Nat.le_refl, j_lt, j_le, j_eq, j_lt0, j_0lt, j_le0, j_0le, j_eq0, j_add, j_sub, j_mul, j_neg, j_0sub, j_nat, j_in, j_div, j_rem, Sum.inl.injEq, exists_eq', true_or, or_true, if_true, if_false, not_true_eq_false, not_false_eq_true, implies_true, j_eq1, reduceIte, Nat.reduceEqDiff, Int.reduceEq, Int.reduceToNat, Nat.reduceAdd, Int.reduceAdd, Int.reduceSub, Int.reduceMul, Int.reduceNeg, and_false, false_and, and_self, u2r, j_b0, j_b1, Classical.not_not, eq_self, true_implies, false_implies, not_true_eq_false, not_false_eq_true, Int.reduceLT, Int.reduceLE, k7])
  all_goals first
    | contradiction
    | exact trivial
    | rfl
    | omega
    | exact (bi1 (by omega)).symm
    | exact (bi0 (by omega)).symm
    | exact (bi1 (by assumption)).symm
    | exact (bi0 (by assumption)).symm
    | exact hfin
    | exact ⟨_, rfl⟩
    | ((try unfold IN_); (repeat (first | rw [if_pos (by omega)] | rw [if_neg (by omega)])); done)
    | ((try unfold IN_); (repeat (first | rw [if_pos (by omega)] | rw [if_neg (by omega)])); rfl)
    | ((try unfold IN_); (repeat (first | rw [if_pos (by omega)] | rw [if_neg (by omega)] | rw [if_pos (by assumption)] | rw [if_neg (by assumption)])); rfl)
set_option maxRecDepth 100000 in
set_option maxHeartbeats 4000000 in
theorem H_share1 (B : jm_B) (l : Launch) (h : jm_H) (ac : Nat) (κ : S_) (μ : M_) (u : Nat → Nat) (ids adr : Nat → Nat → Nat) (T : Int) (σ : S_) (hL : LSt B ac h κ μ u ids adr T σ) (hT : T ≤ 511) (hl0 : l.stackTraces = false) (p f n g k : Int) (pa : -2147483648 ≤ p) (pb : p < 2147483648) (fa : -2147483648 ≤ f) (fb : f < 2147483648) (na : -2147483648 ≤ n) (nb : n < 2147483648) (ga : -2147483648 ≤ g) (gb : g < 2147483648) (ka : -2147483648 ≤ k) (kb : k < 2147483648) (hx : ¬ ((0 ≤ p ∧ p ≤ 2) ∧ ((0 ≤ f ∧ f ≤ 3599) ∧ (1 ≤ n ∧ n ≤ 3599)) ∧ ((0 ≤ g ∧ g ≤ 3599) ∧ (1 ≤ k ∧ k ≤ 3599)))) : jm_Cw B l (gm 107) (hhs 0 11 14 (some 18)) [.inr (.inl (some (ac))), .inl (Int32.ofInt p), .inl (Int32.ofInt f), .inl (Int32.ofInt n), .inl (Int32.ofInt g), .inl (Int32.ofInt k)] (cs (mo h (ac + 65) σ) ac (CN κ) μ) (fun v h' => PH B ac h T σ (sp_share σ p f n g k) none v h') := by
  have H := RC_mo hL.1.1 σ
  have hB := hL.2.1.1.1
  have hS := hL.2.1.1.2.1
  have b01 : 0 ≤ κ 0 1 ∧ κ 0 1 ≤ 600000 := hB 0 1
  have k7 : jm_k (cs (mo h (ac + 65) σ) ac (CN κ) μ) ac = some (.inl 7) := ck0 H
  have k96 : jm_k h (ac + 96) = some (.inr (2, 1)) := hL.1.2.2.2.1
  have kmo : ∀ h1 a, jm_k (mo h1 (ac + 65) σ) a = jm_k h1 a := fun _ _ => rfl
  have hsp : sp_share σ p f n g k = jm_u2 σ 0 0 1 := by unfold sp_share; rw [if_neg hx]
  show jm_Cw B l M_Law_share _ _ _ _
  refine jm_CW (code := t_Law_share) (pcC := 8) (jC := 6) (mi := 50) (na := 6) (rc := 0) (mc := 1) (ms := 6) (jh := (fun k => if k = 1 then some 8 else some 11)) rfl rfl (by decide) w_Law_share rfl (Nat.le_of_ble_eq_true rfl) [some (.inr (.inl (some (ac)))), some (.inl (Int32.ofInt p)), some (.inl (Int32.ofInt f)), some (.inl (Int32.ofInt n)), some (.inl (Int32.ofInt g)), some (.inl (Int32.ofInt k)), none] rfl rfl rfl (by decide) (fun j hj => by cases Option.some.inj (show some 8 = some j from hj); exact ⟨_, _, rfl, rfl, rfl⟩) (fun j hj => by cases Option.some.inj (show some 11 = some j from hj); exact ⟨_, _, _, rfl, rfl, rfl, rfl⟩) ⟨20, ?_⟩
  simp (disch := omega) only [x_Law_share_0, x_Law_share_1, x_Law_share_2, x_Law_share_3, x_Law_share_4, x_Law_share_5, z_Law_share_6, x_Law_share_6, x_Law_share_7, x_Law_share_8, x_Law_share_9, x_Law_share_10, x_Law_share_11, x_Law_share_12, x_Law_share_13, x_Law_share_14, x_Law_share_15, jm_ia, jm_na, jm_qa, jm_aa, jm_asg, jm_l4, jm_Kr, jm_okv, jm_rc, jm_bo, true_and, and_true, Nat.add_zero, Nat.le_refl, j_lt, j_le, j_eq, j_lt0, j_0lt, j_le0, j_0le, j_eq0, j_add, j_sub, j_mul, j_neg, j_0sub, j_nat, j_in, j_div, j_rem, Sum.inl.injEq, exists_eq', true_or, or_true, if_true, if_false, not_true_eq_false, not_false_eq_true, implies_true, j_eq1, reduceIte, Nat.reduceEqDiff, Int.reduceEq, Int.reduceToNat, Nat.reduceAdd, Int.reduceAdd, Int.reduceSub, Int.reduceMul, Int.reduceNeg, and_false, false_and, and_self, u2r, j_b0, j_b1, Classical.not_not, eq_self, true_implies, false_implies, not_true_eq_false, not_false_eq_true, Int.reduceLT, Int.reduceLE]
  refine Or.inr ⟨ac, [.inl (Int32.ofInt p), .inl (Int32.ofInt f), .inl (Int32.ofInt n), .inl (Int32.ofInt g), .inl (Int32.ofInt k)], [], 1, 8, by decide, rfl, rfl, rfl, k7, trivial, by decide, by decide, x_share1 B l (mo h (ac + 65) σ) ac κ μ H hB p f n g k pa pb fa fb na nb ga gb ka kb hx hl0, fun q n hn => ⟨20, ?_⟩⟩
  simp (disch := omega) only [x_Law_share_0, x_Law_share_1, x_Law_share_2, x_Law_share_3, x_Law_share_4, x_Law_share_5, z_Law_share_6, x_Law_share_6, x_Law_share_7, x_Law_share_8, x_Law_share_9, x_Law_share_10, x_Law_share_11, x_Law_share_12, x_Law_share_13, x_Law_share_14, x_Law_share_15, jm_ia, jm_na, jm_qa, jm_aa, jm_asg, jm_l4, jm_Kr, jm_okv, jm_rc, jm_bo, true_and, and_true, Nat.add_zero, Nat.le_refl, j_lt, j_le, j_eq, j_lt0, j_0lt, j_le0, j_0le, j_eq0, j_add, j_sub, j_mul, j_neg, j_0sub, j_nat, j_in, j_div, j_rem, Sum.inl.injEq, exists_eq', true_or, or_true, if_true, if_false, not_true_eq_false, not_false_eq_true, implies_true, j_eq1, reduceIte, Nat.reduceEqDiff, Int.reduceEq, Int.reduceToNat, Nat.reduceAdd, Int.reduceAdd, Int.reduceSub, Int.reduceMul, Int.reduceNeg, and_false, false_and, and_self, u2r, j_b0, j_b1, Classical.not_not, eq_self, true_implies, false_implies, not_true_eq_false, not_false_eq_true, Int.reduceLT, Int.reduceLE]
  repeat' first
    | apply And.intro
    | (intro _)
  all_goals first
    | contradiction
    | exact trivial
    | rfl
    | omega
    | exact (bi1 (by omega)).symm
    | exact (bi0 (by omega)).symm
    | exact (bi1 (by assumption)).symm
    | exact (bi0 (by assumption)).symm
    | exact PH_x hL (by decide) hsp hn
    | exact ⟨_, rfl⟩
    | ((try unfold IN_); (repeat (first | rw [if_pos (by omega)] | rw [if_neg (by omega)])); done)
    | ((try unfold IN_); (repeat (first | rw [if_pos (by omega)] | rw [if_neg (by omega)])); rfl)
    | ((try unfold IN_); (repeat (first | rw [if_pos (by omega)] | rw [if_neg (by omega)] | rw [if_pos (by assumption)] | rw [if_neg (by assumption)])); rfl)
set_option maxRecDepth 100000 in
set_option maxHeartbeats 4000000 in
theorem H_share2a (B : jm_B) (l : Launch) (h : jm_H) (ac : Nat) (κ : S_) (μ : M_) (u : Nat → Nat) (ids adr : Nat → Nat → Nat) (T : Int) (σ : S_) (hL : LSt B ac h κ μ u ids adr T σ) (hT : T ≤ 511) (hl0 : l.stackTraces = false) (p f n g k : Int) (hp0 : 0 ≤ p) (hp1 : p ≤ 2) (hf0 : 0 ≤ f) (hf1 : f ≤ 3599) (hn0 : 1 ≤ n) (hn1 : n ≤ 3599) (hg0 : 0 ≤ g) (hg1 : g ≤ 3599) (hk0 : 1 ≤ k) (hk1 : k ≤ 3599) (ht : ¬ κ 0 1 = 0) : jm_Cw B l (gm 107) (hhs 0 11 14 (some 18)) [.inr (.inl (some (ac))), .inl (Int32.ofInt p), .inl (Int32.ofInt f), .inl (Int32.ofInt n), .inl (Int32.ofInt g), .inl (Int32.ofInt k)] (cs (mo h (ac + 65) σ) ac (CN κ) μ) (fun v h' => PH B ac h T σ (sp_share σ p f n g k) none v h') := by
  have H := RC_mo hL.1.1 σ
  have hB := hL.2.1.1.1
  have hS := hL.2.1.1.2.1
  have b01 : 0 ≤ κ 0 1 ∧ κ 0 1 ≤ 600000 := hB 0 1
  have k7 : jm_k (cs (mo h (ac + 65) σ) ac (CN κ) μ) ac = some (.inl 7) := ck0 H
  have k96 : jm_k h (ac + 96) = some (.inr (2, 1)) := hL.1.2.2.2.1
  have kmo : ∀ h1 a, jm_k (mo h1 (ac + 65) σ) a = jm_k h1 a := fun _ _ => rfl
  have e13 : κ 13 p.toNat = σ 13 p.toNat := hL.2.2.1 13 _ (by omega) (by omega)
  have e01 : κ 0 1 = σ 0 1 := hL.2.2.1 0 1 (by omega) (by omega)
  have hp3 : p.toNat < 3 := by omega
  have kb := kp_b p.toNat
  have hsp : sp_share σ p f n g k = jm_u2 σ 0 0 2 := by unfold sp_share; rw [if_pos ⟨⟨hp0, hp1⟩, ⟨⟨hf0, hf1⟩, hn0, hn1⟩, ⟨hg0, hg1⟩, hk0, hk1⟩, if_pos (by omega)]
  show jm_Cw B l M_Law_share _ _ _ _
  refine jm_CW (code := t_Law_share) (pcC := 8) (jC := 6) (mi := 50) (na := 6) (rc := 0) (mc := 1) (ms := 6) (jh := (fun k => if k = 1 then some 8 else some 11)) rfl rfl (by decide) w_Law_share rfl (Nat.le_of_ble_eq_true rfl) [some (.inr (.inl (some (ac)))), some (.inl (Int32.ofInt p)), some (.inl (Int32.ofInt f)), some (.inl (Int32.ofInt n)), some (.inl (Int32.ofInt g)), some (.inl (Int32.ofInt k)), none] rfl rfl rfl (by decide) (fun j hj => by cases Option.some.inj (show some 8 = some j from hj); exact ⟨_, _, rfl, rfl, rfl⟩) (fun j hj => by cases Option.some.inj (show some 11 = some j from hj); exact ⟨_, _, _, rfl, rfl, rfl, rfl⟩) ⟨20, ?_⟩
  simp (disch := omega) only [x_Law_share_0, x_Law_share_1, x_Law_share_2, x_Law_share_3, x_Law_share_4, x_Law_share_5, z_Law_share_6, x_Law_share_6, x_Law_share_7, x_Law_share_8, x_Law_share_9, x_Law_share_10, x_Law_share_11, x_Law_share_12, x_Law_share_13, x_Law_share_14, x_Law_share_15, jm_ia, jm_na, jm_qa, jm_aa, jm_asg, jm_l4, jm_Kr, jm_okv, jm_rc, jm_bo, true_and, and_true, Nat.add_zero, Nat.le_refl, j_lt, j_le, j_eq, j_lt0, j_0lt, j_le0, j_0le, j_eq0, j_add, j_sub, j_mul, j_neg, j_0sub, j_nat, j_in, j_div, j_rem, Sum.inl.injEq, exists_eq', true_or, or_true, if_true, if_false, not_true_eq_false, not_false_eq_true, implies_true, j_eq1, reduceIte, Nat.reduceEqDiff, Int.reduceEq, Int.reduceToNat, Nat.reduceAdd, Int.reduceAdd, Int.reduceSub, Int.reduceMul, Int.reduceNeg, and_false, false_and, and_self, u2r, j_b0, j_b1, Classical.not_not, eq_self, true_implies, false_implies, not_true_eq_false, not_false_eq_true, Int.reduceLT, Int.reduceLE]
  refine Or.inr ⟨ac, [.inl (Int32.ofInt p), .inl (Int32.ofInt f), .inl (Int32.ofInt n), .inl (Int32.ofInt g), .inl (Int32.ofInt k)], [], 2, 11, by decide, rfl, rfl, rfl, k7, trivial, by decide, by decide, x_share2a B l (mo h (ac + 65) σ) ac κ μ H hB p f n g k hp0 hp1 hf0 hf1 hn0 hn1 hg0 hg1 hk0 hk1 ht hl0, fun q n hn => ⟨20, ?_⟩⟩
  simp (disch := omega) only [x_Law_share_0, x_Law_share_1, x_Law_share_2, x_Law_share_3, x_Law_share_4, x_Law_share_5, z_Law_share_6, x_Law_share_6, x_Law_share_7, x_Law_share_8, x_Law_share_9, x_Law_share_10, x_Law_share_11, x_Law_share_12, x_Law_share_13, x_Law_share_14, x_Law_share_15, jm_ia, jm_na, jm_qa, jm_aa, jm_asg, jm_l4, jm_Kr, jm_okv, jm_rc, jm_bo, true_and, and_true, Nat.add_zero, Nat.le_refl, j_lt, j_le, j_eq, j_lt0, j_0lt, j_le0, j_0le, j_eq0, j_add, j_sub, j_mul, j_neg, j_0sub, j_nat, j_in, j_div, j_rem, Sum.inl.injEq, exists_eq', true_or, or_true, if_true, if_false, not_true_eq_false, not_false_eq_true, implies_true, j_eq1, reduceIte, Nat.reduceEqDiff, Int.reduceEq, Int.reduceToNat, Nat.reduceAdd, Int.reduceAdd, Int.reduceSub, Int.reduceMul, Int.reduceNeg, and_false, false_and, and_self, u2r, j_b0, j_b1, Classical.not_not, eq_self, true_implies, false_implies, not_true_eq_false, not_false_eq_true, Int.reduceLT, Int.reduceLE]
  repeat' first
    | apply And.intro
    | (intro _)
  all_goals first
    | contradiction
    | exact trivial
    | rfl
    | omega
    | exact (bi1 (by omega)).symm
    | exact (bi0 (by omega)).symm
    | exact (bi1 (by assumption)).symm
    | exact (bi0 (by assumption)).symm
    | exact PH_x hL (by decide) hsp hn
    | exact ⟨_, rfl⟩
    | ((try unfold IN_); (repeat (first | rw [if_pos (by omega)] | rw [if_neg (by omega)])); done)
    | ((try unfold IN_); (repeat (first | rw [if_pos (by omega)] | rw [if_neg (by omega)])); rfl)
    | ((try unfold IN_); (repeat (first | rw [if_pos (by omega)] | rw [if_neg (by omega)] | rw [if_pos (by assumption)] | rw [if_neg (by assumption)])); rfl)
set_option maxRecDepth 100000 in
set_option maxHeartbeats 4000000 in
theorem H_share2b (B : jm_B) (l : Launch) (h : jm_H) (ac : Nat) (κ : S_) (μ : M_) (u : Nat → Nat) (ids adr : Nat → Nat → Nat) (T : Int) (σ : S_) (hL : LSt B ac h κ μ u ids adr T σ) (hT : T ≤ 511) (hl0 : l.stackTraces = false) (p f n g k : Int) (hp0 : 0 ≤ p) (hp1 : p ≤ 2) (hf0 : 0 ≤ f) (hf1 : f ≤ 3599) (hn0 : 1 ≤ n) (hn1 : n ≤ 3599) (hg0 : 0 ≤ g) (hg1 : g ≤ 3599) (hk0 : 1 ≤ k) (hk1 : k ≤ 3599) (ht : κ 0 1 = 0) (h13 : ¬ κ 13 p.toNat = 0) : jm_Cw B l (gm 107) (hhs 0 11 14 (some 18)) [.inr (.inl (some (ac))), .inl (Int32.ofInt p), .inl (Int32.ofInt f), .inl (Int32.ofInt n), .inl (Int32.ofInt g), .inl (Int32.ofInt k)] (cs (mo h (ac + 65) σ) ac (CN κ) μ) (fun v h' => PH B ac h T σ (sp_share σ p f n g k) none v h') := by
  have H := RC_mo hL.1.1 σ
  have hB := hL.2.1.1.1
  have hS := hL.2.1.1.2.1
  have b01 : 0 ≤ κ 0 1 ∧ κ 0 1 ≤ 600000 := hB 0 1
  have k7 : jm_k (cs (mo h (ac + 65) σ) ac (CN κ) μ) ac = some (.inl 7) := ck0 H
  have k96 : jm_k h (ac + 96) = some (.inr (2, 1)) := hL.1.2.2.2.1
  have kmo : ∀ h1 a, jm_k (mo h1 (ac + 65) σ) a = jm_k h1 a := fun _ _ => rfl
  have e13 : κ 13 p.toNat = σ 13 p.toNat := hL.2.2.1 13 _ (by omega) (by omega)
  have e01 : κ 0 1 = σ 0 1 := hL.2.2.1 0 1 (by omega) (by omega)
  have hp3 : p.toNat < 3 := by omega
  have kb := kp_b p.toNat
  have hsp : sp_share σ p f n g k = jm_u2 σ 0 0 2 := by unfold sp_share; rw [if_pos ⟨⟨hp0, hp1⟩, ⟨⟨hf0, hf1⟩, hn0, hn1⟩, ⟨hg0, hg1⟩, hk0, hk1⟩, if_pos (by omega)]
  have z15 := ((hS.1 p.toNat).resolve_left h13).1
  show jm_Cw B l M_Law_share _ _ _ _
  refine jm_CW (code := t_Law_share) (pcC := 8) (jC := 6) (mi := 50) (na := 6) (rc := 0) (mc := 1) (ms := 6) (jh := (fun k => if k = 1 then some 8 else some 11)) rfl rfl (by decide) w_Law_share rfl (Nat.le_of_ble_eq_true rfl) [some (.inr (.inl (some (ac)))), some (.inl (Int32.ofInt p)), some (.inl (Int32.ofInt f)), some (.inl (Int32.ofInt n)), some (.inl (Int32.ofInt g)), some (.inl (Int32.ofInt k)), none] rfl rfl rfl (by decide) (fun j hj => by cases Option.some.inj (show some 8 = some j from hj); exact ⟨_, _, rfl, rfl, rfl⟩) (fun j hj => by cases Option.some.inj (show some 11 = some j from hj); exact ⟨_, _, _, rfl, rfl, rfl, rfl⟩) ⟨20, ?_⟩
  simp (disch := omega) only [x_Law_share_0, x_Law_share_1, x_Law_share_2, x_Law_share_3, x_Law_share_4, x_Law_share_5, z_Law_share_6, x_Law_share_6, x_Law_share_7, x_Law_share_8, x_Law_share_9, x_Law_share_10, x_Law_share_11, x_Law_share_12, x_Law_share_13, x_Law_share_14, x_Law_share_15, jm_ia, jm_na, jm_qa, jm_aa, jm_asg, jm_l4, jm_Kr, jm_okv, jm_rc, jm_bo, true_and, and_true, Nat.add_zero, Nat.le_refl, j_lt, j_le, j_eq, j_lt0, j_0lt, j_le0, j_0le, j_eq0, j_add, j_sub, j_mul, j_neg, j_0sub, j_nat, j_in, j_div, j_rem, Sum.inl.injEq, exists_eq', true_or, or_true, if_true, if_false, not_true_eq_false, not_false_eq_true, implies_true, j_eq1, reduceIte, Nat.reduceEqDiff, Int.reduceEq, Int.reduceToNat, Nat.reduceAdd, Int.reduceAdd, Int.reduceSub, Int.reduceMul, Int.reduceNeg, and_false, false_and, and_self, u2r, j_b0, j_b1, Classical.not_not, eq_self, true_implies, false_implies, not_true_eq_false, not_false_eq_true, Int.reduceLT, Int.reduceLE]
  refine Or.inr ⟨ac, [.inl (Int32.ofInt p), .inl (Int32.ofInt f), .inl (Int32.ofInt n), .inl (Int32.ofInt g), .inl (Int32.ofInt k)], [], 2, 11, by decide, rfl, rfl, rfl, k7, trivial, by decide, by decide, x_share2b B l (mo h (ac + 65) σ) ac κ μ H hB p f n g k hp0 hp1 hf0 hf1 hn0 hn1 hg0 hg1 hk0 hk1 ht (by omega) hl0, fun q n hn => ⟨20, ?_⟩⟩
  simp (disch := omega) only [x_Law_share_0, x_Law_share_1, x_Law_share_2, x_Law_share_3, x_Law_share_4, x_Law_share_5, z_Law_share_6, x_Law_share_6, x_Law_share_7, x_Law_share_8, x_Law_share_9, x_Law_share_10, x_Law_share_11, x_Law_share_12, x_Law_share_13, x_Law_share_14, x_Law_share_15, jm_ia, jm_na, jm_qa, jm_aa, jm_asg, jm_l4, jm_Kr, jm_okv, jm_rc, jm_bo, true_and, and_true, Nat.add_zero, Nat.le_refl, j_lt, j_le, j_eq, j_lt0, j_0lt, j_le0, j_0le, j_eq0, j_add, j_sub, j_mul, j_neg, j_0sub, j_nat, j_in, j_div, j_rem, Sum.inl.injEq, exists_eq', true_or, or_true, if_true, if_false, not_true_eq_false, not_false_eq_true, implies_true, j_eq1, reduceIte, Nat.reduceEqDiff, Int.reduceEq, Int.reduceToNat, Nat.reduceAdd, Int.reduceAdd, Int.reduceSub, Int.reduceMul, Int.reduceNeg, and_false, false_and, and_self, u2r, j_b0, j_b1, Classical.not_not, eq_self, true_implies, false_implies, not_true_eq_false, not_false_eq_true, Int.reduceLT, Int.reduceLE]
  repeat' first
    | apply And.intro
    | (intro _)
  all_goals first
    | contradiction
    | exact trivial
    | rfl
    | omega
    | exact (bi1 (by omega)).symm
    | exact (bi0 (by omega)).symm
    | exact (bi1 (by assumption)).symm
    | exact (bi0 (by assumption)).symm
    | exact PH_x hL (by decide) hsp hn
    | exact ⟨_, rfl⟩
    | ((try unfold IN_); (repeat (first | rw [if_pos (by omega)] | rw [if_neg (by omega)])); done)
    | ((try unfold IN_); (repeat (first | rw [if_pos (by omega)] | rw [if_neg (by omega)])); rfl)
    | ((try unfold IN_); (repeat (first | rw [if_pos (by omega)] | rw [if_neg (by omega)] | rw [if_pos (by assumption)] | rw [if_neg (by assumption)])); rfl)
set_option maxRecDepth 100000 in
set_option maxHeartbeats 4000000 in
theorem H_tick0 (B : jm_B) (l : Launch) (h : jm_H) (ac : Nat) (κ : S_) (μ : M_) (u : Nat → Nat) (ids adr : Nat → Nat → Nat) (T : Int) (σ : S_) (hL : LSt B ac h κ μ u ids adr T σ) (hT : T ≤ 511) (hl0 : l.stackTraces = false) (n : Int) (hn0 : 1 ≤ n) (hn1 : n ≤ 1000) : jm_Cw B l (gm 111) (hhs 0 9 12 none) [.inr (.inl (some (ac))), .inl (Int32.ofInt n), .inr (.inl (some (ac + 96)))] (cs (mo h (ac + 65) σ) ac (CN κ) μ) (fun v h' => PH B ac h T σ (sp_tick σ n) (some (if 1 ≤ n ∧ n ≤ 1000 then σ 0 1 + n else 0)) v h') := by
  have H := RC_mo hL.1.1 σ
  have hB := hL.2.1.1.1
  have hS := hL.2.1.1.2.1
  have b01 : 0 ≤ κ 0 1 ∧ κ 0 1 ≤ 600000 := hB 0 1
  have k7 : jm_k (cs (mo h (ac + 65) σ) ac (CN κ) μ) ac = some (.inl 7) := ck0 H
  have k96 : jm_k h (ac + 96) = some (.inr (2, 1)) := hL.1.2.2.2.1
  have kmo : ∀ h1 a, jm_k (mo h1 (ac + 65) σ) a = jm_k h1 a := fun _ _ => rfl
  have e01 : κ 0 1 = σ 0 1 := hL.2.2.1 0 1 (by omega) (by omega)
  have a8 := hL.2.2.2.1
  have a9 := hL.2.2.2.2
  have hsp : sp_tick σ n = tickN (jm_u2 σ 0 0 0) n.toNat := by unfold sp_tick; rw [if_pos ⟨hn0, hn1⟩]
  have hw : (if 1 ≤ n ∧ n ≤ 1000 then σ 0 1 + n else 0) = κ 0 1 + n := by rw [if_pos ⟨hn0, hn1⟩, e01]
  have hfn : ∀ κ2 ν2 u2, EQm κ2 (tickN κ n.toNat) → IV (mo h (ac + 65) σ) ac (9000 * T + 9 * n) κ2 ν2 u2 ids adr → PH B ac h T σ (sp_tick σ n) (some (if 1 ≤ n ∧ n ≤ 1000 then σ 0 1 + n else 0)) (.inl (Int32.ofInt 0)) (jm_sl (cs (mo h (ac + 65) σ) ac (CN κ2) ν2) (ac + 96) 0 (Int32.ofInt (κ 0 1 + n)).toInt64) := fun κ2 ν2 u2 hE2 hV2 => by
    rw [hsp, hw]
    exact PH_1 (LSt_tick hL hn0 hn1 hE2 ((IV_mo σ).mp hV2)) (by rw [tickN_00, u2p ⟨rfl, rfl⟩]) _
  show jm_Cw B l M_Law_tick _ _ _ _
  refine jm_CW (code := t_Law_tick) (pcC := 4) (jC := 4) (mi := 54) (na := 2) (rc := 1) (mc := 1) (ms := 6) (jh := (fun k => if k = 1 then some 8 else none)) rfl rfl (by decide) w_Law_tick rfl (Nat.le_of_ble_eq_true rfl) [some (.inr (.inl (some (ac)))), some (.inl (Int32.ofInt n)), some (.inr (.inl (some (ac + 96)))), none] rfl rfl rfl (by decide) (fun j hj => by cases Option.some.inj (show some 8 = some j from hj); exact ⟨_, _, rfl, rfl, rfl⟩) (fun j hj => by exact absurd (show none = some j from hj) (by intro q; cases q)) ⟨17, ?_⟩
  simp (disch := omega) only [x_Law_tick_0, x_Law_tick_1, x_Law_tick_2, x_Law_tick_3, z_Law_tick_4, x_Law_tick_4, x_Law_tick_5, x_Law_tick_6, x_Law_tick_7, x_Law_tick_8, x_Law_tick_9, x_Law_tick_10, x_Law_tick_11, x_Law_tick_12, jm_ia, jm_na, jm_qa, jm_aa, jm_asg, jm_l4, jm_Kr, jm_okv, jm_rc, jm_bo, true_and, and_true, Nat.add_zero, Nat.le_refl, j_lt, j_le, j_eq, j_lt0, j_0lt, j_le0, j_0le, j_eq0, j_add, j_sub, j_mul, j_neg, j_0sub, j_nat, j_in, j_div, j_rem, Sum.inl.injEq, exists_eq', true_or, or_true, if_true, if_false, not_true_eq_false, not_false_eq_true, implies_true, j_eq1, reduceIte, Nat.reduceEqDiff, Int.reduceEq, Int.reduceToNat, Nat.reduceAdd, Int.reduceAdd, Int.reduceSub, Int.reduceMul, Int.reduceNeg, and_false, false_and, and_self, u2r, j_b0, j_b1, Classical.not_not, eq_self, true_implies, false_implies, not_true_eq_false, not_false_eq_true, Int.reduceLT, Int.reduceLE, k7, ck, kmo, k96]
  refine Or.inl ⟨17, ?_⟩
  simp (disch := omega) only [x_Law_tick_0, x_Law_tick_1, x_Law_tick_2, x_Law_tick_3, z_Law_tick_4, x_Law_tick_4, x_Law_tick_5, x_Law_tick_6, x_Law_tick_7, x_Law_tick_8, x_Law_tick_9, x_Law_tick_10, x_Law_tick_11, x_Law_tick_12, jm_ia, jm_na, jm_qa, jm_aa, jm_asg, jm_l4, jm_Kr, jm_okv, jm_rc, jm_bo, true_and, and_true, Nat.add_zero, Nat.le_refl, j_lt, j_le, j_eq, j_lt0, j_0lt, j_le0, j_0le, j_eq0, j_add, j_sub, j_mul, j_neg, j_0sub, j_nat, j_in, j_div, j_rem, Sum.inl.injEq, exists_eq', true_or, or_true, if_true, if_false, not_true_eq_false, not_false_eq_true, implies_true, j_eq1, reduceIte, Nat.reduceEqDiff, Int.reduceEq, Int.reduceToNat, Nat.reduceAdd, Int.reduceAdd, Int.reduceSub, Int.reduceMul, Int.reduceNeg, and_false, false_and, and_self, u2r, j_b0, j_b1, Classical.not_not, eq_self, true_implies, false_implies, not_true_eq_false, not_false_eq_true, Int.reduceLT, Int.reduceLE, k7, ck, kmo, k96]
  repeat' first
    | apply And.intro
    | (intro _)
    | (refine ⟨_, p_tick B l (mo h (ac + 65) σ) ac κ μ H (m := 9000 * T) u ids adr ((IV_mo σ).mpr hL.2.1) n hn0 hn1 (by omega) (by omega), ?_⟩; rintro y h' ⟨⟨κ2, ν2, u2, rfl, hE2, hV2⟩, hy⟩; cases hy; have hfin := hfn κ2 ν2 u2 hE2 hV2; try simp (disch := omega) only [x_Law_tick_0, x_Law_tick_1, x_Law_tick_2, x_Law_tick_3, z_Law_tick_4, x_Law_tick_4, x_Law_tick_5, x_Law_tick_6, x_Law_tick_7, x_Law_tick_8, x_Law_tick_9, x_Law_tick_10, x_Law_tick_11, x_Law_tick_12, jm_ia, jm_na, jm_qa, jm_aa, jm_asg, jm_l4, jm_Kr, jm_okv, jm_rc, jm_bo, true_and, and_true, Nat.add_zero, Nat.le_refl, j_lt, j_le, j_eq, j_lt0, j_0lt, j_le0, j_0le, j_eq0, j_add, j_sub, j_mul, j_neg, j_0sub, j_nat, j_in, j_div, j_rem, Sum.inl.injEq, exists_eq', true_or, or_true, if_true, if_false, not_true_eq_false, not_false_eq_true, implies_true, j_eq1, reduceIte, Nat.reduceEqDiff, Int.reduceEq, Int.reduceToNat, Nat.reduceAdd, Int.reduceAdd, Int.reduceSub, Int.reduceMul, Int.reduceNeg, and_false, false_and, and_self, u2r, j_b0, j_b1, Classical.not_not, eq_self, true_implies, false_implies, not_true_eq_false, not_false_eq_true, Int.reduceLT, Int.reduceLE, k7, ck, kmo, k96])
  all_goals first
    | contradiction
    | exact trivial
    | rfl
    | omega
    | exact (bi1 (by omega)).symm
    | exact (bi0 (by omega)).symm
    | exact (bi1 (by assumption)).symm
    | exact (bi0 (by assumption)).symm
    | exact hfin
    | exact ⟨_, rfl⟩
    | ((try unfold IN_); (repeat (first | rw [if_pos (by omega)] | rw [if_neg (by omega)])); done)
    | ((try unfold IN_); (repeat (first | rw [if_pos (by omega)] | rw [if_neg (by omega)])); rfl)
    | ((try unfold IN_); (repeat (first | rw [if_pos (by omega)] | rw [if_neg (by omega)] | rw [if_pos (by assumption)] | rw [if_neg (by assumption)])); rfl)
set_option maxRecDepth 100000 in
set_option maxHeartbeats 4000000 in
theorem H_tick1 (B : jm_B) (l : Launch) (h : jm_H) (ac : Nat) (κ : S_) (μ : M_) (u : Nat → Nat) (ids adr : Nat → Nat → Nat) (T : Int) (σ : S_) (hL : LSt B ac h κ μ u ids adr T σ) (hT : T ≤ 511) (hl0 : l.stackTraces = false) (n : Int) (na : -2147483648 ≤ n) (nb : n < 2147483648) (hx : ¬ (1 ≤ n ∧ n ≤ 1000)) : jm_Cw B l (gm 111) (hhs 0 9 12 none) [.inr (.inl (some (ac))), .inl (Int32.ofInt n), .inr (.inl (some (ac + 96)))] (cs (mo h (ac + 65) σ) ac (CN κ) μ) (fun v h' => PH B ac h T σ (sp_tick σ n) (some (if 1 ≤ n ∧ n ≤ 1000 then σ 0 1 + n else 0)) v h') := by
  have H := RC_mo hL.1.1 σ
  have hB := hL.2.1.1.1
  have hS := hL.2.1.1.2.1
  have b01 : 0 ≤ κ 0 1 ∧ κ 0 1 ≤ 600000 := hB 0 1
  have k7 : jm_k (cs (mo h (ac + 65) σ) ac (CN κ) μ) ac = some (.inl 7) := ck0 H
  have k96 : jm_k h (ac + 96) = some (.inr (2, 1)) := hL.1.2.2.2.1
  have kmo : ∀ h1 a, jm_k (mo h1 (ac + 65) σ) a = jm_k h1 a := fun _ _ => rfl
  have hsp : sp_tick σ n = jm_u2 σ 0 0 1 := by unfold sp_tick; rw [if_neg hx]
  show jm_Cw B l M_Law_tick _ _ _ _
  refine jm_CW (code := t_Law_tick) (pcC := 4) (jC := 4) (mi := 54) (na := 2) (rc := 1) (mc := 1) (ms := 6) (jh := (fun k => if k = 1 then some 8 else none)) rfl rfl (by decide) w_Law_tick rfl (Nat.le_of_ble_eq_true rfl) [some (.inr (.inl (some (ac)))), some (.inl (Int32.ofInt n)), some (.inr (.inl (some (ac + 96)))), none] rfl rfl rfl (by decide) (fun j hj => by cases Option.some.inj (show some 8 = some j from hj); exact ⟨_, _, rfl, rfl, rfl⟩) (fun j hj => by exact absurd (show none = some j from hj) (by intro q; cases q)) ⟨17, ?_⟩
  simp (disch := omega) only [x_Law_tick_0, x_Law_tick_1, x_Law_tick_2, x_Law_tick_3, z_Law_tick_4, x_Law_tick_4, x_Law_tick_5, x_Law_tick_6, x_Law_tick_7, x_Law_tick_8, x_Law_tick_9, x_Law_tick_10, x_Law_tick_11, x_Law_tick_12, jm_ia, jm_na, jm_qa, jm_aa, jm_asg, jm_l4, jm_Kr, jm_okv, jm_rc, jm_bo, true_and, and_true, Nat.add_zero, Nat.le_refl, j_lt, j_le, j_eq, j_lt0, j_0lt, j_le0, j_0le, j_eq0, j_add, j_sub, j_mul, j_neg, j_0sub, j_nat, j_in, j_div, j_rem, Sum.inl.injEq, exists_eq', true_or, or_true, if_true, if_false, not_true_eq_false, not_false_eq_true, implies_true, j_eq1, reduceIte, Nat.reduceEqDiff, Int.reduceEq, Int.reduceToNat, Nat.reduceAdd, Int.reduceAdd, Int.reduceSub, Int.reduceMul, Int.reduceNeg, and_false, false_and, and_self, u2r, j_b0, j_b1, Classical.not_not, eq_self, true_implies, false_implies, not_true_eq_false, not_false_eq_true, Int.reduceLT, Int.reduceLE]
  refine Or.inr ⟨ac, [.inl (Int32.ofInt n)], [.inl (Int32.ofInt 0), .inr (.inl (some (ac + 96)))], 1, 8, by decide, rfl, rfl, rfl, k7, trivial, by decide, by decide, x_tick1 B l (mo h (ac + 65) σ) ac κ μ H hB n na nb hx hl0, fun q n hn => ⟨17, ?_⟩⟩
  simp (disch := omega) only [x_Law_tick_0, x_Law_tick_1, x_Law_tick_2, x_Law_tick_3, z_Law_tick_4, x_Law_tick_4, x_Law_tick_5, x_Law_tick_6, x_Law_tick_7, x_Law_tick_8, x_Law_tick_9, x_Law_tick_10, x_Law_tick_11, x_Law_tick_12, jm_ia, jm_na, jm_qa, jm_aa, jm_asg, jm_l4, jm_Kr, jm_okv, jm_rc, jm_bo, true_and, and_true, Nat.add_zero, Nat.le_refl, j_lt, j_le, j_eq, j_lt0, j_0lt, j_le0, j_0le, j_eq0, j_add, j_sub, j_mul, j_neg, j_0sub, j_nat, j_in, j_div, j_rem, Sum.inl.injEq, exists_eq', true_or, or_true, if_true, if_false, not_true_eq_false, not_false_eq_true, implies_true, j_eq1, reduceIte, Nat.reduceEqDiff, Int.reduceEq, Int.reduceToNat, Nat.reduceAdd, Int.reduceAdd, Int.reduceSub, Int.reduceMul, Int.reduceNeg, and_false, false_and, and_self, u2r, j_b0, j_b1, Classical.not_not, eq_self, true_implies, false_implies, not_true_eq_false, not_false_eq_true, Int.reduceLT, Int.reduceLE]
  repeat' first
    | apply And.intro
    | (intro _)
  all_goals first
    | contradiction
    | exact trivial
    | rfl
    | omega
    | exact (bi1 (by omega)).symm
    | exact (bi0 (by omega)).symm
    | exact (bi1 (by assumption)).symm
    | exact (bi0 (by assumption)).symm
    | exact PH_x hL (by decide) hsp hn
    | exact ⟨_, rfl⟩
    | ((try unfold IN_); (repeat (first | rw [if_pos (by omega)] | rw [if_neg (by omega)])); done)
    | ((try unfold IN_); (repeat (first | rw [if_pos (by omega)] | rw [if_neg (by omega)])); rfl)
    | ((try unfold IN_); (repeat (first | rw [if_pos (by omega)] | rw [if_neg (by omega)] | rw [if_pos (by assumption)] | rw [if_neg (by assumption)])); rfl)
set_option maxRecDepth 100000 in
set_option maxHeartbeats 4000000 in
theorem H_look00 (B : jm_B) (l : Launch) (h : jm_H) (ac : Nat) (κ : S_) (μ : M_) (u : Nat → Nat) (ids adr : Nat → Nat → Nat) (T : Int) (σ : S_) (hL : LSt B ac h κ μ u ids adr T σ) (hT : T ≤ 511) (hl0 : l.stackTraces = false) (c : Int) (hc0 : 0 ≤ c) (hc1 : c ≤ 2) : jm_Cw B l (gm 112) (hhs 0 10 13 none) [.inr (.inl (some (ac))), .inl (Int32.ofInt c), .inl (Int32.ofInt 0), .inr (.inl (some (ac + 96)))] (cs (mo h (ac + 65) σ) ac (CN κ) μ) (fun v h' => PH B ac h T σ (jm_u2 σ 0 0 (if (0 ≤ c ∧ c ≤ 2) ∧ ((0 : Int) ≤ 0 ∧ (0 : Int) ≤ 7) then 0 else 1)) (some (if (0 ≤ c ∧ c ≤ 2) ∧ ((0 : Int) ≤ 0 ∧ (0 : Int) ≤ 7) then lookS σ c 0 else 0)) v h') := by
  have H := RC_mo hL.1.1 σ
  have hB := hL.2.1.1.1
  have hS := hL.2.1.1.2.1
  have b01 : 0 ≤ κ 0 1 ∧ κ 0 1 ≤ 600000 := hB 0 1
  have k7 : jm_k (cs (mo h (ac + 65) σ) ac (CN κ) μ) ac = some (.inl 7) := ck0 H
  have k96 : jm_k h (ac + 96) = some (.inr (2, 1)) := hL.1.2.2.2.1
  have kmo : ∀ h1 a, jm_k (mo h1 (ac + 65) σ) a = jm_k h1 a := fun _ _ => rfl
  have hw : (if (0 ≤ c ∧ c ≤ 2) ∧ ((0 : Int) ≤ 0 ∧ (0 : Int) ≤ 7) then lookS σ c 0 else 0) = κ 1 c.toNat := by rw [if_pos ⟨⟨hc0, hc1⟩, by omega⟩]; exact (look_EQ hL.2.2.1 c 0).symm.trans (lk0 κ c).1
  have hs0 : jm_u2 σ 0 0 (if (0 ≤ c ∧ c ≤ 2) ∧ ((0 : Int) ≤ 0 ∧ (0 : Int) ≤ 7) then 0 else 1) = jm_u2 σ 0 0 0 := by rw [if_pos ⟨⟨hc0, hc1⟩, by omega⟩]
  have hf0 : PH B ac h T σ (jm_u2 σ 0 0 (if (0 ≤ c ∧ c ≤ 2) ∧ ((0 : Int) ≤ 0 ∧ (0 : Int) ≤ 7) then 0 else 1)) (some (if (0 ≤ c ∧ c ≤ 2) ∧ ((0 : Int) ≤ 0 ∧ (0 : Int) ≤ 7) then lookS σ c 0 else 0)) (.inl (Int32.ofInt 0)) (jm_sl (cs (mo h (ac + 65) σ) ac (CN κ) μ) (ac + 96) 0 (Int32.ofInt (κ 1 c.toNat)).toInt64) := by
    rw [hs0, hw]
    exact PH_1 (LSt_k hL 0) (u2p ⟨rfl, rfl⟩) _
  clear hw hs0
  generalize (if (0 ≤ c ∧ c ≤ 2) ∧ ((0 : Int) ≤ 0 ∧ (0 : Int) ≤ 7) then lookS σ c 0 else 0) = w9 at hf0 ⊢
  generalize jm_u2 σ 0 0 (if (0 ≤ c ∧ c ≤ 2) ∧ ((0 : Int) ≤ 0 ∧ (0 : Int) ≤ 7) then 0 else 1) = σ9 at hf0 ⊢
  have hfin := hf0
  show jm_Cw B l M_Law_look _ _ _ _
  refine jm_CW (code := t_Law_look) (pcC := 5) (jC := 5) (mi := 55) (na := 3) (rc := 1) (mc := 1) (ms := 6) (jh := (fun k => if k = 1 then some 9 else none)) rfl rfl (by decide) w_Law_look rfl (Nat.le_of_ble_eq_true rfl) [some (.inr (.inl (some (ac)))), some (.inl (Int32.ofInt c)), some (.inl (Int32.ofInt 0)), some (.inr (.inl (some (ac + 96)))), none] rfl rfl rfl (by decide) (fun j hj => by cases Option.some.inj (show some 9 = some j from hj); exact ⟨_, _, rfl, rfl, rfl⟩) (fun j hj => by exact absurd (show none = some j from hj) (by intro q; cases q)) ⟨18, ?_⟩
  simp (disch := omega) only [x_Law_look_0, x_Law_look_1, x_Law_look_2, x_Law_look_3, x_Law_look_4, z_Law_look_5, x_Law_look_5, x_Law_look_6, x_Law_look_7, x_Law_look_8, x_Law_look_9, x_Law_look_10, x_Law_look_11, x_Law_look_12, x_Law_look_13, jm_ia, jm_na, jm_qa, jm_aa, jm_asg, jm_l4, jm_Kr, jm_okv, jm_rc, jm_bo, true_and, and_true, Nat.add_zero, Nat.le_refl, j_lt, j_le, j_eq, j_lt0, j_0lt, j_le0, j_0le, j_eq0, j_add, j_sub, j_mul, j_neg, j_0sub, j_nat, j_in, j_div, j_rem, Sum.inl.injEq, exists_eq', true_or, or_true, if_true, if_false, not_true_eq_false, not_false_eq_true, implies_true, j_eq1, reduceIte, Nat.reduceEqDiff, Int.reduceEq, Int.reduceToNat, Nat.reduceAdd, Int.reduceAdd, Int.reduceSub, Int.reduceMul, Int.reduceNeg, and_false, false_and, and_self, u2r, j_b0, j_b1, Classical.not_not, eq_self, true_implies, false_implies, not_true_eq_false, not_false_eq_true, Int.reduceLT, Int.reduceLE, k7, ck, kmo, k96]
  refine Or.inl ⟨18, ?_⟩
  simp (disch := omega) only [x_Law_look_0, x_Law_look_1, x_Law_look_2, x_Law_look_3, x_Law_look_4, z_Law_look_5, x_Law_look_5, x_Law_look_6, x_Law_look_7, x_Law_look_8, x_Law_look_9, x_Law_look_10, x_Law_look_11, x_Law_look_12, x_Law_look_13, jm_ia, jm_na, jm_qa, jm_aa, jm_asg, jm_l4, jm_Kr, jm_okv, jm_rc, jm_bo, true_and, and_true, Nat.add_zero, Nat.le_refl, j_lt, j_le, j_eq, j_lt0, j_0lt, j_le0, j_0le, j_eq0, j_add, j_sub, j_mul, j_neg, j_0sub, j_nat, j_in, j_div, j_rem, Sum.inl.injEq, exists_eq', true_or, or_true, if_true, if_false, not_true_eq_false, not_false_eq_true, implies_true, j_eq1, reduceIte, Nat.reduceEqDiff, Int.reduceEq, Int.reduceToNat, Nat.reduceAdd, Int.reduceAdd, Int.reduceSub, Int.reduceMul, Int.reduceNeg, and_false, false_and, and_self, u2r, j_b0, j_b1, Classical.not_not, eq_self, true_implies, false_implies, not_true_eq_false, not_false_eq_true, Int.reduceLT, Int.reduceLE, k7, ck, kmo, k96]
  repeat' first
    | apply And.intro
    | (intro _)
    | (refine ⟨_, p_look0 B l (mo h (ac + 65) σ) ac κ μ H hB hS c hc0 hc1, ?_⟩; rintro y h' ⟨rfl, hy⟩; cases hy; try simp (disch := omega) only [x_Law_look_0, x_Law_look_1, x_Law_look_2, x_Law_look_3, x_Law_look_4, z_Law_look_5, x_Law_look_5, x_Law_look_6, x_Law_look_7, x_Law_look_8, x_Law_look_9, x_Law_look_10, x_Law_look_11, x_Law_look_12, x_Law_look_13, jm_ia, jm_na, jm_qa, jm_aa, jm_asg, jm_l4, jm_Kr, jm_okv, jm_rc, jm_bo, true_and, and_true, Nat.add_zero, Nat.le_refl, j_lt, j_le, j_eq, j_lt0, j_0lt, j_le0, j_0le, j_eq0, j_add, j_sub, j_mul, j_neg, j_0sub, j_nat, j_in, j_div, j_rem, Sum.inl.injEq, exists_eq', true_or, or_true, if_true, if_false, not_true_eq_false, not_false_eq_true, implies_true, j_eq1, reduceIte, Nat.reduceEqDiff, Int.reduceEq, Int.reduceToNat, Nat.reduceAdd, Int.reduceAdd, Int.reduceSub, Int.reduceMul, Int.reduceNeg, and_false, false_and, and_self, u2r, j_b0, j_b1, Classical.not_not, eq_self, true_implies, false_implies, not_true_eq_false, not_false_eq_true, Int.reduceLT, Int.reduceLE, k7, ck, kmo, k96])
  all_goals first
    | contradiction
    | exact trivial
    | rfl
    | omega
    | exact (bi1 (by omega)).symm
    | exact (bi0 (by omega)).symm
    | exact (bi1 (by assumption)).symm
    | exact (bi0 (by assumption)).symm
    | exact hfin
    | exact ⟨_, rfl⟩
    | ((try unfold IN_); (repeat (first | rw [if_pos (by omega)] | rw [if_neg (by omega)])); done)
    | ((try unfold IN_); (repeat (first | rw [if_pos (by omega)] | rw [if_neg (by omega)])); rfl)
    | ((try unfold IN_); (repeat (first | rw [if_pos (by omega)] | rw [if_neg (by omega)] | rw [if_pos (by assumption)] | rw [if_neg (by assumption)])); rfl)
set_option maxRecDepth 100000 in
set_option maxHeartbeats 4000000 in
theorem H_look01 (B : jm_B) (l : Launch) (h : jm_H) (ac : Nat) (κ : S_) (μ : M_) (u : Nat → Nat) (ids adr : Nat → Nat → Nat) (T : Int) (σ : S_) (hL : LSt B ac h κ μ u ids adr T σ) (hT : T ≤ 511) (hl0 : l.stackTraces = false) (c : Int) (hc0 : 0 ≤ c) (hc1 : c ≤ 2) : jm_Cw B l (gm 112) (hhs 0 10 13 none) [.inr (.inl (some (ac))), .inl (Int32.ofInt c), .inl (Int32.ofInt 1), .inr (.inl (some (ac + 96)))] (cs (mo h (ac + 65) σ) ac (CN κ) μ) (fun v h' => PH B ac h T σ (jm_u2 σ 0 0 (if (0 ≤ c ∧ c ≤ 2) ∧ ((0 : Int) ≤ 1 ∧ (1 : Int) ≤ 7) then 0 else 1)) (some (if (0 ≤ c ∧ c ≤ 2) ∧ ((0 : Int) ≤ 1 ∧ (1 : Int) ≤ 7) then lookS σ c 1 else 0)) v h') := by
  have H := RC_mo hL.1.1 σ
  have hB := hL.2.1.1.1
  have hS := hL.2.1.1.2.1
  have b01 : 0 ≤ κ 0 1 ∧ κ 0 1 ≤ 600000 := hB 0 1
  have k7 : jm_k (cs (mo h (ac + 65) σ) ac (CN κ) μ) ac = some (.inl 7) := ck0 H
  have k96 : jm_k h (ac + 96) = some (.inr (2, 1)) := hL.1.2.2.2.1
  have kmo : ∀ h1 a, jm_k (mo h1 (ac + 65) σ) a = jm_k h1 a := fun _ _ => rfl
  have hw : (if (0 ≤ c ∧ c ≤ 2) ∧ ((0 : Int) ≤ 1 ∧ (1 : Int) ≤ 7) then lookS σ c 1 else 0) = κ 2 c.toNat := by rw [if_pos ⟨⟨hc0, hc1⟩, by omega⟩]; exact (look_EQ hL.2.2.1 c 1).symm.trans (lk0 κ c).2.1
  have hs0 : jm_u2 σ 0 0 (if (0 ≤ c ∧ c ≤ 2) ∧ ((0 : Int) ≤ 1 ∧ (1 : Int) ≤ 7) then 0 else 1) = jm_u2 σ 0 0 0 := by rw [if_pos ⟨⟨hc0, hc1⟩, by omega⟩]
  have hf0 : PH B ac h T σ (jm_u2 σ 0 0 (if (0 ≤ c ∧ c ≤ 2) ∧ ((0 : Int) ≤ 1 ∧ (1 : Int) ≤ 7) then 0 else 1)) (some (if (0 ≤ c ∧ c ≤ 2) ∧ ((0 : Int) ≤ 1 ∧ (1 : Int) ≤ 7) then lookS σ c 1 else 0)) (.inl (Int32.ofInt 0)) (jm_sl (cs (mo h (ac + 65) σ) ac (CN κ) μ) (ac + 96) 0 (Int32.ofInt (κ 2 c.toNat)).toInt64) := by
    rw [hs0, hw]
    exact PH_1 (LSt_k hL 0) (u2p ⟨rfl, rfl⟩) _
  clear hw hs0
  generalize (if (0 ≤ c ∧ c ≤ 2) ∧ ((0 : Int) ≤ 1 ∧ (1 : Int) ≤ 7) then lookS σ c 1 else 0) = w9 at hf0 ⊢
  generalize jm_u2 σ 0 0 (if (0 ≤ c ∧ c ≤ 2) ∧ ((0 : Int) ≤ 1 ∧ (1 : Int) ≤ 7) then 0 else 1) = σ9 at hf0 ⊢
  have hfin := hf0
  show jm_Cw B l M_Law_look _ _ _ _
  refine jm_CW (code := t_Law_look) (pcC := 5) (jC := 5) (mi := 55) (na := 3) (rc := 1) (mc := 1) (ms := 6) (jh := (fun k => if k = 1 then some 9 else none)) rfl rfl (by decide) w_Law_look rfl (Nat.le_of_ble_eq_true rfl) [some (.inr (.inl (some (ac)))), some (.inl (Int32.ofInt c)), some (.inl (Int32.ofInt 1)), some (.inr (.inl (some (ac + 96)))), none] rfl rfl rfl (by decide) (fun j hj => by cases Option.some.inj (show some 9 = some j from hj); exact ⟨_, _, rfl, rfl, rfl⟩) (fun j hj => by exact absurd (show none = some j from hj) (by intro q; cases q)) ⟨18, ?_⟩
  simp (disch := omega) only [x_Law_look_0, x_Law_look_1, x_Law_look_2, x_Law_look_3, x_Law_look_4, z_Law_look_5, x_Law_look_5, x_Law_look_6, x_Law_look_7, x_Law_look_8, x_Law_look_9, x_Law_look_10, x_Law_look_11, x_Law_look_12, x_Law_look_13, jm_ia, jm_na, jm_qa, jm_aa, jm_asg, jm_l4, jm_Kr, jm_okv, jm_rc, jm_bo, true_and, and_true, Nat.add_zero, Nat.le_refl, j_lt, j_le, j_eq, j_lt0, j_0lt, j_le0, j_0le, j_eq0, j_add, j_sub, j_mul, j_neg, j_0sub, j_nat, j_in, j_div, j_rem, Sum.inl.injEq, exists_eq', true_or, or_true, if_true, if_false, not_true_eq_false, not_false_eq_true, implies_true, j_eq1, reduceIte, Nat.reduceEqDiff, Int.reduceEq, Int.reduceToNat, Nat.reduceAdd, Int.reduceAdd, Int.reduceSub, Int.reduceMul, Int.reduceNeg, and_false, false_and, and_self, u2r, j_b0, j_b1, Classical.not_not, eq_self, true_implies, false_implies, not_true_eq_false, not_false_eq_true, Int.reduceLT, Int.reduceLE, k7, ck, kmo, k96]
  refine Or.inl ⟨18, ?_⟩
  simp (disch := omega) only [x_Law_look_0, x_Law_look_1, x_Law_look_2, x_Law_look_3, x_Law_look_4, z_Law_look_5, x_Law_look_5, x_Law_look_6, x_Law_look_7, x_Law_look_8, x_Law_look_9, x_Law_look_10, x_Law_look_11, x_Law_look_12, x_Law_look_13, jm_ia, jm_na, jm_qa, jm_aa, jm_asg, jm_l4, jm_Kr, jm_okv, jm_rc, jm_bo, true_and, and_true, Nat.add_zero, Nat.le_refl, j_lt, j_le, j_eq, j_lt0, j_0lt, j_le0, j_0le, j_eq0, j_add, j_sub, j_mul, j_neg, j_0sub, j_nat, j_in, j_div, j_rem, Sum.inl.injEq, exists_eq', true_or, or_true, if_true, if_false, not_true_eq_false, not_false_eq_true, implies_true, j_eq1, reduceIte, Nat.reduceEqDiff, Int.reduceEq, Int.reduceToNat, Nat.reduceAdd, Int.reduceAdd, Int.reduceSub, Int.reduceMul, Int.reduceNeg, and_false, false_and, and_self, u2r, j_b0, j_b1, Classical.not_not, eq_self, true_implies, false_implies, not_true_eq_false, not_false_eq_true, Int.reduceLT, Int.reduceLE, k7, ck, kmo, k96]
  repeat' first
    | apply And.intro
    | (intro _)
    | (refine ⟨_, p_look1 B l (mo h (ac + 65) σ) ac κ μ H hB hS c hc0 hc1, ?_⟩; rintro y h' ⟨rfl, hy⟩; cases hy; try simp (disch := omega) only [x_Law_look_0, x_Law_look_1, x_Law_look_2, x_Law_look_3, x_Law_look_4, z_Law_look_5, x_Law_look_5, x_Law_look_6, x_Law_look_7, x_Law_look_8, x_Law_look_9, x_Law_look_10, x_Law_look_11, x_Law_look_12, x_Law_look_13, jm_ia, jm_na, jm_qa, jm_aa, jm_asg, jm_l4, jm_Kr, jm_okv, jm_rc, jm_bo, true_and, and_true, Nat.add_zero, Nat.le_refl, j_lt, j_le, j_eq, j_lt0, j_0lt, j_le0, j_0le, j_eq0, j_add, j_sub, j_mul, j_neg, j_0sub, j_nat, j_in, j_div, j_rem, Sum.inl.injEq, exists_eq', true_or, or_true, if_true, if_false, not_true_eq_false, not_false_eq_true, implies_true, j_eq1, reduceIte, Nat.reduceEqDiff, Int.reduceEq, Int.reduceToNat, Nat.reduceAdd, Int.reduceAdd, Int.reduceSub, Int.reduceMul, Int.reduceNeg, and_false, false_and, and_self, u2r, j_b0, j_b1, Classical.not_not, eq_self, true_implies, false_implies, not_true_eq_false, not_false_eq_true, Int.reduceLT, Int.reduceLE, k7, ck, kmo, k96])
  all_goals first
    | contradiction
    | exact trivial
    | rfl
    | omega
    | exact (bi1 (by omega)).symm
    | exact (bi0 (by omega)).symm
    | exact (bi1 (by assumption)).symm
    | exact (bi0 (by assumption)).symm
    | exact hfin
    | exact ⟨_, rfl⟩
    | ((try unfold IN_); (repeat (first | rw [if_pos (by omega)] | rw [if_neg (by omega)])); done)
    | ((try unfold IN_); (repeat (first | rw [if_pos (by omega)] | rw [if_neg (by omega)])); rfl)
    | ((try unfold IN_); (repeat (first | rw [if_pos (by omega)] | rw [if_neg (by omega)] | rw [if_pos (by assumption)] | rw [if_neg (by assumption)])); rfl)
set_option maxRecDepth 100000 in
set_option maxHeartbeats 4000000 in
theorem H_look02 (B : jm_B) (l : Launch) (h : jm_H) (ac : Nat) (κ : S_) (μ : M_) (u : Nat → Nat) (ids adr : Nat → Nat → Nat) (T : Int) (σ : S_) (hL : LSt B ac h κ μ u ids adr T σ) (hT : T ≤ 511) (hl0 : l.stackTraces = false) (c : Int) (hc0 : 0 ≤ c) (hc1 : c ≤ 2) : jm_Cw B l (gm 112) (hhs 0 10 13 none) [.inr (.inl (some (ac))), .inl (Int32.ofInt c), .inl (Int32.ofInt 2), .inr (.inl (some (ac + 96)))] (cs (mo h (ac + 65) σ) ac (CN κ) μ) (fun v h' => PH B ac h T σ (jm_u2 σ 0 0 (if (0 ≤ c ∧ c ≤ 2) ∧ ((0 : Int) ≤ 2 ∧ (2 : Int) ≤ 7) then 0 else 1)) (some (if (0 ≤ c ∧ c ≤ 2) ∧ ((0 : Int) ≤ 2 ∧ (2 : Int) ≤ 7) then lookS σ c 2 else 0)) v h') := by
  have H := RC_mo hL.1.1 σ
  have hB := hL.2.1.1.1
  have hS := hL.2.1.1.2.1
  have b01 : 0 ≤ κ 0 1 ∧ κ 0 1 ≤ 600000 := hB 0 1
  have k7 : jm_k (cs (mo h (ac + 65) σ) ac (CN κ) μ) ac = some (.inl 7) := ck0 H
  have k96 : jm_k h (ac + 96) = some (.inr (2, 1)) := hL.1.2.2.2.1
  have kmo : ∀ h1 a, jm_k (mo h1 (ac + 65) σ) a = jm_k h1 a := fun _ _ => rfl
  have hw : (if (0 ≤ c ∧ c ≤ 2) ∧ ((0 : Int) ≤ 2 ∧ (2 : Int) ≤ 7) then lookS σ c 2 else 0) = κ 3 c.toNat := by rw [if_pos ⟨⟨hc0, hc1⟩, by omega⟩]; exact (look_EQ hL.2.2.1 c 2).symm.trans (lk0 κ c).2.2.1
  have hs0 : jm_u2 σ 0 0 (if (0 ≤ c ∧ c ≤ 2) ∧ ((0 : Int) ≤ 2 ∧ (2 : Int) ≤ 7) then 0 else 1) = jm_u2 σ 0 0 0 := by rw [if_pos ⟨⟨hc0, hc1⟩, by omega⟩]
  have hf0 : PH B ac h T σ (jm_u2 σ 0 0 (if (0 ≤ c ∧ c ≤ 2) ∧ ((0 : Int) ≤ 2 ∧ (2 : Int) ≤ 7) then 0 else 1)) (some (if (0 ≤ c ∧ c ≤ 2) ∧ ((0 : Int) ≤ 2 ∧ (2 : Int) ≤ 7) then lookS σ c 2 else 0)) (.inl (Int32.ofInt 0)) (jm_sl (cs (mo h (ac + 65) σ) ac (CN κ) μ) (ac + 96) 0 (Int32.ofInt (κ 3 c.toNat)).toInt64) := by
    rw [hs0, hw]
    exact PH_1 (LSt_k hL 0) (u2p ⟨rfl, rfl⟩) _
  clear hw hs0
  generalize (if (0 ≤ c ∧ c ≤ 2) ∧ ((0 : Int) ≤ 2 ∧ (2 : Int) ≤ 7) then lookS σ c 2 else 0) = w9 at hf0 ⊢
  generalize jm_u2 σ 0 0 (if (0 ≤ c ∧ c ≤ 2) ∧ ((0 : Int) ≤ 2 ∧ (2 : Int) ≤ 7) then 0 else 1) = σ9 at hf0 ⊢
  have hfin := hf0
  show jm_Cw B l M_Law_look _ _ _ _
  refine jm_CW (code := t_Law_look) (pcC := 5) (jC := 5) (mi := 55) (na := 3) (rc := 1) (mc := 1) (ms := 6) (jh := (fun k => if k = 1 then some 9 else none)) rfl rfl (by decide) w_Law_look rfl (Nat.le_of_ble_eq_true rfl) [some (.inr (.inl (some (ac)))), some (.inl (Int32.ofInt c)), some (.inl (Int32.ofInt 2)), some (.inr (.inl (some (ac + 96)))), none] rfl rfl rfl (by decide) (fun j hj => by cases Option.some.inj (show some 9 = some j from hj); exact ⟨_, _, rfl, rfl, rfl⟩) (fun j hj => by exact absurd (show none = some j from hj) (by intro q; cases q)) ⟨18, ?_⟩
  simp (disch := omega) only [x_Law_look_0, x_Law_look_1, x_Law_look_2, x_Law_look_3, x_Law_look_4, z_Law_look_5, x_Law_look_5, x_Law_look_6, x_Law_look_7, x_Law_look_8, x_Law_look_9, x_Law_look_10, x_Law_look_11, x_Law_look_12, x_Law_look_13, jm_ia, jm_na, jm_qa, jm_aa, jm_asg, jm_l4, jm_Kr, jm_okv, jm_rc, jm_bo, true_and, and_true, Nat.add_zero, Nat.le_refl, j_lt, j_le, j_eq, j_lt0, j_0lt, j_le0, j_0le, j_eq0, j_add, j_sub, j_mul, j_neg, j_0sub, j_nat, j_in, j_div, j_rem, Sum.inl.injEq, exists_eq', true_or, or_true, if_true, if_false, not_true_eq_false, not_false_eq_true, implies_true, j_eq1, reduceIte, Nat.reduceEqDiff, Int.reduceEq, Int.reduceToNat, Nat.reduceAdd, Int.reduceAdd, Int.reduceSub, Int.reduceMul, Int.reduceNeg, and_false, false_and, and_self, u2r, j_b0, j_b1, Classical.not_not, eq_self, true_implies, false_implies, not_true_eq_false, not_false_eq_true, Int.reduceLT, Int.reduceLE, k7, ck, kmo, k96]
  refine Or.inl ⟨18, ?_⟩
  simp (disch := omega) only [x_Law_look_0, x_Law_look_1, x_Law_look_2, x_Law_look_3, x_Law_look_4, z_Law_look_5, x_Law_look_5, x_Law_look_6, x_Law_look_7, x_Law_look_8, x_Law_look_9, x_Law_look_10, x_Law_look_11, x_Law_look_12, x_Law_look_13, jm_ia, jm_na, jm_qa, jm_aa, jm_asg, jm_l4, jm_Kr, jm_okv, jm_rc, jm_bo, true_and, and_true, Nat.add_zero, Nat.le_refl, j_lt, j_le, j_eq, j_lt0, j_0lt, j_le0, j_0le, j_eq0, j_add, j_sub, j_mul, j_neg, j_0sub, j_nat, j_in, j_div, j_rem, Sum.inl.injEq, exists_eq', true_or, or_true, if_true, if_false, not_true_eq_false, not_false_eq_true, implies_true, j_eq1, reduceIte, Nat.reduceEqDiff, Int.reduceEq, Int.reduceToNat, Nat.reduceAdd, Int.reduceAdd, Int.reduceSub, Int.reduceMul, Int.reduceNeg, and_false, false_and, and_self, u2r, j_b0, j_b1, Classical.not_not, eq_self, true_implies, false_implies, not_true_eq_false, not_false_eq_true, Int.reduceLT, Int.reduceLE, k7, ck, kmo, k96]
  repeat' first
    | apply And.intro
    | (intro _)
    | (refine ⟨_, p_look2 B l (mo h (ac + 65) σ) ac κ μ H hB hS c hc0 hc1, ?_⟩; rintro y h' ⟨rfl, hy⟩; cases hy; try simp (disch := omega) only [x_Law_look_0, x_Law_look_1, x_Law_look_2, x_Law_look_3, x_Law_look_4, z_Law_look_5, x_Law_look_5, x_Law_look_6, x_Law_look_7, x_Law_look_8, x_Law_look_9, x_Law_look_10, x_Law_look_11, x_Law_look_12, x_Law_look_13, jm_ia, jm_na, jm_qa, jm_aa, jm_asg, jm_l4, jm_Kr, jm_okv, jm_rc, jm_bo, true_and, and_true, Nat.add_zero, Nat.le_refl, j_lt, j_le, j_eq, j_lt0, j_0lt, j_le0, j_0le, j_eq0, j_add, j_sub, j_mul, j_neg, j_0sub, j_nat, j_in, j_div, j_rem, Sum.inl.injEq, exists_eq', true_or, or_true, if_true, if_false, not_true_eq_false, not_false_eq_true, implies_true, j_eq1, reduceIte, Nat.reduceEqDiff, Int.reduceEq, Int.reduceToNat, Nat.reduceAdd, Int.reduceAdd, Int.reduceSub, Int.reduceMul, Int.reduceNeg, and_false, false_and, and_self, u2r, j_b0, j_b1, Classical.not_not, eq_self, true_implies, false_implies, not_true_eq_false, not_false_eq_true, Int.reduceLT, Int.reduceLE, k7, ck, kmo, k96])
  all_goals first
    | contradiction
    | exact trivial
    | rfl
    | omega
    | exact (bi1 (by omega)).symm
    | exact (bi0 (by omega)).symm
    | exact (bi1 (by assumption)).symm
    | exact (bi0 (by assumption)).symm
    | exact hfin
    | exact ⟨_, rfl⟩
    | ((try unfold IN_); (repeat (first | rw [if_pos (by omega)] | rw [if_neg (by omega)])); done)
    | ((try unfold IN_); (repeat (first | rw [if_pos (by omega)] | rw [if_neg (by omega)])); rfl)
    | ((try unfold IN_); (repeat (first | rw [if_pos (by omega)] | rw [if_neg (by omega)] | rw [if_pos (by assumption)] | rw [if_neg (by assumption)])); rfl)
set_option maxRecDepth 100000 in
set_option maxHeartbeats 4000000 in
theorem H_look03 (B : jm_B) (l : Launch) (h : jm_H) (ac : Nat) (κ : S_) (μ : M_) (u : Nat → Nat) (ids adr : Nat → Nat → Nat) (T : Int) (σ : S_) (hL : LSt B ac h κ μ u ids adr T σ) (hT : T ≤ 511) (hl0 : l.stackTraces = false) (c : Int) (hc0 : 0 ≤ c) (hc1 : c ≤ 2) : jm_Cw B l (gm 112) (hhs 0 10 13 none) [.inr (.inl (some (ac))), .inl (Int32.ofInt c), .inl (Int32.ofInt 3), .inr (.inl (some (ac + 96)))] (cs (mo h (ac + 65) σ) ac (CN κ) μ) (fun v h' => PH B ac h T σ (jm_u2 σ 0 0 (if (0 ≤ c ∧ c ≤ 2) ∧ ((0 : Int) ≤ 3 ∧ (3 : Int) ≤ 7) then 0 else 1)) (some (if (0 ≤ c ∧ c ≤ 2) ∧ ((0 : Int) ≤ 3 ∧ (3 : Int) ≤ 7) then lookS σ c 3 else 0)) v h') := by
  have H := RC_mo hL.1.1 σ
  have hB := hL.2.1.1.1
  have hS := hL.2.1.1.2.1
  have b01 : 0 ≤ κ 0 1 ∧ κ 0 1 ≤ 600000 := hB 0 1
  have k7 : jm_k (cs (mo h (ac + 65) σ) ac (CN κ) μ) ac = some (.inl 7) := ck0 H
  have k96 : jm_k h (ac + 96) = some (.inr (2, 1)) := hL.1.2.2.2.1
  have kmo : ∀ h1 a, jm_k (mo h1 (ac + 65) σ) a = jm_k h1 a := fun _ _ => rfl
  have hw : (if (0 ≤ c ∧ c ≤ 2) ∧ ((0 : Int) ≤ 3 ∧ (3 : Int) ≤ 7) then lookS σ c 3 else 0) = κ 4 c.toNat := by rw [if_pos ⟨⟨hc0, hc1⟩, by omega⟩]; exact (look_EQ hL.2.2.1 c 3).symm.trans (lk0 κ c).2.2.2.1
  have hs0 : jm_u2 σ 0 0 (if (0 ≤ c ∧ c ≤ 2) ∧ ((0 : Int) ≤ 3 ∧ (3 : Int) ≤ 7) then 0 else 1) = jm_u2 σ 0 0 0 := by rw [if_pos ⟨⟨hc0, hc1⟩, by omega⟩]
  have hf0 : PH B ac h T σ (jm_u2 σ 0 0 (if (0 ≤ c ∧ c ≤ 2) ∧ ((0 : Int) ≤ 3 ∧ (3 : Int) ≤ 7) then 0 else 1)) (some (if (0 ≤ c ∧ c ≤ 2) ∧ ((0 : Int) ≤ 3 ∧ (3 : Int) ≤ 7) then lookS σ c 3 else 0)) (.inl (Int32.ofInt 0)) (jm_sl (cs (mo h (ac + 65) σ) ac (CN κ) μ) (ac + 96) 0 (Int32.ofInt (κ 4 c.toNat)).toInt64) := by
    rw [hs0, hw]
    exact PH_1 (LSt_k hL 0) (u2p ⟨rfl, rfl⟩) _
  clear hw hs0
  generalize (if (0 ≤ c ∧ c ≤ 2) ∧ ((0 : Int) ≤ 3 ∧ (3 : Int) ≤ 7) then lookS σ c 3 else 0) = w9 at hf0 ⊢
  generalize jm_u2 σ 0 0 (if (0 ≤ c ∧ c ≤ 2) ∧ ((0 : Int) ≤ 3 ∧ (3 : Int) ≤ 7) then 0 else 1) = σ9 at hf0 ⊢
  have hfin := hf0
  show jm_Cw B l M_Law_look _ _ _ _
  refine jm_CW (code := t_Law_look) (pcC := 5) (jC := 5) (mi := 55) (na := 3) (rc := 1) (mc := 1) (ms := 6) (jh := (fun k => if k = 1 then some 9 else none)) rfl rfl (by decide) w_Law_look rfl (Nat.le_of_ble_eq_true rfl) [some (.inr (.inl (some (ac)))), some (.inl (Int32.ofInt c)), some (.inl (Int32.ofInt 3)), some (.inr (.inl (some (ac + 96)))), none] rfl rfl rfl (by decide) (fun j hj => by cases Option.some.inj (show some 9 = some j from hj); exact ⟨_, _, rfl, rfl, rfl⟩) (fun j hj => by exact absurd (show none = some j from hj) (by intro q; cases q)) ⟨18, ?_⟩
  simp (disch := omega) only [x_Law_look_0, x_Law_look_1, x_Law_look_2, x_Law_look_3, x_Law_look_4, z_Law_look_5, x_Law_look_5, x_Law_look_6, x_Law_look_7, x_Law_look_8, x_Law_look_9, x_Law_look_10, x_Law_look_11, x_Law_look_12, x_Law_look_13, jm_ia, jm_na, jm_qa, jm_aa, jm_asg, jm_l4, jm_Kr, jm_okv, jm_rc, jm_bo, true_and, and_true, Nat.add_zero, Nat.le_refl, j_lt, j_le, j_eq, j_lt0, j_0lt, j_le0, j_0le, j_eq0, j_add, j_sub, j_mul, j_neg, j_0sub, j_nat, j_in, j_div, j_rem, Sum.inl.injEq, exists_eq', true_or, or_true, if_true, if_false, not_true_eq_false, not_false_eq_true, implies_true, j_eq1, reduceIte, Nat.reduceEqDiff, Int.reduceEq, Int.reduceToNat, Nat.reduceAdd, Int.reduceAdd, Int.reduceSub, Int.reduceMul, Int.reduceNeg, and_false, false_and, and_self, u2r, j_b0, j_b1, Classical.not_not, eq_self, true_implies, false_implies, not_true_eq_false, not_false_eq_true, Int.reduceLT, Int.reduceLE, k7, ck, kmo, k96]
  refine Or.inl ⟨18, ?_⟩
  simp (disch := omega) only [x_Law_look_0, x_Law_look_1, x_Law_look_2, x_Law_look_3, x_Law_look_4, z_Law_look_5, x_Law_look_5, x_Law_look_6, x_Law_look_7, x_Law_look_8, x_Law_look_9, x_Law_look_10, x_Law_look_11, x_Law_look_12, x_Law_look_13, jm_ia, jm_na, jm_qa, jm_aa, jm_asg, jm_l4, jm_Kr, jm_okv, jm_rc, jm_bo, true_and, and_true, Nat.add_zero, Nat.le_refl, j_lt, j_le, j_eq, j_lt0, j_0lt, j_le0, j_0le, j_eq0, j_add, j_sub, j_mul, j_neg, j_0sub, j_nat, j_in, j_div, j_rem, Sum.inl.injEq, exists_eq', true_or, or_true, if_true, if_false, not_true_eq_false, not_false_eq_true, implies_true, j_eq1, reduceIte, Nat.reduceEqDiff, Int.reduceEq, Int.reduceToNat, Nat.reduceAdd, Int.reduceAdd, Int.reduceSub, Int.reduceMul, Int.reduceNeg, and_false, false_and, and_self, u2r, j_b0, j_b1, Classical.not_not, eq_self, true_implies, false_implies, not_true_eq_false, not_false_eq_true, Int.reduceLT, Int.reduceLE, k7, ck, kmo, k96]
  repeat' first
    | apply And.intro
    | (intro _)
    | (refine ⟨_, p_look3 B l (mo h (ac + 65) σ) ac κ μ H hB hS c hc0 hc1, ?_⟩; rintro y h' ⟨rfl, hy⟩; cases hy; try simp (disch := omega) only [x_Law_look_0, x_Law_look_1, x_Law_look_2, x_Law_look_3, x_Law_look_4, z_Law_look_5, x_Law_look_5, x_Law_look_6, x_Law_look_7, x_Law_look_8, x_Law_look_9, x_Law_look_10, x_Law_look_11, x_Law_look_12, x_Law_look_13, jm_ia, jm_na, jm_qa, jm_aa, jm_asg, jm_l4, jm_Kr, jm_okv, jm_rc, jm_bo, true_and, and_true, Nat.add_zero, Nat.le_refl, j_lt, j_le, j_eq, j_lt0, j_0lt, j_le0, j_0le, j_eq0, j_add, j_sub, j_mul, j_neg, j_0sub, j_nat, j_in, j_div, j_rem, Sum.inl.injEq, exists_eq', true_or, or_true, if_true, if_false, not_true_eq_false, not_false_eq_true, implies_true, j_eq1, reduceIte, Nat.reduceEqDiff, Int.reduceEq, Int.reduceToNat, Nat.reduceAdd, Int.reduceAdd, Int.reduceSub, Int.reduceMul, Int.reduceNeg, and_false, false_and, and_self, u2r, j_b0, j_b1, Classical.not_not, eq_self, true_implies, false_implies, not_true_eq_false, not_false_eq_true, Int.reduceLT, Int.reduceLE, k7, ck, kmo, k96])
  all_goals first
    | contradiction
    | exact trivial
    | rfl
    | omega
    | exact (bi1 (by omega)).symm
    | exact (bi0 (by omega)).symm
    | exact (bi1 (by assumption)).symm
    | exact (bi0 (by assumption)).symm
    | exact hfin
    | exact ⟨_, rfl⟩
    | ((try unfold IN_); (repeat (first | rw [if_pos (by omega)] | rw [if_neg (by omega)])); done)
    | ((try unfold IN_); (repeat (first | rw [if_pos (by omega)] | rw [if_neg (by omega)])); rfl)
    | ((try unfold IN_); (repeat (first | rw [if_pos (by omega)] | rw [if_neg (by omega)] | rw [if_pos (by assumption)] | rw [if_neg (by assumption)])); rfl)
set_option maxRecDepth 100000 in
set_option maxHeartbeats 4000000 in
theorem H_look04 (B : jm_B) (l : Launch) (h : jm_H) (ac : Nat) (κ : S_) (μ : M_) (u : Nat → Nat) (ids adr : Nat → Nat → Nat) (T : Int) (σ : S_) (hL : LSt B ac h κ μ u ids adr T σ) (hT : T ≤ 511) (hl0 : l.stackTraces = false) (c : Int) (hc0 : 0 ≤ c) (hc1 : c ≤ 2) : jm_Cw B l (gm 112) (hhs 0 10 13 none) [.inr (.inl (some (ac))), .inl (Int32.ofInt c), .inl (Int32.ofInt 4), .inr (.inl (some (ac + 96)))] (cs (mo h (ac + 65) σ) ac (CN κ) μ) (fun v h' => PH B ac h T σ (jm_u2 σ 0 0 (if (0 ≤ c ∧ c ≤ 2) ∧ ((0 : Int) ≤ 4 ∧ (4 : Int) ≤ 7) then 0 else 1)) (some (if (0 ≤ c ∧ c ≤ 2) ∧ ((0 : Int) ≤ 4 ∧ (4 : Int) ≤ 7) then lookS σ c 4 else 0)) v h') := by
  have H := RC_mo hL.1.1 σ
  have hB := hL.2.1.1.1
  have hS := hL.2.1.1.2.1
  have b01 : 0 ≤ κ 0 1 ∧ κ 0 1 ≤ 600000 := hB 0 1
  have k7 : jm_k (cs (mo h (ac + 65) σ) ac (CN κ) μ) ac = some (.inl 7) := ck0 H
  have k96 : jm_k h (ac + 96) = some (.inr (2, 1)) := hL.1.2.2.2.1
  have kmo : ∀ h1 a, jm_k (mo h1 (ac + 65) σ) a = jm_k h1 a := fun _ _ => rfl
  have hw : (if (0 ≤ c ∧ c ≤ 2) ∧ ((0 : Int) ≤ 4 ∧ (4 : Int) ≤ 7) then lookS σ c 4 else 0) = κ 5 c.toNat := by rw [if_pos ⟨⟨hc0, hc1⟩, by omega⟩]; exact (look_EQ hL.2.2.1 c 4).symm.trans (lk0 κ c).2.2.2.2.1
  have hs0 : jm_u2 σ 0 0 (if (0 ≤ c ∧ c ≤ 2) ∧ ((0 : Int) ≤ 4 ∧ (4 : Int) ≤ 7) then 0 else 1) = jm_u2 σ 0 0 0 := by rw [if_pos ⟨⟨hc0, hc1⟩, by omega⟩]
  have hf0 : PH B ac h T σ (jm_u2 σ 0 0 (if (0 ≤ c ∧ c ≤ 2) ∧ ((0 : Int) ≤ 4 ∧ (4 : Int) ≤ 7) then 0 else 1)) (some (if (0 ≤ c ∧ c ≤ 2) ∧ ((0 : Int) ≤ 4 ∧ (4 : Int) ≤ 7) then lookS σ c 4 else 0)) (.inl (Int32.ofInt 0)) (jm_sl (cs (mo h (ac + 65) σ) ac (CN κ) μ) (ac + 96) 0 (Int32.ofInt (κ 5 c.toNat)).toInt64) := by
    rw [hs0, hw]
    exact PH_1 (LSt_k hL 0) (u2p ⟨rfl, rfl⟩) _
  clear hw hs0
  generalize (if (0 ≤ c ∧ c ≤ 2) ∧ ((0 : Int) ≤ 4 ∧ (4 : Int) ≤ 7) then lookS σ c 4 else 0) = w9 at hf0 ⊢
  generalize jm_u2 σ 0 0 (if (0 ≤ c ∧ c ≤ 2) ∧ ((0 : Int) ≤ 4 ∧ (4 : Int) ≤ 7) then 0 else 1) = σ9 at hf0 ⊢
  have hfin := hf0
  show jm_Cw B l M_Law_look _ _ _ _
  refine jm_CW (code := t_Law_look) (pcC := 5) (jC := 5) (mi := 55) (na := 3) (rc := 1) (mc := 1) (ms := 6) (jh := (fun k => if k = 1 then some 9 else none)) rfl rfl (by decide) w_Law_look rfl (Nat.le_of_ble_eq_true rfl) [some (.inr (.inl (some (ac)))), some (.inl (Int32.ofInt c)), some (.inl (Int32.ofInt 4)), some (.inr (.inl (some (ac + 96)))), none] rfl rfl rfl (by decide) (fun j hj => by cases Option.some.inj (show some 9 = some j from hj); exact ⟨_, _, rfl, rfl, rfl⟩) (fun j hj => by exact absurd (show none = some j from hj) (by intro q; cases q)) ⟨18, ?_⟩
  simp (disch := omega) only [x_Law_look_0, x_Law_look_1, x_Law_look_2, x_Law_look_3, x_Law_look_4, z_Law_look_5, x_Law_look_5, x_Law_look_6, x_Law_look_7, x_Law_look_8, x_Law_look_9, x_Law_look_10, x_Law_look_11, x_Law_look_12, x_Law_look_13, jm_ia, jm_na, jm_qa, jm_aa, jm_asg, jm_l4, jm_Kr, jm_okv, jm_rc, jm_bo, true_and, and_true, Nat.add_zero, Nat.le_refl, j_lt, j_le, j_eq, j_lt0, j_0lt, j_le0, j_0le, j_eq0, j_add, j_sub, j_mul, j_neg, j_0sub, j_nat, j_in, j_div, j_rem, Sum.inl.injEq, exists_eq', true_or, or_true, if_true, if_false, not_true_eq_false, not_false_eq_true, implies_true, j_eq1, reduceIte, Nat.reduceEqDiff, Int.reduceEq, Int.reduceToNat, Nat.reduceAdd, Int.reduceAdd, Int.reduceSub, Int.reduceMul, Int.reduceNeg, and_false, false_and, and_self, u2r, j_b0, j_b1, Classical.not_not, eq_self, true_implies, false_implies, not_true_eq_false, not_false_eq_true, Int.reduceLT, Int.reduceLE, k7, ck, kmo, k96]
  refine Or.inl ⟨18, ?_⟩
  simp (disch := omega) only [x_Law_look_0, x_Law_look_1, x_Law_look_2, x_Law_look_3, x_Law_look_4, z_Law_look_5, x_Law_look_5, x_Law_look_6, x_Law_look_7, x_Law_look_8, x_Law_look_9, x_Law_look_10, x_Law_look_11, x_Law_look_12, x_Law_look_13, jm_ia, jm_na, jm_qa, jm_aa, jm_asg, jm_l4, jm_Kr, jm_okv, jm_rc, jm_bo, true_and, and_true, Nat.add_zero, Nat.le_refl, j_lt, j_le, j_eq, j_lt0, j_0lt, j_le0, j_0le, j_eq0, j_add, j_sub, j_mul, j_neg, j_0sub, j_nat, j_in, j_div, j_rem, Sum.inl.injEq, exists_eq', true_or, or_true, if_true, if_false, not_true_eq_false, not_false_eq_true, implies_true, j_eq1, reduceIte, Nat.reduceEqDiff, Int.reduceEq, Int.reduceToNat, Nat.reduceAdd, Int.reduceAdd, Int.reduceSub, Int.reduceMul, Int.reduceNeg, and_false, false_and, and_self, u2r, j_b0, j_b1, Classical.not_not, eq_self, true_implies, false_implies, not_true_eq_false, not_false_eq_true, Int.reduceLT, Int.reduceLE, k7, ck, kmo, k96]
  repeat' first
    | apply And.intro
    | (intro _)
    | (refine ⟨_, p_look4 B l (mo h (ac + 65) σ) ac κ μ H hB hS c hc0 hc1, ?_⟩; rintro y h' ⟨rfl, hy⟩; cases hy; try simp (disch := omega) only [x_Law_look_0, x_Law_look_1, x_Law_look_2, x_Law_look_3, x_Law_look_4, z_Law_look_5, x_Law_look_5, x_Law_look_6, x_Law_look_7, x_Law_look_8, x_Law_look_9, x_Law_look_10, x_Law_look_11, x_Law_look_12, x_Law_look_13, jm_ia, jm_na, jm_qa, jm_aa, jm_asg, jm_l4, jm_Kr, jm_okv, jm_rc, jm_bo, true_and, and_true, Nat.add_zero, Nat.le_refl, j_lt, j_le, j_eq, j_lt0, j_0lt, j_le0, j_0le, j_eq0, j_add, j_sub, j_mul, j_neg, j_0sub, j_nat, j_in, j_div, j_rem, Sum.inl.injEq, exists_eq', true_or, or_true, if_true, if_false, not_true_eq_false, not_false_eq_true, implies_true, j_eq1, reduceIte, Nat.reduceEqDiff, Int.reduceEq, Int.reduceToNat, Nat.reduceAdd, Int.reduceAdd, Int.reduceSub, Int.reduceMul, Int.reduceNeg, and_false, false_and, and_self, u2r, j_b0, j_b1, Classical.not_not, eq_self, true_implies, false_implies, not_true_eq_false, not_false_eq_true, Int.reduceLT, Int.reduceLE, k7, ck, kmo, k96])
  all_goals first
    | contradiction
    | exact trivial
    | rfl
    | omega
    | exact (bi1 (by omega)).symm
    | exact (bi0 (by omega)).symm
    | exact (bi1 (by assumption)).symm
    | exact (bi0 (by assumption)).symm
    | exact hfin
    | exact ⟨_, rfl⟩
    | ((try unfold IN_); (repeat (first | rw [if_pos (by omega)] | rw [if_neg (by omega)])); done)
    | ((try unfold IN_); (repeat (first | rw [if_pos (by omega)] | rw [if_neg (by omega)])); rfl)
    | ((try unfold IN_); (repeat (first | rw [if_pos (by omega)] | rw [if_neg (by omega)] | rw [if_pos (by assumption)] | rw [if_neg (by assumption)])); rfl)
set_option maxRecDepth 100000 in
set_option maxHeartbeats 4000000 in
theorem H_look05 (B : jm_B) (l : Launch) (h : jm_H) (ac : Nat) (κ : S_) (μ : M_) (u : Nat → Nat) (ids adr : Nat → Nat → Nat) (T : Int) (σ : S_) (hL : LSt B ac h κ μ u ids adr T σ) (hT : T ≤ 511) (hl0 : l.stackTraces = false) (c : Int) (hc0 : 0 ≤ c) (hc1 : c ≤ 2) : jm_Cw B l (gm 112) (hhs 0 10 13 none) [.inr (.inl (some (ac))), .inl (Int32.ofInt c), .inl (Int32.ofInt 5), .inr (.inl (some (ac + 96)))] (cs (mo h (ac + 65) σ) ac (CN κ) μ) (fun v h' => PH B ac h T σ (jm_u2 σ 0 0 (if (0 ≤ c ∧ c ≤ 2) ∧ ((0 : Int) ≤ 5 ∧ (5 : Int) ≤ 7) then 0 else 1)) (some (if (0 ≤ c ∧ c ≤ 2) ∧ ((0 : Int) ≤ 5 ∧ (5 : Int) ≤ 7) then lookS σ c 5 else 0)) v h') := by
  have H := RC_mo hL.1.1 σ
  have hB := hL.2.1.1.1
  have hS := hL.2.1.1.2.1
  have b01 : 0 ≤ κ 0 1 ∧ κ 0 1 ≤ 600000 := hB 0 1
  have k7 : jm_k (cs (mo h (ac + 65) σ) ac (CN κ) μ) ac = some (.inl 7) := ck0 H
  have k96 : jm_k h (ac + 96) = some (.inr (2, 1)) := hL.1.2.2.2.1
  have kmo : ∀ h1 a, jm_k (mo h1 (ac + 65) σ) a = jm_k h1 a := fun _ _ => rfl
  have hw : (if (0 ≤ c ∧ c ≤ 2) ∧ ((0 : Int) ≤ 5 ∧ (5 : Int) ≤ 7) then lookS σ c 5 else 0) = tabS κ c (κ 3 c.toNat) := by rw [if_pos ⟨⟨hc0, hc1⟩, by omega⟩]; exact (look_EQ hL.2.2.1 c 5).symm.trans (lk0 κ c).2.2.2.2.2.1
  have hs0 : jm_u2 σ 0 0 (if (0 ≤ c ∧ c ≤ 2) ∧ ((0 : Int) ≤ 5 ∧ (5 : Int) ≤ 7) then 0 else 1) = jm_u2 σ 0 0 0 := by rw [if_pos ⟨⟨hc0, hc1⟩, by omega⟩]
  have hf0 : PH B ac h T σ (jm_u2 σ 0 0 (if (0 ≤ c ∧ c ≤ 2) ∧ ((0 : Int) ≤ 5 ∧ (5 : Int) ≤ 7) then 0 else 1)) (some (if (0 ≤ c ∧ c ≤ 2) ∧ ((0 : Int) ≤ 5 ∧ (5 : Int) ≤ 7) then lookS σ c 5 else 0)) (.inl (Int32.ofInt 0)) (jm_sl (cs (mo h (ac + 65) σ) ac (CN κ) μ) (ac + 96) 0 (Int32.ofInt (tabS κ c (κ 3 c.toNat))).toInt64) := by
    rw [hs0, hw]
    exact PH_1 (LSt_k hL 0) (u2p ⟨rfl, rfl⟩) _
  clear hw hs0
  generalize (if (0 ≤ c ∧ c ≤ 2) ∧ ((0 : Int) ≤ 5 ∧ (5 : Int) ≤ 7) then lookS σ c 5 else 0) = w9 at hf0 ⊢
  generalize jm_u2 σ 0 0 (if (0 ≤ c ∧ c ≤ 2) ∧ ((0 : Int) ≤ 5 ∧ (5 : Int) ≤ 7) then 0 else 1) = σ9 at hf0 ⊢
  have hfin := hf0
  show jm_Cw B l M_Law_look _ _ _ _
  refine jm_CW (code := t_Law_look) (pcC := 5) (jC := 5) (mi := 55) (na := 3) (rc := 1) (mc := 1) (ms := 6) (jh := (fun k => if k = 1 then some 9 else none)) rfl rfl (by decide) w_Law_look rfl (Nat.le_of_ble_eq_true rfl) [some (.inr (.inl (some (ac)))), some (.inl (Int32.ofInt c)), some (.inl (Int32.ofInt 5)), some (.inr (.inl (some (ac + 96)))), none] rfl rfl rfl (by decide) (fun j hj => by cases Option.some.inj (show some 9 = some j from hj); exact ⟨_, _, rfl, rfl, rfl⟩) (fun j hj => by exact absurd (show none = some j from hj) (by intro q; cases q)) ⟨18, ?_⟩
  simp (disch := omega) only [x_Law_look_0, x_Law_look_1, x_Law_look_2, x_Law_look_3, x_Law_look_4, z_Law_look_5, x_Law_look_5, x_Law_look_6, x_Law_look_7, x_Law_look_8, x_Law_look_9, x_Law_look_10, x_Law_look_11, x_Law_look_12, x_Law_look_13, jm_ia, jm_na, jm_qa, jm_aa, jm_asg, jm_l4, jm_Kr, jm_okv, jm_rc, jm_bo, true_and, and_true, Nat.add_zero, Nat.le_refl, j_lt, j_le, j_eq, j_lt0, j_0lt, j_le0, j_0le, j_eq0, j_add, j_sub, j_mul, j_neg, j_0sub, j_nat, j_in, j_div, j_rem, Sum.inl.injEq, exists_eq', true_or, or_true, if_true, if_false, not_true_eq_false, not_false_eq_true, implies_true, j_eq1, reduceIte, Nat.reduceEqDiff, Int.reduceEq, Int.reduceToNat, Nat.reduceAdd, Int.reduceAdd, Int.reduceSub, Int.reduceMul, Int.reduceNeg, and_false, false_and, and_self, u2r, j_b0, j_b1, Classical.not_not, eq_self, true_implies, false_implies, not_true_eq_false, not_false_eq_true, Int.reduceLT, Int.reduceLE, k7, ck, kmo, k96]
  refine Or.inl ⟨18, ?_⟩
  simp (disch := omega) only [x_Law_look_0, x_Law_look_1, x_Law_look_2, x_Law_look_3, x_Law_look_4, z_Law_look_5, x_Law_look_5, x_Law_look_6, x_Law_look_7, x_Law_look_8, x_Law_look_9, x_Law_look_10, x_Law_look_11, x_Law_look_12, x_Law_look_13, jm_ia, jm_na, jm_qa, jm_aa, jm_asg, jm_l4, jm_Kr, jm_okv, jm_rc, jm_bo, true_and, and_true, Nat.add_zero, Nat.le_refl, j_lt, j_le, j_eq, j_lt0, j_0lt, j_le0, j_0le, j_eq0, j_add, j_sub, j_mul, j_neg, j_0sub, j_nat, j_in, j_div, j_rem, Sum.inl.injEq, exists_eq', true_or, or_true, if_true, if_false, not_true_eq_false, not_false_eq_true, implies_true, j_eq1, reduceIte, Nat.reduceEqDiff, Int.reduceEq, Int.reduceToNat, Nat.reduceAdd, Int.reduceAdd, Int.reduceSub, Int.reduceMul, Int.reduceNeg, and_false, false_and, and_self, u2r, j_b0, j_b1, Classical.not_not, eq_self, true_implies, false_implies, not_true_eq_false, not_false_eq_true, Int.reduceLT, Int.reduceLE, k7, ck, kmo, k96]
  repeat' first
    | apply And.intro
    | (intro _)
    | (refine ⟨_, p_look5 B l (mo h (ac + 65) σ) ac κ μ H hB hS c hc0 hc1, ?_⟩; rintro y h' ⟨rfl, hy⟩; cases hy; try simp (disch := omega) only [x_Law_look_0, x_Law_look_1, x_Law_look_2, x_Law_look_3, x_Law_look_4, z_Law_look_5, x_Law_look_5, x_Law_look_6, x_Law_look_7, x_Law_look_8, x_Law_look_9, x_Law_look_10, x_Law_look_11, x_Law_look_12, x_Law_look_13, jm_ia, jm_na, jm_qa, jm_aa, jm_asg, jm_l4, jm_Kr, jm_okv, jm_rc, jm_bo, true_and, and_true, Nat.add_zero, Nat.le_refl, j_lt, j_le, j_eq, j_lt0, j_0lt, j_le0, j_0le, j_eq0, j_add, j_sub, j_mul, j_neg, j_0sub, j_nat, j_in, j_div, j_rem, Sum.inl.injEq, exists_eq', true_or, or_true, if_true, if_false, not_true_eq_false, not_false_eq_true, implies_true, j_eq1, reduceIte, Nat.reduceEqDiff, Int.reduceEq, Int.reduceToNat, Nat.reduceAdd, Int.reduceAdd, Int.reduceSub, Int.reduceMul, Int.reduceNeg, and_false, false_and, and_self, u2r, j_b0, j_b1, Classical.not_not, eq_self, true_implies, false_implies, not_true_eq_false, not_false_eq_true, Int.reduceLT, Int.reduceLE, k7, ck, kmo, k96])
  all_goals first
    | contradiction
    | exact trivial
    | rfl
    | omega
    | exact (bi1 (by omega)).symm
    | exact (bi0 (by omega)).symm
    | exact (bi1 (by assumption)).symm
    | exact (bi0 (by assumption)).symm
    | exact hfin
    | exact ⟨_, rfl⟩
    | ((try unfold IN_); (repeat (first | rw [if_pos (by omega)] | rw [if_neg (by omega)])); done)
    | ((try unfold IN_); (repeat (first | rw [if_pos (by omega)] | rw [if_neg (by omega)])); rfl)
    | ((try unfold IN_); (repeat (first | rw [if_pos (by omega)] | rw [if_neg (by omega)] | rw [if_pos (by assumption)] | rw [if_neg (by assumption)])); rfl)
set_option maxRecDepth 100000 in
set_option maxHeartbeats 4000000 in
theorem H_look06 (B : jm_B) (l : Launch) (h : jm_H) (ac : Nat) (κ : S_) (μ : M_) (u : Nat → Nat) (ids adr : Nat → Nat → Nat) (T : Int) (σ : S_) (hL : LSt B ac h κ μ u ids adr T σ) (hT : T ≤ 511) (hl0 : l.stackTraces = false) (c : Int) (hc0 : 0 ≤ c) (hc1 : c ≤ 2) : jm_Cw B l (gm 112) (hhs 0 10 13 none) [.inr (.inl (some (ac))), .inl (Int32.ofInt c), .inl (Int32.ofInt 6), .inr (.inl (some (ac + 96)))] (cs (mo h (ac + 65) σ) ac (CN κ) μ) (fun v h' => PH B ac h T σ (jm_u2 σ 0 0 (if (0 ≤ c ∧ c ≤ 2) ∧ ((0 : Int) ≤ 6 ∧ (6 : Int) ≤ 7) then 0 else 1)) (some (if (0 ≤ c ∧ c ≤ 2) ∧ ((0 : Int) ≤ 6 ∧ (6 : Int) ≤ 7) then lookS σ c 6 else 0)) v h') := by
  have H := RC_mo hL.1.1 σ
  have hB := hL.2.1.1.1
  have hS := hL.2.1.1.2.1
  have b01 : 0 ≤ κ 0 1 ∧ κ 0 1 ≤ 600000 := hB 0 1
  have k7 : jm_k (cs (mo h (ac + 65) σ) ac (CN κ) μ) ac = some (.inl 7) := ck0 H
  have k96 : jm_k h (ac + 96) = some (.inr (2, 1)) := hL.1.2.2.2.1
  have kmo : ∀ h1 a, jm_k (mo h1 (ac + 65) σ) a = jm_k h1 a := fun _ _ => rfl
  obtain ⟨w1, hw1⟩ := flg_ex (tabS κ c (κ 3 c.toNat) < κ 5 c.toNat)
  have hw : (if (0 ≤ c ∧ c ≤ 2) ∧ ((0 : Int) ≤ 6 ∧ (6 : Int) ≤ 7) then lookS σ c 6 else 0) = w1 := by rw [if_pos ⟨⟨hc0, hc1⟩, by omega⟩]; exact (look_EQ hL.2.2.1 c 6).symm.trans ((lk0 κ c).2.2.2.2.2.2.1.trans (flg_i hw1))
  have hs0 : jm_u2 σ 0 0 (if (0 ≤ c ∧ c ≤ 2) ∧ ((0 : Int) ≤ 6 ∧ (6 : Int) ≤ 7) then 0 else 1) = jm_u2 σ 0 0 0 := by rw [if_pos ⟨⟨hc0, hc1⟩, by omega⟩]
  have hf0 : PH B ac h T σ (jm_u2 σ 0 0 (if (0 ≤ c ∧ c ≤ 2) ∧ ((0 : Int) ≤ 6 ∧ (6 : Int) ≤ 7) then 0 else 1)) (some (if (0 ≤ c ∧ c ≤ 2) ∧ ((0 : Int) ≤ 6 ∧ (6 : Int) ≤ 7) then lookS σ c 6 else 0)) (.inl (Int32.ofInt 0)) (jm_sl (cs (mo h (ac + 65) σ) ac (CN κ) μ) (ac + 96) 0 (Int32.ofInt (w1)).toInt64) := by
    rw [hs0, hw]
    exact PH_1 (LSt_k hL 0) (u2p ⟨rfl, rfl⟩) _
  clear hw hs0
  generalize (if (0 ≤ c ∧ c ≤ 2) ∧ ((0 : Int) ≤ 6 ∧ (6 : Int) ≤ 7) then lookS σ c 6 else 0) = w9 at hf0 ⊢
  generalize jm_u2 σ 0 0 (if (0 ≤ c ∧ c ≤ 2) ∧ ((0 : Int) ≤ 6 ∧ (6 : Int) ≤ 7) then 0 else 1) = σ9 at hf0 ⊢
  have hfin := hf0
  show jm_Cw B l M_Law_look _ _ _ _
  refine jm_CW (code := t_Law_look) (pcC := 5) (jC := 5) (mi := 55) (na := 3) (rc := 1) (mc := 1) (ms := 6) (jh := (fun k => if k = 1 then some 9 else none)) rfl rfl (by decide) w_Law_look rfl (Nat.le_of_ble_eq_true rfl) [some (.inr (.inl (some (ac)))), some (.inl (Int32.ofInt c)), some (.inl (Int32.ofInt 6)), some (.inr (.inl (some (ac + 96)))), none] rfl rfl rfl (by decide) (fun j hj => by cases Option.some.inj (show some 9 = some j from hj); exact ⟨_, _, rfl, rfl, rfl⟩) (fun j hj => by exact absurd (show none = some j from hj) (by intro q; cases q)) ⟨18, ?_⟩
  simp (disch := omega) only [x_Law_look_0, x_Law_look_1, x_Law_look_2, x_Law_look_3, x_Law_look_4, z_Law_look_5, x_Law_look_5, x_Law_look_6, x_Law_look_7, x_Law_look_8, x_Law_look_9, x_Law_look_10, x_Law_look_11, x_Law_look_12, x_Law_look_13, jm_ia, jm_na, jm_qa, jm_aa, jm_asg, jm_l4, jm_Kr, jm_okv, jm_rc, jm_bo, true_and, and_true, Nat.add_zero, Nat.le_refl, j_lt, j_le, j_eq, j_lt0, j_0lt, j_le0, j_0le, j_eq0, j_add, j_sub, j_mul, j_neg, j_0sub, j_nat, j_in, j_div, j_rem, Sum.inl.injEq, exists_eq', true_or, or_true, if_true, if_false, not_true_eq_false, not_false_eq_true, implies_true, j_eq1, reduceIte, Nat.reduceEqDiff, Int.reduceEq, Int.reduceToNat, Nat.reduceAdd, Int.reduceAdd, Int.reduceSub, Int.reduceMul, Int.reduceNeg, and_false, false_and, and_self, u2r, j_b0, j_b1, Classical.not_not, eq_self, true_implies, false_implies, not_true_eq_false, not_false_eq_true, Int.reduceLT, Int.reduceLE, k7, ck, kmo, k96]
  refine Or.inl ⟨18, ?_⟩
  simp (disch := omega) only [x_Law_look_0, x_Law_look_1, x_Law_look_2, x_Law_look_3, x_Law_look_4, z_Law_look_5, x_Law_look_5, x_Law_look_6, x_Law_look_7, x_Law_look_8, x_Law_look_9, x_Law_look_10, x_Law_look_11, x_Law_look_12, x_Law_look_13, jm_ia, jm_na, jm_qa, jm_aa, jm_asg, jm_l4, jm_Kr, jm_okv, jm_rc, jm_bo, true_and, and_true, Nat.add_zero, Nat.le_refl, j_lt, j_le, j_eq, j_lt0, j_0lt, j_le0, j_0le, j_eq0, j_add, j_sub, j_mul, j_neg, j_0sub, j_nat, j_in, j_div, j_rem, Sum.inl.injEq, exists_eq', true_or, or_true, if_true, if_false, not_true_eq_false, not_false_eq_true, implies_true, j_eq1, reduceIte, Nat.reduceEqDiff, Int.reduceEq, Int.reduceToNat, Nat.reduceAdd, Int.reduceAdd, Int.reduceSub, Int.reduceMul, Int.reduceNeg, and_false, false_and, and_self, u2r, j_b0, j_b1, Classical.not_not, eq_self, true_implies, false_implies, not_true_eq_false, not_false_eq_true, Int.reduceLT, Int.reduceLE, k7, ck, kmo, k96]
  repeat' first
    | apply And.intro
    | (intro _)
    | (refine ⟨_, p_look6 B l (mo h (ac + 65) σ) ac κ μ H hB hS c hc0 hc1 hw1, ?_⟩; rintro y h' ⟨rfl, hy⟩; cases hy; try simp (disch := omega) only [x_Law_look_0, x_Law_look_1, x_Law_look_2, x_Law_look_3, x_Law_look_4, z_Law_look_5, x_Law_look_5, x_Law_look_6, x_Law_look_7, x_Law_look_8, x_Law_look_9, x_Law_look_10, x_Law_look_11, x_Law_look_12, x_Law_look_13, jm_ia, jm_na, jm_qa, jm_aa, jm_asg, jm_l4, jm_Kr, jm_okv, jm_rc, jm_bo, true_and, and_true, Nat.add_zero, Nat.le_refl, j_lt, j_le, j_eq, j_lt0, j_0lt, j_le0, j_0le, j_eq0, j_add, j_sub, j_mul, j_neg, j_0sub, j_nat, j_in, j_div, j_rem, Sum.inl.injEq, exists_eq', true_or, or_true, if_true, if_false, not_true_eq_false, not_false_eq_true, implies_true, j_eq1, reduceIte, Nat.reduceEqDiff, Int.reduceEq, Int.reduceToNat, Nat.reduceAdd, Int.reduceAdd, Int.reduceSub, Int.reduceMul, Int.reduceNeg, and_false, false_and, and_self, u2r, j_b0, j_b1, Classical.not_not, eq_self, true_implies, false_implies, not_true_eq_false, not_false_eq_true, Int.reduceLT, Int.reduceLE, k7, ck, kmo, k96])
  all_goals first
    | contradiction
    | exact trivial
    | rfl
    | omega
    | exact (bi1 (by omega)).symm
    | exact (bi0 (by omega)).symm
    | exact (bi1 (by assumption)).symm
    | exact (bi0 (by assumption)).symm
    | exact hfin
    | exact ⟨_, rfl⟩
    | ((try unfold IN_); (repeat (first | rw [if_pos (by omega)] | rw [if_neg (by omega)])); done)
    | ((try unfold IN_); (repeat (first | rw [if_pos (by omega)] | rw [if_neg (by omega)])); rfl)
    | ((try unfold IN_); (repeat (first | rw [if_pos (by omega)] | rw [if_neg (by omega)] | rw [if_pos (by assumption)] | rw [if_neg (by assumption)])); rfl)
set_option maxRecDepth 100000 in
set_option maxHeartbeats 4000000 in
theorem H_look07 (B : jm_B) (l : Launch) (h : jm_H) (ac : Nat) (κ : S_) (μ : M_) (u : Nat → Nat) (ids adr : Nat → Nat → Nat) (T : Int) (σ : S_) (hL : LSt B ac h κ μ u ids adr T σ) (hT : T ≤ 511) (hl0 : l.stackTraces = false) (c : Int) (hc0 : 0 ≤ c) (hc1 : c ≤ 2) : jm_Cw B l (gm 112) (hhs 0 10 13 none) [.inr (.inl (some (ac))), .inl (Int32.ofInt c), .inl (Int32.ofInt 7), .inr (.inl (some (ac + 96)))] (cs (mo h (ac + 65) σ) ac (CN κ) μ) (fun v h' => PH B ac h T σ (jm_u2 σ 0 0 (if (0 ≤ c ∧ c ≤ 2) ∧ ((0 : Int) ≤ 7 ∧ (7 : Int) ≤ 7) then 0 else 1)) (some (if (0 ≤ c ∧ c ≤ 2) ∧ ((0 : Int) ≤ 7 ∧ (7 : Int) ≤ 7) then lookS σ c 7 else 0)) v h') := by
  have H := RC_mo hL.1.1 σ
  have hB := hL.2.1.1.1
  have hS := hL.2.1.1.2.1
  have b01 : 0 ≤ κ 0 1 ∧ κ 0 1 ≤ 600000 := hB 0 1
  have k7 : jm_k (cs (mo h (ac + 65) σ) ac (CN κ) μ) ac = some (.inl 7) := ck0 H
  have k96 : jm_k h (ac + 96) = some (.inr (2, 1)) := hL.1.2.2.2.1
  have kmo : ∀ h1 a, jm_k (mo h1 (ac + 65) σ) a = jm_k h1 a := fun _ _ => rfl
  have hw : (if (0 ≤ c ∧ c ≤ 2) ∧ ((0 : Int) ≤ 7 ∧ (7 : Int) ≤ 7) then lookS σ c 7 else 0) = sumF (cfl κ c) 10 := by rw [if_pos ⟨⟨hc0, hc1⟩, by omega⟩]; exact (look_EQ hL.2.2.1 c 7).symm.trans (lk0 κ c).2.2.2.2.2.2.2
  have hs0 : jm_u2 σ 0 0 (if (0 ≤ c ∧ c ≤ 2) ∧ ((0 : Int) ≤ 7 ∧ (7 : Int) ≤ 7) then 0 else 1) = jm_u2 σ 0 0 0 := by rw [if_pos ⟨⟨hc0, hc1⟩, by omega⟩]
  have hf0 : PH B ac h T σ (jm_u2 σ 0 0 (if (0 ≤ c ∧ c ≤ 2) ∧ ((0 : Int) ≤ 7 ∧ (7 : Int) ≤ 7) then 0 else 1)) (some (if (0 ≤ c ∧ c ≤ 2) ∧ ((0 : Int) ≤ 7 ∧ (7 : Int) ≤ 7) then lookS σ c 7 else 0)) (.inl (Int32.ofInt 0)) (jm_sl (cs (mo h (ac + 65) σ) ac (CN κ) μ) (ac + 96) 0 (Int32.ofInt (sumF (cfl κ c) 10)).toInt64) := by
    rw [hs0, hw]
    exact PH_1 (LSt_k hL 0) (u2p ⟨rfl, rfl⟩) _
  clear hw hs0
  generalize (if (0 ≤ c ∧ c ≤ 2) ∧ ((0 : Int) ≤ 7 ∧ (7 : Int) ≤ 7) then lookS σ c 7 else 0) = w9 at hf0 ⊢
  generalize jm_u2 σ 0 0 (if (0 ≤ c ∧ c ≤ 2) ∧ ((0 : Int) ≤ 7 ∧ (7 : Int) ≤ 7) then 0 else 1) = σ9 at hf0 ⊢
  have hfin := hf0
  show jm_Cw B l M_Law_look _ _ _ _
  refine jm_CW (code := t_Law_look) (pcC := 5) (jC := 5) (mi := 55) (na := 3) (rc := 1) (mc := 1) (ms := 6) (jh := (fun k => if k = 1 then some 9 else none)) rfl rfl (by decide) w_Law_look rfl (Nat.le_of_ble_eq_true rfl) [some (.inr (.inl (some (ac)))), some (.inl (Int32.ofInt c)), some (.inl (Int32.ofInt 7)), some (.inr (.inl (some (ac + 96)))), none] rfl rfl rfl (by decide) (fun j hj => by cases Option.some.inj (show some 9 = some j from hj); exact ⟨_, _, rfl, rfl, rfl⟩) (fun j hj => by exact absurd (show none = some j from hj) (by intro q; cases q)) ⟨18, ?_⟩
  simp (disch := omega) only [x_Law_look_0, x_Law_look_1, x_Law_look_2, x_Law_look_3, x_Law_look_4, z_Law_look_5, x_Law_look_5, x_Law_look_6, x_Law_look_7, x_Law_look_8, x_Law_look_9, x_Law_look_10, x_Law_look_11, x_Law_look_12, x_Law_look_13, jm_ia, jm_na, jm_qa, jm_aa, jm_asg, jm_l4, jm_Kr, jm_okv, jm_rc, jm_bo, true_and, and_true, Nat.add_zero, Nat.le_refl, j_lt, j_le, j_eq, j_lt0, j_0lt, j_le0, j_0le, j_eq0, j_add, j_sub, j_mul, j_neg, j_0sub, j_nat, j_in, j_div, j_rem, Sum.inl.injEq, exists_eq', true_or, or_true, if_true, if_false, not_true_eq_false, not_false_eq_true, implies_true, j_eq1, reduceIte, Nat.reduceEqDiff, Int.reduceEq, Int.reduceToNat, Nat.reduceAdd, Int.reduceAdd, Int.reduceSub, Int.reduceMul, Int.reduceNeg, and_false, false_and, and_self, u2r, j_b0, j_b1, Classical.not_not, eq_self, true_implies, false_implies, not_true_eq_false, not_false_eq_true, Int.reduceLT, Int.reduceLE, k7, ck, kmo, k96]
  refine Or.inl ⟨18, ?_⟩
  simp (disch := omega) only [x_Law_look_0, x_Law_look_1, x_Law_look_2, x_Law_look_3, x_Law_look_4, z_Law_look_5, x_Law_look_5, x_Law_look_6, x_Law_look_7, x_Law_look_8, x_Law_look_9, x_Law_look_10, x_Law_look_11, x_Law_look_12, x_Law_look_13, jm_ia, jm_na, jm_qa, jm_aa, jm_asg, jm_l4, jm_Kr, jm_okv, jm_rc, jm_bo, true_and, and_true, Nat.add_zero, Nat.le_refl, j_lt, j_le, j_eq, j_lt0, j_0lt, j_le0, j_0le, j_eq0, j_add, j_sub, j_mul, j_neg, j_0sub, j_nat, j_in, j_div, j_rem, Sum.inl.injEq, exists_eq', true_or, or_true, if_true, if_false, not_true_eq_false, not_false_eq_true, implies_true, j_eq1, reduceIte, Nat.reduceEqDiff, Int.reduceEq, Int.reduceToNat, Nat.reduceAdd, Int.reduceAdd, Int.reduceSub, Int.reduceMul, Int.reduceNeg, and_false, false_and, and_self, u2r, j_b0, j_b1, Classical.not_not, eq_self, true_implies, false_implies, not_true_eq_false, not_false_eq_true, Int.reduceLT, Int.reduceLE, k7, ck, kmo, k96]
  repeat' first
    | apply And.intro
    | (intro _)
    | (refine ⟨_, p_look7 B l (mo h (ac + 65) σ) ac κ μ H hB hS c hc0 hc1 _ (AI_s H (AI_h (hL.2.1.2.2.2 c.toNat (by omega)) (Nat.le_refl _) (fun a q _ => ⟨rfl, fun j => mo_i (Or.inr (by omega))⟩))), ?_⟩; rintro y h' ⟨rfl, hy⟩; cases hy; try simp (disch := omega) only [x_Law_look_0, x_Law_look_1, x_Law_look_2, x_Law_look_3, x_Law_look_4, z_Law_look_5, x_Law_look_5, x_Law_look_6, x_Law_look_7, x_Law_look_8, x_Law_look_9, x_Law_look_10, x_Law_look_11, x_Law_look_12, x_Law_look_13, jm_ia, jm_na, jm_qa, jm_aa, jm_asg, jm_l4, jm_Kr, jm_okv, jm_rc, jm_bo, true_and, and_true, Nat.add_zero, Nat.le_refl, j_lt, j_le, j_eq, j_lt0, j_0lt, j_le0, j_0le, j_eq0, j_add, j_sub, j_mul, j_neg, j_0sub, j_nat, j_in, j_div, j_rem, Sum.inl.injEq, exists_eq', true_or, or_true, if_true, if_false, not_true_eq_false, not_false_eq_true, implies_true, j_eq1, reduceIte, Nat.reduceEqDiff, Int.reduceEq, Int.reduceToNat, Nat.reduceAdd, Int.reduceAdd, Int.reduceSub, Int.reduceMul, Int.reduceNeg, and_false, false_and, and_self, u2r, j_b0, j_b1, Classical.not_not, eq_self, true_implies, false_implies, not_true_eq_false, not_false_eq_true, Int.reduceLT, Int.reduceLE, k7, ck, kmo, k96])
  all_goals first
    | contradiction
    | exact trivial
    | rfl
    | omega
    | exact (bi1 (by omega)).symm
    | exact (bi0 (by omega)).symm
    | exact (bi1 (by assumption)).symm
    | exact (bi0 (by assumption)).symm
    | exact hfin
    | exact ⟨_, rfl⟩
    | ((try unfold IN_); (repeat (first | rw [if_pos (by omega)] | rw [if_neg (by omega)])); done)
    | ((try unfold IN_); (repeat (first | rw [if_pos (by omega)] | rw [if_neg (by omega)])); rfl)
    | ((try unfold IN_); (repeat (first | rw [if_pos (by omega)] | rw [if_neg (by omega)] | rw [if_pos (by assumption)] | rw [if_neg (by assumption)])); rfl)
set_option maxRecDepth 100000 in
set_option maxHeartbeats 4000000 in
theorem H_look1 (B : jm_B) (l : Launch) (h : jm_H) (ac : Nat) (κ : S_) (μ : M_) (u : Nat → Nat) (ids adr : Nat → Nat → Nat) (T : Int) (σ : S_) (hL : LSt B ac h κ μ u ids adr T σ) (hT : T ≤ 511) (hl0 : l.stackTraces = false) (c w : Int) (ca : -2147483648 ≤ c) (cb : c < 2147483648) (wa : -2147483648 ≤ w) (wb : w < 2147483648) (hx : ¬ ((0 ≤ c ∧ c ≤ 2) ∧ (0 ≤ w ∧ w ≤ 7))) : jm_Cw B l (gm 112) (hhs 0 10 13 none) [.inr (.inl (some (ac))), .inl (Int32.ofInt c), .inl (Int32.ofInt w), .inr (.inl (some (ac + 96)))] (cs (mo h (ac + 65) σ) ac (CN κ) μ) (fun v h' => PH B ac h T σ (jm_u2 σ 0 0 (if (0 ≤ c ∧ c ≤ 2) ∧ (0 ≤ w ∧ w ≤ 7) then 0 else 1)) (some (if (0 ≤ c ∧ c ≤ 2) ∧ (0 ≤ w ∧ w ≤ 7) then lookS σ c w else 0)) v h') := by
  have H := RC_mo hL.1.1 σ
  have hB := hL.2.1.1.1
  have hS := hL.2.1.1.2.1
  have b01 : 0 ≤ κ 0 1 ∧ κ 0 1 ≤ 600000 := hB 0 1
  have k7 : jm_k (cs (mo h (ac + 65) σ) ac (CN κ) μ) ac = some (.inl 7) := ck0 H
  have k96 : jm_k h (ac + 96) = some (.inr (2, 1)) := hL.1.2.2.2.1
  have kmo : ∀ h1 a, jm_k (mo h1 (ac + 65) σ) a = jm_k h1 a := fun _ _ => rfl
  have hsp : jm_u2 σ 0 0 (if (0 ≤ c ∧ c ≤ 2) ∧ (0 ≤ w ∧ w ≤ 7) then 0 else 1) = jm_u2 σ 0 0 1 := by rw [if_neg hx]
  show jm_Cw B l M_Law_look _ _ _ _
  refine jm_CW (code := t_Law_look) (pcC := 5) (jC := 5) (mi := 55) (na := 3) (rc := 1) (mc := 1) (ms := 6) (jh := (fun k => if k = 1 then some 9 else none)) rfl rfl (by decide) w_Law_look rfl (Nat.le_of_ble_eq_true rfl) [some (.inr (.inl (some (ac)))), some (.inl (Int32.ofInt c)), some (.inl (Int32.ofInt w)), some (.inr (.inl (some (ac + 96)))), none] rfl rfl rfl (by decide) (fun j hj => by cases Option.some.inj (show some 9 = some j from hj); exact ⟨_, _, rfl, rfl, rfl⟩) (fun j hj => by exact absurd (show none = some j from hj) (by intro q; cases q)) ⟨18, ?_⟩
  simp (disch := omega) only [x_Law_look_0, x_Law_look_1, x_Law_look_2, x_Law_look_3, x_Law_look_4, z_Law_look_5, x_Law_look_5, x_Law_look_6, x_Law_look_7, x_Law_look_8, x_Law_look_9, x_Law_look_10, x_Law_look_11, x_Law_look_12, x_Law_look_13, jm_ia, jm_na, jm_qa, jm_aa, jm_asg, jm_l4, jm_Kr, jm_okv, jm_rc, jm_bo, true_and, and_true, Nat.add_zero, Nat.le_refl, j_lt, j_le, j_eq, j_lt0, j_0lt, j_le0, j_0le, j_eq0, j_add, j_sub, j_mul, j_neg, j_0sub, j_nat, j_in, j_div, j_rem, Sum.inl.injEq, exists_eq', true_or, or_true, if_true, if_false, not_true_eq_false, not_false_eq_true, implies_true, j_eq1, reduceIte, Nat.reduceEqDiff, Int.reduceEq, Int.reduceToNat, Nat.reduceAdd, Int.reduceAdd, Int.reduceSub, Int.reduceMul, Int.reduceNeg, and_false, false_and, and_self, u2r, j_b0, j_b1, Classical.not_not, eq_self, true_implies, false_implies, not_true_eq_false, not_false_eq_true, Int.reduceLT, Int.reduceLE]
  refine Or.inr ⟨ac, [.inl (Int32.ofInt c), .inl (Int32.ofInt w)], [.inl (Int32.ofInt 0), .inr (.inl (some (ac + 96)))], 1, 9, by decide, rfl, rfl, rfl, k7, trivial, by decide, by decide, x_look1 B l (mo h (ac + 65) σ) ac κ μ H hB c w ca cb wa wb hx hl0, fun q n hn => ⟨18, ?_⟩⟩
  simp (disch := omega) only [x_Law_look_0, x_Law_look_1, x_Law_look_2, x_Law_look_3, x_Law_look_4, z_Law_look_5, x_Law_look_5, x_Law_look_6, x_Law_look_7, x_Law_look_8, x_Law_look_9, x_Law_look_10, x_Law_look_11, x_Law_look_12, x_Law_look_13, jm_ia, jm_na, jm_qa, jm_aa, jm_asg, jm_l4, jm_Kr, jm_okv, jm_rc, jm_bo, true_and, and_true, Nat.add_zero, Nat.le_refl, j_lt, j_le, j_eq, j_lt0, j_0lt, j_le0, j_0le, j_eq0, j_add, j_sub, j_mul, j_neg, j_0sub, j_nat, j_in, j_div, j_rem, Sum.inl.injEq, exists_eq', true_or, or_true, if_true, if_false, not_true_eq_false, not_false_eq_true, implies_true, j_eq1, reduceIte, Nat.reduceEqDiff, Int.reduceEq, Int.reduceToNat, Nat.reduceAdd, Int.reduceAdd, Int.reduceSub, Int.reduceMul, Int.reduceNeg, and_false, false_and, and_self, u2r, j_b0, j_b1, Classical.not_not, eq_self, true_implies, false_implies, not_true_eq_false, not_false_eq_true, Int.reduceLT, Int.reduceLE]
  repeat' first
    | apply And.intro
    | (intro _)
  all_goals first
    | contradiction
    | exact trivial
    | rfl
    | omega
    | exact (bi1 (by omega)).symm
    | exact (bi0 (by omega)).symm
    | exact (bi1 (by assumption)).symm
    | exact (bi0 (by assumption)).symm
    | exact PH_x hL (by decide) hsp hn
    | exact ⟨_, rfl⟩
    | ((try unfold IN_); (repeat (first | rw [if_pos (by omega)] | rw [if_neg (by omega)])); done)
    | ((try unfold IN_); (repeat (first | rw [if_pos (by omega)] | rw [if_neg (by omega)])); rfl)
    | ((try unfold IN_); (repeat (first | rw [if_pos (by omega)] | rw [if_neg (by omega)] | rw [if_pos (by assumption)] | rw [if_neg (by assumption)])); rfl)
set_option maxRecDepth 100000 in
set_option maxHeartbeats 4000000 in
theorem H_pair00 (B : jm_B) (l : Launch) (h : jm_H) (ac : Nat) (κ : S_) (μ : M_) (u : Nat → Nat) (ids adr : Nat → Nat → Nat) (T : Int) (σ : S_) (hL : LSt B ac h κ μ u ids adr T σ) (hT : T ≤ 511) (hl0 : l.stackTraces = false) (p : Int) (hp0 : 0 ≤ p) (hp1 : p ≤ 2) : jm_Cw B l (gm 113) (hhs 0 10 13 none) [.inr (.inl (some (ac))), .inl (Int32.ofInt p), .inl (Int32.ofInt 0), .inr (.inl (some (ac + 96)))] (cs (mo h (ac + 65) σ) ac (CN κ) μ) (fun v h' => PH B ac h T σ (jm_u2 σ 0 0 (if (0 ≤ p ∧ p ≤ 2) ∧ (0 ≤ (0 : Int) ∧ (0 : Int) ≤ 4) then 0 else 1)) (some (if (0 ≤ p ∧ p ≤ 2) ∧ (0 ≤ (0 : Int) ∧ (0 : Int) ≤ 4) then (if (0 : Int) = 0 then σ 16 p.toNat else if (0 : Int) = 1 then σ 20 p.toNat else if (0 : Int) = 2 then σ 0 1 - σ 19 p.toNat else if inS σ p ((0 : Int) - 3) then 1 else 0) else 0)) v h') := by
  have H := RC_mo hL.1.1 σ
  have hB := hL.2.1.1.1
  have hS := hL.2.1.1.2.1
  have b01 : 0 ≤ κ 0 1 ∧ κ 0 1 ≤ 600000 := hB 0 1
  have k7 : jm_k (cs (mo h (ac + 65) σ) ac (CN κ) μ) ac = some (.inl 7) := ck0 H
  have k96 : jm_k h (ac + 96) = some (.inr (2, 1)) := hL.1.2.2.2.1
  have kmo : ∀ h1 a, jm_k (mo h1 (ac + 65) σ) a = jm_k h1 a := fun _ _ => rfl
  have hw : (if (0 ≤ p ∧ p ≤ 2) ∧ (0 ≤ (0 : Int) ∧ (0 : Int) ≤ 4) then (if (0 : Int) = 0 then σ 16 p.toNat else if (0 : Int) = 1 then σ 20 p.toNat else if (0 : Int) = 2 then σ 0 1 - σ 19 p.toNat else if inS σ p ((0 : Int) - 3) then 1 else 0) else 0) = κ 16 p.toNat := by rw [if_pos ⟨⟨hp0, hp1⟩, by omega⟩]; exact (hL.2.2.1 16 p.toNat (by omega) (by omega)).symm
  have hs0 : jm_u2 σ 0 0 (if (0 ≤ p ∧ p ≤ 2) ∧ (0 ≤ (0 : Int) ∧ (0 : Int) ≤ 4) then 0 else 1) = jm_u2 σ 0 0 0 := by rw [if_pos ⟨⟨hp0, hp1⟩, by omega⟩]
  have hf0 : PH B ac h T σ (jm_u2 σ 0 0 (if (0 ≤ p ∧ p ≤ 2) ∧ (0 ≤ (0 : Int) ∧ (0 : Int) ≤ 4) then 0 else 1)) (some (if (0 ≤ p ∧ p ≤ 2) ∧ (0 ≤ (0 : Int) ∧ (0 : Int) ≤ 4) then (if (0 : Int) = 0 then σ 16 p.toNat else if (0 : Int) = 1 then σ 20 p.toNat else if (0 : Int) = 2 then σ 0 1 - σ 19 p.toNat else if inS σ p ((0 : Int) - 3) then 1 else 0) else 0)) (.inl (Int32.ofInt 0)) (jm_sl (cs (mo h (ac + 65) σ) ac (CN κ) μ) (ac + 96) 0 (Int32.ofInt (κ 16 p.toNat)).toInt64) := by
    rw [hs0, hw]
    exact PH_1 (LSt_k hL 0) (u2p ⟨rfl, rfl⟩) _
  clear hw hs0
  generalize (if (0 ≤ p ∧ p ≤ 2) ∧ (0 ≤ (0 : Int) ∧ (0 : Int) ≤ 4) then (if (0 : Int) = 0 then σ 16 p.toNat else if (0 : Int) = 1 then σ 20 p.toNat else if (0 : Int) = 2 then σ 0 1 - σ 19 p.toNat else if inS σ p ((0 : Int) - 3) then 1 else 0) else 0) = w9 at hf0 ⊢
  generalize jm_u2 σ 0 0 (if (0 ≤ p ∧ p ≤ 2) ∧ (0 ≤ (0 : Int) ∧ (0 : Int) ≤ 4) then 0 else 1) = σ9 at hf0 ⊢
  have hfin := hf0
  show jm_Cw B l M_Law_pair _ _ _ _
  refine jm_CW (code := t_Law_pair) (pcC := 5) (jC := 5) (mi := 56) (na := 3) (rc := 1) (mc := 1) (ms := 6) (jh := (fun k => if k = 1 then some 9 else none)) rfl rfl (by decide) w_Law_pair rfl (Nat.le_of_ble_eq_true rfl) [some (.inr (.inl (some (ac)))), some (.inl (Int32.ofInt p)), some (.inl (Int32.ofInt 0)), some (.inr (.inl (some (ac + 96)))), none] rfl rfl rfl (by decide) (fun j hj => by cases Option.some.inj (show some 9 = some j from hj); exact ⟨_, _, rfl, rfl, rfl⟩) (fun j hj => by exact absurd (show none = some j from hj) (by intro q; cases q)) ⟨18, ?_⟩
  simp (disch := omega) only [x_Law_pair_0, x_Law_pair_1, x_Law_pair_2, x_Law_pair_3, x_Law_pair_4, z_Law_pair_5, x_Law_pair_5, x_Law_pair_6, x_Law_pair_7, x_Law_pair_8, x_Law_pair_9, x_Law_pair_10, x_Law_pair_11, x_Law_pair_12, x_Law_pair_13, jm_ia, jm_na, jm_qa, jm_aa, jm_asg, jm_l4, jm_Kr, jm_okv, jm_rc, jm_bo, true_and, and_true, Nat.add_zero, Nat.le_refl, j_lt, j_le, j_eq, j_lt0, j_0lt, j_le0, j_0le, j_eq0, j_add, j_sub, j_mul, j_neg, j_0sub, j_nat, j_in, j_div, j_rem, Sum.inl.injEq, exists_eq', true_or, or_true, if_true, if_false, not_true_eq_false, not_false_eq_true, implies_true, j_eq1, reduceIte, Nat.reduceEqDiff, Int.reduceEq, Int.reduceToNat, Nat.reduceAdd, Int.reduceAdd, Int.reduceSub, Int.reduceMul, Int.reduceNeg, and_false, false_and, and_self, u2r, j_b0, j_b1, Classical.not_not, eq_self, true_implies, false_implies, not_true_eq_false, not_false_eq_true, Int.reduceLT, Int.reduceLE, k7, ck, kmo, k96]
  refine Or.inl ⟨18, ?_⟩
  simp (disch := omega) only [x_Law_pair_0, x_Law_pair_1, x_Law_pair_2, x_Law_pair_3, x_Law_pair_4, z_Law_pair_5, x_Law_pair_5, x_Law_pair_6, x_Law_pair_7, x_Law_pair_8, x_Law_pair_9, x_Law_pair_10, x_Law_pair_11, x_Law_pair_12, x_Law_pair_13, jm_ia, jm_na, jm_qa, jm_aa, jm_asg, jm_l4, jm_Kr, jm_okv, jm_rc, jm_bo, true_and, and_true, Nat.add_zero, Nat.le_refl, j_lt, j_le, j_eq, j_lt0, j_0lt, j_le0, j_0le, j_eq0, j_add, j_sub, j_mul, j_neg, j_0sub, j_nat, j_in, j_div, j_rem, Sum.inl.injEq, exists_eq', true_or, or_true, if_true, if_false, not_true_eq_false, not_false_eq_true, implies_true, j_eq1, reduceIte, Nat.reduceEqDiff, Int.reduceEq, Int.reduceToNat, Nat.reduceAdd, Int.reduceAdd, Int.reduceSub, Int.reduceMul, Int.reduceNeg, and_false, false_and, and_self, u2r, j_b0, j_b1, Classical.not_not, eq_self, true_implies, false_implies, not_true_eq_false, not_false_eq_true, Int.reduceLT, Int.reduceLE, k7, ck, kmo, k96]
  repeat' first
    | apply And.intro
    | (intro _)
    | (refine ⟨_, p_pair0 B l (mo h (ac + 65) σ) ac κ μ H hB p hp0 hp1, ?_⟩; rintro y h' ⟨rfl, hy⟩; cases hy; try simp (disch := omega) only [x_Law_pair_0, x_Law_pair_1, x_Law_pair_2, x_Law_pair_3, x_Law_pair_4, z_Law_pair_5, x_Law_pair_5, x_Law_pair_6, x_Law_pair_7, x_Law_pair_8, x_Law_pair_9, x_Law_pair_10, x_Law_pair_11, x_Law_pair_12, x_Law_pair_13, jm_ia, jm_na, jm_qa, jm_aa, jm_asg, jm_l4, jm_Kr, jm_okv, jm_rc, jm_bo, true_and, and_true, Nat.add_zero, Nat.le_refl, j_lt, j_le, j_eq, j_lt0, j_0lt, j_le0, j_0le, j_eq0, j_add, j_sub, j_mul, j_neg, j_0sub, j_nat, j_in, j_div, j_rem, Sum.inl.injEq, exists_eq', true_or, or_true, if_true, if_false, not_true_eq_false, not_false_eq_true, implies_true, j_eq1, reduceIte, Nat.reduceEqDiff, Int.reduceEq, Int.reduceToNat, Nat.reduceAdd, Int.reduceAdd, Int.reduceSub, Int.reduceMul, Int.reduceNeg, and_false, false_and, and_self, u2r, j_b0, j_b1, Classical.not_not, eq_self, true_implies, false_implies, not_true_eq_false, not_false_eq_true, Int.reduceLT, Int.reduceLE, k7, ck, kmo, k96])
  all_goals first
    | contradiction
    | exact trivial
    | rfl
    | omega
    | exact (bi1 (by omega)).symm
    | exact (bi0 (by omega)).symm
    | exact (bi1 (by assumption)).symm
    | exact (bi0 (by assumption)).symm
    | exact hfin
    | exact ⟨_, rfl⟩
    | ((try unfold IN_); (repeat (first | rw [if_pos (by omega)] | rw [if_neg (by omega)])); done)
    | ((try unfold IN_); (repeat (first | rw [if_pos (by omega)] | rw [if_neg (by omega)])); rfl)
    | ((try unfold IN_); (repeat (first | rw [if_pos (by omega)] | rw [if_neg (by omega)] | rw [if_pos (by assumption)] | rw [if_neg (by assumption)])); rfl)
set_option maxRecDepth 100000 in
set_option maxHeartbeats 4000000 in
theorem H_pair01 (B : jm_B) (l : Launch) (h : jm_H) (ac : Nat) (κ : S_) (μ : M_) (u : Nat → Nat) (ids adr : Nat → Nat → Nat) (T : Int) (σ : S_) (hL : LSt B ac h κ μ u ids adr T σ) (hT : T ≤ 511) (hl0 : l.stackTraces = false) (p : Int) (hp0 : 0 ≤ p) (hp1 : p ≤ 2) : jm_Cw B l (gm 113) (hhs 0 10 13 none) [.inr (.inl (some (ac))), .inl (Int32.ofInt p), .inl (Int32.ofInt 1), .inr (.inl (some (ac + 96)))] (cs (mo h (ac + 65) σ) ac (CN κ) μ) (fun v h' => PH B ac h T σ (jm_u2 σ 0 0 (if (0 ≤ p ∧ p ≤ 2) ∧ (0 ≤ (1 : Int) ∧ (1 : Int) ≤ 4) then 0 else 1)) (some (if (0 ≤ p ∧ p ≤ 2) ∧ (0 ≤ (1 : Int) ∧ (1 : Int) ≤ 4) then (if (1 : Int) = 0 then σ 16 p.toNat else if (1 : Int) = 1 then σ 20 p.toNat else if (1 : Int) = 2 then σ 0 1 - σ 19 p.toNat else if inS σ p ((1 : Int) - 3) then 1 else 0) else 0)) v h') := by
  have H := RC_mo hL.1.1 σ
  have hB := hL.2.1.1.1
  have hS := hL.2.1.1.2.1
  have b01 : 0 ≤ κ 0 1 ∧ κ 0 1 ≤ 600000 := hB 0 1
  have k7 : jm_k (cs (mo h (ac + 65) σ) ac (CN κ) μ) ac = some (.inl 7) := ck0 H
  have k96 : jm_k h (ac + 96) = some (.inr (2, 1)) := hL.1.2.2.2.1
  have kmo : ∀ h1 a, jm_k (mo h1 (ac + 65) σ) a = jm_k h1 a := fun _ _ => rfl
  have hw : (if (0 ≤ p ∧ p ≤ 2) ∧ (0 ≤ (1 : Int) ∧ (1 : Int) ≤ 4) then (if (1 : Int) = 0 then σ 16 p.toNat else if (1 : Int) = 1 then σ 20 p.toNat else if (1 : Int) = 2 then σ 0 1 - σ 19 p.toNat else if inS σ p ((1 : Int) - 3) then 1 else 0) else 0) = κ 20 p.toNat := by rw [if_pos ⟨⟨hp0, hp1⟩, by omega⟩]; exact (hL.2.2.1 20 p.toNat (by omega) (by omega)).symm
  have hs0 : jm_u2 σ 0 0 (if (0 ≤ p ∧ p ≤ 2) ∧ (0 ≤ (1 : Int) ∧ (1 : Int) ≤ 4) then 0 else 1) = jm_u2 σ 0 0 0 := by rw [if_pos ⟨⟨hp0, hp1⟩, by omega⟩]
  have hf0 : PH B ac h T σ (jm_u2 σ 0 0 (if (0 ≤ p ∧ p ≤ 2) ∧ (0 ≤ (1 : Int) ∧ (1 : Int) ≤ 4) then 0 else 1)) (some (if (0 ≤ p ∧ p ≤ 2) ∧ (0 ≤ (1 : Int) ∧ (1 : Int) ≤ 4) then (if (1 : Int) = 0 then σ 16 p.toNat else if (1 : Int) = 1 then σ 20 p.toNat else if (1 : Int) = 2 then σ 0 1 - σ 19 p.toNat else if inS σ p ((1 : Int) - 3) then 1 else 0) else 0)) (.inl (Int32.ofInt 0)) (jm_sl (cs (mo h (ac + 65) σ) ac (CN κ) μ) (ac + 96) 0 (Int32.ofInt (κ 20 p.toNat)).toInt64) := by
    rw [hs0, hw]
    exact PH_1 (LSt_k hL 0) (u2p ⟨rfl, rfl⟩) _
  clear hw hs0
  generalize (if (0 ≤ p ∧ p ≤ 2) ∧ (0 ≤ (1 : Int) ∧ (1 : Int) ≤ 4) then (if (1 : Int) = 0 then σ 16 p.toNat else if (1 : Int) = 1 then σ 20 p.toNat else if (1 : Int) = 2 then σ 0 1 - σ 19 p.toNat else if inS σ p ((1 : Int) - 3) then 1 else 0) else 0) = w9 at hf0 ⊢
  generalize jm_u2 σ 0 0 (if (0 ≤ p ∧ p ≤ 2) ∧ (0 ≤ (1 : Int) ∧ (1 : Int) ≤ 4) then 0 else 1) = σ9 at hf0 ⊢
  have hfin := hf0
  show jm_Cw B l M_Law_pair _ _ _ _
  refine jm_CW (code := t_Law_pair) (pcC := 5) (jC := 5) (mi := 56) (na := 3) (rc := 1) (mc := 1) (ms := 6) (jh := (fun k => if k = 1 then some 9 else none)) rfl rfl (by decide) w_Law_pair rfl (Nat.le_of_ble_eq_true rfl) [some (.inr (.inl (some (ac)))), some (.inl (Int32.ofInt p)), some (.inl (Int32.ofInt 1)), some (.inr (.inl (some (ac + 96)))), none] rfl rfl rfl (by decide) (fun j hj => by cases Option.some.inj (show some 9 = some j from hj); exact ⟨_, _, rfl, rfl, rfl⟩) (fun j hj => by exact absurd (show none = some j from hj) (by intro q; cases q)) ⟨18, ?_⟩
  simp (disch := omega) only [x_Law_pair_0, x_Law_pair_1, x_Law_pair_2, x_Law_pair_3, x_Law_pair_4, z_Law_pair_5, x_Law_pair_5, x_Law_pair_6, x_Law_pair_7, x_Law_pair_8, x_Law_pair_9, x_Law_pair_10, x_Law_pair_11, x_Law_pair_12, x_Law_pair_13, jm_ia, jm_na, jm_qa, jm_aa, jm_asg, jm_l4, jm_Kr, jm_okv, jm_rc, jm_bo, true_and, and_true, Nat.add_zero, Nat.le_refl, j_lt, j_le, j_eq, j_lt0, j_0lt, j_le0, j_0le, j_eq0, j_add, j_sub, j_mul, j_neg, j_0sub, j_nat, j_in, j_div, j_rem, Sum.inl.injEq, exists_eq', true_or, or_true, if_true, if_false, not_true_eq_false, not_false_eq_true, implies_true, j_eq1, reduceIte, Nat.reduceEqDiff, Int.reduceEq, Int.reduceToNat, Nat.reduceAdd, Int.reduceAdd, Int.reduceSub, Int.reduceMul, Int.reduceNeg, and_false, false_and, and_self, u2r, j_b0, j_b1, Classical.not_not, eq_self, true_implies, false_implies, not_true_eq_false, not_false_eq_true, Int.reduceLT, Int.reduceLE, k7, ck, kmo, k96]
  refine Or.inl ⟨18, ?_⟩
  simp (disch := omega) only [x_Law_pair_0, x_Law_pair_1, x_Law_pair_2, x_Law_pair_3, x_Law_pair_4, z_Law_pair_5, x_Law_pair_5, x_Law_pair_6, x_Law_pair_7, x_Law_pair_8, x_Law_pair_9, x_Law_pair_10, x_Law_pair_11, x_Law_pair_12, x_Law_pair_13, jm_ia, jm_na, jm_qa, jm_aa, jm_asg, jm_l4, jm_Kr, jm_okv, jm_rc, jm_bo, true_and, and_true, Nat.add_zero, Nat.le_refl, j_lt, j_le, j_eq, j_lt0, j_0lt, j_le0, j_0le, j_eq0, j_add, j_sub, j_mul, j_neg, j_0sub, j_nat, j_in, j_div, j_rem, Sum.inl.injEq, exists_eq', true_or, or_true, if_true, if_false, not_true_eq_false, not_false_eq_true, implies_true, j_eq1, reduceIte, Nat.reduceEqDiff, Int.reduceEq, Int.reduceToNat, Nat.reduceAdd, Int.reduceAdd, Int.reduceSub, Int.reduceMul, Int.reduceNeg, and_false, false_and, and_self, u2r, j_b0, j_b1, Classical.not_not, eq_self, true_implies, false_implies, not_true_eq_false, not_false_eq_true, Int.reduceLT, Int.reduceLE, k7, ck, kmo, k96]
  repeat' first
    | apply And.intro
    | (intro _)
    | (refine ⟨_, p_pair1 B l (mo h (ac + 65) σ) ac κ μ H hB p hp0 hp1, ?_⟩; rintro y h' ⟨rfl, hy⟩; cases hy; try simp (disch := omega) only [x_Law_pair_0, x_Law_pair_1, x_Law_pair_2, x_Law_pair_3, x_Law_pair_4, z_Law_pair_5, x_Law_pair_5, x_Law_pair_6, x_Law_pair_7, x_Law_pair_8, x_Law_pair_9, x_Law_pair_10, x_Law_pair_11, x_Law_pair_12, x_Law_pair_13, jm_ia, jm_na, jm_qa, jm_aa, jm_asg, jm_l4, jm_Kr, jm_okv, jm_rc, jm_bo, true_and, and_true, Nat.add_zero, Nat.le_refl, j_lt, j_le, j_eq, j_lt0, j_0lt, j_le0, j_0le, j_eq0, j_add, j_sub, j_mul, j_neg, j_0sub, j_nat, j_in, j_div, j_rem, Sum.inl.injEq, exists_eq', true_or, or_true, if_true, if_false, not_true_eq_false, not_false_eq_true, implies_true, j_eq1, reduceIte, Nat.reduceEqDiff, Int.reduceEq, Int.reduceToNat, Nat.reduceAdd, Int.reduceAdd, Int.reduceSub, Int.reduceMul, Int.reduceNeg, and_false, false_and, and_self, u2r, j_b0, j_b1, Classical.not_not, eq_self, true_implies, false_implies, not_true_eq_false, not_false_eq_true, Int.reduceLT, Int.reduceLE, k7, ck, kmo, k96])
  all_goals first
    | contradiction
    | exact trivial
    | rfl
    | omega
    | exact (bi1 (by omega)).symm
    | exact (bi0 (by omega)).symm
    | exact (bi1 (by assumption)).symm
    | exact (bi0 (by assumption)).symm
    | exact hfin
    | exact ⟨_, rfl⟩
    | ((try unfold IN_); (repeat (first | rw [if_pos (by omega)] | rw [if_neg (by omega)])); done)
    | ((try unfold IN_); (repeat (first | rw [if_pos (by omega)] | rw [if_neg (by omega)])); rfl)
    | ((try unfold IN_); (repeat (first | rw [if_pos (by omega)] | rw [if_neg (by omega)] | rw [if_pos (by assumption)] | rw [if_neg (by assumption)])); rfl)
set_option maxRecDepth 100000 in
set_option maxHeartbeats 4000000 in
theorem H_pair02 (B : jm_B) (l : Launch) (h : jm_H) (ac : Nat) (κ : S_) (μ : M_) (u : Nat → Nat) (ids adr : Nat → Nat → Nat) (T : Int) (σ : S_) (hL : LSt B ac h κ μ u ids adr T σ) (hT : T ≤ 511) (hl0 : l.stackTraces = false) (p : Int) (hp0 : 0 ≤ p) (hp1 : p ≤ 2) : jm_Cw B l (gm 113) (hhs 0 10 13 none) [.inr (.inl (some (ac))), .inl (Int32.ofInt p), .inl (Int32.ofInt 2), .inr (.inl (some (ac + 96)))] (cs (mo h (ac + 65) σ) ac (CN κ) μ) (fun v h' => PH B ac h T σ (jm_u2 σ 0 0 (if (0 ≤ p ∧ p ≤ 2) ∧ (0 ≤ (2 : Int) ∧ (2 : Int) ≤ 4) then 0 else 1)) (some (if (0 ≤ p ∧ p ≤ 2) ∧ (0 ≤ (2 : Int) ∧ (2 : Int) ≤ 4) then (if (2 : Int) = 0 then σ 16 p.toNat else if (2 : Int) = 1 then σ 20 p.toNat else if (2 : Int) = 2 then σ 0 1 - σ 19 p.toNat else if inS σ p ((2 : Int) - 3) then 1 else 0) else 0)) v h') := by
  have H := RC_mo hL.1.1 σ
  have hB := hL.2.1.1.1
  have hS := hL.2.1.1.2.1
  have b01 : 0 ≤ κ 0 1 ∧ κ 0 1 ≤ 600000 := hB 0 1
  have k7 : jm_k (cs (mo h (ac + 65) σ) ac (CN κ) μ) ac = some (.inl 7) := ck0 H
  have k96 : jm_k h (ac + 96) = some (.inr (2, 1)) := hL.1.2.2.2.1
  have kmo : ∀ h1 a, jm_k (mo h1 (ac + 65) σ) a = jm_k h1 a := fun _ _ => rfl
  have hw : (if (0 ≤ p ∧ p ≤ 2) ∧ (0 ≤ (2 : Int) ∧ (2 : Int) ≤ 4) then (if (2 : Int) = 0 then σ 16 p.toNat else if (2 : Int) = 1 then σ 20 p.toNat else if (2 : Int) = 2 then σ 0 1 - σ 19 p.toNat else if inS σ p ((2 : Int) - 3) then 1 else 0) else 0) = κ 0 1 - κ 19 p.toNat := by rw [if_pos ⟨⟨hp0, hp1⟩, by omega⟩]; rw [hL.2.2.1 0 1 (by omega) (by omega), hL.2.2.1 19 p.toNat (by omega) (by omega)]; rfl
  have hs0 : jm_u2 σ 0 0 (if (0 ≤ p ∧ p ≤ 2) ∧ (0 ≤ (2 : Int) ∧ (2 : Int) ≤ 4) then 0 else 1) = jm_u2 σ 0 0 0 := by rw [if_pos ⟨⟨hp0, hp1⟩, by omega⟩]
  have hf0 : PH B ac h T σ (jm_u2 σ 0 0 (if (0 ≤ p ∧ p ≤ 2) ∧ (0 ≤ (2 : Int) ∧ (2 : Int) ≤ 4) then 0 else 1)) (some (if (0 ≤ p ∧ p ≤ 2) ∧ (0 ≤ (2 : Int) ∧ (2 : Int) ≤ 4) then (if (2 : Int) = 0 then σ 16 p.toNat else if (2 : Int) = 1 then σ 20 p.toNat else if (2 : Int) = 2 then σ 0 1 - σ 19 p.toNat else if inS σ p ((2 : Int) - 3) then 1 else 0) else 0)) (.inl (Int32.ofInt 0)) (jm_sl (cs (mo h (ac + 65) σ) ac (CN κ) μ) (ac + 96) 0 (Int32.ofInt (κ 0 1 - κ 19 p.toNat)).toInt64) := by
    rw [hs0, hw]
    exact PH_1 (LSt_k hL 0) (u2p ⟨rfl, rfl⟩) _
  clear hw hs0
  generalize (if (0 ≤ p ∧ p ≤ 2) ∧ (0 ≤ (2 : Int) ∧ (2 : Int) ≤ 4) then (if (2 : Int) = 0 then σ 16 p.toNat else if (2 : Int) = 1 then σ 20 p.toNat else if (2 : Int) = 2 then σ 0 1 - σ 19 p.toNat else if inS σ p ((2 : Int) - 3) then 1 else 0) else 0) = w9 at hf0 ⊢
  generalize jm_u2 σ 0 0 (if (0 ≤ p ∧ p ≤ 2) ∧ (0 ≤ (2 : Int) ∧ (2 : Int) ≤ 4) then 0 else 1) = σ9 at hf0 ⊢
  have hfin := hf0
  show jm_Cw B l M_Law_pair _ _ _ _
  refine jm_CW (code := t_Law_pair) (pcC := 5) (jC := 5) (mi := 56) (na := 3) (rc := 1) (mc := 1) (ms := 6) (jh := (fun k => if k = 1 then some 9 else none)) rfl rfl (by decide) w_Law_pair rfl (Nat.le_of_ble_eq_true rfl) [some (.inr (.inl (some (ac)))), some (.inl (Int32.ofInt p)), some (.inl (Int32.ofInt 2)), some (.inr (.inl (some (ac + 96)))), none] rfl rfl rfl (by decide) (fun j hj => by cases Option.some.inj (show some 9 = some j from hj); exact ⟨_, _, rfl, rfl, rfl⟩) (fun j hj => by exact absurd (show none = some j from hj) (by intro q; cases q)) ⟨18, ?_⟩
  simp (disch := omega) only [x_Law_pair_0, x_Law_pair_1, x_Law_pair_2, x_Law_pair_3, x_Law_pair_4, z_Law_pair_5, x_Law_pair_5, x_Law_pair_6, x_Law_pair_7, x_Law_pair_8, x_Law_pair_9, x_Law_pair_10, x_Law_pair_11, x_Law_pair_12, x_Law_pair_13, jm_ia, jm_na, jm_qa, jm_aa, jm_asg, jm_l4, jm_Kr, jm_okv, jm_rc, jm_bo, true_and, and_true, Nat.add_zero, Nat.le_refl, j_lt, j_le, j_eq, j_lt0, j_0lt, j_le0, j_0le, j_eq0, j_add, j_sub, j_mul, j_neg, j_0sub, j_nat, j_in, j_div, j_rem, Sum.inl.injEq, exists_eq', true_or, or_true, if_true, if_false, not_true_eq_false, not_false_eq_true, implies_true, j_eq1, reduceIte, Nat.reduceEqDiff, Int.reduceEq, Int.reduceToNat, Nat.reduceAdd, Int.reduceAdd, Int.reduceSub, Int.reduceMul, Int.reduceNeg, and_false, false_and, and_self, u2r, j_b0, j_b1, Classical.not_not, eq_self, true_implies, false_implies, not_true_eq_false, not_false_eq_true, Int.reduceLT, Int.reduceLE, k7, ck, kmo, k96]
  refine Or.inl ⟨18, ?_⟩
  simp (disch := omega) only [x_Law_pair_0, x_Law_pair_1, x_Law_pair_2, x_Law_pair_3, x_Law_pair_4, z_Law_pair_5, x_Law_pair_5, x_Law_pair_6, x_Law_pair_7, x_Law_pair_8, x_Law_pair_9, x_Law_pair_10, x_Law_pair_11, x_Law_pair_12, x_Law_pair_13, jm_ia, jm_na, jm_qa, jm_aa, jm_asg, jm_l4, jm_Kr, jm_okv, jm_rc, jm_bo, true_and, and_true, Nat.add_zero, Nat.le_refl, j_lt, j_le, j_eq, j_lt0, j_0lt, j_le0, j_0le, j_eq0, j_add, j_sub, j_mul, j_neg, j_0sub, j_nat, j_in, j_div, j_rem, Sum.inl.injEq, exists_eq', true_or, or_true, if_true, if_false, not_true_eq_false, not_false_eq_true, implies_true, j_eq1, reduceIte, Nat.reduceEqDiff, Int.reduceEq, Int.reduceToNat, Nat.reduceAdd, Int.reduceAdd, Int.reduceSub, Int.reduceMul, Int.reduceNeg, and_false, false_and, and_self, u2r, j_b0, j_b1, Classical.not_not, eq_self, true_implies, false_implies, not_true_eq_false, not_false_eq_true, Int.reduceLT, Int.reduceLE, k7, ck, kmo, k96]
  repeat' first
    | apply And.intro
    | (intro _)
    | (refine ⟨_, p_pair2 B l (mo h (ac + 65) σ) ac κ μ H hB p hp0 hp1, ?_⟩; rintro y h' ⟨rfl, hy⟩; cases hy; try simp (disch := omega) only [x_Law_pair_0, x_Law_pair_1, x_Law_pair_2, x_Law_pair_3, x_Law_pair_4, z_Law_pair_5, x_Law_pair_5, x_Law_pair_6, x_Law_pair_7, x_Law_pair_8, x_Law_pair_9, x_Law_pair_10, x_Law_pair_11, x_Law_pair_12, x_Law_pair_13, jm_ia, jm_na, jm_qa, jm_aa, jm_asg, jm_l4, jm_Kr, jm_okv, jm_rc, jm_bo, true_and, and_true, Nat.add_zero, Nat.le_refl, j_lt, j_le, j_eq, j_lt0, j_0lt, j_le0, j_0le, j_eq0, j_add, j_sub, j_mul, j_neg, j_0sub, j_nat, j_in, j_div, j_rem, Sum.inl.injEq, exists_eq', true_or, or_true, if_true, if_false, not_true_eq_false, not_false_eq_true, implies_true, j_eq1, reduceIte, Nat.reduceEqDiff, Int.reduceEq, Int.reduceToNat, Nat.reduceAdd, Int.reduceAdd, Int.reduceSub, Int.reduceMul, Int.reduceNeg, and_false, false_and, and_self, u2r, j_b0, j_b1, Classical.not_not, eq_self, true_implies, false_implies, not_true_eq_false, not_false_eq_true, Int.reduceLT, Int.reduceLE, k7, ck, kmo, k96])
  all_goals first
    | contradiction
    | exact trivial
    | rfl
    | omega
    | exact (bi1 (by omega)).symm
    | exact (bi0 (by omega)).symm
    | exact (bi1 (by assumption)).symm
    | exact (bi0 (by assumption)).symm
    | exact hfin
    | exact ⟨_, rfl⟩
    | ((try unfold IN_); (repeat (first | rw [if_pos (by omega)] | rw [if_neg (by omega)])); done)
    | ((try unfold IN_); (repeat (first | rw [if_pos (by omega)] | rw [if_neg (by omega)])); rfl)
    | ((try unfold IN_); (repeat (first | rw [if_pos (by omega)] | rw [if_neg (by omega)] | rw [if_pos (by assumption)] | rw [if_neg (by assumption)])); rfl)
set_option maxRecDepth 100000 in
set_option maxHeartbeats 4000000 in
theorem H_pair03 (B : jm_B) (l : Launch) (h : jm_H) (ac : Nat) (κ : S_) (μ : M_) (u : Nat → Nat) (ids adr : Nat → Nat → Nat) (T : Int) (σ : S_) (hL : LSt B ac h κ μ u ids adr T σ) (hT : T ≤ 511) (hl0 : l.stackTraces = false) (p : Int) (hp0 : 0 ≤ p) (hp1 : p ≤ 2) : jm_Cw B l (gm 113) (hhs 0 10 13 none) [.inr (.inl (some (ac))), .inl (Int32.ofInt p), .inl (Int32.ofInt 3), .inr (.inl (some (ac + 96)))] (cs (mo h (ac + 65) σ) ac (CN κ) μ) (fun v h' => PH B ac h T σ (jm_u2 σ 0 0 (if (0 ≤ p ∧ p ≤ 2) ∧ (0 ≤ (3 : Int) ∧ (3 : Int) ≤ 4) then 0 else 1)) (some (if (0 ≤ p ∧ p ≤ 2) ∧ (0 ≤ (3 : Int) ∧ (3 : Int) ≤ 4) then (if (3 : Int) = 0 then σ 16 p.toNat else if (3 : Int) = 1 then σ 20 p.toNat else if (3 : Int) = 2 then σ 0 1 - σ 19 p.toNat else if inS σ p ((3 : Int) - 3) then 1 else 0) else 0)) v h') := by
  have H := RC_mo hL.1.1 σ
  have hB := hL.2.1.1.1
  have hS := hL.2.1.1.2.1
  have b01 : 0 ≤ κ 0 1 ∧ κ 0 1 ≤ 600000 := hB 0 1
  have k7 : jm_k (cs (mo h (ac + 65) σ) ac (CN κ) μ) ac = some (.inl 7) := ck0 H
  have k96 : jm_k h (ac + 96) = some (.inr (2, 1)) := hL.1.2.2.2.1
  have kmo : ∀ h1 a, jm_k (mo h1 (ac + 65) σ) a = jm_k h1 a := fun _ _ => rfl
  obtain ⟨w1, hw1⟩ := flg_ex (IN_ (κ 1 (KP p.toNat).toNat) (κ 14 (2 * p.toNat)) (κ 15 (2 * p.toNat)))
  have hin : inS σ p 0 ↔ IN_ (κ 1 (KP p.toNat).toNat) (κ 14 (2 * p.toNat)) (κ 15 (2 * p.toNat)) := by
    have ec : (crk p 0).toNat = (KP p.toNat).toNat := rfl
    unfold inS
    rw [ec, show (2 * p + 0).toNat = 2 * p.toNat by omega, ← hL.2.2.1 13 p.toNat (by omega) (by omega), ← hL.2.2.1 1 (KP p.toNat).toNat (by omega) (by omega), ← hL.2.2.1 14 (2 * p.toNat) (by omega) (by omega), ← hL.2.2.1 15 (2 * p.toNat) (by omega) (by omega)]
    constructor
    · exact fun q => q.2
    · intro q
      refine ⟨fun z => ?_, q⟩
      have z2 := (hL.2.1.2.2.1 p.toNat (by omega) z).1
      unfold IN_ at q
      rw [z2] at q
      have : 0 ≤ (κ 1 (KP p.toNat).toNat - κ 14 (2 * p.toNat) + 3600) % 3600 := Int.emod_nonneg _ (by decide)
      omega
  have hw : (if (0 ≤ p ∧ p ≤ 2) ∧ (0 ≤ (3 : Int) ∧ (3 : Int) ≤ 4) then (if (3 : Int) = 0 then σ 16 p.toNat else if (3 : Int) = 1 then σ 20 p.toNat else if (3 : Int) = 2 then σ 0 1 - σ 19 p.toNat else if inS σ p ((3 : Int) - 3) then 1 else 0) else 0) = w1 := by rw [if_pos ⟨⟨hp0, hp1⟩, by omega⟩]; show (if inS σ p (3 - 3) then (1 : Int) else 0) = w1; exact flg_i (P := inS σ p 0) (by rcases hw1 with ⟨a, b⟩ | ⟨a, b⟩; exact Or.inl ⟨a, hin.mpr b⟩; exact Or.inr ⟨a, fun x => b (hin.mp x)⟩)
  have hs0 : jm_u2 σ 0 0 (if (0 ≤ p ∧ p ≤ 2) ∧ (0 ≤ (3 : Int) ∧ (3 : Int) ≤ 4) then 0 else 1) = jm_u2 σ 0 0 0 := by rw [if_pos ⟨⟨hp0, hp1⟩, by omega⟩]
  have hf0 : PH B ac h T σ (jm_u2 σ 0 0 (if (0 ≤ p ∧ p ≤ 2) ∧ (0 ≤ (3 : Int) ∧ (3 : Int) ≤ 4) then 0 else 1)) (some (if (0 ≤ p ∧ p ≤ 2) ∧ (0 ≤ (3 : Int) ∧ (3 : Int) ≤ 4) then (if (3 : Int) = 0 then σ 16 p.toNat else if (3 : Int) = 1 then σ 20 p.toNat else if (3 : Int) = 2 then σ 0 1 - σ 19 p.toNat else if inS σ p ((3 : Int) - 3) then 1 else 0) else 0)) (.inl (Int32.ofInt 0)) (jm_sl (cs (mo h (ac + 65) σ) ac (CN κ) μ) (ac + 96) 0 (Int32.ofInt (w1)).toInt64) := by
    rw [hs0, hw]
    exact PH_1 (LSt_k hL 0) (u2p ⟨rfl, rfl⟩) _
  clear hw hs0
  generalize (if (0 ≤ p ∧ p ≤ 2) ∧ (0 ≤ (3 : Int) ∧ (3 : Int) ≤ 4) then (if (3 : Int) = 0 then σ 16 p.toNat else if (3 : Int) = 1 then σ 20 p.toNat else if (3 : Int) = 2 then σ 0 1 - σ 19 p.toNat else if inS σ p ((3 : Int) - 3) then 1 else 0) else 0) = w9 at hf0 ⊢
  generalize jm_u2 σ 0 0 (if (0 ≤ p ∧ p ≤ 2) ∧ (0 ≤ (3 : Int) ∧ (3 : Int) ≤ 4) then 0 else 1) = σ9 at hf0 ⊢
  have hfin := hf0
  show jm_Cw B l M_Law_pair _ _ _ _
  refine jm_CW (code := t_Law_pair) (pcC := 5) (jC := 5) (mi := 56) (na := 3) (rc := 1) (mc := 1) (ms := 6) (jh := (fun k => if k = 1 then some 9 else none)) rfl rfl (by decide) w_Law_pair rfl (Nat.le_of_ble_eq_true rfl) [some (.inr (.inl (some (ac)))), some (.inl (Int32.ofInt p)), some (.inl (Int32.ofInt 3)), some (.inr (.inl (some (ac + 96)))), none] rfl rfl rfl (by decide) (fun j hj => by cases Option.some.inj (show some 9 = some j from hj); exact ⟨_, _, rfl, rfl, rfl⟩) (fun j hj => by exact absurd (show none = some j from hj) (by intro q; cases q)) ⟨18, ?_⟩
  simp (disch := omega) only [x_Law_pair_0, x_Law_pair_1, x_Law_pair_2, x_Law_pair_3, x_Law_pair_4, z_Law_pair_5, x_Law_pair_5, x_Law_pair_6, x_Law_pair_7, x_Law_pair_8, x_Law_pair_9, x_Law_pair_10, x_Law_pair_11, x_Law_pair_12, x_Law_pair_13, jm_ia, jm_na, jm_qa, jm_aa, jm_asg, jm_l4, jm_Kr, jm_okv, jm_rc, jm_bo, true_and, and_true, Nat.add_zero, Nat.le_refl, j_lt, j_le, j_eq, j_lt0, j_0lt, j_le0, j_0le, j_eq0, j_add, j_sub, j_mul, j_neg, j_0sub, j_nat, j_in, j_div, j_rem, Sum.inl.injEq, exists_eq', true_or, or_true, if_true, if_false, not_true_eq_false, not_false_eq_true, implies_true, j_eq1, reduceIte, Nat.reduceEqDiff, Int.reduceEq, Int.reduceToNat, Nat.reduceAdd, Int.reduceAdd, Int.reduceSub, Int.reduceMul, Int.reduceNeg, and_false, false_and, and_self, u2r, j_b0, j_b1, Classical.not_not, eq_self, true_implies, false_implies, not_true_eq_false, not_false_eq_true, Int.reduceLT, Int.reduceLE, k7, ck, kmo, k96]
  refine Or.inl ⟨18, ?_⟩
  simp (disch := omega) only [x_Law_pair_0, x_Law_pair_1, x_Law_pair_2, x_Law_pair_3, x_Law_pair_4, z_Law_pair_5, x_Law_pair_5, x_Law_pair_6, x_Law_pair_7, x_Law_pair_8, x_Law_pair_9, x_Law_pair_10, x_Law_pair_11, x_Law_pair_12, x_Law_pair_13, jm_ia, jm_na, jm_qa, jm_aa, jm_asg, jm_l4, jm_Kr, jm_okv, jm_rc, jm_bo, true_and, and_true, Nat.add_zero, Nat.le_refl, j_lt, j_le, j_eq, j_lt0, j_0lt, j_le0, j_0le, j_eq0, j_add, j_sub, j_mul, j_neg, j_0sub, j_nat, j_in, j_div, j_rem, Sum.inl.injEq, exists_eq', true_or, or_true, if_true, if_false, not_true_eq_false, not_false_eq_true, implies_true, j_eq1, reduceIte, Nat.reduceEqDiff, Int.reduceEq, Int.reduceToNat, Nat.reduceAdd, Int.reduceAdd, Int.reduceSub, Int.reduceMul, Int.reduceNeg, and_false, false_and, and_self, u2r, j_b0, j_b1, Classical.not_not, eq_self, true_implies, false_implies, not_true_eq_false, not_false_eq_true, Int.reduceLT, Int.reduceLE, k7, ck, kmo, k96]
  repeat' first
    | apply And.intro
    | (intro _)
    | (refine ⟨_, p_pair3 B l (mo h (ac + 65) σ) ac κ μ H hB p hp0 hp1 hw1, ?_⟩; rintro y h' ⟨rfl, hy⟩; cases hy; try simp (disch := omega) only [x_Law_pair_0, x_Law_pair_1, x_Law_pair_2, x_Law_pair_3, x_Law_pair_4, z_Law_pair_5, x_Law_pair_5, x_Law_pair_6, x_Law_pair_7, x_Law_pair_8, x_Law_pair_9, x_Law_pair_10, x_Law_pair_11, x_Law_pair_12, x_Law_pair_13, jm_ia, jm_na, jm_qa, jm_aa, jm_asg, jm_l4, jm_Kr, jm_okv, jm_rc, jm_bo, true_and, and_true, Nat.add_zero, Nat.le_refl, j_lt, j_le, j_eq, j_lt0, j_0lt, j_le0, j_0le, j_eq0, j_add, j_sub, j_mul, j_neg, j_0sub, j_nat, j_in, j_div, j_rem, Sum.inl.injEq, exists_eq', true_or, or_true, if_true, if_false, not_true_eq_false, not_false_eq_true, implies_true, j_eq1, reduceIte, Nat.reduceEqDiff, Int.reduceEq, Int.reduceToNat, Nat.reduceAdd, Int.reduceAdd, Int.reduceSub, Int.reduceMul, Int.reduceNeg, and_false, false_and, and_self, u2r, j_b0, j_b1, Classical.not_not, eq_self, true_implies, false_implies, not_true_eq_false, not_false_eq_true, Int.reduceLT, Int.reduceLE, k7, ck, kmo, k96])
  all_goals first
    | contradiction
    | exact trivial
    | rfl
    | omega
    | exact (bi1 (by omega)).symm
    | exact (bi0 (by omega)).symm
    | exact (bi1 (by assumption)).symm
    | exact (bi0 (by assumption)).symm
    | exact hfin
    | exact ⟨_, rfl⟩
    | ((try unfold IN_); (repeat (first | rw [if_pos (by omega)] | rw [if_neg (by omega)])); done)
    | ((try unfold IN_); (repeat (first | rw [if_pos (by omega)] | rw [if_neg (by omega)])); rfl)
    | ((try unfold IN_); (repeat (first | rw [if_pos (by omega)] | rw [if_neg (by omega)] | rw [if_pos (by assumption)] | rw [if_neg (by assumption)])); rfl)
set_option maxRecDepth 100000 in
set_option maxHeartbeats 4000000 in
theorem H_pair04 (B : jm_B) (l : Launch) (h : jm_H) (ac : Nat) (κ : S_) (μ : M_) (u : Nat → Nat) (ids adr : Nat → Nat → Nat) (T : Int) (σ : S_) (hL : LSt B ac h κ μ u ids adr T σ) (hT : T ≤ 511) (hl0 : l.stackTraces = false) (p : Int) (hp0 : 0 ≤ p) (hp1 : p ≤ 2) : jm_Cw B l (gm 113) (hhs 0 10 13 none) [.inr (.inl (some (ac))), .inl (Int32.ofInt p), .inl (Int32.ofInt 4), .inr (.inl (some (ac + 96)))] (cs (mo h (ac + 65) σ) ac (CN κ) μ) (fun v h' => PH B ac h T σ (jm_u2 σ 0 0 (if (0 ≤ p ∧ p ≤ 2) ∧ (0 ≤ (4 : Int) ∧ (4 : Int) ≤ 4) then 0 else 1)) (some (if (0 ≤ p ∧ p ≤ 2) ∧ (0 ≤ (4 : Int) ∧ (4 : Int) ≤ 4) then (if (4 : Int) = 0 then σ 16 p.toNat else if (4 : Int) = 1 then σ 20 p.toNat else if (4 : Int) = 2 then σ 0 1 - σ 19 p.toNat else if inS σ p ((4 : Int) - 3) then 1 else 0) else 0)) v h') := by
  have H := RC_mo hL.1.1 σ
  have hB := hL.2.1.1.1
  have hS := hL.2.1.1.2.1
  have b01 : 0 ≤ κ 0 1 ∧ κ 0 1 ≤ 600000 := hB 0 1
  have k7 : jm_k (cs (mo h (ac + 65) σ) ac (CN κ) μ) ac = some (.inl 7) := ck0 H
  have k96 : jm_k h (ac + 96) = some (.inr (2, 1)) := hL.1.2.2.2.1
  have kmo : ∀ h1 a, jm_k (mo h1 (ac + 65) σ) a = jm_k h1 a := fun _ _ => rfl
  obtain ⟨w1, hw1⟩ := flg_ex (IN_ (κ 1 (AS p.toNat).toNat) (κ 14 (2 * p.toNat + 1)) (κ 15 (2 * p.toNat + 1)))
  have hin : inS σ p 1 ↔ IN_ (κ 1 (AS p.toNat).toNat) (κ 14 (2 * p.toNat + 1)) (κ 15 (2 * p.toNat + 1)) := by
    have ec : (crk p 1).toNat = (AS p.toNat).toNat := rfl
    unfold inS
    rw [ec, show (2 * p + 1).toNat = 2 * p.toNat + 1 by omega, ← hL.2.2.1 13 p.toNat (by omega) (by omega), ← hL.2.2.1 1 (AS p.toNat).toNat (by omega) (by omega), ← hL.2.2.1 14 (2 * p.toNat + 1) (by omega) (by omega), ← hL.2.2.1 15 (2 * p.toNat + 1) (by omega) (by omega)]
    constructor
    · exact fun q => q.2
    · intro q
      refine ⟨fun z => ?_, q⟩
      have z2 := (hL.2.1.2.2.1 p.toNat (by omega) z).2
      unfold IN_ at q
      rw [z2] at q
      have : 0 ≤ (κ 1 (AS p.toNat).toNat - κ 14 (2 * p.toNat + 1) + 3600) % 3600 := Int.emod_nonneg _ (by decide)
      omega
  have hw : (if (0 ≤ p ∧ p ≤ 2) ∧ (0 ≤ (4 : Int) ∧ (4 : Int) ≤ 4) then (if (4 : Int) = 0 then σ 16 p.toNat else if (4 : Int) = 1 then σ 20 p.toNat else if (4 : Int) = 2 then σ 0 1 - σ 19 p.toNat else if inS σ p ((4 : Int) - 3) then 1 else 0) else 0) = w1 := by rw [if_pos ⟨⟨hp0, hp1⟩, by omega⟩]; show (if inS σ p (4 - 3) then (1 : Int) else 0) = w1; exact flg_i (P := inS σ p 1) (by rcases hw1 with ⟨a, b⟩ | ⟨a, b⟩; exact Or.inl ⟨a, hin.mpr b⟩; exact Or.inr ⟨a, fun x => b (hin.mp x)⟩)
  have hs0 : jm_u2 σ 0 0 (if (0 ≤ p ∧ p ≤ 2) ∧ (0 ≤ (4 : Int) ∧ (4 : Int) ≤ 4) then 0 else 1) = jm_u2 σ 0 0 0 := by rw [if_pos ⟨⟨hp0, hp1⟩, by omega⟩]
  have hf0 : PH B ac h T σ (jm_u2 σ 0 0 (if (0 ≤ p ∧ p ≤ 2) ∧ (0 ≤ (4 : Int) ∧ (4 : Int) ≤ 4) then 0 else 1)) (some (if (0 ≤ p ∧ p ≤ 2) ∧ (0 ≤ (4 : Int) ∧ (4 : Int) ≤ 4) then (if (4 : Int) = 0 then σ 16 p.toNat else if (4 : Int) = 1 then σ 20 p.toNat else if (4 : Int) = 2 then σ 0 1 - σ 19 p.toNat else if inS σ p ((4 : Int) - 3) then 1 else 0) else 0)) (.inl (Int32.ofInt 0)) (jm_sl (cs (mo h (ac + 65) σ) ac (CN κ) μ) (ac + 96) 0 (Int32.ofInt (w1)).toInt64) := by
    rw [hs0, hw]
    exact PH_1 (LSt_k hL 0) (u2p ⟨rfl, rfl⟩) _
  clear hw hs0
  generalize (if (0 ≤ p ∧ p ≤ 2) ∧ (0 ≤ (4 : Int) ∧ (4 : Int) ≤ 4) then (if (4 : Int) = 0 then σ 16 p.toNat else if (4 : Int) = 1 then σ 20 p.toNat else if (4 : Int) = 2 then σ 0 1 - σ 19 p.toNat else if inS σ p ((4 : Int) - 3) then 1 else 0) else 0) = w9 at hf0 ⊢
  generalize jm_u2 σ 0 0 (if (0 ≤ p ∧ p ≤ 2) ∧ (0 ≤ (4 : Int) ∧ (4 : Int) ≤ 4) then 0 else 1) = σ9 at hf0 ⊢
  have hfin := hf0
  show jm_Cw B l M_Law_pair _ _ _ _
  refine jm_CW (code := t_Law_pair) (pcC := 5) (jC := 5) (mi := 56) (na := 3) (rc := 1) (mc := 1) (ms := 6) (jh := (fun k => if k = 1 then some 9 else none)) rfl rfl (by decide) w_Law_pair rfl (Nat.le_of_ble_eq_true rfl) [some (.inr (.inl (some (ac)))), some (.inl (Int32.ofInt p)), some (.inl (Int32.ofInt 4)), some (.inr (.inl (some (ac + 96)))), none] rfl rfl rfl (by decide) (fun j hj => by cases Option.some.inj (show some 9 = some j from hj); exact ⟨_, _, rfl, rfl, rfl⟩) (fun j hj => by exact absurd (show none = some j from hj) (by intro q; cases q)) ⟨18, ?_⟩
  simp (disch := omega) only [x_Law_pair_0, x_Law_pair_1, x_Law_pair_2, x_Law_pair_3, x_Law_pair_4, z_Law_pair_5, x_Law_pair_5, x_Law_pair_6, x_Law_pair_7, x_Law_pair_8, x_Law_pair_9, x_Law_pair_10, x_Law_pair_11, x_Law_pair_12, x_Law_pair_13, jm_ia, jm_na, jm_qa, jm_aa, jm_asg, jm_l4, jm_Kr, jm_okv, jm_rc, jm_bo, true_and, and_true, Nat.add_zero, Nat.le_refl, j_lt, j_le, j_eq, j_lt0, j_0lt, j_le0, j_0le, j_eq0, j_add, j_sub, j_mul, j_neg, j_0sub, j_nat, j_in, j_div, j_rem, Sum.inl.injEq, exists_eq', true_or, or_true, if_true, if_false, not_true_eq_false, not_false_eq_true, implies_true, j_eq1, reduceIte, Nat.reduceEqDiff, Int.reduceEq, Int.reduceToNat, Nat.reduceAdd, Int.reduceAdd, Int.reduceSub, Int.reduceMul, Int.reduceNeg, and_false, false_and, and_self, u2r, j_b0, j_b1, Classical.not_not, eq_self, true_implies, false_implies, not_true_eq_false, not_false_eq_true, Int.reduceLT, Int.reduceLE, k7, ck, kmo, k96]
  refine Or.inl ⟨18, ?_⟩
  simp (disch := omega) only [x_Law_pair_0, x_Law_pair_1, x_Law_pair_2, x_Law_pair_3, x_Law_pair_4, z_Law_pair_5, x_Law_pair_5, x_Law_pair_6, x_Law_pair_7, x_Law_pair_8, x_Law_pair_9, x_Law_pair_10, x_Law_pair_11, x_Law_pair_12, x_Law_pair_13, jm_ia, jm_na, jm_qa, jm_aa, jm_asg, jm_l4, jm_Kr, jm_okv, jm_rc, jm_bo, true_and, and_true, Nat.add_zero, Nat.le_refl, j_lt, j_le, j_eq, j_lt0, j_0lt, j_le0, j_0le, j_eq0, j_add, j_sub, j_mul, j_neg, j_0sub, j_nat, j_in, j_div, j_rem, Sum.inl.injEq, exists_eq', true_or, or_true, if_true, if_false, not_true_eq_false, not_false_eq_true, implies_true, j_eq1, reduceIte, Nat.reduceEqDiff, Int.reduceEq, Int.reduceToNat, Nat.reduceAdd, Int.reduceAdd, Int.reduceSub, Int.reduceMul, Int.reduceNeg, and_false, false_and, and_self, u2r, j_b0, j_b1, Classical.not_not, eq_self, true_implies, false_implies, not_true_eq_false, not_false_eq_true, Int.reduceLT, Int.reduceLE, k7, ck, kmo, k96]
  repeat' first
    | apply And.intro
    | (intro _)
    | (refine ⟨_, p_pair4 B l (mo h (ac + 65) σ) ac κ μ H hB p hp0 hp1 hw1, ?_⟩; rintro y h' ⟨rfl, hy⟩; cases hy; try simp (disch := omega) only [x_Law_pair_0, x_Law_pair_1, x_Law_pair_2, x_Law_pair_3, x_Law_pair_4, z_Law_pair_5, x_Law_pair_5, x_Law_pair_6, x_Law_pair_7, x_Law_pair_8, x_Law_pair_9, x_Law_pair_10, x_Law_pair_11, x_Law_pair_12, x_Law_pair_13, jm_ia, jm_na, jm_qa, jm_aa, jm_asg, jm_l4, jm_Kr, jm_okv, jm_rc, jm_bo, true_and, and_true, Nat.add_zero, Nat.le_refl, j_lt, j_le, j_eq, j_lt0, j_0lt, j_le0, j_0le, j_eq0, j_add, j_sub, j_mul, j_neg, j_0sub, j_nat, j_in, j_div, j_rem, Sum.inl.injEq, exists_eq', true_or, or_true, if_true, if_false, not_true_eq_false, not_false_eq_true, implies_true, j_eq1, reduceIte, Nat.reduceEqDiff, Int.reduceEq, Int.reduceToNat, Nat.reduceAdd, Int.reduceAdd, Int.reduceSub, Int.reduceMul, Int.reduceNeg, and_false, false_and, and_self, u2r, j_b0, j_b1, Classical.not_not, eq_self, true_implies, false_implies, not_true_eq_false, not_false_eq_true, Int.reduceLT, Int.reduceLE, k7, ck, kmo, k96])
  all_goals first
    | contradiction
    | exact trivial
    | rfl
    | omega
    | exact (bi1 (by omega)).symm
    | exact (bi0 (by omega)).symm
    | exact (bi1 (by assumption)).symm
    | exact (bi0 (by assumption)).symm
    | exact hfin
    | exact ⟨_, rfl⟩
    | ((try unfold IN_); (repeat (first | rw [if_pos (by omega)] | rw [if_neg (by omega)])); done)
    | ((try unfold IN_); (repeat (first | rw [if_pos (by omega)] | rw [if_neg (by omega)])); rfl)
    | ((try unfold IN_); (repeat (first | rw [if_pos (by omega)] | rw [if_neg (by omega)] | rw [if_pos (by assumption)] | rw [if_neg (by assumption)])); rfl)
set_option maxRecDepth 100000 in
set_option maxHeartbeats 4000000 in
theorem H_pair1 (B : jm_B) (l : Launch) (h : jm_H) (ac : Nat) (κ : S_) (μ : M_) (u : Nat → Nat) (ids adr : Nat → Nat → Nat) (T : Int) (σ : S_) (hL : LSt B ac h κ μ u ids adr T σ) (hT : T ≤ 511) (hl0 : l.stackTraces = false) (p w : Int) (pa : -2147483648 ≤ p) (pb : p < 2147483648) (wa : -2147483648 ≤ w) (wb : w < 2147483648) (hx : ¬ ((0 ≤ p ∧ p ≤ 2) ∧ (0 ≤ w ∧ w ≤ 4))) : jm_Cw B l (gm 113) (hhs 0 10 13 none) [.inr (.inl (some (ac))), .inl (Int32.ofInt p), .inl (Int32.ofInt w), .inr (.inl (some (ac + 96)))] (cs (mo h (ac + 65) σ) ac (CN κ) μ) (fun v h' => PH B ac h T σ (jm_u2 σ 0 0 (if (0 ≤ p ∧ p ≤ 2) ∧ (0 ≤ w ∧ w ≤ 4) then 0 else 1)) (some (if (0 ≤ p ∧ p ≤ 2) ∧ (0 ≤ w ∧ w ≤ 4) then (if w = 0 then σ 16 p.toNat else if w = 1 then σ 20 p.toNat else if w = 2 then σ 0 1 - σ 19 p.toNat else if inS σ p (w - 3) then 1 else 0) else 0)) v h') := by
  have H := RC_mo hL.1.1 σ
  have hB := hL.2.1.1.1
  have hS := hL.2.1.1.2.1
  have b01 : 0 ≤ κ 0 1 ∧ κ 0 1 ≤ 600000 := hB 0 1
  have k7 : jm_k (cs (mo h (ac + 65) σ) ac (CN κ) μ) ac = some (.inl 7) := ck0 H
  have k96 : jm_k h (ac + 96) = some (.inr (2, 1)) := hL.1.2.2.2.1
  have kmo : ∀ h1 a, jm_k (mo h1 (ac + 65) σ) a = jm_k h1 a := fun _ _ => rfl
  have hsp : jm_u2 σ 0 0 (if (0 ≤ p ∧ p ≤ 2) ∧ (0 ≤ w ∧ w ≤ 4) then 0 else 1) = jm_u2 σ 0 0 1 := by rw [if_neg hx]
  show jm_Cw B l M_Law_pair _ _ _ _
  refine jm_CW (code := t_Law_pair) (pcC := 5) (jC := 5) (mi := 56) (na := 3) (rc := 1) (mc := 1) (ms := 6) (jh := (fun k => if k = 1 then some 9 else none)) rfl rfl (by decide) w_Law_pair rfl (Nat.le_of_ble_eq_true rfl) [some (.inr (.inl (some (ac)))), some (.inl (Int32.ofInt p)), some (.inl (Int32.ofInt w)), some (.inr (.inl (some (ac + 96)))), none] rfl rfl rfl (by decide) (fun j hj => by cases Option.some.inj (show some 9 = some j from hj); exact ⟨_, _, rfl, rfl, rfl⟩) (fun j hj => by exact absurd (show none = some j from hj) (by intro q; cases q)) ⟨18, ?_⟩
  simp (disch := omega) only [x_Law_pair_0, x_Law_pair_1, x_Law_pair_2, x_Law_pair_3, x_Law_pair_4, z_Law_pair_5, x_Law_pair_5, x_Law_pair_6, x_Law_pair_7, x_Law_pair_8, x_Law_pair_9, x_Law_pair_10, x_Law_pair_11, x_Law_pair_12, x_Law_pair_13, jm_ia, jm_na, jm_qa, jm_aa, jm_asg, jm_l4, jm_Kr, jm_okv, jm_rc, jm_bo, true_and, and_true, Nat.add_zero, Nat.le_refl, j_lt, j_le, j_eq, j_lt0, j_0lt, j_le0, j_0le, j_eq0, j_add, j_sub, j_mul, j_neg, j_0sub, j_nat, j_in, j_div, j_rem, Sum.inl.injEq, exists_eq', true_or, or_true, if_true, if_false, not_true_eq_false, not_false_eq_true, implies_true, j_eq1, reduceIte, Nat.reduceEqDiff, Int.reduceEq, Int.reduceToNat, Nat.reduceAdd, Int.reduceAdd, Int.reduceSub, Int.reduceMul, Int.reduceNeg, and_false, false_and, and_self, u2r, j_b0, j_b1, Classical.not_not, eq_self, true_implies, false_implies, not_true_eq_false, not_false_eq_true, Int.reduceLT, Int.reduceLE]
  refine Or.inr ⟨ac, [.inl (Int32.ofInt p), .inl (Int32.ofInt w)], [.inl (Int32.ofInt 0), .inr (.inl (some (ac + 96)))], 1, 9, by decide, rfl, rfl, rfl, k7, trivial, by decide, by decide, x_pair1 B l (mo h (ac + 65) σ) ac κ μ H hB p w pa pb wa wb hx hl0, fun q n hn => ⟨18, ?_⟩⟩
  simp (disch := omega) only [x_Law_pair_0, x_Law_pair_1, x_Law_pair_2, x_Law_pair_3, x_Law_pair_4, z_Law_pair_5, x_Law_pair_5, x_Law_pair_6, x_Law_pair_7, x_Law_pair_8, x_Law_pair_9, x_Law_pair_10, x_Law_pair_11, x_Law_pair_12, x_Law_pair_13, jm_ia, jm_na, jm_qa, jm_aa, jm_asg, jm_l4, jm_Kr, jm_okv, jm_rc, jm_bo, true_and, and_true, Nat.add_zero, Nat.le_refl, j_lt, j_le, j_eq, j_lt0, j_0lt, j_le0, j_0le, j_eq0, j_add, j_sub, j_mul, j_neg, j_0sub, j_nat, j_in, j_div, j_rem, Sum.inl.injEq, exists_eq', true_or, or_true, if_true, if_false, not_true_eq_false, not_false_eq_true, implies_true, j_eq1, reduceIte, Nat.reduceEqDiff, Int.reduceEq, Int.reduceToNat, Nat.reduceAdd, Int.reduceAdd, Int.reduceSub, Int.reduceMul, Int.reduceNeg, and_false, false_and, and_self, u2r, j_b0, j_b1, Classical.not_not, eq_self, true_implies, false_implies, not_true_eq_false, not_false_eq_true, Int.reduceLT, Int.reduceLE]
  repeat' first
    | apply And.intro
    | (intro _)
  all_goals first
    | contradiction
    | exact trivial
    | rfl
    | omega
    | exact (bi1 (by omega)).symm
    | exact (bi0 (by omega)).symm
    | exact (bi1 (by assumption)).symm
    | exact (bi0 (by assumption)).symm
    | exact PH_x hL (by decide) hsp hn
    | exact ⟨_, rfl⟩
    | ((try unfold IN_); (repeat (first | rw [if_pos (by omega)] | rw [if_neg (by omega)])); done)
    | ((try unfold IN_); (repeat (first | rw [if_pos (by omega)] | rw [if_neg (by omega)])); rfl)
    | ((try unfold IN_); (repeat (first | rw [if_pos (by omega)] | rw [if_neg (by omega)] | rw [if_pos (by assumption)] | rw [if_neg (by assumption)])); rfl)
set_option maxRecDepth 100000 in
set_option maxHeartbeats 4000000 in
theorem H_bus00 (B : jm_B) (l : Launch) (h : jm_H) (ac : Nat) (κ : S_) (μ : M_) (u : Nat → Nat) (ids adr : Nat → Nat → Nat) (T : Int) (σ : S_) (hL : LSt B ac h κ μ u ids adr T σ) (hT : T ≤ 511) (hl0 : l.stackTraces = false) : jm_Cw B l (gm 114) (hhs 0 9 12 none) [.inr (.inl (some (ac))), .inl (Int32.ofInt 0), .inr (.inl (some (ac + 96)))] (cs (mo h (ac + 65) σ) ac (CN κ) μ) (fun v h' => PH B ac h T σ (jm_u2 σ 0 0 (if 0 ≤ (0 : Int) ∧ (0 : Int) ≤ 3 then 0 else 1)) (some (if 0 ≤ (0 : Int) ∧ (0 : Int) ≤ 3 then (if (0 : Int) = 0 then σ 0 24 else if (0 : Int) = 1 then σ 0 35 else if (0 : Int) = 2 then σ 0 36 else σ 0 37) else 0)) v h') := by
  have H := RC_mo hL.1.1 σ
  have hB := hL.2.1.1.1
  have hS := hL.2.1.1.2.1
  have b01 : 0 ≤ κ 0 1 ∧ κ 0 1 ≤ 600000 := hB 0 1
  have k7 : jm_k (cs (mo h (ac + 65) σ) ac (CN κ) μ) ac = some (.inl 7) := ck0 H
  have k96 : jm_k h (ac + 96) = some (.inr (2, 1)) := hL.1.2.2.2.1
  have kmo : ∀ h1 a, jm_k (mo h1 (ac + 65) σ) a = jm_k h1 a := fun _ _ => rfl
  have hw : (if 0 ≤ (0 : Int) ∧ (0 : Int) ≤ 3 then (if (0 : Int) = 0 then σ 0 24 else if (0 : Int) = 1 then σ 0 35 else if (0 : Int) = 2 then σ 0 36 else σ 0 37) else 0) = κ 0 24 := by rw [if_pos (by omega)]; exact (hL.2.2.1 0 24 (by omega) (by omega)).symm
  have hs0 : jm_u2 σ 0 0 (if 0 ≤ (0 : Int) ∧ (0 : Int) ≤ 3 then 0 else 1) = jm_u2 σ 0 0 0 := by rw [if_pos (by omega)]
  have hf0 : PH B ac h T σ (jm_u2 σ 0 0 (if 0 ≤ (0 : Int) ∧ (0 : Int) ≤ 3 then 0 else 1)) (some (if 0 ≤ (0 : Int) ∧ (0 : Int) ≤ 3 then (if (0 : Int) = 0 then σ 0 24 else if (0 : Int) = 1 then σ 0 35 else if (0 : Int) = 2 then σ 0 36 else σ 0 37) else 0)) (.inl (Int32.ofInt 0)) (jm_sl (cs (mo h (ac + 65) σ) ac (CN κ) μ) (ac + 96) 0 (Int32.ofInt (κ 0 24)).toInt64) := by
    rw [hs0, hw]
    exact PH_1 (LSt_k hL 0) (u2p ⟨rfl, rfl⟩) _
  clear hw hs0
  generalize (if 0 ≤ (0 : Int) ∧ (0 : Int) ≤ 3 then (if (0 : Int) = 0 then σ 0 24 else if (0 : Int) = 1 then σ 0 35 else if (0 : Int) = 2 then σ 0 36 else σ 0 37) else 0) = w9 at hf0 ⊢
  generalize jm_u2 σ 0 0 (if 0 ≤ (0 : Int) ∧ (0 : Int) ≤ 3 then 0 else 1) = σ9 at hf0 ⊢
  have hfin := hf0
  show jm_Cw B l M_Law_bus _ _ _ _
  refine jm_CW (code := t_Law_bus) (pcC := 4) (jC := 4) (mi := 57) (na := 2) (rc := 1) (mc := 1) (ms := 6) (jh := (fun k => if k = 1 then some 8 else none)) rfl rfl (by decide) w_Law_bus rfl (Nat.le_of_ble_eq_true rfl) [some (.inr (.inl (some (ac)))), some (.inl (Int32.ofInt 0)), some (.inr (.inl (some (ac + 96)))), none] rfl rfl rfl (by decide) (fun j hj => by cases Option.some.inj (show some 8 = some j from hj); exact ⟨_, _, rfl, rfl, rfl⟩) (fun j hj => by exact absurd (show none = some j from hj) (by intro q; cases q)) ⟨17, ?_⟩
  simp (disch := omega) only [x_Law_bus_0, x_Law_bus_1, x_Law_bus_2, x_Law_bus_3, z_Law_bus_4, x_Law_bus_4, x_Law_bus_5, x_Law_bus_6, x_Law_bus_7, x_Law_bus_8, x_Law_bus_9, x_Law_bus_10, x_Law_bus_11, x_Law_bus_12, jm_ia, jm_na, jm_qa, jm_aa, jm_asg, jm_l4, jm_Kr, jm_okv, jm_rc, jm_bo, true_and, and_true, Nat.add_zero, Nat.le_refl, j_lt, j_le, j_eq, j_lt0, j_0lt, j_le0, j_0le, j_eq0, j_add, j_sub, j_mul, j_neg, j_0sub, j_nat, j_in, j_div, j_rem, Sum.inl.injEq, exists_eq', true_or, or_true, if_true, if_false, not_true_eq_false, not_false_eq_true, implies_true, j_eq1, reduceIte, Nat.reduceEqDiff, Int.reduceEq, Int.reduceToNat, Nat.reduceAdd, Int.reduceAdd, Int.reduceSub, Int.reduceMul, Int.reduceNeg, and_false, false_and, and_self, u2r, j_b0, j_b1, Classical.not_not, eq_self, true_implies, false_implies, not_true_eq_false, not_false_eq_true, Int.reduceLT, Int.reduceLE, k7, ck, kmo, k96]
  refine Or.inl ⟨17, ?_⟩
  simp (disch := omega) only [x_Law_bus_0, x_Law_bus_1, x_Law_bus_2, x_Law_bus_3, z_Law_bus_4, x_Law_bus_4, x_Law_bus_5, x_Law_bus_6, x_Law_bus_7, x_Law_bus_8, x_Law_bus_9, x_Law_bus_10, x_Law_bus_11, x_Law_bus_12, jm_ia, jm_na, jm_qa, jm_aa, jm_asg, jm_l4, jm_Kr, jm_okv, jm_rc, jm_bo, true_and, and_true, Nat.add_zero, Nat.le_refl, j_lt, j_le, j_eq, j_lt0, j_0lt, j_le0, j_0le, j_eq0, j_add, j_sub, j_mul, j_neg, j_0sub, j_nat, j_in, j_div, j_rem, Sum.inl.injEq, exists_eq', true_or, or_true, if_true, if_false, not_true_eq_false, not_false_eq_true, implies_true, j_eq1, reduceIte, Nat.reduceEqDiff, Int.reduceEq, Int.reduceToNat, Nat.reduceAdd, Int.reduceAdd, Int.reduceSub, Int.reduceMul, Int.reduceNeg, and_false, false_and, and_self, u2r, j_b0, j_b1, Classical.not_not, eq_self, true_implies, false_implies, not_true_eq_false, not_false_eq_true, Int.reduceLT, Int.reduceLE, k7, ck, kmo, k96]
  repeat' first
    | apply And.intro
    | (intro _)
    | (refine ⟨_, p_bus0 B l (mo h (ac + 65) σ) ac κ μ H hB, ?_⟩; rintro y h' ⟨rfl, hy⟩; cases hy; try simp (disch := omega) only [x_Law_bus_0, x_Law_bus_1, x_Law_bus_2, x_Law_bus_3, z_Law_bus_4, x_Law_bus_4, x_Law_bus_5, x_Law_bus_6, x_Law_bus_7, x_Law_bus_8, x_Law_bus_9, x_Law_bus_10, x_Law_bus_11, x_Law_bus_12, jm_ia, jm_na, jm_qa, jm_aa, jm_asg, jm_l4, jm_Kr, jm_okv, jm_rc, jm_bo, true_and, and_true, Nat.add_zero, Nat.le_refl, j_lt, j_le, j_eq, j_lt0, j_0lt, j_le0, j_0le, j_eq0, j_add, j_sub, j_mul, j_neg, j_0sub, j_nat, j_in, j_div, j_rem, Sum.inl.injEq, exists_eq', true_or, or_true, if_true, if_false, not_true_eq_false, not_false_eq_true, implies_true, j_eq1, reduceIte, Nat.reduceEqDiff, Int.reduceEq, Int.reduceToNat, Nat.reduceAdd, Int.reduceAdd, Int.reduceSub, Int.reduceMul, Int.reduceNeg, and_false, false_and, and_self, u2r, j_b0, j_b1, Classical.not_not, eq_self, true_implies, false_implies, not_true_eq_false, not_false_eq_true, Int.reduceLT, Int.reduceLE, k7, ck, kmo, k96])
  all_goals first
    | contradiction
    | exact trivial
    | rfl
    | omega
    | exact (bi1 (by omega)).symm
    | exact (bi0 (by omega)).symm
    | exact (bi1 (by assumption)).symm
    | exact (bi0 (by assumption)).symm
    | exact hfin
    | exact ⟨_, rfl⟩
    | ((try unfold IN_); (repeat (first | rw [if_pos (by omega)] | rw [if_neg (by omega)])); done)
    | ((try unfold IN_); (repeat (first | rw [if_pos (by omega)] | rw [if_neg (by omega)])); rfl)
    | ((try unfold IN_); (repeat (first | rw [if_pos (by omega)] | rw [if_neg (by omega)] | rw [if_pos (by assumption)] | rw [if_neg (by assumption)])); rfl)
set_option maxRecDepth 100000 in
set_option maxHeartbeats 4000000 in
theorem H_bus01 (B : jm_B) (l : Launch) (h : jm_H) (ac : Nat) (κ : S_) (μ : M_) (u : Nat → Nat) (ids adr : Nat → Nat → Nat) (T : Int) (σ : S_) (hL : LSt B ac h κ μ u ids adr T σ) (hT : T ≤ 511) (hl0 : l.stackTraces = false) : jm_Cw B l (gm 114) (hhs 0 9 12 none) [.inr (.inl (some (ac))), .inl (Int32.ofInt 1), .inr (.inl (some (ac + 96)))] (cs (mo h (ac + 65) σ) ac (CN κ) μ) (fun v h' => PH B ac h T σ (jm_u2 σ 0 0 (if 0 ≤ (1 : Int) ∧ (1 : Int) ≤ 3 then 0 else 1)) (some (if 0 ≤ (1 : Int) ∧ (1 : Int) ≤ 3 then (if (1 : Int) = 0 then σ 0 24 else if (1 : Int) = 1 then σ 0 35 else if (1 : Int) = 2 then σ 0 36 else σ 0 37) else 0)) v h') := by
  have H := RC_mo hL.1.1 σ
  have hB := hL.2.1.1.1
  have hS := hL.2.1.1.2.1
  have b01 : 0 ≤ κ 0 1 ∧ κ 0 1 ≤ 600000 := hB 0 1
  have k7 : jm_k (cs (mo h (ac + 65) σ) ac (CN κ) μ) ac = some (.inl 7) := ck0 H
  have k96 : jm_k h (ac + 96) = some (.inr (2, 1)) := hL.1.2.2.2.1
  have kmo : ∀ h1 a, jm_k (mo h1 (ac + 65) σ) a = jm_k h1 a := fun _ _ => rfl
  have hw : (if 0 ≤ (1 : Int) ∧ (1 : Int) ≤ 3 then (if (1 : Int) = 0 then σ 0 24 else if (1 : Int) = 1 then σ 0 35 else if (1 : Int) = 2 then σ 0 36 else σ 0 37) else 0) = κ 0 35 := by rw [if_pos (by omega)]; exact (hL.2.2.1 0 35 (by omega) (by omega)).symm
  have hs0 : jm_u2 σ 0 0 (if 0 ≤ (1 : Int) ∧ (1 : Int) ≤ 3 then 0 else 1) = jm_u2 σ 0 0 0 := by rw [if_pos (by omega)]
  have hf0 : PH B ac h T σ (jm_u2 σ 0 0 (if 0 ≤ (1 : Int) ∧ (1 : Int) ≤ 3 then 0 else 1)) (some (if 0 ≤ (1 : Int) ∧ (1 : Int) ≤ 3 then (if (1 : Int) = 0 then σ 0 24 else if (1 : Int) = 1 then σ 0 35 else if (1 : Int) = 2 then σ 0 36 else σ 0 37) else 0)) (.inl (Int32.ofInt 0)) (jm_sl (cs (mo h (ac + 65) σ) ac (CN κ) μ) (ac + 96) 0 (Int32.ofInt (κ 0 35)).toInt64) := by
    rw [hs0, hw]
    exact PH_1 (LSt_k hL 0) (u2p ⟨rfl, rfl⟩) _
  clear hw hs0
  generalize (if 0 ≤ (1 : Int) ∧ (1 : Int) ≤ 3 then (if (1 : Int) = 0 then σ 0 24 else if (1 : Int) = 1 then σ 0 35 else if (1 : Int) = 2 then σ 0 36 else σ 0 37) else 0) = w9 at hf0 ⊢
  generalize jm_u2 σ 0 0 (if 0 ≤ (1 : Int) ∧ (1 : Int) ≤ 3 then 0 else 1) = σ9 at hf0 ⊢
  have hfin := hf0
  show jm_Cw B l M_Law_bus _ _ _ _
  refine jm_CW (code := t_Law_bus) (pcC := 4) (jC := 4) (mi := 57) (na := 2) (rc := 1) (mc := 1) (ms := 6) (jh := (fun k => if k = 1 then some 8 else none)) rfl rfl (by decide) w_Law_bus rfl (Nat.le_of_ble_eq_true rfl) [some (.inr (.inl (some (ac)))), some (.inl (Int32.ofInt 1)), some (.inr (.inl (some (ac + 96)))), none] rfl rfl rfl (by decide) (fun j hj => by cases Option.some.inj (show some 8 = some j from hj); exact ⟨_, _, rfl, rfl, rfl⟩) (fun j hj => by exact absurd (show none = some j from hj) (by intro q; cases q)) ⟨17, ?_⟩
  simp (disch := omega) only [x_Law_bus_0, x_Law_bus_1, x_Law_bus_2, x_Law_bus_3, z_Law_bus_4, x_Law_bus_4, x_Law_bus_5, x_Law_bus_6, x_Law_bus_7, x_Law_bus_8, x_Law_bus_9, x_Law_bus_10, x_Law_bus_11, x_Law_bus_12, jm_ia, jm_na, jm_qa, jm_aa, jm_asg, jm_l4, jm_Kr, jm_okv, jm_rc, jm_bo, true_and, and_true, Nat.add_zero, Nat.le_refl, j_lt, j_le, j_eq, j_lt0, j_0lt, j_le0, j_0le, j_eq0, j_add, j_sub, j_mul, j_neg, j_0sub, j_nat, j_in, j_div, j_rem, Sum.inl.injEq, exists_eq', true_or, or_true, if_true, if_false, not_true_eq_false, not_false_eq_true, implies_true, j_eq1, reduceIte, Nat.reduceEqDiff, Int.reduceEq, Int.reduceToNat, Nat.reduceAdd, Int.reduceAdd, Int.reduceSub, Int.reduceMul, Int.reduceNeg, and_false, false_and, and_self, u2r, j_b0, j_b1, Classical.not_not, eq_self, true_implies, false_implies, not_true_eq_false, not_false_eq_true, Int.reduceLT, Int.reduceLE, k7, ck, kmo, k96]
  refine Or.inl ⟨17, ?_⟩
  simp (disch := omega) only [x_Law_bus_0, x_Law_bus_1, x_Law_bus_2, x_Law_bus_3, z_Law_bus_4, x_Law_bus_4, x_Law_bus_5, x_Law_bus_6, x_Law_bus_7, x_Law_bus_8, x_Law_bus_9, x_Law_bus_10, x_Law_bus_11, x_Law_bus_12, jm_ia, jm_na, jm_qa, jm_aa, jm_asg, jm_l4, jm_Kr, jm_okv, jm_rc, jm_bo, true_and, and_true, Nat.add_zero, Nat.le_refl, j_lt, j_le, j_eq, j_lt0, j_0lt, j_le0, j_0le, j_eq0, j_add, j_sub, j_mul, j_neg, j_0sub, j_nat, j_in, j_div, j_rem, Sum.inl.injEq, exists_eq', true_or, or_true, if_true, if_false, not_true_eq_false, not_false_eq_true, implies_true, j_eq1, reduceIte, Nat.reduceEqDiff, Int.reduceEq, Int.reduceToNat, Nat.reduceAdd, Int.reduceAdd, Int.reduceSub, Int.reduceMul, Int.reduceNeg, and_false, false_and, and_self, u2r, j_b0, j_b1, Classical.not_not, eq_self, true_implies, false_implies, not_true_eq_false, not_false_eq_true, Int.reduceLT, Int.reduceLE, k7, ck, kmo, k96]
  repeat' first
    | apply And.intro
    | (intro _)
    | (refine ⟨_, p_bus1 B l (mo h (ac + 65) σ) ac κ μ H hB, ?_⟩; rintro y h' ⟨rfl, hy⟩; cases hy; try simp (disch := omega) only [x_Law_bus_0, x_Law_bus_1, x_Law_bus_2, x_Law_bus_3, z_Law_bus_4, x_Law_bus_4, x_Law_bus_5, x_Law_bus_6, x_Law_bus_7, x_Law_bus_8, x_Law_bus_9, x_Law_bus_10, x_Law_bus_11, x_Law_bus_12, jm_ia, jm_na, jm_qa, jm_aa, jm_asg, jm_l4, jm_Kr, jm_okv, jm_rc, jm_bo, true_and, and_true, Nat.add_zero, Nat.le_refl, j_lt, j_le, j_eq, j_lt0, j_0lt, j_le0, j_0le, j_eq0, j_add, j_sub, j_mul, j_neg, j_0sub, j_nat, j_in, j_div, j_rem, Sum.inl.injEq, exists_eq', true_or, or_true, if_true, if_false, not_true_eq_false, not_false_eq_true, implies_true, j_eq1, reduceIte, Nat.reduceEqDiff, Int.reduceEq, Int.reduceToNat, Nat.reduceAdd, Int.reduceAdd, Int.reduceSub, Int.reduceMul, Int.reduceNeg, and_false, false_and, and_self, u2r, j_b0, j_b1, Classical.not_not, eq_self, true_implies, false_implies, not_true_eq_false, not_false_eq_true, Int.reduceLT, Int.reduceLE, k7, ck, kmo, k96])
  all_goals first
    | contradiction
    | exact trivial
    | rfl
    | omega
    | exact (bi1 (by omega)).symm
    | exact (bi0 (by omega)).symm
    | exact (bi1 (by assumption)).symm
    | exact (bi0 (by assumption)).symm
    | exact hfin
    | exact ⟨_, rfl⟩
    | ((try unfold IN_); (repeat (first | rw [if_pos (by omega)] | rw [if_neg (by omega)])); done)
    | ((try unfold IN_); (repeat (first | rw [if_pos (by omega)] | rw [if_neg (by omega)])); rfl)
    | ((try unfold IN_); (repeat (first | rw [if_pos (by omega)] | rw [if_neg (by omega)] | rw [if_pos (by assumption)] | rw [if_neg (by assumption)])); rfl)
set_option maxRecDepth 100000 in
set_option maxHeartbeats 4000000 in
theorem H_bus02 (B : jm_B) (l : Launch) (h : jm_H) (ac : Nat) (κ : S_) (μ : M_) (u : Nat → Nat) (ids adr : Nat → Nat → Nat) (T : Int) (σ : S_) (hL : LSt B ac h κ μ u ids adr T σ) (hT : T ≤ 511) (hl0 : l.stackTraces = false) : jm_Cw B l (gm 114) (hhs 0 9 12 none) [.inr (.inl (some (ac))), .inl (Int32.ofInt 2), .inr (.inl (some (ac + 96)))] (cs (mo h (ac + 65) σ) ac (CN κ) μ) (fun v h' => PH B ac h T σ (jm_u2 σ 0 0 (if 0 ≤ (2 : Int) ∧ (2 : Int) ≤ 3 then 0 else 1)) (some (if 0 ≤ (2 : Int) ∧ (2 : Int) ≤ 3 then (if (2 : Int) = 0 then σ 0 24 else if (2 : Int) = 1 then σ 0 35 else if (2 : Int) = 2 then σ 0 36 else σ 0 37) else 0)) v h') := by
  have H := RC_mo hL.1.1 σ
  have hB := hL.2.1.1.1
  have hS := hL.2.1.1.2.1
  have b01 : 0 ≤ κ 0 1 ∧ κ 0 1 ≤ 600000 := hB 0 1
  have k7 : jm_k (cs (mo h (ac + 65) σ) ac (CN κ) μ) ac = some (.inl 7) := ck0 H
  have k96 : jm_k h (ac + 96) = some (.inr (2, 1)) := hL.1.2.2.2.1
  have kmo : ∀ h1 a, jm_k (mo h1 (ac + 65) σ) a = jm_k h1 a := fun _ _ => rfl
  have hw : (if 0 ≤ (2 : Int) ∧ (2 : Int) ≤ 3 then (if (2 : Int) = 0 then σ 0 24 else if (2 : Int) = 1 then σ 0 35 else if (2 : Int) = 2 then σ 0 36 else σ 0 37) else 0) = κ 0 36 := by rw [if_pos (by omega)]; exact (hL.2.2.1 0 36 (by omega) (by omega)).symm
  have hs0 : jm_u2 σ 0 0 (if 0 ≤ (2 : Int) ∧ (2 : Int) ≤ 3 then 0 else 1) = jm_u2 σ 0 0 0 := by rw [if_pos (by omega)]
  have hf0 : PH B ac h T σ (jm_u2 σ 0 0 (if 0 ≤ (2 : Int) ∧ (2 : Int) ≤ 3 then 0 else 1)) (some (if 0 ≤ (2 : Int) ∧ (2 : Int) ≤ 3 then (if (2 : Int) = 0 then σ 0 24 else if (2 : Int) = 1 then σ 0 35 else if (2 : Int) = 2 then σ 0 36 else σ 0 37) else 0)) (.inl (Int32.ofInt 0)) (jm_sl (cs (mo h (ac + 65) σ) ac (CN κ) μ) (ac + 96) 0 (Int32.ofInt (κ 0 36)).toInt64) := by
    rw [hs0, hw]
    exact PH_1 (LSt_k hL 0) (u2p ⟨rfl, rfl⟩) _
  clear hw hs0
  generalize (if 0 ≤ (2 : Int) ∧ (2 : Int) ≤ 3 then (if (2 : Int) = 0 then σ 0 24 else if (2 : Int) = 1 then σ 0 35 else if (2 : Int) = 2 then σ 0 36 else σ 0 37) else 0) = w9 at hf0 ⊢
  generalize jm_u2 σ 0 0 (if 0 ≤ (2 : Int) ∧ (2 : Int) ≤ 3 then 0 else 1) = σ9 at hf0 ⊢
  have hfin := hf0
  show jm_Cw B l M_Law_bus _ _ _ _
  refine jm_CW (code := t_Law_bus) (pcC := 4) (jC := 4) (mi := 57) (na := 2) (rc := 1) (mc := 1) (ms := 6) (jh := (fun k => if k = 1 then some 8 else none)) rfl rfl (by decide) w_Law_bus rfl (Nat.le_of_ble_eq_true rfl) [some (.inr (.inl (some (ac)))), some (.inl (Int32.ofInt 2)), some (.inr (.inl (some (ac + 96)))), none] rfl rfl rfl (by decide) (fun j hj => by cases Option.some.inj (show some 8 = some j from hj); exact ⟨_, _, rfl, rfl, rfl⟩) (fun j hj => by exact absurd (show none = some j from hj) (by intro q; cases q)) ⟨17, ?_⟩
  simp (disch := omega) only [x_Law_bus_0, x_Law_bus_1, x_Law_bus_2, x_Law_bus_3, z_Law_bus_4, x_Law_bus_4, x_Law_bus_5, x_Law_bus_6, x_Law_bus_7, x_Law_bus_8, x_Law_bus_9, x_Law_bus_10, x_Law_bus_11, x_Law_bus_12, jm_ia, jm_na, jm_qa, jm_aa, jm_asg, jm_l4, jm_Kr, jm_okv, jm_rc, jm_bo, true_and, and_true, Nat.add_zero, Nat.le_refl, j_lt, j_le, j_eq, j_lt0, j_0lt, j_le0, j_0le, j_eq0, j_add, j_sub, j_mul, j_neg, j_0sub, j_nat, j_in, j_div, j_rem, Sum.inl.injEq, exists_eq', true_or, or_true, if_true, if_false, not_true_eq_false, not_false_eq_true, implies_true, j_eq1, reduceIte, Nat.reduceEqDiff, Int.reduceEq, Int.reduceToNat, Nat.reduceAdd, Int.reduceAdd, Int.reduceSub, Int.reduceMul, Int.reduceNeg, and_false, false_and, and_self, u2r, j_b0, j_b1, Classical.not_not, eq_self, true_implies, false_implies, not_true_eq_false, not_false_eq_true, Int.reduceLT, Int.reduceLE, k7, ck, kmo, k96]
  refine Or.inl ⟨17, ?_⟩
  simp (disch := omega) only [x_Law_bus_0, x_Law_bus_1, x_Law_bus_2, x_Law_bus_3, z_Law_bus_4, x_Law_bus_4, x_Law_bus_5, x_Law_bus_6, x_Law_bus_7, x_Law_bus_8, x_Law_bus_9, x_Law_bus_10, x_Law_bus_11, x_Law_bus_12, jm_ia, jm_na, jm_qa, jm_aa, jm_asg, jm_l4, jm_Kr, jm_okv, jm_rc, jm_bo, true_and, and_true, Nat.add_zero, Nat.le_refl, j_lt, j_le, j_eq, j_lt0, j_0lt, j_le0, j_0le, j_eq0, j_add, j_sub, j_mul, j_neg, j_0sub, j_nat, j_in, j_div, j_rem, Sum.inl.injEq, exists_eq', true_or, or_true, if_true, if_false, not_true_eq_false, not_false_eq_true, implies_true, j_eq1, reduceIte, Nat.reduceEqDiff, Int.reduceEq, Int.reduceToNat, Nat.reduceAdd, Int.reduceAdd, Int.reduceSub, Int.reduceMul, Int.reduceNeg, and_false, false_and, and_self, u2r, j_b0, j_b1, Classical.not_not, eq_self, true_implies, false_implies, not_true_eq_false, not_false_eq_true, Int.reduceLT, Int.reduceLE, k7, ck, kmo, k96]
  repeat' first
    | apply And.intro
    | (intro _)
    | (refine ⟨_, p_bus2 B l (mo h (ac + 65) σ) ac κ μ H hB, ?_⟩; rintro y h' ⟨rfl, hy⟩; cases hy; try simp (disch := omega) only [x_Law_bus_0, x_Law_bus_1, x_Law_bus_2, x_Law_bus_3, z_Law_bus_4, x_Law_bus_4, x_Law_bus_5, x_Law_bus_6, x_Law_bus_7, x_Law_bus_8, x_Law_bus_9, x_Law_bus_10, x_Law_bus_11, x_Law_bus_12, jm_ia, jm_na, jm_qa, jm_aa, jm_asg, jm_l4, jm_Kr, jm_okv, jm_rc, jm_bo, true_and, and_true, Nat.add_zero, Nat.le_refl, j_lt, j_le, j_eq, j_lt0, j_0lt, j_le0, j_0le, j_eq0, j_add, j_sub, j_mul, j_neg, j_0sub, j_nat, j_in, j_div, j_rem, Sum.inl.injEq, exists_eq', true_or, or_true, if_true, if_false, not_true_eq_false, not_false_eq_true, implies_true, j_eq1, reduceIte, Nat.reduceEqDiff, Int.reduceEq, Int.reduceToNat, Nat.reduceAdd, Int.reduceAdd, Int.reduceSub, Int.reduceMul, Int.reduceNeg, and_false, false_and, and_self, u2r, j_b0, j_b1, Classical.not_not, eq_self, true_implies, false_implies, not_true_eq_false, not_false_eq_true, Int.reduceLT, Int.reduceLE, k7, ck, kmo, k96])
  all_goals first
    | contradiction
    | exact trivial
    | rfl
    | omega
    | exact (bi1 (by omega)).symm
    | exact (bi0 (by omega)).symm
    | exact (bi1 (by assumption)).symm
    | exact (bi0 (by assumption)).symm
    | exact hfin
    | exact ⟨_, rfl⟩
    | ((try unfold IN_); (repeat (first | rw [if_pos (by omega)] | rw [if_neg (by omega)])); done)
    | ((try unfold IN_); (repeat (first | rw [if_pos (by omega)] | rw [if_neg (by omega)])); rfl)
    | ((try unfold IN_); (repeat (first | rw [if_pos (by omega)] | rw [if_neg (by omega)] | rw [if_pos (by assumption)] | rw [if_neg (by assumption)])); rfl)
set_option maxRecDepth 100000 in
set_option maxHeartbeats 4000000 in
theorem H_bus03 (B : jm_B) (l : Launch) (h : jm_H) (ac : Nat) (κ : S_) (μ : M_) (u : Nat → Nat) (ids adr : Nat → Nat → Nat) (T : Int) (σ : S_) (hL : LSt B ac h κ μ u ids adr T σ) (hT : T ≤ 511) (hl0 : l.stackTraces = false) : jm_Cw B l (gm 114) (hhs 0 9 12 none) [.inr (.inl (some (ac))), .inl (Int32.ofInt 3), .inr (.inl (some (ac + 96)))] (cs (mo h (ac + 65) σ) ac (CN κ) μ) (fun v h' => PH B ac h T σ (jm_u2 σ 0 0 (if 0 ≤ (3 : Int) ∧ (3 : Int) ≤ 3 then 0 else 1)) (some (if 0 ≤ (3 : Int) ∧ (3 : Int) ≤ 3 then (if (3 : Int) = 0 then σ 0 24 else if (3 : Int) = 1 then σ 0 35 else if (3 : Int) = 2 then σ 0 36 else σ 0 37) else 0)) v h') := by
  have H := RC_mo hL.1.1 σ
  have hB := hL.2.1.1.1
  have hS := hL.2.1.1.2.1
  have b01 : 0 ≤ κ 0 1 ∧ κ 0 1 ≤ 600000 := hB 0 1
  have k7 : jm_k (cs (mo h (ac + 65) σ) ac (CN κ) μ) ac = some (.inl 7) := ck0 H
  have k96 : jm_k h (ac + 96) = some (.inr (2, 1)) := hL.1.2.2.2.1
  have kmo : ∀ h1 a, jm_k (mo h1 (ac + 65) σ) a = jm_k h1 a := fun _ _ => rfl
  have hw : (if 0 ≤ (3 : Int) ∧ (3 : Int) ≤ 3 then (if (3 : Int) = 0 then σ 0 24 else if (3 : Int) = 1 then σ 0 35 else if (3 : Int) = 2 then σ 0 36 else σ 0 37) else 0) = κ 0 37 := by rw [if_pos (by omega)]; exact (hL.2.2.1 0 37 (by omega) (by omega)).symm
  have hs0 : jm_u2 σ 0 0 (if 0 ≤ (3 : Int) ∧ (3 : Int) ≤ 3 then 0 else 1) = jm_u2 σ 0 0 0 := by rw [if_pos (by omega)]
  have hf0 : PH B ac h T σ (jm_u2 σ 0 0 (if 0 ≤ (3 : Int) ∧ (3 : Int) ≤ 3 then 0 else 1)) (some (if 0 ≤ (3 : Int) ∧ (3 : Int) ≤ 3 then (if (3 : Int) = 0 then σ 0 24 else if (3 : Int) = 1 then σ 0 35 else if (3 : Int) = 2 then σ 0 36 else σ 0 37) else 0)) (.inl (Int32.ofInt 0)) (jm_sl (cs (mo h (ac + 65) σ) ac (CN κ) μ) (ac + 96) 0 (Int32.ofInt (κ 0 37)).toInt64) := by
    rw [hs0, hw]
    exact PH_1 (LSt_k hL 0) (u2p ⟨rfl, rfl⟩) _
  clear hw hs0
  generalize (if 0 ≤ (3 : Int) ∧ (3 : Int) ≤ 3 then (if (3 : Int) = 0 then σ 0 24 else if (3 : Int) = 1 then σ 0 35 else if (3 : Int) = 2 then σ 0 36 else σ 0 37) else 0) = w9 at hf0 ⊢
  generalize jm_u2 σ 0 0 (if 0 ≤ (3 : Int) ∧ (3 : Int) ≤ 3 then 0 else 1) = σ9 at hf0 ⊢
  have hfin := hf0
  show jm_Cw B l M_Law_bus _ _ _ _
  refine jm_CW (code := t_Law_bus) (pcC := 4) (jC := 4) (mi := 57) (na := 2) (rc := 1) (mc := 1) (ms := 6) (jh := (fun k => if k = 1 then some 8 else none)) rfl rfl (by decide) w_Law_bus rfl (Nat.le_of_ble_eq_true rfl) [some (.inr (.inl (some (ac)))), some (.inl (Int32.ofInt 3)), some (.inr (.inl (some (ac + 96)))), none] rfl rfl rfl (by decide) (fun j hj => by cases Option.some.inj (show some 8 = some j from hj); exact ⟨_, _, rfl, rfl, rfl⟩) (fun j hj => by exact absurd (show none = some j from hj) (by intro q; cases q)) ⟨17, ?_⟩
  simp (disch := omega) only [x_Law_bus_0, x_Law_bus_1, x_Law_bus_2, x_Law_bus_3, z_Law_bus_4, x_Law_bus_4, x_Law_bus_5, x_Law_bus_6, x_Law_bus_7, x_Law_bus_8, x_Law_bus_9, x_Law_bus_10, x_Law_bus_11, x_Law_bus_12, jm_ia, jm_na, jm_qa, jm_aa, jm_asg, jm_l4, jm_Kr, jm_okv, jm_rc, jm_bo, true_and, and_true, Nat.add_zero, Nat.le_refl, j_lt, j_le, j_eq, j_lt0, j_0lt, j_le0, j_0le, j_eq0, j_add, j_sub, j_mul, j_neg, j_0sub, j_nat, j_in, j_div, j_rem, Sum.inl.injEq, exists_eq', true_or, or_true, if_true, if_false, not_true_eq_false, not_false_eq_true, implies_true, j_eq1, reduceIte, Nat.reduceEqDiff, Int.reduceEq, Int.reduceToNat, Nat.reduceAdd, Int.reduceAdd, Int.reduceSub, Int.reduceMul, Int.reduceNeg, and_false, false_and, and_self, u2r, j_b0, j_b1, Classical.not_not, eq_self, true_implies, false_implies, not_true_eq_false, not_false_eq_true, Int.reduceLT, Int.reduceLE, k7, ck, kmo, k96]
  refine Or.inl ⟨17, ?_⟩
  simp (disch := omega) only [x_Law_bus_0, x_Law_bus_1, x_Law_bus_2, x_Law_bus_3, z_Law_bus_4, x_Law_bus_4, x_Law_bus_5, x_Law_bus_6, x_Law_bus_7, x_Law_bus_8, x_Law_bus_9, x_Law_bus_10, x_Law_bus_11, x_Law_bus_12, jm_ia, jm_na, jm_qa, jm_aa, jm_asg, jm_l4, jm_Kr, jm_okv, jm_rc, jm_bo, true_and, and_true, Nat.add_zero, Nat.le_refl, j_lt, j_le, j_eq, j_lt0, j_0lt, j_le0, j_0le, j_eq0, j_add, j_sub, j_mul, j_neg, j_0sub, j_nat, j_in, j_div, j_rem, Sum.inl.injEq, exists_eq', true_or, or_true, if_true, if_false, not_true_eq_false, not_false_eq_true, implies_true, j_eq1, reduceIte, Nat.reduceEqDiff, Int.reduceEq, Int.reduceToNat, Nat.reduceAdd, Int.reduceAdd, Int.reduceSub, Int.reduceMul, Int.reduceNeg, and_false, false_and, and_self, u2r, j_b0, j_b1, Classical.not_not, eq_self, true_implies, false_implies, not_true_eq_false, not_false_eq_true, Int.reduceLT, Int.reduceLE, k7, ck, kmo, k96]
  repeat' first
    | apply And.intro
    | (intro _)
    | (refine ⟨_, p_bus3 B l (mo h (ac + 65) σ) ac κ μ H hB, ?_⟩; rintro y h' ⟨rfl, hy⟩; cases hy; try simp (disch := omega) only [x_Law_bus_0, x_Law_bus_1, x_Law_bus_2, x_Law_bus_3, z_Law_bus_4, x_Law_bus_4, x_Law_bus_5, x_Law_bus_6, x_Law_bus_7, x_Law_bus_8, x_Law_bus_9, x_Law_bus_10, x_Law_bus_11, x_Law_bus_12, jm_ia, jm_na, jm_qa, jm_aa, jm_asg, jm_l4, jm_Kr, jm_okv, jm_rc, jm_bo, true_and, and_true, Nat.add_zero, Nat.le_refl, j_lt, j_le, j_eq, j_lt0, j_0lt, j_le0, j_0le, j_eq0, j_add, j_sub, j_mul, j_neg, j_0sub, j_nat, j_in, j_div, j_rem, Sum.inl.injEq, exists_eq', true_or, or_true, if_true, if_false, not_true_eq_false, not_false_eq_true, implies_true, j_eq1, reduceIte, Nat.reduceEqDiff, Int.reduceEq, Int.reduceToNat, Nat.reduceAdd, Int.reduceAdd, Int.reduceSub, Int.reduceMul, Int.reduceNeg, and_false, false_and, and_self, u2r, j_b0, j_b1, Classical.not_not, eq_self, true_implies, false_implies, not_true_eq_false, not_false_eq_true, Int.reduceLT, Int.reduceLE, k7, ck, kmo, k96])
  all_goals first
    | contradiction
    | exact trivial
    | rfl
    | omega
    | exact (bi1 (by omega)).symm
    | exact (bi0 (by omega)).symm
    | exact (bi1 (by assumption)).symm
    | exact (bi0 (by assumption)).symm
    | exact hfin
    | exact ⟨_, rfl⟩
    | ((try unfold IN_); (repeat (first | rw [if_pos (by omega)] | rw [if_neg (by omega)])); done)
    | ((try unfold IN_); (repeat (first | rw [if_pos (by omega)] | rw [if_neg (by omega)])); rfl)
    | ((try unfold IN_); (repeat (first | rw [if_pos (by omega)] | rw [if_neg (by omega)] | rw [if_pos (by assumption)] | rw [if_neg (by assumption)])); rfl)
set_option maxRecDepth 100000 in
set_option maxHeartbeats 4000000 in
theorem H_bus1 (B : jm_B) (l : Launch) (h : jm_H) (ac : Nat) (κ : S_) (μ : M_) (u : Nat → Nat) (ids adr : Nat → Nat → Nat) (T : Int) (σ : S_) (hL : LSt B ac h κ μ u ids adr T σ) (hT : T ≤ 511) (hl0 : l.stackTraces = false) (w : Int) (wa : -2147483648 ≤ w) (wb : w < 2147483648) (hx : ¬ (0 ≤ w ∧ w ≤ 3)) : jm_Cw B l (gm 114) (hhs 0 9 12 none) [.inr (.inl (some (ac))), .inl (Int32.ofInt w), .inr (.inl (some (ac + 96)))] (cs (mo h (ac + 65) σ) ac (CN κ) μ) (fun v h' => PH B ac h T σ (jm_u2 σ 0 0 (if 0 ≤ w ∧ w ≤ 3 then 0 else 1)) (some (if 0 ≤ w ∧ w ≤ 3 then (if w = 0 then σ 0 24 else if w = 1 then σ 0 35 else if w = 2 then σ 0 36 else σ 0 37) else 0)) v h') := by
  have H := RC_mo hL.1.1 σ
  have hB := hL.2.1.1.1
  have hS := hL.2.1.1.2.1
  have b01 : 0 ≤ κ 0 1 ∧ κ 0 1 ≤ 600000 := hB 0 1
  have k7 : jm_k (cs (mo h (ac + 65) σ) ac (CN κ) μ) ac = some (.inl 7) := ck0 H
  have k96 : jm_k h (ac + 96) = some (.inr (2, 1)) := hL.1.2.2.2.1
  have kmo : ∀ h1 a, jm_k (mo h1 (ac + 65) σ) a = jm_k h1 a := fun _ _ => rfl
  have hsp : jm_u2 σ 0 0 (if 0 ≤ w ∧ w ≤ 3 then 0 else 1) = jm_u2 σ 0 0 1 := by rw [if_neg hx]
  show jm_Cw B l M_Law_bus _ _ _ _
  refine jm_CW (code := t_Law_bus) (pcC := 4) (jC := 4) (mi := 57) (na := 2) (rc := 1) (mc := 1) (ms := 6) (jh := (fun k => if k = 1 then some 8 else none)) rfl rfl (by decide) w_Law_bus rfl (Nat.le_of_ble_eq_true rfl) [some (.inr (.inl (some (ac)))), some (.inl (Int32.ofInt w)), some (.inr (.inl (some (ac + 96)))), none] rfl rfl rfl (by decide) (fun j hj => by cases Option.some.inj (show some 8 = some j from hj); exact ⟨_, _, rfl, rfl, rfl⟩) (fun j hj => by exact absurd (show none = some j from hj) (by intro q; cases q)) ⟨17, ?_⟩
  simp (disch := omega) only [x_Law_bus_0, x_Law_bus_1, x_Law_bus_2, x_Law_bus_3, z_Law_bus_4, x_Law_bus_4, x_Law_bus_5, x_Law_bus_6, x_Law_bus_7, x_Law_bus_8, x_Law_bus_9, x_Law_bus_10, x_Law_bus_11, x_Law_bus_12, jm_ia, jm_na, jm_qa, jm_aa, jm_asg, jm_l4, jm_Kr, jm_okv, jm_rc, jm_bo, true_and, and_true, Nat.add_zero, Nat.le_refl, j_lt, j_le, j_eq, j_lt0, j_0lt, j_le0, j_0le, j_eq0, j_add, j_sub, j_mul, j_neg, j_0sub, j_nat, j_in, j_div, j_rem, Sum.inl.injEq, exists_eq', true_or, or_true, if_true, if_false, not_true_eq_false, not_false_eq_true, implies_true, j_eq1, reduceIte, Nat.reduceEqDiff, Int.reduceEq, Int.reduceToNat, Nat.reduceAdd, Int.reduceAdd, Int.reduceSub, Int.reduceMul, Int.reduceNeg, and_false, false_and, and_self, u2r, j_b0, j_b1, Classical.not_not, eq_self, true_implies, false_implies, not_true_eq_false, not_false_eq_true, Int.reduceLT, Int.reduceLE]
  refine Or.inr ⟨ac, [.inl (Int32.ofInt w)], [.inl (Int32.ofInt 0), .inr (.inl (some (ac + 96)))], 1, 8, by decide, rfl, rfl, rfl, k7, trivial, by decide, by decide, x_bus1 B l (mo h (ac + 65) σ) ac κ μ H hB w wa wb hx hl0, fun q n hn => ⟨17, ?_⟩⟩
  simp (disch := omega) only [x_Law_bus_0, x_Law_bus_1, x_Law_bus_2, x_Law_bus_3, z_Law_bus_4, x_Law_bus_4, x_Law_bus_5, x_Law_bus_6, x_Law_bus_7, x_Law_bus_8, x_Law_bus_9, x_Law_bus_10, x_Law_bus_11, x_Law_bus_12, jm_ia, jm_na, jm_qa, jm_aa, jm_asg, jm_l4, jm_Kr, jm_okv, jm_rc, jm_bo, true_and, and_true, Nat.add_zero, Nat.le_refl, j_lt, j_le, j_eq, j_lt0, j_0lt, j_le0, j_0le, j_eq0, j_add, j_sub, j_mul, j_neg, j_0sub, j_nat, j_in, j_div, j_rem, Sum.inl.injEq, exists_eq', true_or, or_true, if_true, if_false, not_true_eq_false, not_false_eq_true, implies_true, j_eq1, reduceIte, Nat.reduceEqDiff, Int.reduceEq, Int.reduceToNat, Nat.reduceAdd, Int.reduceAdd, Int.reduceSub, Int.reduceMul, Int.reduceNeg, and_false, false_and, and_self, u2r, j_b0, j_b1, Classical.not_not, eq_self, true_implies, false_implies, not_true_eq_false, not_false_eq_true, Int.reduceLT, Int.reduceLE]
  repeat' first
    | apply And.intro
    | (intro _)
  all_goals first
    | contradiction
    | exact trivial
    | rfl
    | omega
    | exact (bi1 (by omega)).symm
    | exact (bi0 (by omega)).symm
    | exact (bi1 (by assumption)).symm
    | exact (bi0 (by assumption)).symm
    | exact PH_x hL (by decide) hsp hn
    | exact ⟨_, rfl⟩
    | ((try unfold IN_); (repeat (first | rw [if_pos (by omega)] | rw [if_neg (by omega)])); done)
    | ((try unfold IN_); (repeat (first | rw [if_pos (by omega)] | rw [if_neg (by omega)])); rfl)
    | ((try unfold IN_); (repeat (first | rw [if_pos (by omega)] | rw [if_neg (by omega)] | rw [if_pos (by assumption)] | rw [if_neg (by assumption)])); rfl)
