/-! the law's helpers -/
def LowA (h h1 : jm_H) (ac : Nat) : Prop := ∀ a, a < ac → jm_k h1 a = jm_k h a ∧ ∀ j, jm_i h1 a j = jm_i h a j
def PH (B : jm_B) (ac : Nat) (h : jm_H) (T : Int) (σ σ' : S_) (wv : Option Int) (v : jm_V) (h' : jm_H) : Prop := ∃ h1 κ' μ' u' ids' adr', h' = cs (mo h1 (ac + 65) σ) ac (CN κ') μ' ∧ LSt B ac h1 κ' μ' u' ids' adr' (T + 1) σ' ∧ v = .inl (Int32.ofInt (σ' 0 0)) ∧ (∀ w, wv = some w → σ' 0 0 = 0 → jm_l h1 (ac + 96) 0 = (Int32.ofInt w).toInt64) ∧ LowA h h1 ac ∧ (0 ≤ σ' 0 0 ∧ σ' 0 0 ≤ 2)
section
variable {B : jm_B} {ac : Nat} {T : Int} {σ σ' : S_} {wv : Option Int} {h : jm_H} {κ : S_} {μ : M_} {u : Nat → Nat} {ids adr : Nat → Nat → Nat}
theorem PH_x (hL : LSt B ac h κ μ u ids adr T σ) {k : Int} (hk : k = 1 ∨ k = 2) (e : σ' = jm_u2 σ 0 0 k) {n : Nat} (hn : jm_n h ≤ n) : PH B ac h T σ σ' wv (.inl (Int32.ofInt k)) (jm_xn (cs (mo h (ac + 65) σ) ac (CN κ) μ) n) := by
  subst e
  refine ⟨jm_xn h n, κ, μ, u, ids, adr, rfl, LSt_k (LSt_x hL hn) k, by rw [u2p ⟨rfl, rfl⟩], fun w _ q => ?_, fun _ _ => ⟨rfl, fun _ => rfl⟩, ?_⟩
  · rw [u2p ⟨rfl, rfl⟩] at q
    omega
  · rw [u2p ⟨rfl, rfl⟩]
    omega
theorem PH_0 {h1 : jm_H} {κ' : S_} {μ' : M_} {u' : Nat → Nat} {ids' adr' : Nat → Nat → Nat} (hL : LSt B ac h1 κ' μ' u' ids' adr' (T + 1) σ') (e : σ' 0 0 = 0) (hlow : LowA h h1 ac := by exact fun _ _ => ⟨rfl, fun _ => rfl⟩) : PH B ac h T σ σ' none (.inl (Int32.ofInt 0)) (cs (mo h1 (ac + 65) σ) ac (CN κ') μ') :=
  ⟨h1, κ', μ', u', ids', adr', rfl, hL, by rw [e], (fun w q => by cases q), hlow, by rw [e]; decide⟩
theorem PH_1 {h1 : jm_H} {κ' : S_} {μ' : M_} {u' : Nat → Nat} {ids' adr' : Nat → Nat → Nat} (hL : LSt B ac h1 κ' μ' u' ids' adr' (T + 1) σ') (e : σ' 0 0 = 0) (w : Int) (hlow : LowA h h1 ac := by exact fun _ _ => ⟨rfl, fun _ => rfl⟩) : PH B ac h T σ σ' (some w) (.inl (Int32.ofInt 0)) (jm_sl (cs (mo h1 (ac + 65) σ) ac (CN κ') μ') (ac + 96) 0 (Int32.ofInt w).toInt64) := by
  refine ⟨jm_sl h1 (ac + 96) 0 (Int32.ofInt w).toInt64, κ', μ', u', ids', adr', rfl, LSt_l hL _, by rw [e], fun w' q _ => ?_, hlow, by rw [e]; decide⟩
  cases q
  show (if ac + 96 = ac + 96 ∧ 0 = 0 then (Int32.ofInt w).toInt64 else _) = _
  exact if_pos ⟨rfl, rfl⟩
end
set_option maxRecDepth 100000 in
set_option maxHeartbeats 4000000 in
theorem H_setUp0 (B : jm_B) (l : Launch) (h : jm_H) (ac : Nat) (κ : S_) (μ : M_) (u : Nat → Nat) (ids adr : Nat → Nat → Nat) (T : Int) (σ : S_) (hL : LSt B ac h κ μ u ids adr T σ) (hT : T ≤ 511) (hl0 : l.stackTraces = false) (c a : Int) (hc0 : 0 ≤ c) (hc1 : c ≤ 2) (ha0 : 0 ≤ a) (ha1 : a ≤ 3599) (ht : κ 0 1 = 0) : jm_Cw B l (gm 104) (hhs 0 6 9 (some 12)) [.inr (.inl (some (ac))), .inl (Int32.ofInt c), .inl (Int32.ofInt a)] (cs (mo h (ac + 65) σ) ac (CN κ) μ) (fun v h' => PH B ac h T σ (sp_setUp σ c a) none v h') := by
  have H := RC_mo hL.1.1 σ
  have hB := hL.2.1.1.1
  have hS := hL.2.1.1.2.1
  have b01 : 0 ≤ κ 0 1 ∧ κ 0 1 ≤ 600000 := hB 0 1
  have k7 : jm_k (cs (mo h (ac + 65) σ) ac (CN κ) μ) ac = some (.inl 7) := ck0 H
  have k96 : jm_k h (ac + 96) = some (.inr (2, 1)) := hL.1.2.2.2.1
  have kmo : ∀ h1 a, jm_k (mo h1 (ac + 65) σ) a = jm_k h1 a := fun _ _ => rfl
  have e01 : κ 0 1 = σ 0 1 := hL.2.2.1 0 1 (by omega) (by omega)
  have hsp : sp_setUp σ c a = jm_u2 (jm_u2 σ 0 0 0) 1 c.toNat a := by unfold sp_setUp; rw [if_pos (by omega), if_neg (by omega)]
  have hfin : PH B ac h T σ (sp_setUp σ c a) none (.inl (Int32.ofInt 0)) (cs (mo h (ac + 65) σ) ac (CN (jm_u2 κ 1 c.toNat a)) μ) := by
    rw [hsp]
    exact PH_0 (LSt_u hL (Or.inl rfl) (show 0 ≤ a ∧ a < 3600 by omega)) (by rw [u2n (by omega), u2p ⟨rfl, rfl⟩])
  show jm_Cw B l M_Law_setUp _ _ _ _
  refine jm_CW (code := t_Law_setUp) (pcC := 3) (jC := 3) (mi := 47) (na := 3) (rc := 0) (mc := 1) (ms := 6) (jh := (fun k => if k = 1 then some 5 else some 8)) rfl rfl (by decide) w_Law_setUp rfl (Nat.le_of_ble_eq_true rfl) [some (.inr (.inl (some (ac)))), some (.inl (Int32.ofInt c)), some (.inl (Int32.ofInt a)), none] rfl rfl rfl (by decide) (fun j hj => by cases Option.some.inj (show some 5 = some j from hj); exact ⟨_, _, rfl, rfl, rfl⟩) (fun j hj => by cases Option.some.inj (show some 8 = some j from hj); exact ⟨_, _, _, rfl, rfl, rfl, rfl⟩) ⟨17, ?_⟩
  simp (disch := omega) only [x_Law_setUp_0, x_Law_setUp_1, x_Law_setUp_2, z_Law_setUp_3, x_Law_setUp_3, x_Law_setUp_4, x_Law_setUp_5, x_Law_setUp_6, x_Law_setUp_7, x_Law_setUp_8, x_Law_setUp_9, x_Law_setUp_10, x_Law_setUp_11, x_Law_setUp_12, jm_ia, jm_na, jm_qa, jm_aa, jm_asg, jm_l4, jm_Kr, jm_okv, jm_rc, jm_bo, true_and, and_true, Nat.add_zero, Nat.le_refl, j_lt, j_le, j_eq, j_lt0, j_0lt, j_le0, j_0le, j_eq0, j_add, j_sub, j_mul, j_neg, j_0sub, j_nat, j_in, j_div, j_rem, Sum.inl.injEq, exists_eq', true_or, or_true, if_true, if_false, not_true_eq_false, not_false_eq_true, implies_true, j_eq1, reduceIte, Nat.reduceEqDiff, Int.reduceEq, Int.reduceToNat, Nat.reduceAdd, Int.reduceAdd, Int.reduceSub, Int.reduceMul, Int.reduceNeg, and_false, false_and, and_self, u2r, j_b0, j_b1, Classical.not_not, eq_self, true_implies, false_implies, not_true_eq_false, not_false_eq_true, Int.reduceLT, Int.reduceLE, k7]
  refine Or.inl ⟨17, ?_⟩
  simp (disch := omega) only [x_Law_setUp_0, x_Law_setUp_1, x_Law_setUp_2, z_Law_setUp_3, x_Law_setUp_3, x_Law_setUp_4, x_Law_setUp_5, x_Law_setUp_6, x_Law_setUp_7, x_Law_setUp_8, x_Law_setUp_9, x_Law_setUp_10, x_Law_setUp_11, x_Law_setUp_12, jm_ia, jm_na, jm_qa, jm_aa, jm_asg, jm_l4, jm_Kr, jm_okv, jm_rc, jm_bo, true_and, and_true, Nat.add_zero, Nat.le_refl, j_lt, j_le, j_eq, j_lt0, j_0lt, j_le0, j_0le, j_eq0, j_add, j_sub, j_mul, j_neg, j_0sub, j_nat, j_in, j_div, j_rem, Sum.inl.injEq, exists_eq', true_or, or_true, if_true, if_false, not_true_eq_false, not_false_eq_true, implies_true, j_eq1, reduceIte, Nat.reduceEqDiff, Int.reduceEq, Int.reduceToNat, Nat.reduceAdd, Int.reduceAdd, Int.reduceSub, Int.reduceMul, Int.reduceNeg, and_false, false_and, and_self, u2r, j_b0, j_b1, Classical.not_not, eq_self, true_implies, false_implies, not_true_eq_false, not_false_eq_true, Int.reduceLT, Int.reduceLE, k7]
  repeat' first
    | apply And.intro
    | (intro _)
    | (refine ⟨_, p_setUp B l (mo h (ac + 65) σ) ac κ μ H hB c a hc0 hc1 ha0 ha1 ht, ?_⟩; rintro h' rfl; try simp (disch := omega) only [x_Law_setUp_0, x_Law_setUp_1, x_Law_setUp_2, z_Law_setUp_3, x_Law_setUp_3, x_Law_setUp_4, x_Law_setUp_5, x_Law_setUp_6, x_Law_setUp_7, x_Law_setUp_8, x_Law_setUp_9, x_Law_setUp_10, x_Law_setUp_11, x_Law_setUp_12, jm_ia, jm_na, jm_qa, jm_aa, jm_asg, jm_l4, jm_Kr, jm_okv, jm_rc, jm_bo, true_and, and_true, Nat.add_zero, Nat.le_refl, j_lt, j_le, j_eq, j_lt0, j_0lt, j_le0, j_0le, j_eq0, j_add, j_sub, j_mul, j_neg, j_0sub, j_nat, j_in, j_div, j_rem, Sum.inl.injEq, exists_eq', true_or, or_true, if_true, if_false, not_true_eq_false, not_false_eq_true, implies_true, j_eq1, reduceIte, Nat.reduceEqDiff, Int.reduceEq, Int.reduceToNat, Nat.reduceAdd, Int.reduceAdd, Int.reduceSub, Int.reduceMul, Int.reduceNeg, and_false, false_and, and_self, u2r, j_b0, j_b1, Classical.not_not, eq_self, true_implies, false_implies, not_true_eq_false, not_false_eq_true, Int.reduceLT, Int.reduceLE, k7])
  all_goals first
    | contradiction
    | exact trivial
    | rfl
    | omega
    | exact (bi1 (by omega)).symm
    | exact (bi0 (by omega)).symm
    | exact (bi1 (by assumption)).symm
    | exact (bi0 (by assumption)).symm
    | exact hfin
    | exact ⟨_, rfl⟩
    | ((try unfold IN_); (repeat (first | rw [if_pos (by omega)] | rw [if_neg (by omega)])); done)
    | ((try unfold IN_); (repeat (first | rw [if_pos (by omega)] | rw [if_neg (by omega)])); rfl)
    | ((try unfold IN_); (repeat (first | rw [if_pos (by omega)] | rw [if_neg (by omega)] | rw [if_pos (by assumption)] | rw [if_neg (by assumption)])); rfl)
set_option maxRecDepth 100000 in
set_option maxHeartbeats 4000000 in
theorem H_setUp1 (B : jm_B) (l : Launch) (h : jm_H) (ac : Nat) (κ : S_) (μ : M_) (u : Nat → Nat) (ids adr : Nat → Nat → Nat) (T : Int) (σ : S_) (hL : LSt B ac h κ μ u ids adr T σ) (hT : T ≤ 511) (hl0 : l.stackTraces = false) (c a : Int) (ca : -2147483648 ≤ c) (cb : c < 2147483648) (aa : -2147483648 ≤ a) (ab : a < 2147483648) (hx : ¬ ((0 ≤ c ∧ c ≤ 2) ∧ (0 ≤ a ∧ a ≤ 3599))) : jm_Cw B l (gm 104) (hhs 0 6 9 (some 12)) [.inr (.inl (some (ac))), .inl (Int32.ofInt c), .inl (Int32.ofInt a)] (cs (mo h (ac + 65) σ) ac (CN κ) μ) (fun v h' => PH B ac h T σ (sp_setUp σ c a) none v h') := by
  have H := RC_mo hL.1.1 σ
  have hB := hL.2.1.1.1
  have hS := hL.2.1.1.2.1
  have b01 : 0 ≤ κ 0 1 ∧ κ 0 1 ≤ 600000 := hB 0 1
  have k7 : jm_k (cs (mo h (ac + 65) σ) ac (CN κ) μ) ac = some (.inl 7) := ck0 H
  have k96 : jm_k h (ac + 96) = some (.inr (2, 1)) := hL.1.2.2.2.1
  have kmo : ∀ h1 a, jm_k (mo h1 (ac + 65) σ) a = jm_k h1 a := fun _ _ => rfl
  have hsp : sp_setUp σ c a = jm_u2 σ 0 0 1 := by unfold sp_setUp; rw [if_neg hx]
  show jm_Cw B l M_Law_setUp _ _ _ _
  refine jm_CW (code := t_Law_setUp) (pcC := 3) (jC := 3) (mi := 47) (na := 3) (rc := 0) (mc := 1) (ms := 6) (jh := (fun k => if k = 1 then some 5 else some 8)) rfl rfl (by decide) w_Law_setUp rfl (Nat.le_of_ble_eq_true rfl) [some (.inr (.inl (some (ac)))), some (.inl (Int32.ofInt c)), some (.inl (Int32.ofInt a)), none] rfl rfl rfl (by decide) (fun j hj => by cases Option.some.inj (show some 5 = some j from hj); exact ⟨_, _, rfl, rfl, rfl⟩) (fun j hj => by cases Option.some.inj (show some 8 = some j from hj); exact ⟨_, _, _, rfl, rfl, rfl, rfl⟩) ⟨17, ?_⟩
  simp (disch := omega) only [x_Law_setUp_0, x_Law_setUp_1, x_Law_setUp_2, z_Law_setUp_3, x_Law_setUp_3, x_Law_setUp_4, x_Law_setUp_5, x_Law_setUp_6, x_Law_setUp_7, x_Law_setUp_8, x_Law_setUp_9, x_Law_setUp_10, x_Law_setUp_11, x_Law_setUp_12, jm_ia, jm_na, jm_qa, jm_aa, jm_asg, jm_l4, jm_Kr, jm_okv, jm_rc, jm_bo, true_and, and_true, Nat.add_zero, Nat.le_refl, j_lt, j_le, j_eq, j_lt0, j_0lt, j_le0, j_0le, j_eq0, j_add, j_sub, j_mul, j_neg, j_0sub, j_nat, j_in, j_div, j_rem, Sum.inl.injEq, exists_eq', true_or, or_true, if_true, if_false, not_true_eq_false, not_false_eq_true, implies_true, j_eq1, reduceIte, Nat.reduceEqDiff, Int.reduceEq, Int.reduceToNat, Nat.reduceAdd, Int.reduceAdd, Int.reduceSub, Int.reduceMul, Int.reduceNeg, and_false, false_and, and_self, u2r, j_b0, j_b1, Classical.not_not, eq_self, true_implies, false_implies, not_true_eq_false, not_false_eq_true, Int.reduceLT, Int.reduceLE]
  refine Or.inr ⟨ac, [.inl (Int32.ofInt c), .inl (Int32.ofInt a)], [], 1, 5, by decide, rfl, rfl, rfl, k7, trivial, by decide, by decide, x_setUp1 B l (mo h (ac + 65) σ) ac κ μ H hB c a ca cb aa ab hx hl0, fun q n hn => ⟨17, ?_⟩⟩
  simp (disch := omega) only [x_Law_setUp_0, x_Law_setUp_1, x_Law_setUp_2, z_Law_setUp_3, x_Law_setUp_3, x_Law_setUp_4, x_Law_setUp_5, x_Law_setUp_6, x_Law_setUp_7, x_Law_setUp_8, x_Law_setUp_9, x_Law_setUp_10, x_Law_setUp_11, x_Law_setUp_12, jm_ia, jm_na, jm_qa, jm_aa, jm_asg, jm_l4, jm_Kr, jm_okv, jm_rc, jm_bo, true_and, and_true, Nat.add_zero, Nat.le_refl, j_lt, j_le, j_eq, j_lt0, j_0lt, j_le0, j_0le, j_eq0, j_add, j_sub, j_mul, j_neg, j_0sub, j_nat, j_in, j_div, j_rem, Sum.inl.injEq, exists_eq', true_or, or_true, if_true, if_false, not_true_eq_false, not_false_eq_true, implies_true, j_eq1, reduceIte, Nat.reduceEqDiff, Int.reduceEq, Int.reduceToNat, Nat.reduceAdd, Int.reduceAdd, Int.reduceSub, Int.reduceMul, Int.reduceNeg, and_false, false_and, and_self, u2r, j_b0, j_b1, Classical.not_not, eq_self, true_implies, false_implies, not_true_eq_false, not_false_eq_true, Int.reduceLT, Int.reduceLE]
  repeat' first
    | apply And.intro
    | (intro _)
  all_goals first
    | contradiction
    | exact trivial
    | rfl
    | omega
    | exact (bi1 (by omega)).symm
    | exact (bi0 (by omega)).symm
    | exact (bi1 (by assumption)).symm
    | exact (bi0 (by assumption)).symm
    | exact PH_x hL (by decide) hsp hn
    | exact ⟨_, rfl⟩
    | ((try unfold IN_); (repeat (first | rw [if_pos (by omega)] | rw [if_neg (by omega)])); done)
    | ((try unfold IN_); (repeat (first | rw [if_pos (by omega)] | rw [if_neg (by omega)])); rfl)
    | ((try unfold IN_); (repeat (first | rw [if_pos (by omega)] | rw [if_neg (by omega)] | rw [if_pos (by assumption)] | rw [if_neg (by assumption)])); rfl)
set_option maxRecDepth 100000 in
set_option maxHeartbeats 4000000 in
theorem H_setUp2 (B : jm_B) (l : Launch) (h : jm_H) (ac : Nat) (κ : S_) (μ : M_) (u : Nat → Nat) (ids adr : Nat → Nat → Nat) (T : Int) (σ : S_) (hL : LSt B ac h κ μ u ids adr T σ) (hT : T ≤ 511) (hl0 : l.stackTraces = false) (c a : Int) (hc0 : 0 ≤ c) (hc1 : c ≤ 2) (ha0 : 0 ≤ a) (ha1 : a ≤ 3599) (ht : ¬ κ 0 1 = 0) : jm_Cw B l (gm 104) (hhs 0 6 9 (some 12)) [.inr (.inl (some (ac))), .inl (Int32.ofInt c), .inl (Int32.ofInt a)] (cs (mo h (ac + 65) σ) ac (CN κ) μ) (fun v h' => PH B ac h T σ (sp_setUp σ c a) none v h') := by
  have H := RC_mo hL.1.1 σ
  have hB := hL.2.1.1.1
  have hS := hL.2.1.1.2.1
  have b01 : 0 ≤ κ 0 1 ∧ κ 0 1 ≤ 600000 := hB 0 1
  have k7 : jm_k (cs (mo h (ac + 65) σ) ac (CN κ) μ) ac = some (.inl 7) := ck0 H
  have k96 : jm_k h (ac + 96) = some (.inr (2, 1)) := hL.1.2.2.2.1
  have kmo : ∀ h1 a, jm_k (mo h1 (ac + 65) σ) a = jm_k h1 a := fun _ _ => rfl
  have e01 : κ 0 1 = σ 0 1 := hL.2.2.1 0 1 (by omega) (by omega)
  have hsp : sp_setUp σ c a = jm_u2 σ 0 0 2 := by unfold sp_setUp; rw [if_pos (by omega), if_pos (by omega)]
  show jm_Cw B l M_Law_setUp _ _ _ _
  refine jm_CW (code := t_Law_setUp) (pcC := 3) (jC := 3) (mi := 47) (na := 3) (rc := 0) (mc := 1) (ms := 6) (jh := (fun k => if k = 1 then some 5 else some 8)) rfl rfl (by decide) w_Law_setUp rfl (Nat.le_of_ble_eq_true rfl) [some (.inr (.inl (some (ac)))), some (.inl (Int32.ofInt c)), some (.inl (Int32.ofInt a)), none] rfl rfl rfl (by decide) (fun j hj => by cases Option.some.inj (show some 5 = some j from hj); exact ⟨_, _, rfl, rfl, rfl⟩) (fun j hj => by cases Option.some.inj (show some 8 = some j from hj); exact ⟨_, _, _, rfl, rfl, rfl, rfl⟩) ⟨17, ?_⟩
  simp (disch := omega) only [x_Law_setUp_0, x_Law_setUp_1, x_Law_setUp_2, z_Law_setUp_3, x_Law_setUp_3, x_Law_setUp_4, x_Law_setUp_5, x_Law_setUp_6, x_Law_setUp_7, x_Law_setUp_8, x_Law_setUp_9, x_Law_setUp_10, x_Law_setUp_11, x_Law_setUp_12, jm_ia, jm_na, jm_qa, jm_aa, jm_asg, jm_l4, jm_Kr, jm_okv, jm_rc, jm_bo, true_and, and_true, Nat.add_zero, Nat.le_refl, j_lt, j_le, j_eq, j_lt0, j_0lt, j_le0, j_0le, j_eq0, j_add, j_sub, j_mul, j_neg, j_0sub, j_nat, j_in, j_div, j_rem, Sum.inl.injEq, exists_eq', true_or, or_true, if_true, if_false, not_true_eq_false, not_false_eq_true, implies_true, j_eq1, reduceIte, Nat.reduceEqDiff, Int.reduceEq, Int.reduceToNat, Nat.reduceAdd, Int.reduceAdd, Int.reduceSub, Int.reduceMul, Int.reduceNeg, and_false, false_and, and_self, u2r, j_b0, j_b1, Classical.not_not, eq_self, true_implies, false_implies, not_true_eq_false, not_false_eq_true, Int.reduceLT, Int.reduceLE]
  refine Or.inr ⟨ac, [.inl (Int32.ofInt c), .inl (Int32.ofInt a)], [], 2, 8, by decide, rfl, rfl, rfl, k7, trivial, by decide, by decide, x_setUp2 B l (mo h (ac + 65) σ) ac κ μ H hB c a hc0 hc1 ha0 ha1 ht hl0, fun q n hn => ⟨17, ?_⟩⟩
  simp (disch := omega) only [x_Law_setUp_0, x_Law_setUp_1, x_Law_setUp_2, z_Law_setUp_3, x_Law_setUp_3, x_Law_setUp_4, x_Law_setUp_5, x_Law_setUp_6, x_Law_setUp_7, x_Law_setUp_8, x_Law_setUp_9, x_Law_setUp_10, x_Law_setUp_11, x_Law_setUp_12, jm_ia, jm_na, jm_qa, jm_aa, jm_asg, jm_l4, jm_Kr, jm_okv, jm_rc, jm_bo, true_and, and_true, Nat.add_zero, Nat.le_refl, j_lt, j_le, j_eq, j_lt0, j_0lt, j_le0, j_0le, j_eq0, j_add, j_sub, j_mul, j_neg, j_0sub, j_nat, j_in, j_div, j_rem, Sum.inl.injEq, exists_eq', true_or, or_true, if_true, if_false, not_true_eq_false, not_false_eq_true, implies_true, j_eq1, reduceIte, Nat.reduceEqDiff, Int.reduceEq, Int.reduceToNat, Nat.reduceAdd, Int.reduceAdd, Int.reduceSub, Int.reduceMul, Int.reduceNeg, and_false, false_and, and_self, u2r, j_b0, j_b1, Classical.not_not, eq_self, true_implies, false_implies, not_true_eq_false, not_false_eq_true, Int.reduceLT, Int.reduceLE]
  repeat' first
    | apply And.intro
    | (intro _)
  all_goals first
    | contradiction
    | exact trivial
    | rfl
    | omega
    | exact (bi1 (by omega)).symm
    | exact (bi0 (by omega)).symm
    | exact (bi1 (by assumption)).symm
    | exact (bi0 (by assumption)).symm
    | exact PH_x hL (by decide) hsp hn
    | exact ⟨_, rfl⟩
    | ((try unfold IN_); (repeat (first | rw [if_pos (by omega)] | rw [if_neg (by omega)])); done)
    | ((try unfold IN_); (repeat (first | rw [if_pos (by omega)] | rw [if_neg (by omega)])); rfl)
    | ((try unfold IN_); (repeat (first | rw [if_pos (by omega)] | rw [if_neg (by omega)] | rw [if_pos (by assumption)] | rw [if_neg (by assumption)])); rfl)
set_option maxRecDepth 100000 in
set_option maxHeartbeats 4000000 in
theorem H_load0 (B : jm_B) (l : Launch) (h : jm_H) (ac : Nat) (κ : S_) (μ : M_) (u : Nat → Nat) (ids adr : Nat → Nat → Nat) (T : Int) (σ : S_) (hL : LSt B ac h κ μ u ids adr T σ) (hT : T ≤ 511) (hl0 : l.stackTraces = false) (c a : Int) (hc0 : 0 ≤ c) (hc1 : c ≤ 2) (ha0 : 0 ≤ a) (ha1 : a ≤ 1000) : jm_Cw B l (gm 109) (hhs 0 6 9 none) [.inr (.inl (some (ac))), .inl (Int32.ofInt c), .inl (Int32.ofInt a)] (cs (mo h (ac + 65) σ) ac (CN κ) μ) (fun v h' => PH B ac h T σ (sp_load σ c a) none v h') := by
  have H := RC_mo hL.1.1 σ
  have hB := hL.2.1.1.1
  have hS := hL.2.1.1.2.1
  have b01 : 0 ≤ κ 0 1 ∧ κ 0 1 ≤ 600000 := hB 0 1
  have k7 : jm_k (cs (mo h (ac + 65) σ) ac (CN κ) μ) ac = some (.inl 7) := ck0 H
  have k96 : jm_k h (ac + 96) = some (.inr (2, 1)) := hL.1.2.2.2.1
  have kmo : ∀ h1 a, jm_k (mo h1 (ac + 65) σ) a = jm_k h1 a := fun _ _ => rfl
  have hsp : sp_load σ c a = jm_u2 (jm_u2 σ 0 0 0) 5 c.toNat a := by unfold sp_load; rw [if_pos (by omega)]
  have hfin : PH B ac h T σ (sp_load σ c a) none (.inl (Int32.ofInt 0)) (cs (mo h (ac + 65) σ) ac (CN (jm_u2 κ 5 c.toNat a)) μ) := by
    rw [hsp]
    exact PH_0 (LSt_u hL (by omega) (show 0 ≤ a ∧ a ≤ 1000 by omega)) (by rw [u2n (by omega), u2p ⟨rfl, rfl⟩])
  show jm_Cw B l M_Law_load _ _ _ _
  refine jm_CW (code := t_Law_load) (pcC := 3) (jC := 3) (mi := 52) (na := 3) (rc := 0) (mc := 1) (ms := 6) (jh := (fun k => if k = 1 then some 5 else none)) rfl rfl (by decide) w_Law_load rfl (Nat.le_of_ble_eq_true rfl) [some (.inr (.inl (some (ac)))), some (.inl (Int32.ofInt c)), some (.inl (Int32.ofInt a)), none] rfl rfl rfl (by decide) (fun j hj => by cases Option.some.inj (show some 5 = some j from hj); exact ⟨_, _, rfl, rfl, rfl⟩) (fun j hj => by exact absurd (show none = some j from hj) (by intro q; cases q)) ⟨14, ?_⟩
  simp (disch := omega) only [x_Law_load_0, x_Law_load_1, x_Law_load_2, z_Law_load_3, x_Law_load_3, x_Law_load_4, x_Law_load_5, x_Law_load_6, x_Law_load_7, x_Law_load_8, x_Law_load_9, jm_ia, jm_na, jm_qa, jm_aa, jm_asg, jm_l4, jm_Kr, jm_okv, jm_rc, jm_bo, true_and, and_true, Nat.add_zero, Nat.le_refl, j_lt, j_le, j_eq, j_lt0, j_0lt, j_le0, j_0le, j_eq0, j_add, j_sub, j_mul, j_neg, j_0sub, j_nat, j_in, j_div, j_rem, Sum.inl.injEq, exists_eq', true_or, or_true, if_true, if_false, not_true_eq_false, not_false_eq_true, implies_true, j_eq1, reduceIte, Nat.reduceEqDiff, Int.reduceEq, Int.reduceToNat, Nat.reduceAdd, Int.reduceAdd, Int.reduceSub, Int.reduceMul, Int.reduceNeg, and_false, false_and, and_self, u2r, j_b0, j_b1, Classical.not_not, eq_self, true_implies, false_implies, not_true_eq_false, not_false_eq_true, Int.reduceLT, Int.reduceLE, k7]
  refine Or.inl ⟨14, ?_⟩
  simp (disch := omega) only [x_Law_load_0, x_Law_load_1, x_Law_load_2, z_Law_load_3, x_Law_load_3, x_Law_load_4, x_Law_load_5, x_Law_load_6, x_Law_load_7, x_Law_load_8, x_Law_load_9, jm_ia, jm_na, jm_qa, jm_aa, jm_asg, jm_l4, jm_Kr, jm_okv, jm_rc, jm_bo, true_and, and_true, Nat.add_zero, Nat.le_refl, j_lt, j_le, j_eq, j_lt0, j_0lt, j_le0, j_0le, j_eq0, j_add, j_sub, j_mul, j_neg, j_0sub, j_nat, j_in, j_div, j_rem, Sum.inl.injEq, exists_eq', true_or, or_true, if_true, if_false, not_true_eq_false, not_false_eq_true, implies_true, j_eq1, reduceIte, Nat.reduceEqDiff, Int.reduceEq, Int.reduceToNat, Nat.reduceAdd, Int.reduceAdd, Int.reduceSub, Int.reduceMul, Int.reduceNeg, and_false, false_and, and_self, u2r, j_b0, j_b1, Classical.not_not, eq_self, true_implies, false_implies, not_true_eq_false, not_false_eq_true, Int.reduceLT, Int.reduceLE, k7]
  repeat' first
    | apply And.intro
    | (intro _)
    | (refine ⟨_, p_load B l (mo h (ac + 65) σ) ac κ μ H hB c a hc0 hc1 ha0 ha1, ?_⟩; rintro h' rfl; try simp (disch := omega) only [x_Law_load_0, x_Law_load_1, x_Law_load_2, z_Law_load_3, x_Law_load_3, x_Law_load_4, x_Law_load_5, x_Law_load_6, x_Law_load_7, x_Law_load_8, x_Law_load_9, jm_ia, jm_na, jm_qa, jm_aa, jm_asg, jm_l4, jm_Kr, jm_okv, jm_rc, jm_bo, true_and, and_true, Nat.add_zero, Nat.le_refl, j_lt, j_le, j_eq, j_lt0, j_0lt, j_le0, j_0le, j_eq0, j_add, j_sub, j_mul, j_neg, j_0sub, j_nat, j_in, j_div, j_rem, Sum.inl.injEq, exists_eq', true_or, or_true, if_true, if_false, not_true_eq_false, not_false_eq_true, implies_true, j_eq1, reduceIte, Nat.reduceEqDiff, Int.reduceEq, Int.reduceToNat, Nat.reduceAdd, Int.reduceAdd, Int.reduceSub, Int.reduceMul, Int.reduceNeg, and_false, false_and, and_self, u2r, j_b0, j_b1, Classical.not_not, eq_self, true_implies, false_implies, not_true_eq_false, not_false_eq_true, Int.reduceLT, Int.reduceLE, k7])
  all_goals first
    | contradiction
    | exact trivial
    | rfl
    | omega
    | exact (bi1 (by omega)).symm
    | exact (bi0 (by omega)).symm
    | exact (bi1 (by assumption)).symm
    | exact (bi0 (by assumption)).symm
    | exact hfin
    | exact ⟨_, rfl⟩
    | ((try unfold IN_); (repeat (first | rw [if_pos (by omega)] | rw [if_neg (by omega)])); done)
    | ((try unfold IN_); (repeat (first | rw [if_pos (by omega)] | rw [if_neg (by omega)])); rfl)
    | ((try unfold IN_); (repeat (first | rw [if_pos (by omega)] | rw [if_neg (by omega)] | rw [if_pos (by assumption)] | rw [if_neg (by assumption)])); rfl)
set_option maxRecDepth 100000 in
set_option maxHeartbeats 4000000 in
theorem H_load1 (B : jm_B) (l : Launch) (h : jm_H) (ac : Nat) (κ : S_) (μ : M_) (u : Nat → Nat) (ids adr : Nat → Nat → Nat) (T : Int) (σ : S_) (hL : LSt B ac h κ μ u ids adr T σ) (hT : T ≤ 511) (hl0 : l.stackTraces = false) (c a : Int) (ca : -2147483648 ≤ c) (cb : c < 2147483648) (aa : -2147483648 ≤ a) (ab : a < 2147483648) (hx : ¬ ((0 ≤ c ∧ c ≤ 2) ∧ (0 ≤ a ∧ a ≤ 1000))) : jm_Cw B l (gm 109) (hhs 0 6 9 none) [.inr (.inl (some (ac))), .inl (Int32.ofInt c), .inl (Int32.ofInt a)] (cs (mo h (ac + 65) σ) ac (CN κ) μ) (fun v h' => PH B ac h T σ (sp_load σ c a) none v h') := by
  have H := RC_mo hL.1.1 σ
  have hB := hL.2.1.1.1
  have hS := hL.2.1.1.2.1
  have b01 : 0 ≤ κ 0 1 ∧ κ 0 1 ≤ 600000 := hB 0 1
  have k7 : jm_k (cs (mo h (ac + 65) σ) ac (CN κ) μ) ac = some (.inl 7) := ck0 H
  have k96 : jm_k h (ac + 96) = some (.inr (2, 1)) := hL.1.2.2.2.1
  have kmo : ∀ h1 a, jm_k (mo h1 (ac + 65) σ) a = jm_k h1 a := fun _ _ => rfl
  have hsp : sp_load σ c a = jm_u2 σ 0 0 1 := by unfold sp_load; rw [if_neg hx]
  show jm_Cw B l M_Law_load _ _ _ _
  refine jm_CW (code := t_Law_load) (pcC := 3) (jC := 3) (mi := 52) (na := 3) (rc := 0) (mc := 1) (ms := 6) (jh := (fun k => if k = 1 then some 5 else none)) rfl rfl (by decide) w_Law_load rfl (Nat.le_of_ble_eq_true rfl) [some (.inr (.inl (some (ac)))), some (.inl (Int32.ofInt c)), some (.inl (Int32.ofInt a)), none] rfl rfl rfl (by decide) (fun j hj => by cases Option.some.inj (show some 5 = some j from hj); exact ⟨_, _, rfl, rfl, rfl⟩) (fun j hj => by exact absurd (show none = some j from hj) (by intro q; cases q)) ⟨14, ?_⟩
  simp (disch := omega) only [x_Law_load_0, x_Law_load_1, x_Law_load_2, z_Law_load_3, x_Law_load_3, x_Law_load_4, x_Law_load_5, x_Law_load_6, x_Law_load_7, x_Law_load_8, x_Law_load_9, jm_ia, jm_na, jm_qa, jm_aa, jm_asg, jm_l4, jm_Kr, jm_okv, jm_rc, jm_bo, true_and, and_true, Nat.add_zero, Nat.le_refl, j_lt, j_le, j_eq, j_lt0, j_0lt, j_le0, j_0le, j_eq0, j_add, j_sub, j_mul, j_neg, j_0sub, j_nat, j_in, j_div, j_rem, Sum.inl.injEq, exists_eq', true_or, or_true, if_true, if_false, not_true_eq_false, not_false_eq_true, implies_true, j_eq1, reduceIte, Nat.reduceEqDiff, Int.reduceEq, Int.reduceToNat, Nat.reduceAdd, Int.reduceAdd, Int.reduceSub, Int.reduceMul, Int.reduceNeg, and_false, false_and, and_self, u2r, j_b0, j_b1, Classical.not_not, eq_self, true_implies, false_implies, not_true_eq_false, not_false_eq_true, Int.reduceLT, Int.reduceLE]
  refine Or.inr ⟨ac, [.inl (Int32.ofInt c), .inl (Int32.ofInt a)], [], 1, 5, by decide, rfl, rfl, rfl, k7, trivial, by decide, by decide, x_load1 B l (mo h (ac + 65) σ) ac κ μ H hB c a ca cb aa ab hx hl0, fun q n hn => ⟨14, ?_⟩⟩
  simp (disch := omega) only [x_Law_load_0, x_Law_load_1, x_Law_load_2, z_Law_load_3, x_Law_load_3, x_Law_load_4, x_Law_load_5, x_Law_load_6, x_Law_load_7, x_Law_load_8, x_Law_load_9, jm_ia, jm_na, jm_qa, jm_aa, jm_asg, jm_l4, jm_Kr, jm_okv, jm_rc, jm_bo, true_and, and_true, Nat.add_zero, Nat.le_refl, j_lt, j_le, j_eq, j_lt0, j_0lt, j_le0, j_0le, j_eq0, j_add, j_sub, j_mul, j_neg, j_0sub, j_nat, j_in, j_div, j_rem, Sum.inl.injEq, exists_eq', true_or, or_true, if_true, if_false, not_true_eq_false, not_false_eq_true, implies_true, j_eq1, reduceIte, Nat.reduceEqDiff, Int.reduceEq, Int.reduceToNat, Nat.reduceAdd, Int.reduceAdd, Int.reduceSub, Int.reduceMul, Int.reduceNeg, and_false, false_and, and_self, u2r, j_b0, j_b1, Classical.not_not, eq_self, true_implies, false_implies, not_true_eq_false, not_false_eq_true, Int.reduceLT, Int.reduceLE]
  repeat' first
    | apply And.intro
    | (intro _)
  all_goals first
    | contradiction
    | exact trivial
    | rfl
    | omega
    | exact (bi1 (by omega)).symm
    | exact (bi0 (by omega)).symm
    | exact (bi1 (by assumption)).symm
    | exact (bi0 (by assumption)).symm
    | exact PH_x hL (by decide) hsp hn
    | exact ⟨_, rfl⟩
    | ((try unfold IN_); (repeat (first | rw [if_pos (by omega)] | rw [if_neg (by omega)])); done)
    | ((try unfold IN_); (repeat (first | rw [if_pos (by omega)] | rw [if_neg (by omega)])); rfl)
    | ((try unfold IN_); (repeat (first | rw [if_pos (by omega)] | rw [if_neg (by omega)] | rw [if_pos (by assumption)] | rw [if_neg (by assumption)])); rfl)
set_option maxRecDepth 100000 in
set_option maxHeartbeats 4000000 in
theorem H_order00 (B : jm_B) (l : Launch) (h : jm_H) (ac : Nat) (κ : S_) (μ : M_) (u : Nat → Nat) (ids adr : Nat → Nat → Nat) (T : Int) (σ : S_) (hL : LSt B ac h κ μ u ids adr T σ) (hT : T ≤ 511) (hl0 : l.stackTraces = false) (c o : Int) (hc0 : 0 ≤ c) (hc1 : c ≤ 2) (ho0 : -10 ≤ o) (ho1 : o ≤ 10) : jm_Cw B l (gm 108) (hhs 0 7 10 none) [.inr (.inl (some (ac))), .inl (Int32.ofInt c), .inl (Int32.ofInt 0), .inl (Int32.ofInt o)] (cs (mo h (ac + 65) σ) ac (CN κ) μ) (fun v h' => PH B ac h T σ (sp_order σ c 0 o) none v h') := by
  have H := RC_mo hL.1.1 σ
  have hB := hL.2.1.1.1
  have hS := hL.2.1.1.2.1
  have b01 : 0 ≤ κ 0 1 ∧ κ 0 1 ≤ 600000 := hB 0 1
  have k7 : jm_k (cs (mo h (ac + 65) σ) ac (CN κ) μ) ac = some (.inl 7) := ck0 H
  have k96 : jm_k h (ac + 96) = some (.inr (2, 1)) := hL.1.2.2.2.1
  have kmo : ∀ h1 a, jm_k (mo h1 (ac + 65) σ) a = jm_k h1 a := fun _ _ => rfl
  have hsp : sp_order σ c 0 o = jm_u2 (jm_u2 σ 0 0 0) 6 (3 * c.toNat) o := by unfold sp_order; rw [if_pos (by omega), show (3 * c + 0).toNat = 3 * c.toNat by omega]
  have hfin : PH B ac h T σ (sp_order σ c 0 o) none (.inl (Int32.ofInt 0)) (cs (mo h (ac + 65) σ) ac (CN (jm_u2 κ 6 (3 * c.toNat) o)) μ) := by
    rw [hsp]
    exact PH_0 (LSt_u hL (by omega) (show -20 ≤ o ∧ o ≤ 20 by omega)) (by rw [u2n (by omega), u2p ⟨rfl, rfl⟩])
  show jm_Cw B l M_Law_order _ _ _ _
  refine jm_CW (code := t_Law_order) (pcC := 4) (jC := 4) (mi := 51) (na := 4) (rc := 0) (mc := 1) (ms := 6) (jh := (fun k => if k = 1 then some 6 else none)) rfl rfl (by decide) w_Law_order rfl (Nat.le_of_ble_eq_true rfl) [some (.inr (.inl (some (ac)))), some (.inl (Int32.ofInt c)), some (.inl (Int32.ofInt 0)), some (.inl (Int32.ofInt o)), none] rfl rfl rfl (by decide) (fun j hj => by cases Option.some.inj (show some 6 = some j from hj); exact ⟨_, _, rfl, rfl, rfl⟩) (fun j hj => by exact absurd (show none = some j from hj) (by intro q; cases q)) ⟨15, ?_⟩
  simp (disch := omega) only [x_Law_order_0, x_Law_order_1, x_Law_order_2, x_Law_order_3, z_Law_order_4, x_Law_order_4, x_Law_order_5, x_Law_order_6, x_Law_order_7, x_Law_order_8, x_Law_order_9, x_Law_order_10, jm_ia, jm_na, jm_qa, jm_aa, jm_asg, jm_l4, jm_Kr, jm_okv, jm_rc, jm_bo, true_and, and_true, Nat.add_zero, Nat.le_refl, j_lt, j_le, j_eq, j_lt0, j_0lt, j_le0, j_0le, j_eq0, j_add, j_sub, j_mul, j_neg, j_0sub, j_nat, j_in, j_div, j_rem, Sum.inl.injEq, exists_eq', true_or, or_true, if_true, if_false, not_true_eq_false, not_false_eq_true, implies_true, j_eq1, reduceIte, Nat.reduceEqDiff, Int.reduceEq, Int.reduceToNat, Nat.reduceAdd, Int.reduceAdd, Int.reduceSub, Int.reduceMul, Int.reduceNeg, and_false, false_and, and_self, u2r, j_b0, j_b1, Classical.not_not, eq_self, true_implies, false_implies, not_true_eq_false, not_false_eq_true, Int.reduceLT, Int.reduceLE, k7]
  refine Or.inl ⟨15, ?_⟩
  simp (disch := omega) only [x_Law_order_0, x_Law_order_1, x_Law_order_2, x_Law_order_3, z_Law_order_4, x_Law_order_4, x_Law_order_5, x_Law_order_6, x_Law_order_7, x_Law_order_8, x_Law_order_9, x_Law_order_10, jm_ia, jm_na, jm_qa, jm_aa, jm_asg, jm_l4, jm_Kr, jm_okv, jm_rc, jm_bo, true_and, and_true, Nat.add_zero, Nat.le_refl, j_lt, j_le, j_eq, j_lt0, j_0lt, j_le0, j_0le, j_eq0, j_add, j_sub, j_mul, j_neg, j_0sub, j_nat, j_in, j_div, j_rem, Sum.inl.injEq, exists_eq', true_or, or_true, if_true, if_false, not_true_eq_false, not_false_eq_true, implies_true, j_eq1, reduceIte, Nat.reduceEqDiff, Int.reduceEq, Int.reduceToNat, Nat.reduceAdd, Int.reduceAdd, Int.reduceSub, Int.reduceMul, Int.reduceNeg, and_false, false_and, and_self, u2r, j_b0, j_b1, Classical.not_not, eq_self, true_implies, false_implies, not_true_eq_false, not_false_eq_true, Int.reduceLT, Int.reduceLE, k7]
  repeat' first
    | apply And.intro
    | (intro _)
    | (refine ⟨_, p_order0 B l (mo h (ac + 65) σ) ac κ μ H hB c o hc0 hc1 ho0 ho1, ?_⟩; rintro h' rfl; try simp (disch := omega) only [x_Law_order_0, x_Law_order_1, x_Law_order_2, x_Law_order_3, z_Law_order_4, x_Law_order_4, x_Law_order_5, x_Law_order_6, x_Law_order_7, x_Law_order_8, x_Law_order_9, x_Law_order_10, jm_ia, jm_na, jm_qa, jm_aa, jm_asg, jm_l4, jm_Kr, jm_okv, jm_rc, jm_bo, true_and, and_true, Nat.add_zero, Nat.le_refl, j_lt, j_le, j_eq, j_lt0, j_0lt, j_le0, j_0le, j_eq0, j_add, j_sub, j_mul, j_neg, j_0sub, j_nat, j_in, j_div, j_rem, Sum.inl.injEq, exists_eq', true_or, or_true, if_true, if_false, not_true_eq_false, not_false_eq_true, implies_true, j_eq1, reduceIte, Nat.reduceEqDiff, Int.reduceEq, Int.reduceToNat, Nat.reduceAdd, Int.reduceAdd, Int.reduceSub, Int.reduceMul, Int.reduceNeg, and_false, false_and, and_self, u2r, j_b0, j_b1, Classical.not_not, eq_self, true_implies, false_implies, not_true_eq_false, not_false_eq_true, Int.reduceLT, Int.reduceLE, k7])
  all_goals first
    | contradiction
    | exact trivial
    | rfl
    | omega
    | exact (bi1 (by omega)).symm
    | exact (bi0 (by omega)).symm
    | exact (bi1 (by assumption)).symm
    | exact (bi0 (by assumption)).symm
    | exact hfin
    | exact ⟨_, rfl⟩
    | ((try unfold IN_); (repeat (first | rw [if_pos (by omega)] | rw [if_neg (by omega)])); done)
    | ((try unfold IN_); (repeat (first | rw [if_pos (by omega)] | rw [if_neg (by omega)])); rfl)
    | ((try unfold IN_); (repeat (first | rw [if_pos (by omega)] | rw [if_neg (by omega)] | rw [if_pos (by assumption)] | rw [if_neg (by assumption)])); rfl)
set_option maxRecDepth 100000 in
set_option maxHeartbeats 4000000 in
theorem H_order01 (B : jm_B) (l : Launch) (h : jm_H) (ac : Nat) (κ : S_) (μ : M_) (u : Nat → Nat) (ids adr : Nat → Nat → Nat) (T : Int) (σ : S_) (hL : LSt B ac h κ μ u ids adr T σ) (hT : T ≤ 511) (hl0 : l.stackTraces = false) (c o : Int) (hc0 : 0 ≤ c) (hc1 : c ≤ 2) (ho0 : -5 ≤ o) (ho1 : o ≤ 5) : jm_Cw B l (gm 108) (hhs 0 7 10 none) [.inr (.inl (some (ac))), .inl (Int32.ofInt c), .inl (Int32.ofInt 1), .inl (Int32.ofInt o)] (cs (mo h (ac + 65) σ) ac (CN κ) μ) (fun v h' => PH B ac h T σ (sp_order σ c 1 o) none v h') := by
  have H := RC_mo hL.1.1 σ
  have hB := hL.2.1.1.1
  have hS := hL.2.1.1.2.1
  have b01 : 0 ≤ κ 0 1 ∧ κ 0 1 ≤ 600000 := hB 0 1
  have k7 : jm_k (cs (mo h (ac + 65) σ) ac (CN κ) μ) ac = some (.inl 7) := ck0 H
  have k96 : jm_k h (ac + 96) = some (.inr (2, 1)) := hL.1.2.2.2.1
  have kmo : ∀ h1 a, jm_k (mo h1 (ac + 65) σ) a = jm_k h1 a := fun _ _ => rfl
  have hsp : sp_order σ c 1 o = jm_u2 (jm_u2 σ 0 0 0) 6 (3 * c.toNat + 1) o := by unfold sp_order; rw [if_pos (by omega), show (3 * c + 1).toNat = 3 * c.toNat + 1 by omega]
  have hfin : PH B ac h T σ (sp_order σ c 1 o) none (.inl (Int32.ofInt 0)) (cs (mo h (ac + 65) σ) ac (CN (jm_u2 κ 6 (3 * c.toNat + 1) o)) μ) := by
    rw [hsp]
    exact PH_0 (LSt_u hL (by omega) (show -20 ≤ o ∧ o ≤ 20 by omega)) (by rw [u2n (by omega), u2p ⟨rfl, rfl⟩])
  show jm_Cw B l M_Law_order _ _ _ _
  refine jm_CW (code := t_Law_order) (pcC := 4) (jC := 4) (mi := 51) (na := 4) (rc := 0) (mc := 1) (ms := 6) (jh := (fun k => if k = 1 then some 6 else none)) rfl rfl (by decide) w_Law_order rfl (Nat.le_of_ble_eq_true rfl) [some (.inr (.inl (some (ac)))), some (.inl (Int32.ofInt c)), some (.inl (Int32.ofInt 1)), some (.inl (Int32.ofInt o)), none] rfl rfl rfl (by decide) (fun j hj => by cases Option.some.inj (show some 6 = some j from hj); exact ⟨_, _, rfl, rfl, rfl⟩) (fun j hj => by exact absurd (show none = some j from hj) (by intro q; cases q)) ⟨15, ?_⟩
  simp (disch := omega) only [x_Law_order_0, x_Law_order_1, x_Law_order_2, x_Law_order_3, z_Law_order_4, x_Law_order_4, x_Law_order_5, x_Law_order_6, x_Law_order_7, x_Law_order_8, x_Law_order_9, x_Law_order_10, jm_ia, jm_na, jm_qa, jm_aa, jm_asg, jm_l4, jm_Kr, jm_okv, jm_rc, jm_bo, true_and, and_true, Nat.add_zero, Nat.le_refl, j_lt, j_le, j_eq, j_lt0, j_0lt, j_le0, j_0le, j_eq0, j_add, j_sub, j_mul, j_neg, j_0sub, j_nat, j_in, j_div, j_rem, Sum.inl.injEq, exists_eq', true_or, or_true, if_true, if_false, not_true_eq_false, not_false_eq_true, implies_true, j_eq1, reduceIte, Nat.reduceEqDiff, Int.reduceEq, Int.reduceToNat, Nat.reduceAdd, Int.reduceAdd, Int.reduceSub, Int.reduceMul, Int.reduceNeg, and_false, false_and, and_self, u2r, j_b0, j_b1, Classical.not_not, eq_self, true_implies, false_implies, not_true_eq_false, not_false_eq_true, Int.reduceLT, Int.reduceLE, k7]
  refine Or.inl ⟨15, ?_⟩
  simp (disch := omega) only [x_Law_order_0, x_Law_order_1, x_Law_order_2, x_Law_order_3, z_Law_order_4, x_Law_order_4, x_Law_order_5, x_Law_order_6, x_Law_order_7, x_Law_order_8, x_Law_order_9, x_Law_order_10, jm_ia, jm_na, jm_qa, jm_aa, jm_asg, jm_l4, jm_Kr, jm_okv, jm_rc, jm_bo, true_and, and_true, Nat.add_zero, Nat.le_refl, j_lt, j_le, j_eq, j_lt0, j_0lt, j_le0, j_0le, j_eq0, j_add, j_sub, j_mul, j_neg, j_0sub, j_nat, j_in, j_div, j_rem, Sum.inl.injEq, exists_eq', true_or, or_true, if_true, if_false, not_true_eq_false, not_false_eq_true, implies_true, j_eq1, reduceIte, Nat.reduceEqDiff, Int.reduceEq, Int.reduceToNat, Nat.reduceAdd, Int.reduceAdd, Int.reduceSub, Int.reduceMul, Int.reduceNeg, and_false, false_and, and_self, u2r, j_b0, j_b1, Classical.not_not, eq_self, true_implies, false_implies, not_true_eq_false, not_false_eq_true, Int.reduceLT, Int.reduceLE, k7]
  repeat' first
    | apply And.intro
    | (intro _)
    | (refine ⟨_, p_order1 B l (mo h (ac + 65) σ) ac κ μ H hB c o hc0 hc1 ho0 ho1, ?_⟩; rintro h' rfl; try simp (disch := omega) only [x_Law_order_0, x_Law_order_1, x_Law_order_2, x_Law_order_3, z_Law_order_4, x_Law_order_4, x_Law_order_5, x_Law_order_6, x_Law_order_7, x_Law_order_8, x_Law_order_9, x_Law_order_10, jm_ia, jm_na, jm_qa, jm_aa, jm_asg, jm_l4, jm_Kr, jm_okv, jm_rc, jm_bo, true_and, and_true, Nat.add_zero, Nat.le_refl, j_lt, j_le, j_eq, j_lt0, j_0lt, j_le0, j_0le, j_eq0, j_add, j_sub, j_mul, j_neg, j_0sub, j_nat, j_in, j_div, j_rem, Sum.inl.injEq, exists_eq', true_or, or_true, if_true, if_false, not_true_eq_false, not_false_eq_true, implies_true, j_eq1, reduceIte, Nat.reduceEqDiff, Int.reduceEq, Int.reduceToNat, Nat.reduceAdd, Int.reduceAdd, Int.reduceSub, Int.reduceMul, Int.reduceNeg, and_false, false_and, and_self, u2r, j_b0, j_b1, Classical.not_not, eq_self, true_implies, false_implies, not_true_eq_false, not_false_eq_true, Int.reduceLT, Int.reduceLE, k7])
  all_goals first
    | contradiction
    | exact trivial
    | rfl
    | omega
    | exact (bi1 (by omega)).symm
    | exact (bi0 (by omega)).symm
    | exact (bi1 (by assumption)).symm
    | exact (bi0 (by assumption)).symm
    | exact hfin
    | exact ⟨_, rfl⟩
    | ((try unfold IN_); (repeat (first | rw [if_pos (by omega)] | rw [if_neg (by omega)])); done)
    | ((try unfold IN_); (repeat (first | rw [if_pos (by omega)] | rw [if_neg (by omega)])); rfl)
    | ((try unfold IN_); (repeat (first | rw [if_pos (by omega)] | rw [if_neg (by omega)] | rw [if_pos (by assumption)] | rw [if_neg (by assumption)])); rfl)
set_option maxRecDepth 100000 in
set_option maxHeartbeats 4000000 in
theorem H_order02 (B : jm_B) (l : Launch) (h : jm_H) (ac : Nat) (κ : S_) (μ : M_) (u : Nat → Nat) (ids adr : Nat → Nat → Nat) (T : Int) (σ : S_) (hL : LSt B ac h κ μ u ids adr T σ) (hT : T ≤ 511) (hl0 : l.stackTraces = false) (c o : Int) (hc0 : 0 ≤ c) (hc1 : c ≤ 2) (ho0 : -20 ≤ o) (ho1 : o ≤ 20) : jm_Cw B l (gm 108) (hhs 0 7 10 none) [.inr (.inl (some (ac))), .inl (Int32.ofInt c), .inl (Int32.ofInt 2), .inl (Int32.ofInt o)] (cs (mo h (ac + 65) σ) ac (CN κ) μ) (fun v h' => PH B ac h T σ (sp_order σ c 2 o) none v h') := by
  have H := RC_mo hL.1.1 σ
  have hB := hL.2.1.1.1
  have hS := hL.2.1.1.2.1
  have b01 : 0 ≤ κ 0 1 ∧ κ 0 1 ≤ 600000 := hB 0 1
  have k7 : jm_k (cs (mo h (ac + 65) σ) ac (CN κ) μ) ac = some (.inl 7) := ck0 H
  have k96 : jm_k h (ac + 96) = some (.inr (2, 1)) := hL.1.2.2.2.1
  have kmo : ∀ h1 a, jm_k (mo h1 (ac + 65) σ) a = jm_k h1 a := fun _ _ => rfl
  have hsp : sp_order σ c 2 o = jm_u2 (jm_u2 σ 0 0 0) 6 (3 * c.toNat + 2) o := by unfold sp_order; rw [if_pos (by omega), show (3 * c + 2).toNat = 3 * c.toNat + 2 by omega]
  have hfin : PH B ac h T σ (sp_order σ c 2 o) none (.inl (Int32.ofInt 0)) (cs (mo h (ac + 65) σ) ac (CN (jm_u2 κ 6 (3 * c.toNat + 2) o)) μ) := by
    rw [hsp]
    exact PH_0 (LSt_u hL (by omega) (show -20 ≤ o ∧ o ≤ 20 by omega)) (by rw [u2n (by omega), u2p ⟨rfl, rfl⟩])
  show jm_Cw B l M_Law_order _ _ _ _
  refine jm_CW (code := t_Law_order) (pcC := 4) (jC := 4) (mi := 51) (na := 4) (rc := 0) (mc := 1) (ms := 6) (jh := (fun k => if k = 1 then some 6 else none)) rfl rfl (by decide) w_Law_order rfl (Nat.le_of_ble_eq_true rfl) [some (.inr (.inl (some (ac)))), some (.inl (Int32.ofInt c)), some (.inl (Int32.ofInt 2)), some (.inl (Int32.ofInt o)), none] rfl rfl rfl (by decide) (fun j hj => by cases Option.some.inj (show some 6 = some j from hj); exact ⟨_, _, rfl, rfl, rfl⟩) (fun j hj => by exact absurd (show none = some j from hj) (by intro q; cases q)) ⟨15, ?_⟩
  simp (disch := omega) only [x_Law_order_0, x_Law_order_1, x_Law_order_2, x_Law_order_3, z_Law_order_4, x_Law_order_4, x_Law_order_5, x_Law_order_6, x_Law_order_7, x_Law_order_8, x_Law_order_9, x_Law_order_10, jm_ia, jm_na, jm_qa, jm_aa, jm_asg, jm_l4, jm_Kr, jm_okv, jm_rc, jm_bo, true_and, and_true, Nat.add_zero, Nat.le_refl, j_lt, j_le, j_eq, j_lt0, j_0lt, j_le0, j_0le, j_eq0, j_add, j_sub, j_mul, j_neg, j_0sub, j_nat, j_in, j_div, j_rem, Sum.inl.injEq, exists_eq', true_or, or_true, if_true, if_false, not_true_eq_false, not_false_eq_true, implies_true, j_eq1, reduceIte, Nat.reduceEqDiff, Int.reduceEq, Int.reduceToNat, Nat.reduceAdd, Int.reduceAdd, Int.reduceSub, Int.reduceMul, Int.reduceNeg, and_false, false_and, and_self, u2r, j_b0, j_b1, Classical.not_not, eq_self, true_implies, false_implies, not_true_eq_false, not_false_eq_true, Int.reduceLT, Int.reduceLE, k7]
  refine Or.inl ⟨15, ?_⟩
  simp (disch := omega) only [x_Law_order_0, x_Law_order_1, x_Law_order_2, x_Law_order_3, z_Law_order_4, x_Law_order_4, x_Law_order_5, x_Law_order_6, x_Law_order_7, x_Law_order_8, x_Law_order_9, x_Law_order_10, jm_ia, jm_na, jm_qa, jm_aa, jm_asg, jm_l4, jm_Kr, jm_okv, jm_rc, jm_bo, true_and, and_true, Nat.add_zero, Nat.le_refl, j_lt, j_le, j_eq, j_lt0, j_0lt, j_le0, j_0le, j_eq0, j_add, j_sub, j_mul, j_neg, j_0sub, j_nat, j_in, j_div, j_rem, Sum.inl.injEq, exists_eq', true_or, or_true, if_true, if_false, not_true_eq_false, not_false_eq_true, implies_true, j_eq1, reduceIte, Nat.reduceEqDiff, Int.reduceEq, Int.reduceToNat, Nat.reduceAdd, Int.reduceAdd, Int.reduceSub, Int.reduceMul, Int.reduceNeg, and_false, false_and, and_self, u2r, j_b0, j_b1, Classical.not_not, eq_self, true_implies, false_implies, not_true_eq_false, not_false_eq_true, Int.reduceLT, Int.reduceLE, k7]
  repeat' first
    | apply And.intro
    | (intro _)
    | (refine ⟨_, p_order2 B l (mo h (ac + 65) σ) ac κ μ H hB c o hc0 hc1 ho0 ho1, ?_⟩; rintro h' rfl; try simp (disch := omega) only [x_Law_order_0, x_Law_order_1, x_Law_order_2, x_Law_order_3, z_Law_order_4, x_Law_order_4, x_Law_order_5, x_Law_order_6, x_Law_order_7, x_Law_order_8, x_Law_order_9, x_Law_order_10, jm_ia, jm_na, jm_qa, jm_aa, jm_asg, jm_l4, jm_Kr, jm_okv, jm_rc, jm_bo, true_and, and_true, Nat.add_zero, Nat.le_refl, j_lt, j_le, j_eq, j_lt0, j_0lt, j_le0, j_0le, j_eq0, j_add, j_sub, j_mul, j_neg, j_0sub, j_nat, j_in, j_div, j_rem, Sum.inl.injEq, exists_eq', true_or, or_true, if_true, if_false, not_true_eq_false, not_false_eq_true, implies_true, j_eq1, reduceIte, Nat.reduceEqDiff, Int.reduceEq, Int.reduceToNat, Nat.reduceAdd, Int.reduceAdd, Int.reduceSub, Int.reduceMul, Int.reduceNeg, and_false, false_and, and_self, u2r, j_b0, j_b1, Classical.not_not, eq_self, true_implies, false_implies, not_true_eq_false, not_false_eq_true, Int.reduceLT, Int.reduceLE, k7])
  all_goals first
    | contradiction
    | exact trivial
    | rfl
    | omega
    | exact (bi1 (by omega)).symm
    | exact (bi0 (by omega)).symm
    | exact (bi1 (by assumption)).symm
    | exact (bi0 (by assumption)).symm
    | exact hfin
    | exact ⟨_, rfl⟩
    | ((try unfold IN_); (repeat (first | rw [if_pos (by omega)] | rw [if_neg (by omega)])); done)
    | ((try unfold IN_); (repeat (first | rw [if_pos (by omega)] | rw [if_neg (by omega)])); rfl)
    | ((try unfold IN_); (repeat (first | rw [if_pos (by omega)] | rw [if_neg (by omega)] | rw [if_pos (by assumption)] | rw [if_neg (by assumption)])); rfl)
set_option maxRecDepth 100000 in
set_option maxHeartbeats 4000000 in
theorem H_order1 (B : jm_B) (l : Launch) (h : jm_H) (ac : Nat) (κ : S_) (μ : M_) (u : Nat → Nat) (ids adr : Nat → Nat → Nat) (T : Int) (σ : S_) (hL : LSt B ac h κ μ u ids adr T σ) (hT : T ≤ 511) (hl0 : l.stackTraces = false) (c w o : Int) (ca : -2147483648 ≤ c) (cb : c < 2147483648) (wa : -2147483648 ≤ w) (wb : w < 2147483648) (oa : -2147483648 ≤ o) (ob : o < 2147483648) (hx : ¬ ((0 ≤ c ∧ c ≤ 2) ∧ ((w = 0 ∧ -10 ≤ o ∧ o ≤ 10) ∨ (w = 1 ∧ -5 ≤ o ∧ o ≤ 5) ∨ (w = 2 ∧ -20 ≤ o ∧ o ≤ 20)))) : jm_Cw B l (gm 108) (hhs 0 7 10 none) [.inr (.inl (some (ac))), .inl (Int32.ofInt c), .inl (Int32.ofInt w), .inl (Int32.ofInt o)] (cs (mo h (ac + 65) σ) ac (CN κ) μ) (fun v h' => PH B ac h T σ (sp_order σ c w o) none v h') := by
  have H := RC_mo hL.1.1 σ
  have hB := hL.2.1.1.1
  have hS := hL.2.1.1.2.1
  have b01 : 0 ≤ κ 0 1 ∧ κ 0 1 ≤ 600000 := hB 0 1
  have k7 : jm_k (cs (mo h (ac + 65) σ) ac (CN κ) μ) ac = some (.inl 7) := ck0 H
  have k96 : jm_k h (ac + 96) = some (.inr (2, 1)) := hL.1.2.2.2.1
  have kmo : ∀ h1 a, jm_k (mo h1 (ac + 65) σ) a = jm_k h1 a := fun _ _ => rfl
  have hsp : sp_order σ c w o = jm_u2 σ 0 0 1 := by unfold sp_order; rw [if_neg hx]
  show jm_Cw B l M_Law_order _ _ _ _
  refine jm_CW (code := t_Law_order) (pcC := 4) (jC := 4) (mi := 51) (na := 4) (rc := 0) (mc := 1) (ms := 6) (jh := (fun k => if k = 1 then some 6 else none)) rfl rfl (by decide) w_Law_order rfl (Nat.le_of_ble_eq_true rfl) [some (.inr (.inl (some (ac)))), some (.inl (Int32.ofInt c)), some (.inl (Int32.ofInt w)), some (.inl (Int32.ofInt o)), none] rfl rfl rfl (by decide) (fun j hj => by cases Option.some.inj (show some 6 = some j from hj); exact ⟨_, _, rfl, rfl, rfl⟩) (fun j hj => by exact absurd (show none = some j from hj) (by intro q; cases q)) ⟨15, ?_⟩
  simp (disch := omega) only [x_Law_order_0, x_Law_order_1, x_Law_order_2, x_Law_order_3, z_Law_order_4, x_Law_order_4, x_Law_order_5, x_Law_order_6, x_Law_order_7, x_Law_order_8, x_Law_order_9, x_Law_order_10, jm_ia, jm_na, jm_qa, jm_aa, jm_asg, jm_l4, jm_Kr, jm_okv, jm_rc, jm_bo, true_and, and_true, Nat.add_zero, Nat.le_refl, j_lt, j_le, j_eq, j_lt0, j_0lt, j_le0, j_0le, j_eq0, j_add, j_sub, j_mul, j_neg, j_0sub, j_nat, j_in, j_div, j_rem, Sum.inl.injEq, exists_eq', true_or, or_true, if_true, if_false, not_true_eq_false, not_false_eq_true, implies_true, j_eq1, reduceIte, Nat.reduceEqDiff, Int.reduceEq, Int.reduceToNat, Nat.reduceAdd, Int.reduceAdd, Int.reduceSub, Int.reduceMul, Int.reduceNeg, and_false, false_and, and_self, u2r, j_b0, j_b1, Classical.not_not, eq_self, true_implies, false_implies, not_true_eq_false, not_false_eq_true, Int.reduceLT, Int.reduceLE]
  refine Or.inr ⟨ac, [.inl (Int32.ofInt c), .inl (Int32.ofInt w), .inl (Int32.ofInt o)], [], 1, 6, by decide, rfl, rfl, rfl, k7, trivial, by decide, by decide, x_order1 B l (mo h (ac + 65) σ) ac κ μ H hB c w o ca cb wa wb oa ob hx hl0, fun q n hn => ⟨15, ?_⟩⟩
  simp (disch := omega) only [x_Law_order_0, x_Law_order_1, x_Law_order_2, x_Law_order_3, z_Law_order_4, x_Law_order_4, x_Law_order_5, x_Law_order_6, x_Law_order_7, x_Law_order_8, x_Law_order_9, x_Law_order_10, jm_ia, jm_na, jm_qa, jm_aa, jm_asg, jm_l4, jm_Kr, jm_okv, jm_rc, jm_bo, true_and, and_true, Nat.add_zero, Nat.le_refl, j_lt, j_le, j_eq, j_lt0, j_0lt, j_le0, j_0le, j_eq0, j_add, j_sub, j_mul, j_neg, j_0sub, j_nat, j_in, j_div, j_rem, Sum.inl.injEq, exists_eq', true_or, or_true, if_true, if_false, not_true_eq_false, not_false_eq_true, implies_true, j_eq1, reduceIte, Nat.reduceEqDiff, Int.reduceEq, Int.reduceToNat, Nat.reduceAdd, Int.reduceAdd, Int.reduceSub, Int.reduceMul, Int.reduceNeg, and_false, false_and, and_self, u2r, j_b0, j_b1, Classical.not_not, eq_self, true_implies, false_implies, not_true_eq_false, not_false_eq_true, Int.reduceLT, Int.reduceLE]
  repeat' first
    | apply And.intro
    | (intro _)
  all_goals first
    | contradiction
    | exact trivial
    | rfl
    | omega
    | exact (bi1 (by omega)).symm
    | exact (bi0 (by omega)).symm
    | exact (bi1 (by assumption)).symm
    | exact (bi0 (by assumption)).symm
    | exact PH_x hL (by decide) hsp hn
    | exact ⟨_, rfl⟩
    | ((try unfold IN_); (repeat (first | rw [if_pos (by omega)] | rw [if_neg (by omega)])); done)
    | ((try unfold IN_); (repeat (first | rw [if_pos (by omega)] | rw [if_neg (by omega)])); rfl)
    | ((try unfold IN_); (repeat (first | rw [if_pos (by omega)] | rw [if_neg (by omega)] | rw [if_pos (by assumption)] | rw [if_neg (by assumption)])); rfl)
set_option maxRecDepth 100000 in
set_option maxHeartbeats 4000000 in
theorem H_fate0 (B : jm_B) (l : Launch) (h : jm_H) (ac : Nat) (κ : S_) (μ : M_) (u : Nat → Nat) (ids adr : Nat → Nat → Nat) (T : Int) (σ : S_) (hL : LSt B ac h κ μ u ids adr T σ) (hT : T ≤ 511) (hl0 : l.stackTraces = false) (f : Int) (hf0 : 0 ≤ f) (hf1 : f ≤ 30) (h33 : ¬ κ 0 33 = 100) : jm_Cw B l (gm 110) (hhs 0 9 12 (some 15)) [.inr (.inl (some (ac))), .inl (Int32.ofInt f), .inr (.inl (some (ac + 96)))] (cs (mo h (ac + 65) σ) ac (CN κ) μ) (fun v h' => PH B ac h T σ (sp_fate σ f) (some (if (0 ≤ f ∧ f ≤ 30) ∧ ¬ σ 0 33 = 100 then σ 0 33 + 1 else 0)) v h') := by
  have H := RC_mo hL.1.1 σ
  have hB := hL.2.1.1.1
  have hS := hL.2.1.1.2.1
  have b01 : 0 ≤ κ 0 1 ∧ κ 0 1 ≤ 600000 := hB 0 1
  have k7 : jm_k (cs (mo h (ac + 65) σ) ac (CN κ) μ) ac = some (.inl 7) := ck0 H
  have k96 : jm_k h (ac + 96) = some (.inr (2, 1)) := hL.1.2.2.2.1
  have kmo : ∀ h1 a, jm_k (mo h1 (ac + 65) σ) a = jm_k h1 a := fun _ _ => rfl
  have e33 : κ 0 33 = σ 0 33 := hL.2.2.1 0 33 (by omega) (by omega)
  have b33 : 0 ≤ κ 0 33 ∧ κ 0 33 ≤ 100 := hB 0 33
  have r44 := hL.2.1.1.2.2.1.1
  have hsp : sp_fate σ f = jm_u2 (jm_u2 (jm_u2 σ 0 0 0) 30 (κ 0 33).toNat f) 0 33 (κ 0 33 + 1) := by unfold sp_fate; rw [if_pos (by omega), if_neg (by omega), ← e33]
  have hw : (if (0 ≤ f ∧ f ≤ 30) ∧ ¬ σ 0 33 = 100 then σ 0 33 + 1 else 0) = κ 0 33 + 1 := by rw [if_pos (by omega), e33]
  have hfin : PH B ac h T σ (sp_fate σ f) (some (if (0 ≤ f ∧ f ≤ 30) ∧ ¬ σ 0 33 = 100 then σ 0 33 + 1 else 0)) (.inl (Int32.ofInt 0)) (jm_sl (cs (mo h (ac + 65) σ) ac (CN (jm_u2 (jm_u2 κ 31 ((κ 44 0 + κ 0 33) % 100).toNat f) 0 33 (κ 0 33 + 1))) μ) (ac + 96) 0 (Int32.ofInt (κ 0 33 + 1)).toInt64) := by
    rw [hsp, hw, fate_cs]
    exact PH_1 (LSt_fate hL hf0 hf1 (by omega)) (by rw [u2n (by omega), u2n (by omega), u2p ⟨rfl, rfl⟩]) _
  show jm_Cw B l M_Law_fate _ _ _ _
  refine jm_CW (code := t_Law_fate) (pcC := 4) (jC := 4) (mi := 53) (na := 2) (rc := 1) (mc := 1) (ms := 6) (jh := (fun k => if k = 1 then some 8 else some 11)) rfl rfl (by decide) w_Law_fate rfl (Nat.le_of_ble_eq_true rfl) [some (.inr (.inl (some (ac)))), some (.inl (Int32.ofInt f)), some (.inr (.inl (some (ac + 96)))), none] rfl rfl rfl (by decide) (fun j hj => by cases Option.some.inj (show some 8 = some j from hj); exact ⟨_, _, rfl, rfl, rfl⟩) (fun j hj => by cases Option.some.inj (show some 11 = some j from hj); exact ⟨_, _, _, rfl, rfl, rfl, rfl⟩) ⟨20, ?_⟩
  simp (disch := omega) only [x_Law_fate_0, x_Law_fate_1, x_Law_fate_2, x_Law_fate_3, z_Law_fate_4, x_Law_fate_4, x_Law_fate_5, x_Law_fate_6, x_Law_fate_7, x_Law_fate_8, x_Law_fate_9, x_Law_fate_10, x_Law_fate_11, x_Law_fate_12, x_Law_fate_13, x_Law_fate_14, x_Law_fate_15, jm_ia, jm_na, jm_qa, jm_aa, jm_asg, jm_l4, jm_Kr, jm_okv, jm_rc, jm_bo, true_and, and_true, Nat.add_zero, Nat.le_refl, j_lt, j_le, j_eq, j_lt0, j_0lt, j_le0, j_0le, j_eq0, j_add, j_sub, j_mul, j_neg, j_0sub, j_nat, j_in, j_div, j_rem, Sum.inl.injEq, exists_eq', true_or, or_true, if_true, if_false, not_true_eq_false, not_false_eq_true, implies_true, j_eq1, reduceIte, Nat.reduceEqDiff, Int.reduceEq, Int.reduceToNat, Nat.reduceAdd, Int.reduceAdd, Int.reduceSub, Int.reduceMul, Int.reduceNeg, and_false, false_and, and_self, u2r, j_b0, j_b1, Classical.not_not, eq_self, true_implies, false_implies, not_true_eq_false, not_false_eq_true, Int.reduceLT, Int.reduceLE, k7, ck, kmo, k96]
  refine Or.inl ⟨20, ?_⟩
  simp (disch := omega) only [x_Law_fate_0, x_Law_fate_1, x_Law_fate_2, x_Law_fate_3, z_Law_fate_4, x_Law_fate_4, x_Law_fate_5, x_Law_fate_6, x_Law_fate_7, x_Law_fate_8, x_Law_fate_9, x_Law_fate_10, x_Law_fate_11, x_Law_fate_12, x_Law_fate_13, x_Law_fate_14, x_Law_fate_15, jm_ia, jm_na, jm_qa, jm_aa, jm_asg, jm_l4, jm_Kr, jm_okv, jm_rc, jm_bo, true_and, and_true, Nat.add_zero, Nat.le_refl, j_lt, j_le, j_eq, j_lt0, j_0lt, j_le0, j_0le, j_eq0, j_add, j_sub, j_mul, j_neg, j_0sub, j_nat, j_in, j_div, j_rem, Sum.inl.injEq, exists_eq', true_or, or_true, if_true, if_false, not_true_eq_false, not_false_eq_true, implies_true, j_eq1, reduceIte, Nat.reduceEqDiff, Int.reduceEq, Int.reduceToNat, Nat.reduceAdd, Int.reduceAdd, Int.reduceSub, Int.reduceMul, Int.reduceNeg, and_false, false_and, and_self, u2r, j_b0, j_b1, Classical.not_not, eq_self, true_implies, false_implies, not_true_eq_false, not_false_eq_true, Int.reduceLT, Int.reduceLE, k7, ck, kmo, k96]
  repeat' first
    | apply And.intro
    | (intro _)
    | (refine ⟨_, p_fate B l (mo h (ac + 65) σ) ac κ μ H hB f hf0 hf1 r44.1 r44.2 (by omega), ?_⟩; rintro y h' ⟨rfl, hy⟩; cases hy; try simp (disch := omega) only [x_Law_fate_0, x_Law_fate_1, x_Law_fate_2, x_Law_fate_3, z_Law_fate_4, x_Law_fate_4, x_Law_fate_5, x_Law_fate_6, x_Law_fate_7, x_Law_fate_8, x_Law_fate_9, x_Law_fate_10, x_Law_fate_11, x_Law_fate_12, x_Law_fate_13, x_Law_fate_14, x_Law_fate_15, jm_ia, jm_na, jm_qa, jm_aa, jm_asg, jm_l4, jm_Kr, jm_okv, jm_rc, jm_bo, true_and, and_true, Nat.add_zero, Nat.le_refl, j_lt, j_le, j_eq, j_lt0, j_0lt, j_le0, j_0le, j_eq0, j_add, j_sub, j_mul, j_neg, j_0sub, j_nat, j_in, j_div, j_rem, Sum.inl.injEq, exists_eq', true_or, or_true, if_true, if_false, not_true_eq_false, not_false_eq_true, implies_true, j_eq1, reduceIte, Nat.reduceEqDiff, Int.reduceEq, Int.reduceToNat, Nat.reduceAdd, Int.reduceAdd, Int.reduceSub, Int.reduceMul, Int.reduceNeg, and_false, false_and, and_self, u2r, j_b0, j_b1, Classical.not_not, eq_self, true_implies, false_implies, not_true_eq_false, not_false_eq_true, Int.reduceLT, Int.reduceLE, k7, ck, kmo, k96])
  all_goals first
    | contradiction
    | exact trivial
    | rfl
    | omega
    | exact (bi1 (by omega)).symm
    | exact (bi0 (by omega)).symm
    | exact (bi1 (by assumption)).symm
    | exact (bi0 (by assumption)).symm
    | exact hfin
    | exact ⟨_, rfl⟩
    | ((try unfold IN_); (repeat (first | rw [if_pos (by omega)] | rw [if_neg (by omega)])); done)
    | ((try unfold IN_); (repeat (first | rw [if_pos (by omega)] | rw [if_neg (by omega)])); rfl)
    | ((try unfold IN_); (repeat (first | rw [if_pos (by omega)] | rw [if_neg (by omega)] | rw [if_pos (by assumption)] | rw [if_neg (by assumption)])); rfl)
set_option maxRecDepth 100000 in
set_option maxHeartbeats 4000000 in
theorem H_fate1 (B : jm_B) (l : Launch) (h : jm_H) (ac : Nat) (κ : S_) (μ : M_) (u : Nat → Nat) (ids adr : Nat → Nat → Nat) (T : Int) (σ : S_) (hL : LSt B ac h κ μ u ids adr T σ) (hT : T ≤ 511) (hl0 : l.stackTraces = false) (f : Int) (fa : -2147483648 ≤ f) (fb : f < 2147483648) (hx : ¬ (0 ≤ f ∧ f ≤ 30)) : jm_Cw B l (gm 110) (hhs 0 9 12 (some 15)) [.inr (.inl (some (ac))), .inl (Int32.ofInt f), .inr (.inl (some (ac + 96)))] (cs (mo h (ac + 65) σ) ac (CN κ) μ) (fun v h' => PH B ac h T σ (sp_fate σ f) (some (if (0 ≤ f ∧ f ≤ 30) ∧ ¬ σ 0 33 = 100 then σ 0 33 + 1 else 0)) v h') := by
  have H := RC_mo hL.1.1 σ
  have hB := hL.2.1.1.1
  have hS := hL.2.1.1.2.1
  have b01 : 0 ≤ κ 0 1 ∧ κ 0 1 ≤ 600000 := hB 0 1
  have k7 : jm_k (cs (mo h (ac + 65) σ) ac (CN κ) μ) ac = some (.inl 7) := ck0 H
  have k96 : jm_k h (ac + 96) = some (.inr (2, 1)) := hL.1.2.2.2.1
  have kmo : ∀ h1 a, jm_k (mo h1 (ac + 65) σ) a = jm_k h1 a := fun _ _ => rfl
  have hsp : sp_fate σ f = jm_u2 σ 0 0 1 := by unfold sp_fate; rw [if_neg hx]
  show jm_Cw B l M_Law_fate _ _ _ _
  refine jm_CW (code := t_Law_fate) (pcC := 4) (jC := 4) (mi := 53) (na := 2) (rc := 1) (mc := 1) (ms := 6) (jh := (fun k => if k = 1 then some 8 else some 11)) rfl rfl (by decide) w_Law_fate rfl (Nat.le_of_ble_eq_true rfl) [some (.inr (.inl (some (ac)))), some (.inl (Int32.ofInt f)), some (.inr (.inl (some (ac + 96)))), none] rfl rfl rfl (by decide) (fun j hj => by cases Option.some.inj (show some 8 = some j from hj); exact ⟨_, _, rfl, rfl, rfl⟩) (fun j hj => by cases Option.some.inj (show some 11 = some j from hj); exact ⟨_, _, _, rfl, rfl, rfl, rfl⟩) ⟨20, ?_⟩
  simp (disch := omega) only [x_Law_fate_0, x_Law_fate_1, x_Law_fate_2, x_Law_fate_3, z_Law_fate_4, x_Law_fate_4, x_Law_fate_5, x_Law_fate_6, x_Law_fate_7, x_Law_fate_8, x_Law_fate_9, x_Law_fate_10, x_Law_fate_11, x_Law_fate_12, x_Law_fate_13, x_Law_fate_14, x_Law_fate_15, jm_ia, jm_na, jm_qa, jm_aa, jm_asg, jm_l4, jm_Kr, jm_okv, jm_rc, jm_bo, true_and, and_true, Nat.add_zero, Nat.le_refl, j_lt, j_le, j_eq, j_lt0, j_0lt, j_le0, j_0le, j_eq0, j_add, j_sub, j_mul, j_neg, j_0sub, j_nat, j_in, j_div, j_rem, Sum.inl.injEq, exists_eq', true_or, or_true, if_true, if_false, not_true_eq_false, not_false_eq_true, implies_true, j_eq1, reduceIte, Nat.reduceEqDiff, Int.reduceEq, Int.reduceToNat, Nat.reduceAdd, Int.reduceAdd, Int.reduceSub, Int.reduceMul, Int.reduceNeg, and_false, false_and, and_self, u2r, j_b0, j_b1, Classical.not_not, eq_self, true_implies, false_implies, not_true_eq_false, not_false_eq_true, Int.reduceLT, Int.reduceLE]
  refine Or.inr ⟨ac, [.inl (Int32.ofInt f)], [.inl (Int32.ofInt 0), .inr (.inl (some (ac + 96)))], 1, 8, by decide, rfl, rfl, rfl, k7, trivial, by decide, by decide, x_fate1 B l (mo h (ac + 65) σ) ac κ μ H hB f fa fb hx hl0, fun q n hn => ⟨20, ?_⟩⟩
  simp (disch := omega) only [x_Law_fate_0, x_Law_fate_1, x_Law_fate_2, x_Law_fate_3, z_Law_fate_4, x_Law_fate_4, x_Law_fate_5, x_Law_fate_6, x_Law_fate_7, x_Law_fate_8, x_Law_fate_9, x_Law_fate_10, x_Law_fate_11, x_Law_fate_12, x_Law_fate_13, x_Law_fate_14, x_Law_fate_15, jm_ia, jm_na, jm_qa, jm_aa, jm_asg, jm_l4, jm_Kr, jm_okv, jm_rc, jm_bo, true_and, and_true, Nat.add_zero, Nat.le_refl, j_lt, j_le, j_eq, j_lt0, j_0lt, j_le0, j_0le, j_eq0, j_add, j_sub, j_mul, j_neg, j_0sub, j_nat, j_in, j_div, j_rem, Sum.inl.injEq, exists_eq', true_or, or_true, if_true, if_false, not_true_eq_false, not_false_eq_true, implies_true, j_eq1, reduceIte, Nat.reduceEqDiff, Int.reduceEq, Int.reduceToNat, Nat.reduceAdd, Int.reduceAdd, Int.reduceSub, Int.reduceMul, Int.reduceNeg, and_false, false_and, and_self, u2r, j_b0, j_b1, Classical.not_not, eq_self, true_implies, false_implies, not_true_eq_false, not_false_eq_true, Int.reduceLT, Int.reduceLE]
  repeat' first
    | apply And.intro
    | (intro _)
  all_goals first
    | contradiction
    | exact trivial
    | rfl
    | omega
    | exact (bi1 (by omega)).symm
    | exact (bi0 (by omega)).symm
    | exact (bi1 (by assumption)).symm
    | exact (bi0 (by assumption)).symm
    | exact PH_x hL (by decide) hsp hn
    | exact ⟨_, rfl⟩
    | ((try unfold IN_); (repeat (first | rw [if_pos (by omega)] | rw [if_neg (by omega)])); done)
    | ((try unfold IN_); (repeat (first | rw [if_pos (by omega)] | rw [if_neg (by omega)])); rfl)
    | ((try unfold IN_); (repeat (first | rw [if_pos (by omega)] | rw [if_neg (by omega)] | rw [if_pos (by assumption)] | rw [if_neg (by assumption)])); rfl)
set_option maxRecDepth 100000 in
set_option maxHeartbeats 4000000 in
theorem H_fate2 (B : jm_B) (l : Launch) (h : jm_H) (ac : Nat) (κ : S_) (μ : M_) (u : Nat → Nat) (ids adr : Nat → Nat → Nat) (T : Int) (σ : S_) (hL : LSt B ac h κ μ u ids adr T σ) (hT : T ≤ 511) (hl0 : l.stackTraces = false) (f : Int) (hf0 : 0 ≤ f) (hf1 : f ≤ 30) (h33 : κ 0 33 = 100) : jm_Cw B l (gm 110) (hhs 0 9 12 (some 15)) [.inr (.inl (some (ac))), .inl (Int32.ofInt f), .inr (.inl (some (ac + 96)))] (cs (mo h (ac + 65) σ) ac (CN κ) μ) (fun v h' => PH B ac h T σ (sp_fate σ f) (some (if (0 ≤ f ∧ f ≤ 30) ∧ ¬ σ 0 33 = 100 then σ 0 33 + 1 else 0)) v h') := by
  have H := RC_mo hL.1.1 σ
  have hB := hL.2.1.1.1
  have hS := hL.2.1.1.2.1
  have b01 : 0 ≤ κ 0 1 ∧ κ 0 1 ≤ 600000 := hB 0 1
  have k7 : jm_k (cs (mo h (ac + 65) σ) ac (CN κ) μ) ac = some (.inl 7) := ck0 H
  have k96 : jm_k h (ac + 96) = some (.inr (2, 1)) := hL.1.2.2.2.1
  have kmo : ∀ h1 a, jm_k (mo h1 (ac + 65) σ) a = jm_k h1 a := fun _ _ => rfl
  have e33 : κ 0 33 = σ 0 33 := hL.2.2.1 0 33 (by omega) (by omega)
  have b33 : 0 ≤ κ 0 33 ∧ κ 0 33 ≤ 100 := hB 0 33
  have hsp : sp_fate σ f = jm_u2 σ 0 0 2 := by unfold sp_fate; rw [if_pos (by omega), if_pos (by omega)]
  show jm_Cw B l M_Law_fate _ _ _ _
  refine jm_CW (code := t_Law_fate) (pcC := 4) (jC := 4) (mi := 53) (na := 2) (rc := 1) (mc := 1) (ms := 6) (jh := (fun k => if k = 1 then some 8 else some 11)) rfl rfl (by decide) w_Law_fate rfl (Nat.le_of_ble_eq_true rfl) [some (.inr (.inl (some (ac)))), some (.inl (Int32.ofInt f)), some (.inr (.inl (some (ac + 96)))), none] rfl rfl rfl (by decide) (fun j hj => by cases Option.some.inj (show some 8 = some j from hj); exact ⟨_, _, rfl, rfl, rfl⟩) (fun j hj => by cases Option.some.inj (show some 11 = some j from hj); exact ⟨_, _, _, rfl, rfl, rfl, rfl⟩) ⟨20, ?_⟩
  simp (disch := omega) only [x_Law_fate_0, x_Law_fate_1, x_Law_fate_2, x_Law_fate_3, z_Law_fate_4, x_Law_fate_4, x_Law_fate_5, x_Law_fate_6, x_Law_fate_7, x_Law_fate_8, x_Law_fate_9, x_Law_fate_10, x_Law_fate_11, x_Law_fate_12, x_Law_fate_13, x_Law_fate_14, x_Law_fate_15, jm_ia, jm_na, jm_qa, jm_aa, jm_asg, jm_l4, jm_Kr, jm_okv, jm_rc, jm_bo, true_and, and_true, Nat.add_zero, Nat.le_refl, j_lt, j_le, j_eq, j_lt0, j_0lt, j_le0, j_0le, j_eq0, j_add, j_sub, j_mul, j_neg, j_0sub, j_nat, j_in, j_div, j_rem, Sum.inl.injEq, exists_eq', true_or, or_true, if_true, if_false, not_true_eq_false, not_false_eq_true, implies_true, j_eq1, reduceIte, Nat.reduceEqDiff, Int.reduceEq, Int.reduceToNat, Nat.reduceAdd, Int.reduceAdd, Int.reduceSub, Int.reduceMul, Int.reduceNeg, and_false, false_and, and_self, u2r, j_b0, j_b1, Classical.not_not, eq_self, true_implies, false_implies, not_true_eq_false, not_false_eq_true, Int.reduceLT, Int.reduceLE]
  refine Or.inr ⟨ac, [.inl (Int32.ofInt f)], [.inl (Int32.ofInt 0), .inr (.inl (some (ac + 96)))], 2, 11, by decide, rfl, rfl, rfl, k7, trivial, by decide, by decide, x_fate2 B l (mo h (ac + 65) σ) ac κ μ H hB f hf0 hf1 h33 hl0, fun q n hn => ⟨20, ?_⟩⟩
  simp (disch := omega) only [x_Law_fate_0, x_Law_fate_1, x_Law_fate_2, x_Law_fate_3, z_Law_fate_4, x_Law_fate_4, x_Law_fate_5, x_Law_fate_6, x_Law_fate_7, x_Law_fate_8, x_Law_fate_9, x_Law_fate_10, x_Law_fate_11, x_Law_fate_12, x_Law_fate_13, x_Law_fate_14, x_Law_fate_15, jm_ia, jm_na, jm_qa, jm_aa, jm_asg, jm_l4, jm_Kr, jm_okv, jm_rc, jm_bo, true_and, and_true, Nat.add_zero, Nat.le_refl, j_lt, j_le, j_eq, j_lt0, j_0lt, j_le0, j_0le, j_eq0, j_add, j_sub, j_mul, j_neg, j_0sub, j_nat, j_in, j_div, j_rem, Sum.inl.injEq, exists_eq', true_or, or_true, if_true, if_false, not_true_eq_false, not_false_eq_true, implies_true, j_eq1, reduceIte, Nat.reduceEqDiff, Int.reduceEq, Int.reduceToNat, Nat.reduceAdd, Int.reduceAdd, Int.reduceSub, Int.reduceMul, Int.reduceNeg, and_false, false_and, and_self, u2r, j_b0, j_b1, Classical.not_not, eq_self, true_implies, false_implies, not_true_eq_false, not_false_eq_true, Int.reduceLT, Int.reduceLE]
  repeat' first
    | apply And.intro
    | (intro _)
  all_goals first
    | contradiction
    | exact trivial
    | rfl
    | omega
    | exact (bi1 (by omega)).symm
    | exact (bi0 (by omega)).symm
    | exact (bi1 (by assumption)).symm
    | exact (bi0 (by assumption)).symm
    | exact PH_x hL (by decide) hsp hn
    | exact ⟨_, rfl⟩
    | ((try unfold IN_); (repeat (first | rw [if_pos (by omega)] | rw [if_neg (by omega)])); done)
    | ((try unfold IN_); (repeat (first | rw [if_pos (by omega)] | rw [if_neg (by omega)])); rfl)
    | ((try unfold IN_); (repeat (first | rw [if_pos (by omega)] | rw [if_neg (by omega)] | rw [if_pos (by assumption)] | rw [if_neg (by assumption)])); rfl)
