/-! a new site -/
def KD (o : Nat) : Nat ⊕ (Nat × Nat) :=
  if o = 0 then .inl 7 else if o = 1 then .inr (7, 3) else if o = 2 then .inr (8, 3) else if o = 3 then .inr (5, 3) else if o = 4 then .inl 2 else if o = 5 then .inr (10, 12) else if o = 6 then .inr (10, 18) else if o = 7 then .inr (0, 100)
  else if o < 38 then .inl 6
  else if o < 53 then (if (o - 38) % 5 = 0 then .inl 3 else if (o - 38) % 5 = 1 then .inl 5 else if (o - 38) % 5 = 4 then .inr (4, 6) else .inr (0, 8))
  else if (o - 53) % 4 = 0 then .inl 4 else if (o - 53) % 4 = 2 then .inl 1 else .inl 0
def rho (ac o j : Nat) : Option Nat :=
  if o = 0 then (if j < 4 then some (ac + (1 + j)) else none)
  else if o = 1 then (if j < 3 then some (ac + (38 + 5 * j)) else none)
  else if o = 2 then (if j < 3 then some (ac + (53 + 4 * j)) else none)
  else if o = 3 then (if j < 3 then some (ac + (55 + 4 * j)) else none)
  else if o = 4 then (if j < 3 then some (ac + (5 + j)) else none)
  else if o = 5 then (if j < 12 then some (ac + (8 + j)) else none)
  else if o = 6 then (if j < 18 then some (ac + (20 + j)) else none)
  else if o < 38 then none
  else if o < 53 then (if (o - 38) % 5 = 0 then (if j = 0 then some (ac + (o + 1)) else if j = 1 then some (ac + (o + 4)) else none) else if (o - 38) % 5 = 1 then (if j = 0 then some (ac + (o + 1)) else if j = 1 then some (ac + (o + 2)) else none) else none)
  else if (o - 53) % 2 = 0 then (if j = 1 then some (ac + (o + 1)) else none) else none
def iot (o j : Nat) : Int :=
  if o < 53 then 0 else if (o - 53) % 2 = 0 then (if j = 0 then (((o - 53) / 4 : Nat) : Int) else 0) else (if j = 2 then 1 else 0)

def stage (ac : Nat) (S : Nat → Nat → Bool) : M_ := fun o j => if S o j = true then rho ac o j else none
def stI (T : Nat → Nat → Bool) : S_ := fun o j => if T o j = true then iot o j else 0
def cn_ (h0 : jm_H) (ac k : Nat) (ρ : M_) (ι : S_) : jm_H := (fun a => if ac ≤ a ∧ a < ac + k then some (KD (a - ac)) else h0.1 a, fun a j => if ac ≤ a ∧ a < ac + k then Int32.ofInt (ι (a - ac) j) else h0.2.1 a j, fun a j => if ac ≤ a ∧ a < ac + k then ρ (a - ac) j else h0.2.2.1 a j, h0.2.2.2.1, ac + k)
section
variable {h0 : jm_H} {ac k k' o j : Nat} {ρ : M_} {ι : S_} {S S' T T' : Nat → Nat → Bool} {v : Option Nat} {x : Int}
theorem cn_n : jm_n (cn_ h0 ac k ρ ι) = ac + k := rfl
theorem cn_k (h : o < k) : jm_k (cn_ h0 ac k ρ ι) (ac + o) = some (KD o) := by
  show (if ac ≤ ac + o ∧ ac + o < ac + k then some (KD (ac + o - ac)) else _) = _
  rw [if_pos (by omega), Nat.add_sub_cancel_left]
theorem cn_k0 (h : 0 < k) : jm_k (cn_ h0 ac k ρ ι) ac = some (KD 0) := cn_k h
theorem cn_r (h : o < k) : jm_r (cn_ h0 ac k ρ ι) (ac + o) j = ρ o j := by
  show (if ac ≤ ac + o ∧ ac + o < ac + k then ρ (ac + o - ac) j else _) = _
  rw [if_pos (by omega), Nat.add_sub_cancel_left]
theorem cn_r0 (h : 0 < k) : jm_r (cn_ h0 ac k ρ ι) ac j = ρ 0 j := cn_r h
theorem cn_sr (h : o < k) : jm_sr (cn_ h0 ac k ρ ι) (ac + o) j v = cn_ h0 ac k (jm_u2 ρ o j v) ι := by
  unfold jm_sr cn_
  refine Prod.ext rfl (Prod.ext rfl (Prod.ext ?_ rfl))
  funext a i
  show (if a = ac + o ∧ i = j then v else if ac ≤ a ∧ a < ac + k then ρ (a - ac) i else _) = (if ac ≤ a ∧ a < ac + k then (if a - ac = o ∧ i = j then v else ρ (a - ac) i) else _)
  by_cases q : ac ≤ a ∧ a < ac + k
  · rw [if_pos q, if_pos q]
    by_cases q2 : a = ac + o ∧ i = j
    · rw [if_pos q2, if_pos (by omega)]
    · rw [if_neg q2, if_neg (by omega)]
  · rw [if_neg q, if_neg q, if_neg (by omega)]
theorem cn_sr0 (h : 0 < k) : jm_sr (cn_ h0 ac k ρ ι) ac j v = cn_ h0 ac k (jm_u2 ρ 0 j v) ι := cn_sr h
theorem cn_si (h : o < k) : jm_si (cn_ h0 ac k ρ ι) (ac + o) j (Int32.ofInt x) = cn_ h0 ac k ρ (jm_u2 ι o j x) := by
  unfold jm_si cn_
  refine Prod.ext rfl (Prod.ext ?_ rfl)
  funext a i
  show (if a = ac + o ∧ i = j then Int32.ofInt x else if ac ≤ a ∧ a < ac + k then Int32.ofInt (ι (a - ac) i) else _) = (if ac ≤ a ∧ a < ac + k then Int32.ofInt (if a - ac = o ∧ i = j then x else ι (a - ac) i) else _)
  by_cases q : ac ≤ a ∧ a < ac + k
  · rw [if_pos q, if_pos q]
    by_cases q2 : a = ac + o ∧ i = j
    · rw [if_pos q2, if_pos (by omega)]
    · rw [if_neg q2, if_neg (by omega)]
  · rw [if_neg q, if_neg q, if_neg (by omega)]
theorem cn_nw {kd : Nat ⊕ (Nat × Nat)} (hk : k' = k + 1) (hd : KD k = kd) (h1 : ∀ j, ρ k j = none) (h2 : ∀ j, ι k j = 0) : jm_nw (cn_ h0 ac k ρ ι) kd = cn_ h0 ac k' ρ ι := by
  subst hk
  unfold jm_nw cn_
  refine Prod.ext ?_ (Prod.ext ?_ (Prod.ext ?_ rfl))
  · funext a
    show (if a = ac + k then some kd else if ac ≤ a ∧ a < ac + k then some (KD (a - ac)) else _) = (if ac ≤ a ∧ a < ac + (k + 1) then some (KD (a - ac)) else _)
    by_cases q : a = ac + k
    · rw [if_pos q, if_pos (by omega), show a - ac = k by omega, hd]
    · rw [if_neg q]
      by_cases q2 : ac ≤ a ∧ a < ac + k
      · rw [if_pos q2, if_pos (by omega)]
      · rw [if_neg q2, if_neg (by omega)]
  · funext a j
    show (if a = ac + k then (0 : Int32) else if ac ≤ a ∧ a < ac + k then Int32.ofInt (ι (a - ac) j) else _) = (if ac ≤ a ∧ a < ac + (k + 1) then Int32.ofInt (ι (a - ac) j) else _)
    by_cases q : a = ac + k
    · rw [if_pos q, if_pos (by omega), show a - ac = k by omega, h2]; rfl
    · rw [if_neg q]
      by_cases q2 : ac ≤ a ∧ a < ac + k
      · rw [if_pos q2, if_pos (by omega)]
      · rw [if_neg q2, if_neg (by omega)]
  · funext a j
    show (if a = ac + k then (none : Option Nat) else if ac ≤ a ∧ a < ac + k then ρ (a - ac) j else _) = (if ac ≤ a ∧ a < ac + (k + 1) then ρ (a - ac) j else _)
    by_cases q : a = ac + k
    · rw [if_pos q, if_pos (by omega), show a - ac = k by omega, h1]
    · rw [if_neg q]
      by_cases q2 : ac ≤ a ∧ a < ac + k
      · rw [if_pos q2, if_pos (by omega)]
      · rw [if_neg q2, if_neg (by omega)]
theorem stage_u (h : ∀ a b, S' a b = true ↔ (S a b = true ∨ (a = o ∧ b = j))) (hv : rho ac o j = v) : jm_u2 (stage ac S) o j v = stage ac S' := by
  funext a b
  show (if a = o ∧ b = j then v else if S a b = true then rho ac a b else none) = (if S' a b = true then rho ac a b else none)
  have e := h a b
  by_cases q : a = o ∧ b = j
  · rw [if_pos q, if_pos (e.mpr (Or.inr q)), q.1, q.2, hv]
  · rw [if_neg q]
    by_cases q2 : S a b = true
    · rw [if_pos q2, if_pos (e.mpr (Or.inl q2))]
    · rw [if_neg q2, if_neg (fun x => (e.mp x).elim q2 q)]
theorem stI_u (h : ∀ a b, T' a b = true ↔ (T a b = true ∨ (a = o ∧ b = j))) (hv : iot o j = x) : jm_u2 (stI T) o j x = stI T' := by
  funext a b
  show (if a = o ∧ b = j then x else if T a b = true then iot a b else 0) = (if T' a b = true then iot a b else 0)
  have e := h a b
  by_cases q : a = o ∧ b = j
  · rw [if_pos q, if_pos (e.mpr (Or.inr q)), q.1, q.2, hv]
  · rw [if_neg q]
    by_cases q2 : T a b = true
    · rw [if_pos q2, if_pos (e.mpr (Or.inl q2))]
    · rw [if_neg q2, if_neg (fun x => (e.mp x).elim q2 q)]
theorem stage_r (h : S o j = true) : stage ac S o j = rho ac o j := if_pos h
theorem stage_n (h : ¬ S o j = true) : stage ac S o j = none := if_neg h
theorem stI_n (h : ¬ T o j = true) : stI T o j = 0 := if_neg h
end
/-- how far it is: the site's own rows, the bus, the cranes, the pairs -/
def SB (i m : Nat) (o j : Nat) : Bool := decide ((o = 0 ∧ j < i) ∨ (o = 4 ∧ j < m))
def SM (i m : Nat) (o j : Nat) : Bool := decide ((o = 0 ∧ j < 3) ∨ (o = 4 ∧ j < 3) ∨ (o = 5 ∧ j < i) ∨ (o = 6 ∧ j < m))
def SQ (n m : Nat) (o j : Nat) : Bool := decide ((o = 0 ∧ j < 4) ∨ (o = 4 ∧ j < 3) ∨ (o = 5 ∧ j < 12) ∨ (o = 6 ∧ j < 18) ∨ (o = 1 ∧ j < n) ∨ (38 ≤ o ∧ o < 38 + 5 * n ∧ (o - 38) % 5 ≤ 1 ∧ j < 2) ∨ (o = 39 + 5 * n ∧ j < m ∧ j < 2) ∨ (o = 38 + 5 * n ∧ j + 2 < m ∧ j < 2))
def SP (p m : Nat) (o j : Nat) : Bool := decide ((o = 0 ∧ j < 4) ∨ (o = 4 ∧ j < 3) ∨ (o = 5 ∧ j < 12) ∨ (o = 6 ∧ j < 18) ∨ (o = 1 ∧ j < 3) ∨ (38 ≤ o ∧ o < 53 ∧ (o - 38) % 5 ≤ 1 ∧ j < 2) ∨ (o = 2 ∧ j < p) ∨ (o = 3 ∧ j < p) ∨ (53 ≤ o ∧ o < 53 + 4 * p ∧ (o - 53) % 2 = 0 ∧ j = 1) ∨ (o = 53 + 4 * p ∧ 1 ≤ m ∧ j = 1) ∨ (o = 2 ∧ 2 ≤ m ∧ j = p) ∨ (o = 55 + 4 * p ∧ 3 ≤ m ∧ j = 1) ∨ (o = 3 ∧ 4 ≤ m ∧ j = p))
def TP (p m : Nat) (o j : Nat) : Bool := decide ((53 ≤ o ∧ o < 53 + 4 * p ∧ (o - 53) % 2 = 0 ∧ (j = 0 ∨ j = 2)) ∨ (53 ≤ o ∧ o < 53 + 4 * p ∧ (o - 53) % 2 = 1 ∧ j = 2) ∨ (o = 54 + 4 * p ∧ 1 ≤ m ∧ j = 2) ∨ (o = 53 + 4 * p ∧ 2 ≤ m ∧ j = 2) ∨ (o = 53 + 4 * p ∧ 3 ≤ m ∧ j = 0) ∨ (o = 56 + 4 * p ∧ 4 ≤ m ∧ j = 2) ∨ (o = 55 + 4 * p ∧ 5 ≤ m ∧ j = 2) ∨ (o = 55 + 4 * p ∧ 6 ≤ m ∧ j = 0))
set_option maxRecDepth 100000 in
set_option maxHeartbeats 4000000 in
theorem kc_Table (B : jm_B) (l : Launch) (h0 : jm_H) (ac : Nat) (n : Nat) (hn : n < 3) : jm_Ct gG B l (gm 37) [.inr (.inl (some (ac + (39 + 5 * n))))] (cn_ h0 ac (40 + 5 * n) (stage ac (SQ n 0)) (stI (TP 0 0))) (fun v h' => h' = (cn_ h0 ac (42 + 5 * n) (stage ac (SQ n 2)) (stI (TP 0 0)))) := by
  show jm_Ct gG B l M_Table_init _ _ _
  refine jm_C0 (code := k_Table_init) (Or.inl (by decide)) (by decide) v_Table_init rfl (Nat.le_of_ble_eq_true rfl) [some (.inr (.inl (some (ac + (39 + 5 * n)))))] rfl rfl ⟨15, ?_⟩
  have q0 : KD (39 + 5 * n) = .inl 5 := by unfold KD; (repeat (first | rw [if_pos (by omega)] | rw [if_neg (by omega)])); try rfl
  have q1 : KD (40 + 5 * n) = .inr (0, 8) := by unfold KD; (repeat (first | rw [if_pos (by omega)] | rw [if_neg (by omega)])); try rfl
  have q2 : jm_nw (cn_ h0 ac (40 + 5 * n) (stage ac (SQ n 0)) (stI (TP 0 0))) (.inr (0, 8)) = (cn_ h0 ac (41 + 5 * n) (stage ac (SQ n 0)) (stI (TP 0 0))) := cn_nw (by omega) (by unfold KD; (repeat (first | rw [if_pos (by omega)] | rw [if_neg (by omega)])); try rfl) (fun j => stage_n (by simp only [SB, SM, SQ, SP, TP, decide_eq_true_eq]; omega)) (fun j => stI_n (by simp only [SB, SM, SQ, SP, TP, decide_eq_true_eq]; omega))
  have q3 : jm_u2 (stage ac (SQ n 0)) (39 + 5 * n) 0 (some (ac + (40 + 5 * n))) = stage ac (SQ n 1) := stage_u (fun a b => by simp only [SB, SM, SQ, SP, TP, decide_eq_true_eq]; omega) (by unfold rho; (repeat (first | rw [if_pos (by omega)] | rw [if_neg (by omega)])); try rfl; all_goals (congr 1; omega))
  have q4 : KD (41 + 5 * n) = .inr (0, 8) := by unfold KD; (repeat (first | rw [if_pos (by omega)] | rw [if_neg (by omega)])); try rfl
  have q5 : jm_nw (cn_ h0 ac (41 + 5 * n) (stage ac (SQ n 1)) (stI (TP 0 0))) (.inr (0, 8)) = (cn_ h0 ac (42 + 5 * n) (stage ac (SQ n 1)) (stI (TP 0 0))) := cn_nw (by omega) (by unfold KD; (repeat (first | rw [if_pos (by omega)] | rw [if_neg (by omega)])); try rfl) (fun j => stage_n (by simp only [SB, SM, SQ, SP, TP, decide_eq_true_eq]; omega)) (fun j => stI_n (by simp only [SB, SM, SQ, SP, TP, decide_eq_true_eq]; omega))
  have q6 : jm_u2 (stage ac (SQ n 1)) (39 + 5 * n) 1 (some (ac + (41 + 5 * n))) = stage ac (SQ n 2) := stage_u (fun a b => by simp only [SB, SM, SQ, SP, TP, decide_eq_true_eq]; omega) (by unfold rho; (repeat (first | rw [if_pos (by omega)] | rw [if_neg (by omega)])); try rfl; all_goals (congr 1; omega))
  simp (disch := omega) only [e_Table_init_0, e_Table_init_1, e_Table_init_2, e_Table_init_3, e_Table_init_4, e_Table_init_5, e_Table_init_6, e_Table_init_7, e_Table_init_8, e_Table_init_9, e_Table_init_10, jm_ia, jm_na, jm_qa, jm_aa, jm_asg, jm_l4, jm_Kr, jm_okv, jm_rc, jm_bo, true_and, and_true, Nat.add_zero, Nat.le_refl, j_lt, j_le, j_eq, j_lt0, j_0lt, j_le0, j_0le, j_eq0, j_add, j_sub, j_mul, j_neg, j_0sub, j_nat, j_in, j_div, j_rem, Sum.inl.injEq, exists_eq', true_or, or_true, if_true, if_false, not_true_eq_false, not_false_eq_true, implies_true, j_eq1, reduceIte, Nat.reduceEqDiff, Int.reduceEq, Int.reduceToNat, Nat.reduceAdd, Int.reduceAdd, Int.reduceSub, Int.reduceMul, Int.reduceNeg, and_false, false_and, and_self, u2r, j_b0, j_b1, Classical.not_not, eq_self, true_implies, false_implies, not_true_eq_false, not_false_eq_true, Int.reduceLT, Int.reduceLE, cn_n, cn_k, cn_k0, cn_r, cn_r0, cn_sr, cn_sr0, cn_si, nat3, q0, q1, q2, q3, q4, q5, q6]
  repeat' first
    | apply And.intro
    | (intro _)
  all_goals first
    | contradiction
    | exact trivial
    | rfl
    | omega
    | exact (bi1 (by omega)).symm
    | exact (bi0 (by omega)).symm
    | exact (bi1 (by assumption)).symm
    | exact (bi0 (by assumption)).symm
    | ((try unfold IN_); (repeat (first | rw [if_pos (by omega)] | rw [if_neg (by omega)])); done)
    | ((try unfold IN_); (repeat (first | rw [if_pos (by omega)] | rw [if_neg (by omega)])); rfl)
    | ((try unfold IN_); (repeat (first | rw [if_pos (by omega)] | rw [if_neg (by omega)] | rw [if_pos (by assumption)] | rw [if_neg (by assumption)])); rfl)
set_option maxRecDepth 100000 in
set_option maxHeartbeats 4000000 in
theorem kc_Crane (B : jm_B) (l : Launch) (h0 : jm_H) (ac : Nat) (n : Nat) (hn : n < 3) : jm_Ct gG B l (gm 19) [.inr (.inl (some (ac + (38 + 5 * n))))] (cn_ h0 ac (39 + 5 * n) (stage ac (SQ n 0)) (stI (TP 0 0))) (fun v h' => h' = (cn_ h0 ac (43 + 5 * n) (stage ac (SQ n 4)) (stI (TP 0 0)))) := by
  show jm_Ct gG B l M_Crane_init _ _ _
  refine jm_C0 (code := k_Crane_init) (Or.inl (by decide)) (by decide) v_Crane_init rfl (Nat.le_of_ble_eq_true rfl) [some (.inr (.inl (some (ac + (38 + 5 * n)))))] rfl rfl ⟨16, ?_⟩
  have q0 : KD (38 + 5 * n) = .inl 3 := by unfold KD; (repeat (first | rw [if_pos (by omega)] | rw [if_neg (by omega)])); try rfl
  have q1 : KD (39 + 5 * n) = .inl 5 := by unfold KD; (repeat (first | rw [if_pos (by omega)] | rw [if_neg (by omega)])); try rfl
  have q2 : jm_nw (cn_ h0 ac (39 + 5 * n) (stage ac (SQ n 0)) (stI (TP 0 0))) (.inl 5) = (cn_ h0 ac (40 + 5 * n) (stage ac (SQ n 0)) (stI (TP 0 0))) := cn_nw (by omega) (by unfold KD; (repeat (first | rw [if_pos (by omega)] | rw [if_neg (by omega)])); try rfl) (fun j => stage_n (by simp only [SB, SM, SQ, SP, TP, decide_eq_true_eq]; omega)) (fun j => stI_n (by simp only [SB, SM, SQ, SP, TP, decide_eq_true_eq]; omega))
  have q3 : jm_u2 (stage ac (SQ n 2)) (38 + 5 * n) 0 (some (ac + (39 + 5 * n))) = stage ac (SQ n 3) := stage_u (fun a b => by simp only [SB, SM, SQ, SP, TP, decide_eq_true_eq]; omega) (by unfold rho; (repeat (first | rw [if_pos (by omega)] | rw [if_neg (by omega)])); try rfl; all_goals (congr 1; omega))
  have q4 : KD (42 + 5 * n) = .inr (4, 6) := by unfold KD; (repeat (first | rw [if_pos (by omega)] | rw [if_neg (by omega)])); try rfl
  have q5 : jm_nw (cn_ h0 ac (42 + 5 * n) (stage ac (SQ n 3)) (stI (TP 0 0))) (.inr (4, 6)) = (cn_ h0 ac (43 + 5 * n) (stage ac (SQ n 3)) (stI (TP 0 0))) := cn_nw (by omega) (by unfold KD; (repeat (first | rw [if_pos (by omega)] | rw [if_neg (by omega)])); try rfl) (fun j => stage_n (by simp only [SB, SM, SQ, SP, TP, decide_eq_true_eq]; omega)) (fun j => stI_n (by simp only [SB, SM, SQ, SP, TP, decide_eq_true_eq]; omega))
  have q6 : jm_u2 (stage ac (SQ n 3)) (38 + 5 * n) 1 (some (ac + (42 + 5 * n))) = stage ac (SQ n 4) := stage_u (fun a b => by simp only [SB, SM, SQ, SP, TP, decide_eq_true_eq]; omega) (by unfold rho; (repeat (first | rw [if_pos (by omega)] | rw [if_neg (by omega)])); try rfl; all_goals (congr 1; omega))
  simp (disch := omega) only [e_Crane_init_0, e_Crane_init_1, e_Crane_init_2, e_Crane_init_3, e_Crane_init_4a, e_Crane_init_4b, e_Crane_init_5, e_Crane_init_6, e_Crane_init_7, e_Crane_init_8, e_Crane_init_9, e_Crane_init_10, e_Crane_init_11, jm_ia, jm_na, jm_qa, jm_aa, jm_asg, jm_l4, jm_Kr, jm_okv, jm_rc, jm_bo, true_and, and_true, Nat.add_zero, Nat.le_refl, j_lt, j_le, j_eq, j_lt0, j_0lt, j_le0, j_0le, j_eq0, j_add, j_sub, j_mul, j_neg, j_0sub, j_nat, j_in, j_div, j_rem, Sum.inl.injEq, exists_eq', true_or, or_true, if_true, if_false, not_true_eq_false, not_false_eq_true, implies_true, j_eq1, reduceIte, Nat.reduceEqDiff, Int.reduceEq, Int.reduceToNat, Nat.reduceAdd, Int.reduceAdd, Int.reduceSub, Int.reduceMul, Int.reduceNeg, and_false, false_and, and_self, u2r, j_b0, j_b1, Classical.not_not, eq_self, true_implies, false_implies, not_true_eq_false, not_false_eq_true, Int.reduceLT, Int.reduceLE, cn_n, cn_k, cn_k0, cn_r, cn_r0, cn_sr, cn_sr0, cn_si, nat3, q0, q1, q2, q3, q4, q5, q6]
  repeat' first
    | apply And.intro
    | (intro _)
    | (refine ⟨_, kc_Table B l h0 ac n hn, ?_⟩; rintro h' rfl; try simp (disch := omega) only [e_Crane_init_0, e_Crane_init_1, e_Crane_init_2, e_Crane_init_3, e_Crane_init_4a, e_Crane_init_4b, e_Crane_init_5, e_Crane_init_6, e_Crane_init_7, e_Crane_init_8, e_Crane_init_9, e_Crane_init_10, e_Crane_init_11, jm_ia, jm_na, jm_qa, jm_aa, jm_asg, jm_l4, jm_Kr, jm_okv, jm_rc, jm_bo, true_and, and_true, Nat.add_zero, Nat.le_refl, j_lt, j_le, j_eq, j_lt0, j_0lt, j_le0, j_0le, j_eq0, j_add, j_sub, j_mul, j_neg, j_0sub, j_nat, j_in, j_div, j_rem, Sum.inl.injEq, exists_eq', true_or, or_true, if_true, if_false, not_true_eq_false, not_false_eq_true, implies_true, j_eq1, reduceIte, Nat.reduceEqDiff, Int.reduceEq, Int.reduceToNat, Nat.reduceAdd, Int.reduceAdd, Int.reduceSub, Int.reduceMul, Int.reduceNeg, and_false, false_and, and_self, u2r, j_b0, j_b1, Classical.not_not, eq_self, true_implies, false_implies, not_true_eq_false, not_false_eq_true, Int.reduceLT, Int.reduceLE, cn_n, cn_k, cn_k0, cn_r, cn_r0, cn_sr, cn_sr0, cn_si, nat3, q0, q1, q2, q3, q4, q5, q6])
  all_goals first
    | contradiction
    | exact trivial
    | rfl
    | omega
    | exact (bi1 (by omega)).symm
    | exact (bi0 (by omega)).symm
    | exact (bi1 (by assumption)).symm
    | exact (bi0 (by assumption)).symm
    | ((try unfold IN_); (repeat (first | rw [if_pos (by omega)] | rw [if_neg (by omega)])); done)
    | ((try unfold IN_); (repeat (first | rw [if_pos (by omega)] | rw [if_neg (by omega)])); rfl)
    | ((try unfold IN_); (repeat (first | rw [if_pos (by omega)] | rw [if_neg (by omega)] | rw [if_pos (by assumption)] | rw [if_neg (by assumption)])); rfl)
set_option maxRecDepth 100000 in
set_option maxHeartbeats 4000000 in
theorem kc_Keeper (B : jm_B) (l : Launch) (h0 : jm_H) (ac : Nat) (n : Nat) (hn : n < 3) : jm_Ct gG B l (gm 31) [.inr (.inl (some (ac + (53 + 4 * n)))), .inl (Int32.ofInt (n))] (cn_ h0 ac (54 + 4 * n) (stage ac (SP n 0)) (stI (TP n 0))) (fun v h' => h' = (cn_ h0 ac (55 + 4 * n) (stage ac (SP n 1)) (stI (TP n 3)))) := by
  show jm_Ct gG B l M_Keeper_init _ _ _
  refine jm_C0 (code := k_Keeper_init) (Or.inl (by decide)) (by decide) v_Keeper_init rfl (Nat.le_of_ble_eq_true rfl) [some (.inr (.inl (some (ac + (53 + 4 * n))))), some (.inl (Int32.ofInt (n)))] rfl rfl ⟨18, ?_⟩
  have q0 : KD (53 + 4 * n) = .inl 4 := by unfold KD; (repeat (first | rw [if_pos (by omega)] | rw [if_neg (by omega)])); try rfl
  have q1 : KD (54 + 4 * n) = .inl 0 := by unfold KD; (repeat (first | rw [if_pos (by omega)] | rw [if_neg (by omega)])); try rfl
  have q2 : jm_nw (cn_ h0 ac (54 + 4 * n) (stage ac (SP n 0)) (stI (TP n 0))) (.inl 0) = (cn_ h0 ac (55 + 4 * n) (stage ac (SP n 0)) (stI (TP n 0))) := cn_nw (by omega) (by unfold KD; (repeat (first | rw [if_pos (by omega)] | rw [if_neg (by omega)])); try rfl) (fun j => stage_n (by simp only [SB, SM, SQ, SP, TP, decide_eq_true_eq]; omega)) (fun j => stI_n (by simp only [SB, SM, SQ, SP, TP, decide_eq_true_eq]; omega))
  have q3 : jm_u2 (stI (TP n 0)) (54 + 4 * n) 2 1 = stI (TP n 1) := stI_u (fun a b => by simp only [SB, SM, SQ, SP, TP, decide_eq_true_eq]; omega) (by unfold iot; (repeat (first | rw [if_pos (by omega)] | rw [if_neg (by omega)])); try rfl; all_goals omega)
  have q4 : jm_u2 (stage ac (SP n 0)) (53 + 4 * n) 1 (some (ac + (54 + 4 * n))) = stage ac (SP n 1) := stage_u (fun a b => by simp only [SB, SM, SQ, SP, TP, decide_eq_true_eq]; omega) (by unfold rho; (repeat (first | rw [if_pos (by omega)] | rw [if_neg (by omega)])); try rfl; all_goals (congr 1; omega))
  have q5 : jm_u2 (stI (TP n 1)) (53 + 4 * n) 2 0 = stI (TP n 2) := stI_u (fun a b => by simp only [SB, SM, SQ, SP, TP, decide_eq_true_eq]; omega) (by unfold iot; (repeat (first | rw [if_pos (by omega)] | rw [if_neg (by omega)])); try rfl; all_goals omega)
  have q6 : jm_u2 (stI (TP n 2)) (53 + 4 * n) 0 n = stI (TP n 3) := stI_u (fun a b => by simp only [SB, SM, SQ, SP, TP, decide_eq_true_eq]; omega) (by unfold iot; (repeat (first | rw [if_pos (by omega)] | rw [if_neg (by omega)])); try rfl; all_goals omega)
  simp (disch := omega) only [e_Keeper_init_0, e_Keeper_init_1, e_Keeper_init_2, e_Keeper_init_3, e_Keeper_init_4a, e_Keeper_init_4b, e_Keeper_init_5, e_Keeper_init_6, e_Keeper_init_7, e_Keeper_init_8, e_Keeper_init_9, e_Keeper_init_10, e_Keeper_init_11, e_Keeper_init_12, e_Keeper_init_13, jm_ia, jm_na, jm_qa, jm_aa, jm_asg, jm_l4, jm_Kr, jm_okv, jm_rc, jm_bo, true_and, and_true, Nat.add_zero, Nat.le_refl, j_lt, j_le, j_eq, j_lt0, j_0lt, j_le0, j_0le, j_eq0, j_add, j_sub, j_mul, j_neg, j_0sub, j_nat, j_in, j_div, j_rem, Sum.inl.injEq, exists_eq', true_or, or_true, if_true, if_false, not_true_eq_false, not_false_eq_true, implies_true, j_eq1, reduceIte, Nat.reduceEqDiff, Int.reduceEq, Int.reduceToNat, Nat.reduceAdd, Int.reduceAdd, Int.reduceSub, Int.reduceMul, Int.reduceNeg, and_false, false_and, and_self, u2r, j_b0, j_b1, Classical.not_not, eq_self, true_implies, false_implies, not_true_eq_false, not_false_eq_true, Int.reduceLT, Int.reduceLE, cn_n, cn_k, cn_k0, cn_r, cn_r0, cn_sr, cn_sr0, cn_si, nat3, q0, q1, q2, q3, q4, q5, q6]
  repeat' first
    | apply And.intro
    | (intro _)
    | (refine ⟨_, kc_Arc_init B l _ (ac + (54 + 4 * n)) (by rw [cn_k (by omega)]; exact congrArg some (by unfold KD; (repeat (first | rw [if_pos (by omega)] | rw [if_neg (by omega)])); try rfl)), ?_⟩; rintro h' rfl; try simp (disch := omega) only [e_Keeper_init_0, e_Keeper_init_1, e_Keeper_init_2, e_Keeper_init_3, e_Keeper_init_4a, e_Keeper_init_4b, e_Keeper_init_5, e_Keeper_init_6, e_Keeper_init_7, e_Keeper_init_8, e_Keeper_init_9, e_Keeper_init_10, e_Keeper_init_11, e_Keeper_init_12, e_Keeper_init_13, jm_ia, jm_na, jm_qa, jm_aa, jm_asg, jm_l4, jm_Kr, jm_okv, jm_rc, jm_bo, true_and, and_true, Nat.add_zero, Nat.le_refl, j_lt, j_le, j_eq, j_lt0, j_0lt, j_le0, j_0le, j_eq0, j_add, j_sub, j_mul, j_neg, j_0sub, j_nat, j_in, j_div, j_rem, Sum.inl.injEq, exists_eq', true_or, or_true, if_true, if_false, not_true_eq_false, not_false_eq_true, implies_true, j_eq1, reduceIte, Nat.reduceEqDiff, Int.reduceEq, Int.reduceToNat, Nat.reduceAdd, Int.reduceAdd, Int.reduceSub, Int.reduceMul, Int.reduceNeg, and_false, false_and, and_self, u2r, j_b0, j_b1, Classical.not_not, eq_self, true_implies, false_implies, not_true_eq_false, not_false_eq_true, Int.reduceLT, Int.reduceLE, cn_n, cn_k, cn_k0, cn_r, cn_r0, cn_sr, cn_sr0, cn_si, nat3, q0, q1, q2, q3, q4, q5, q6])
  all_goals first
    | contradiction
    | exact trivial
    | rfl
    | omega
    | exact (bi1 (by omega)).symm
    | exact (bi0 (by omega)).symm
    | exact (bi1 (by assumption)).symm
    | exact (bi0 (by assumption)).symm
    | ((try unfold IN_); (repeat (first | rw [if_pos (by omega)] | rw [if_neg (by omega)])); done)
    | ((try unfold IN_); (repeat (first | rw [if_pos (by omega)] | rw [if_neg (by omega)])); rfl)
    | ((try unfold IN_); (repeat (first | rw [if_pos (by omega)] | rw [if_neg (by omega)] | rw [if_pos (by assumption)] | rw [if_neg (by assumption)])); rfl)
set_option maxRecDepth 100000 in
set_option maxHeartbeats 4000000 in
theorem kc_Asker (B : jm_B) (l : Launch) (h0 : jm_H) (ac : Nat) (n : Nat) (hn : n < 3) : jm_Ct gG B l (gm 5) [.inr (.inl (some (ac + (55 + 4 * n)))), .inl (Int32.ofInt (n))] (cn_ h0 ac (56 + 4 * n) (stage ac (SP n 2)) (stI (TP n 3))) (fun v h' => h' = (cn_ h0 ac (57 + 4 * n) (stage ac (SP n 3)) (stI (TP n 6)))) := by
  show jm_Ct gG B l M_Asker_init _ _ _
  refine jm_C0 (code := k_Asker_init) (Or.inl (by decide)) (by decide) v_Asker_init rfl (Nat.le_of_ble_eq_true rfl) [some (.inr (.inl (some (ac + (55 + 4 * n))))), some (.inl (Int32.ofInt (n)))] rfl rfl ⟨18, ?_⟩
  have q0 : KD (55 + 4 * n) = .inl 1 := by unfold KD; (repeat (first | rw [if_pos (by omega)] | rw [if_neg (by omega)])); try rfl
  have q1 : KD (56 + 4 * n) = .inl 0 := by unfold KD; (repeat (first | rw [if_pos (by omega)] | rw [if_neg (by omega)])); try rfl
  have q2 : jm_nw (cn_ h0 ac (56 + 4 * n) (stage ac (SP n 2)) (stI (TP n 3))) (.inl 0) = (cn_ h0 ac (57 + 4 * n) (stage ac (SP n 2)) (stI (TP n 3))) := cn_nw (by omega) (by unfold KD; (repeat (first | rw [if_pos (by omega)] | rw [if_neg (by omega)])); try rfl) (fun j => stage_n (by simp only [SB, SM, SQ, SP, TP, decide_eq_true_eq]; omega)) (fun j => stI_n (by simp only [SB, SM, SQ, SP, TP, decide_eq_true_eq]; omega))
  have q3 : jm_u2 (stI (TP n 3)) (56 + 4 * n) 2 1 = stI (TP n 4) := stI_u (fun a b => by simp only [SB, SM, SQ, SP, TP, decide_eq_true_eq]; omega) (by unfold iot; (repeat (first | rw [if_pos (by omega)] | rw [if_neg (by omega)])); try rfl; all_goals omega)
  have q4 : jm_u2 (stage ac (SP n 2)) (55 + 4 * n) 1 (some (ac + (56 + 4 * n))) = stage ac (SP n 3) := stage_u (fun a b => by simp only [SB, SM, SQ, SP, TP, decide_eq_true_eq]; omega) (by unfold rho; (repeat (first | rw [if_pos (by omega)] | rw [if_neg (by omega)])); try rfl; all_goals (congr 1; omega))
  have q5 : jm_u2 (stI (TP n 4)) (55 + 4 * n) 2 0 = stI (TP n 5) := stI_u (fun a b => by simp only [SB, SM, SQ, SP, TP, decide_eq_true_eq]; omega) (by unfold iot; (repeat (first | rw [if_pos (by omega)] | rw [if_neg (by omega)])); try rfl; all_goals omega)
  have q6 : jm_u2 (stI (TP n 5)) (55 + 4 * n) 0 n = stI (TP n 6) := stI_u (fun a b => by simp only [SB, SM, SQ, SP, TP, decide_eq_true_eq]; omega) (by unfold iot; (repeat (first | rw [if_pos (by omega)] | rw [if_neg (by omega)])); try rfl; all_goals omega)
  simp (disch := omega) only [e_Asker_init_0, e_Asker_init_1, e_Asker_init_2, e_Asker_init_3, e_Asker_init_4a, e_Asker_init_4b, e_Asker_init_5, e_Asker_init_6, e_Asker_init_7, e_Asker_init_8, e_Asker_init_9, e_Asker_init_10, e_Asker_init_11, e_Asker_init_12, e_Asker_init_13, jm_ia, jm_na, jm_qa, jm_aa, jm_asg, jm_l4, jm_Kr, jm_okv, jm_rc, jm_bo, true_and, and_true, Nat.add_zero, Nat.le_refl, j_lt, j_le, j_eq, j_lt0, j_0lt, j_le0, j_0le, j_eq0, j_add, j_sub, j_mul, j_neg, j_0sub, j_nat, j_in, j_div, j_rem, Sum.inl.injEq, exists_eq', true_or, or_true, if_true, if_false, not_true_eq_false, not_false_eq_true, implies_true, j_eq1, reduceIte, Nat.reduceEqDiff, Int.reduceEq, Int.reduceToNat, Nat.reduceAdd, Int.reduceAdd, Int.reduceSub, Int.reduceMul, Int.reduceNeg, and_false, false_and, and_self, u2r, j_b0, j_b1, Classical.not_not, eq_self, true_implies, false_implies, not_true_eq_false, not_false_eq_true, Int.reduceLT, Int.reduceLE, cn_n, cn_k, cn_k0, cn_r, cn_r0, cn_sr, cn_sr0, cn_si, nat3, q0, q1, q2, q3, q4, q5, q6]
  repeat' first
    | apply And.intro
    | (intro _)
    | (refine ⟨_, kc_Arc_init B l _ (ac + (56 + 4 * n)) (by rw [cn_k (by omega)]; exact congrArg some (by unfold KD; (repeat (first | rw [if_pos (by omega)] | rw [if_neg (by omega)])); try rfl)), ?_⟩; rintro h' rfl; try simp (disch := omega) only [e_Asker_init_0, e_Asker_init_1, e_Asker_init_2, e_Asker_init_3, e_Asker_init_4a, e_Asker_init_4b, e_Asker_init_5, e_Asker_init_6, e_Asker_init_7, e_Asker_init_8, e_Asker_init_9, e_Asker_init_10, e_Asker_init_11, e_Asker_init_12, e_Asker_init_13, jm_ia, jm_na, jm_qa, jm_aa, jm_asg, jm_l4, jm_Kr, jm_okv, jm_rc, jm_bo, true_and, and_true, Nat.add_zero, Nat.le_refl, j_lt, j_le, j_eq, j_lt0, j_0lt, j_le0, j_0le, j_eq0, j_add, j_sub, j_mul, j_neg, j_0sub, j_nat, j_in, j_div, j_rem, Sum.inl.injEq, exists_eq', true_or, or_true, if_true, if_false, not_true_eq_false, not_false_eq_true, implies_true, j_eq1, reduceIte, Nat.reduceEqDiff, Int.reduceEq, Int.reduceToNat, Nat.reduceAdd, Int.reduceAdd, Int.reduceSub, Int.reduceMul, Int.reduceNeg, and_false, false_and, and_self, u2r, j_b0, j_b1, Classical.not_not, eq_self, true_implies, false_implies, not_true_eq_false, not_false_eq_true, Int.reduceLT, Int.reduceLE, cn_n, cn_k, cn_k0, cn_r, cn_r0, cn_sr, cn_sr0, cn_si, nat3, q0, q1, q2, q3, q4, q5, q6])
  all_goals first
    | contradiction
    | exact trivial
    | rfl
    | omega
    | exact (bi1 (by omega)).symm
    | exact (bi0 (by omega)).symm
    | exact (bi1 (by assumption)).symm
    | exact (bi0 (by assumption)).symm
    | ((try unfold IN_); (repeat (first | rw [if_pos (by omega)] | rw [if_neg (by omega)])); done)
    | ((try unfold IN_); (repeat (first | rw [if_pos (by omega)] | rw [if_neg (by omega)])); rfl)
    | ((try unfold IN_); (repeat (first | rw [if_pos (by omega)] | rw [if_neg (by omega)] | rw [if_pos (by assumption)] | rw [if_neg (by assumption)])); rfl)
