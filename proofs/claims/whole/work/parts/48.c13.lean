/-! a new site -/
def KD (o : Nat) : Nat ⊕ (Nat × Nat) :=
  if o = 0 then .inl 7 else if o = 1 then .inr (7, 3) else if o = 2 then .inr (8, 3) else if o = 3 then .inr (5, 3) else if o = 4 then .inl 2 else if o = 5 then .inr (10, 12) else if o = 6 then .inr (10, 18) else if o = 7 then .inr (0, 100)
  else if o < 38 then .inl 6
  else if o < 53 then (if (o - 38) % 5 = 0 then .inl 3 else if (o - 38) % 5 = 1 then .inl 5 else if (o - 38) % 5 = 4 then .inr (4, 6) else .inr (0, 8))
  else if (o - 53) % 4 = 0 then .inl 4 else if (o - 53) % 4 = 2 then .inl 1 else .inl 0
def rho (ac o j : Nat) : Option Nat :=
  if o = 0 then (if j < 4 then some (ac + (1 + j)) else none)
  else if o = 1 then (if j < 3 then some (ac + (38 + 5 * j)) else none)
  else if o = 2 then (if j < 3 then some (ac + (53 + 4 * j)) else none)
  else if o = 3 then (if j < 3 then some (ac + (55 + 4 * j)) else none)
  else if o = 4 then (if j < 3 then some (ac + (5 + j)) else none)
  else if o = 5 then (if j < 12 then some (ac + (8 + j)) else none)
  else if o = 6 then (if j < 18 then some (ac + (20 + j)) else none)
  else if o < 38 then none
  else if o < 53 then (if (o - 38) % 5 = 0 then (if j = 0 then some (ac + (o + 1)) else if j = 1 then some (ac + (o + 4)) else none) else if (o - 38) % 5 = 1 then (if j = 0 then some (ac + (o + 1)) else if j = 1 then some (ac + (o + 2)) else none) else none)
  else if (o - 53) % 2 = 0 then (if j = 1 then some (ac + (o + 1)) else none) else none
def iot (o j : Nat) : Int :=
  if o < 53 then 0 else if (o - 53) % 2 = 0 then (if j = 0 then (((o - 53) / 4 : Nat) : Int) else 0) else (if j = 2 then 1 else 0)

def stage (ac : Nat) (c : Nat → Nat) : M_ := fun o j => if j < c o then rho ac o j else none
def upn (c : Nat → Nat) (o x : Nat) : Nat → Nat := fun a => if a = o then x else c a
theorem upn_n {c : Nat → Nat} {o x a : Nat} (h : ¬ a = o) : upn c o x a = c a := if_neg h
theorem upn_p {c : Nat → Nat} {o x a : Nat} (h : a = o) : upn c o x a = x := if_pos h
def cn_ (h0 : jm_H) (ac k : Nat) (ρ : M_) (ι : S_) : jm_H := (fun a => if ac ≤ a ∧ a < ac + k then some (KD (a - ac)) else h0.1 a, fun a j => if ac ≤ a ∧ a < ac + k then Int32.ofInt (ι (a - ac) j) else h0.2.1 a j, fun a j => if ac ≤ a ∧ a < ac + k then ρ (a - ac) j else h0.2.2.1 a j, fun a j => if ac ≤ a ∧ a < ac + k then 0 else h0.2.2.2.1 a j, ac + k)
section
variable {h0 : jm_H} {ac k k' o j : Nat} {ρ : M_} {ι : S_} {c : Nat → Nat} {v : Option Nat} {x : Int}
theorem cn_n : jm_n (cn_ h0 ac k ρ ι) = ac + k := rfl
theorem cn_k (h : o < k) : jm_k (cn_ h0 ac k ρ ι) (ac + o) = some (KD o) := by
  show (if ac ≤ ac + o ∧ ac + o < ac + k then some (KD (ac + o - ac)) else _) = _
  rw [if_pos (by omega), Nat.add_sub_cancel_left]
theorem cn_k0 (h : 0 < k) : jm_k (cn_ h0 ac k ρ ι) ac = some (KD 0) := cn_k h
theorem cn_r (h : o < k) : jm_r (cn_ h0 ac k ρ ι) (ac + o) j = ρ o j := by
  show (if ac ≤ ac + o ∧ ac + o < ac + k then ρ (ac + o - ac) j else _) = _
  rw [if_pos (by omega), Nat.add_sub_cancel_left]
theorem cn_r0 (h : 0 < k) : jm_r (cn_ h0 ac k ρ ι) ac j = ρ 0 j := cn_r h
theorem cn_sr (h : o < k) : jm_sr (cn_ h0 ac k ρ ι) (ac + o) j v = cn_ h0 ac k (jm_u2 ρ o j v) ι := by
  unfold jm_sr cn_
  refine Prod.ext rfl (Prod.ext rfl (Prod.ext ?_ rfl))
  funext a i
  show (if a = ac + o ∧ i = j then v else if ac ≤ a ∧ a < ac + k then ρ (a - ac) i else _) = (if ac ≤ a ∧ a < ac + k then (if a - ac = o ∧ i = j then v else ρ (a - ac) i) else _)
  by_cases q : ac ≤ a ∧ a < ac + k
  · rw [if_pos q, if_pos q]
    by_cases q2 : a = ac + o ∧ i = j
    · rw [if_pos q2, if_pos (by omega)]
    · rw [if_neg q2, if_neg (by omega)]
  · rw [if_neg q, if_neg q, if_neg (by omega)]
theorem cn_sr0 (h : 0 < k) : jm_sr (cn_ h0 ac k ρ ι) ac j v = cn_ h0 ac k (jm_u2 ρ 0 j v) ι := cn_sr h
theorem cn_si (h : o < k) : jm_si (cn_ h0 ac k ρ ι) (ac + o) j (Int32.ofInt x) = cn_ h0 ac k ρ (jm_u2 ι o j x) := by
  unfold jm_si cn_
  refine Prod.ext rfl (Prod.ext ?_ rfl)
  funext a i
  show (if a = ac + o ∧ i = j then Int32.ofInt x else if ac ≤ a ∧ a < ac + k then Int32.ofInt (ι (a - ac) i) else _) = (if ac ≤ a ∧ a < ac + k then Int32.ofInt (if a - ac = o ∧ i = j then x else ι (a - ac) i) else _)
  by_cases q : ac ≤ a ∧ a < ac + k
  · rw [if_pos q, if_pos q]
    by_cases q2 : a = ac + o ∧ i = j
    · rw [if_pos q2, if_pos (by omega)]
    · rw [if_neg q2, if_neg (by omega)]
  · rw [if_neg q, if_neg q, if_neg (by omega)]
theorem cn_nw {kd : Nat ⊕ (Nat × Nat)} (hk : k' = k + 1) (hd : KD k = kd) (h1 : ∀ j, ρ k j = none) (h2 : ∀ j, ι k j = 0) : jm_nw (cn_ h0 ac k ρ ι) kd = cn_ h0 ac k' ρ ι := by
  subst hk
  unfold jm_nw cn_
  refine Prod.ext ?_ (Prod.ext ?_ (Prod.ext ?_ (Prod.ext ?_ rfl)))
  · funext a
    show (if a = ac + k then some kd else if ac ≤ a ∧ a < ac + k then some (KD (a - ac)) else _) = (if ac ≤ a ∧ a < ac + (k + 1) then some (KD (a - ac)) else _)
    by_cases q : a = ac + k
    · rw [if_pos q, if_pos (by omega), show a - ac = k by omega, hd]
    · rw [if_neg q]
      by_cases q2 : ac ≤ a ∧ a < ac + k
      · rw [if_pos q2, if_pos (by omega)]
      · rw [if_neg q2, if_neg (by omega)]
  · funext a j
    show (if a = ac + k then (0 : Int32) else if ac ≤ a ∧ a < ac + k then Int32.ofInt (ι (a - ac) j) else _) = (if ac ≤ a ∧ a < ac + (k + 1) then Int32.ofInt (ι (a - ac) j) else _)
    by_cases q : a = ac + k
    · rw [if_pos q, if_pos (by omega), show a - ac = k by omega, h2]; rfl
    · rw [if_neg q]
      by_cases q2 : ac ≤ a ∧ a < ac + k
      · rw [if_pos q2, if_pos (by omega)]
      · rw [if_neg q2, if_neg (by omega)]
  · funext a j
    show (if a = ac + k then (none : Option Nat) else if ac ≤ a ∧ a < ac + k then ρ (a - ac) j else _) = (if ac ≤ a ∧ a < ac + (k + 1) then ρ (a - ac) j else _)
    by_cases q : a = ac + k
    · rw [if_pos q, if_pos (by omega), show a - ac = k by omega, h1]
    · rw [if_neg q]
      by_cases q2 : ac ≤ a ∧ a < ac + k
      · rw [if_pos q2, if_pos (by omega)]
      · rw [if_neg q2, if_neg (by omega)]
  · funext a j
    show (if a = ac + k then (0 : Int64) else if ac ≤ a ∧ a < ac + k then (0 : Int64) else _) = (if ac ≤ a ∧ a < ac + (k + 1) then (0 : Int64) else _)
    by_cases q : a = ac + k
    · rw [if_pos q, if_pos (by omega)]
    · rw [if_neg q]
      by_cases q2 : ac ≤ a ∧ a < ac + k
      · rw [if_pos q2, if_pos (by omega)]
      · rw [if_neg q2, if_neg (by omega)]
theorem stage_u (h1 : c o ≤ j) (hv : rho ac o j = v) (hg : ∀ i, i < j → c o ≤ i → rho ac o i = none) : jm_u2 (stage ac c) o j v = stage ac (upn c o (j + 1)) := by
  funext a b
  show (if a = o ∧ b = j then v else if b < c a then rho ac a b else none) = (if b < upn c o (j + 1) a then rho ac a b else none)
  by_cases q : a = o
  · subst q
    rw [upn_p rfl]
    by_cases q2 : b = j
    · rw [if_pos ⟨rfl, q2⟩, if_pos (by omega), q2, hv]
    · rw [if_neg (fun x => q2 x.2)]
      by_cases q3 : b < j
      · rw [if_pos (show b < j + 1 by omega)]
        by_cases q4 : b < c a
        · rw [if_pos q4]
        · rw [if_neg q4, hg b q3 (by omega)]
      · rw [if_neg (show ¬ b < c a by omega), if_neg (by omega)]
  · rw [if_neg (fun x => q x.1), upn_n q]
theorem stage_r (h : j < c o) : stage ac c o j = rho ac o j := if_pos h
theorem stage_n (h : c o = 0) : stage ac c o j = none := if_neg (by omega)
end
/-- rows of references that are written at the heads of the loops -/
def cM (i m a : Nat) : Nat := if a = 0 then 3 else if a = 4 then 3 else if a = 5 then i else if a = 6 then m else 0
def cQ (n a : Nat) : Nat := if a = 0 then 4 else if a = 1 then n else if a = 4 then 3 else if a = 5 then 12 else if a = 6 then 18 else if 38 ≤ a ∧ a < 38 + 5 * n ∧ (a - 38) % 5 ≤ 1 then 2 else 0
def cP (p a : Nat) : Nat := if a = 0 then 4 else if a = 1 then 3 else if a = 2 then p else if a = 3 then p else if a = 4 then 3 else if a = 5 then 12 else if a = 6 then 18 else if 38 ≤ a ∧ a < 53 ∧ (a - 38) % 5 ≤ 1 then 2 else if 53 ≤ a ∧ a < 53 + 4 * p ∧ (a - 53) % 2 = 0 then 2 else 0
def iP (p : Nat) : S_ := fun o j => if o < 53 + 4 * p then iot o j else 0
theorem rho_0 (ac : Nat) {j : Nat} (h : j < 4) : rho ac 0 j = some (ac + (1 + j)) := by unfold rho; rw [if_pos rfl, if_pos h]
theorem rho_1 (ac : Nat) {j : Nat} (h : j < 3) : rho ac 1 j = some (ac + (38 + 5 * j)) := by unfold rho; rw [if_neg (by omega), if_pos rfl, if_pos h]
theorem rho_2 (ac : Nat) {j : Nat} (h : j < 3) : rho ac 2 j = some (ac + (53 + 4 * j)) := by unfold rho; rw [if_neg (by omega), if_neg (by omega), if_pos rfl, if_pos h]
theorem rho_3 (ac : Nat) {j : Nat} (h : j < 3) : rho ac 3 j = some (ac + (55 + 4 * j)) := by unfold rho; rw [if_neg (by omega), if_neg (by omega), if_neg (by omega), if_pos rfl, if_pos h]
theorem rho_4 (ac : Nat) {j : Nat} (h : j < 3) : rho ac 4 j = some (ac + (5 + j)) := by unfold rho; rw [if_neg (by omega), if_neg (by omega), if_neg (by omega), if_neg (by omega), if_pos rfl, if_pos h]
theorem rho_5 (ac : Nat) {j : Nat} (h : j < 12) : rho ac 5 j = some (ac + (8 + j)) := by unfold rho; rw [if_neg (by omega), if_neg (by omega), if_neg (by omega), if_neg (by omega), if_neg (by omega), if_pos rfl, if_pos h]
theorem rho_6 (ac : Nat) {j : Nat} (h : j < 18) : rho ac 6 j = some (ac + (20 + j)) := by unfold rho; rw [if_neg (by omega), if_neg (by omega), if_neg (by omega), if_neg (by omega), if_neg (by omega), if_neg (by omega), if_pos rfl, if_pos h]
theorem rho_c0 {ac n : Nat} (hn : n < 3) : rho ac (38 + 5 * n) 0 = some (ac + (39 + 5 * n)) := by
  unfold rho
  rw [if_neg (by omega), if_neg (by omega), if_neg (by omega), if_neg (by omega), if_neg (by omega), if_neg (by omega), if_neg (by omega), if_neg (by omega), if_pos (by omega), if_pos (by omega), if_pos rfl]
  congr 1; omega
theorem rho_c1 {ac n : Nat} (hn : n < 3) : rho ac (38 + 5 * n) 1 = some (ac + (42 + 5 * n)) := by
  unfold rho
  rw [if_neg (by omega), if_neg (by omega), if_neg (by omega), if_neg (by omega), if_neg (by omega), if_neg (by omega), if_neg (by omega), if_neg (by omega), if_pos (by omega), if_pos (by omega), if_neg (by omega), if_pos rfl]
  congr 1; omega
theorem rho_t0 {ac n : Nat} (hn : n < 3) : rho ac (39 + 5 * n) 0 = some (ac + (40 + 5 * n)) := by
  unfold rho
  rw [if_neg (by omega), if_neg (by omega), if_neg (by omega), if_neg (by omega), if_neg (by omega), if_neg (by omega), if_neg (by omega), if_neg (by omega), if_pos (by omega), if_neg (by omega), if_pos (by omega), if_pos rfl]
  congr 1; omega
theorem rho_t1 {ac n : Nat} (hn : n < 3) : rho ac (39 + 5 * n) 1 = some (ac + (41 + 5 * n)) := by
  unfold rho
  rw [if_neg (by omega), if_neg (by omega), if_neg (by omega), if_neg (by omega), if_neg (by omega), if_neg (by omega), if_neg (by omega), if_neg (by omega), if_pos (by omega), if_neg (by omega), if_pos (by omega), if_neg (by omega), if_pos rfl]
  congr 1; omega
theorem rho_p {ac o : Nat} (h : 53 ≤ o) (h2 : (o - 53) % 2 = 0) : rho ac o 1 = some (ac + (o + 1)) ∧ rho ac o 0 = none := by
  unfold rho
  constructor
  · rw [if_neg (by omega), if_neg (by omega), if_neg (by omega), if_neg (by omega), if_neg (by omega), if_neg (by omega), if_neg (by omega), if_neg (by omega), if_neg (by omega), if_pos h2, if_pos rfl]
  · rw [if_neg (by omega), if_neg (by omega), if_neg (by omega), if_neg (by omega), if_neg (by omega), if_neg (by omega), if_neg (by omega), if_neg (by omega), if_neg (by omega), if_pos h2, if_neg (by omega)]
theorem rho_e {ac o j : Nat} (h : (o < 38 → 6 < o) ∧ (38 ≤ o → o < 53 → 1 < (o - 38) % 5) ∧ (53 ≤ o → (o - 53) % 2 = 1)) : rho ac o j = none := by
  unfold rho
  rw [if_neg (by omega), if_neg (by omega), if_neg (by omega), if_neg (by omega), if_neg (by omega), if_neg (by omega), if_neg (by omega)]
  by_cases q : o < 38
  · rw [if_pos q]
  · rw [if_neg q]
    by_cases q2 : o < 53
    · rw [if_pos q2, if_neg (by omega), if_neg (by omega)]
    · rw [if_neg q2, if_neg (by omega)]
set_option maxRecDepth 100000 in
set_option maxHeartbeats 4000000 in
theorem kc_Table (B : jm_B) (l : Launch) (h0 : jm_H) (ac : Nat) (n : Nat) (hn : n < 3) (c : Nat → Nat) (ι : S_) (hz : ∀ a, 39 + 5 * n ≤ a → c a = 0) (hy : ∀ a j, 40 + 5 * n ≤ a → ι a j = 0) : jm_Ct gG B l (gm 37) [.inr (.inl (some (ac + (39 + 5 * n))))] (cn_ h0 ac (40 + 5 * n) (stage ac (c)) (ι)) (fun v h' => h' = (cn_ h0 ac (42 + 5 * n) (stage ac (upn (upn (c) (39 + 5 * n) (0 + 1)) (39 + 5 * n) (1 + 1))) (ι))) := by
  show jm_Ct gG B l M_Table_init _ _ _
  refine jm_C0 (code := k_Table_init) (Or.inl (by decide)) (by decide) v_Table_init rfl (Nat.le_of_ble_eq_true rfl) [some (.inr (.inl (some (ac + (39 + 5 * n)))))] rfl rfl ⟨15, ?_⟩
  have q0 : KD (39 + 5 * n) = .inl 5 := by unfold KD; (repeat (first | rw [if_pos (by omega)] | rw [if_neg (by omega)])); try rfl
  have q1 : KD (40 + 5 * n) = .inr (0, 8) := by unfold KD; (repeat (first | rw [if_pos (by omega)] | rw [if_neg (by omega)])); try rfl
  have q2 : jm_nw (cn_ h0 ac (40 + 5 * n) (stage ac (c)) (ι)) (.inr (0, 8)) = (cn_ h0 ac (41 + 5 * n) (stage ac (c)) (ι)) := cn_nw (by omega) (by unfold KD; (repeat (first | rw [if_pos (by omega)] | rw [if_neg (by omega)])); try rfl) (fun j => stage_n (by (repeat rw [upn_n (by omega)]); try exact hz _ (by omega))) (fun j => by (repeat rw [u2n (by omega)]); try exact hy _ _ (by omega))
  have q3 : jm_u2 (stage ac (c)) (39 + 5 * n) 0 (some (ac + (40 + 5 * n))) = stage ac (upn (c) (39 + 5 * n) (0 + 1)) := stage_u (by (first | (rw [upn_p rfl]; done) | (rw [upn_p rfl]; omega) | ((repeat rw [upn_n (by omega)]); have := hz (39 + 5 * n) (by omega); omega))) (rho_t0 hn) (fun i h1 h2 => by omega)
  have q4 : KD (41 + 5 * n) = .inr (0, 8) := by unfold KD; (repeat (first | rw [if_pos (by omega)] | rw [if_neg (by omega)])); try rfl
  have q5 : jm_nw (cn_ h0 ac (41 + 5 * n) (stage ac (upn (c) (39 + 5 * n) (0 + 1))) (ι)) (.inr (0, 8)) = (cn_ h0 ac (42 + 5 * n) (stage ac (upn (c) (39 + 5 * n) (0 + 1))) (ι)) := cn_nw (by omega) (by unfold KD; (repeat (first | rw [if_pos (by omega)] | rw [if_neg (by omega)])); try rfl) (fun j => stage_n (by (repeat rw [upn_n (by omega)]); try exact hz _ (by omega))) (fun j => by (repeat rw [u2n (by omega)]); try exact hy _ _ (by omega))
  have q6 : jm_u2 (stage ac (upn (c) (39 + 5 * n) (0 + 1))) (39 + 5 * n) 1 (some (ac + (41 + 5 * n))) = stage ac (upn (upn (c) (39 + 5 * n) (0 + 1)) (39 + 5 * n) (1 + 1)) := stage_u (by (first | (rw [upn_p rfl]; done) | (rw [upn_p rfl]; omega) | ((repeat rw [upn_n (by omega)]); have := hz (39 + 5 * n) (by omega); omega))) (rho_t1 hn) (fun i h1 h2 => by rw [upn_p rfl] at h2; omega)
  simp (disch := omega) only [e_Table_init_0, e_Table_init_1, e_Table_init_2, e_Table_init_3, e_Table_init_4, e_Table_init_5, e_Table_init_6, e_Table_init_7, e_Table_init_8, e_Table_init_9, e_Table_init_10, jm_ia, jm_na, jm_qa, jm_aa, jm_asg, jm_l4, jm_Kr, jm_okv, jm_rc, jm_bo, true_and, and_true, Nat.add_zero, Nat.le_refl, j_lt, j_le, j_eq, j_lt0, j_0lt, j_le0, j_0le, j_eq0, j_add, j_sub, j_mul, j_neg, j_0sub, j_nat, j_in, j_div, j_rem, Sum.inl.injEq, exists_eq', true_or, or_true, if_true, if_false, not_true_eq_false, not_false_eq_true, implies_true, j_eq1, reduceIte, Nat.reduceEqDiff, Int.reduceEq, Int.reduceToNat, Nat.reduceAdd, Int.reduceAdd, Int.reduceSub, Int.reduceMul, Int.reduceNeg, and_false, false_and, and_self, u2r, j_b0, j_b1, Classical.not_not, eq_self, true_implies, false_implies, not_true_eq_false, not_false_eq_true, Int.reduceLT, Int.reduceLE, cn_n, cn_k, cn_k0, cn_r, cn_r0, cn_sr, cn_sr0, cn_si, nat3, q0, q1, q2, q3, q4, q5, q6]
  repeat' first
    | apply And.intro
    | (intro _)
  all_goals first
    | contradiction
    | exact trivial
    | rfl
    | omega
    | exact (bi1 (by omega)).symm
    | exact (bi0 (by omega)).symm
    | exact (bi1 (by assumption)).symm
    | exact (bi0 (by assumption)).symm
    | ((try unfold IN_); (repeat (first | rw [if_pos (by omega)] | rw [if_neg (by omega)])); done)
    | ((try unfold IN_); (repeat (first | rw [if_pos (by omega)] | rw [if_neg (by omega)])); rfl)
    | ((try unfold IN_); (repeat (first | rw [if_pos (by omega)] | rw [if_neg (by omega)] | rw [if_pos (by assumption)] | rw [if_neg (by assumption)])); rfl)
set_option maxRecDepth 100000 in
set_option maxHeartbeats 4000000 in
theorem kc_Crane (B : jm_B) (l : Launch) (h0 : jm_H) (ac : Nat) (n : Nat) (hn : n < 3) (c : Nat → Nat) (ι : S_) (hz : ∀ a, 38 + 5 * n ≤ a → c a = 0) (hy : ∀ a j, 39 + 5 * n ≤ a → ι a j = 0) : jm_Ct gG B l (gm 19) [.inr (.inl (some (ac + (38 + 5 * n))))] (cn_ h0 ac (39 + 5 * n) (stage ac (c)) (ι)) (fun v h' => h' = (cn_ h0 ac (43 + 5 * n) (stage ac (upn (upn (upn (upn (c) (39 + 5 * n) (0 + 1)) (39 + 5 * n) (1 + 1)) (38 + 5 * n) (0 + 1)) (38 + 5 * n) (1 + 1))) (ι))) := by
  show jm_Ct gG B l M_Crane_init _ _ _
  refine jm_C0 (code := k_Crane_init) (Or.inl (by decide)) (by decide) v_Crane_init rfl (Nat.le_of_ble_eq_true rfl) [some (.inr (.inl (some (ac + (38 + 5 * n)))))] rfl rfl ⟨16, ?_⟩
  have q0 : KD (38 + 5 * n) = .inl 3 := by unfold KD; (repeat (first | rw [if_pos (by omega)] | rw [if_neg (by omega)])); try rfl
  have q1 : KD (39 + 5 * n) = .inl 5 := by unfold KD; (repeat (first | rw [if_pos (by omega)] | rw [if_neg (by omega)])); try rfl
  have q2 : jm_nw (cn_ h0 ac (39 + 5 * n) (stage ac (c)) (ι)) (.inl 5) = (cn_ h0 ac (40 + 5 * n) (stage ac (c)) (ι)) := cn_nw (by omega) (by unfold KD; (repeat (first | rw [if_pos (by omega)] | rw [if_neg (by omega)])); try rfl) (fun j => stage_n (by (repeat rw [upn_n (by omega)]); try exact hz _ (by omega))) (fun j => by (repeat rw [u2n (by omega)]); try exact hy _ _ (by omega))
  have q3 : jm_u2 (stage ac (upn (upn (c) (39 + 5 * n) (0 + 1)) (39 + 5 * n) (1 + 1))) (38 + 5 * n) 0 (some (ac + (39 + 5 * n))) = stage ac (upn (upn (upn (c) (39 + 5 * n) (0 + 1)) (39 + 5 * n) (1 + 1)) (38 + 5 * n) (0 + 1)) := stage_u (by (first | (rw [upn_p rfl]; done) | (rw [upn_p rfl]; omega) | ((repeat rw [upn_n (by omega)]); have := hz (38 + 5 * n) (by omega); omega))) (rho_c0 hn) (fun i h1 h2 => by omega)
  have q4 : KD (42 + 5 * n) = .inr (4, 6) := by unfold KD; (repeat (first | rw [if_pos (by omega)] | rw [if_neg (by omega)])); try rfl
  have q5 : jm_nw (cn_ h0 ac (42 + 5 * n) (stage ac (upn (upn (upn (c) (39 + 5 * n) (0 + 1)) (39 + 5 * n) (1 + 1)) (38 + 5 * n) (0 + 1))) (ι)) (.inr (4, 6)) = (cn_ h0 ac (43 + 5 * n) (stage ac (upn (upn (upn (c) (39 + 5 * n) (0 + 1)) (39 + 5 * n) (1 + 1)) (38 + 5 * n) (0 + 1))) (ι)) := cn_nw (by omega) (by unfold KD; (repeat (first | rw [if_pos (by omega)] | rw [if_neg (by omega)])); try rfl) (fun j => stage_n (by (repeat rw [upn_n (by omega)]); try exact hz _ (by omega))) (fun j => by (repeat rw [u2n (by omega)]); try exact hy _ _ (by omega))
  have q6 : jm_u2 (stage ac (upn (upn (upn (c) (39 + 5 * n) (0 + 1)) (39 + 5 * n) (1 + 1)) (38 + 5 * n) (0 + 1))) (38 + 5 * n) 1 (some (ac + (42 + 5 * n))) = stage ac (upn (upn (upn (upn (c) (39 + 5 * n) (0 + 1)) (39 + 5 * n) (1 + 1)) (38 + 5 * n) (0 + 1)) (38 + 5 * n) (1 + 1)) := stage_u (by (first | (rw [upn_p rfl]; done) | (rw [upn_p rfl]; omega) | ((repeat rw [upn_n (by omega)]); have := hz (38 + 5 * n) (by omega); omega))) (rho_c1 hn) (fun i h1 h2 => by rw [upn_p rfl] at h2; omega)
  simp (disch := omega) only [e_Crane_init_0, e_Crane_init_1, e_Crane_init_2, e_Crane_init_3, e_Crane_init_4a, e_Crane_init_4b, e_Crane_init_5, e_Crane_init_6, e_Crane_init_7, e_Crane_init_8, e_Crane_init_9, e_Crane_init_10, e_Crane_init_11, jm_ia, jm_na, jm_qa, jm_aa, jm_asg, jm_l4, jm_Kr, jm_okv, jm_rc, jm_bo, true_and, and_true, Nat.add_zero, Nat.le_refl, j_lt, j_le, j_eq, j_lt0, j_0lt, j_le0, j_0le, j_eq0, j_add, j_sub, j_mul, j_neg, j_0sub, j_nat, j_in, j_div, j_rem, Sum.inl.injEq, exists_eq', true_or, or_true, if_true, if_false, not_true_eq_false, not_false_eq_true, implies_true, j_eq1, reduceIte, Nat.reduceEqDiff, Int.reduceEq, Int.reduceToNat, Nat.reduceAdd, Int.reduceAdd, Int.reduceSub, Int.reduceMul, Int.reduceNeg, and_false, false_and, and_self, u2r, j_b0, j_b1, Classical.not_not, eq_self, true_implies, false_implies, not_true_eq_false, not_false_eq_true, Int.reduceLT, Int.reduceLE, cn_n, cn_k, cn_k0, cn_r, cn_r0, cn_sr, cn_sr0, cn_si, nat3, q0, q1, q2, q3, q4, q5, q6]
  repeat' first
    | apply And.intro
    | (intro _)
    | (refine ⟨_, kc_Table B l h0 ac n hn c ι (fun a q => hz a (by omega)) (fun a j q => hy a j (by omega)), ?_⟩; rintro h' rfl; try simp (disch := omega) only [e_Crane_init_0, e_Crane_init_1, e_Crane_init_2, e_Crane_init_3, e_Crane_init_4a, e_Crane_init_4b, e_Crane_init_5, e_Crane_init_6, e_Crane_init_7, e_Crane_init_8, e_Crane_init_9, e_Crane_init_10, e_Crane_init_11, jm_ia, jm_na, jm_qa, jm_aa, jm_asg, jm_l4, jm_Kr, jm_okv, jm_rc, jm_bo, true_and, and_true, Nat.add_zero, Nat.le_refl, j_lt, j_le, j_eq, j_lt0, j_0lt, j_le0, j_0le, j_eq0, j_add, j_sub, j_mul, j_neg, j_0sub, j_nat, j_in, j_div, j_rem, Sum.inl.injEq, exists_eq', true_or, or_true, if_true, if_false, not_true_eq_false, not_false_eq_true, implies_true, j_eq1, reduceIte, Nat.reduceEqDiff, Int.reduceEq, Int.reduceToNat, Nat.reduceAdd, Int.reduceAdd, Int.reduceSub, Int.reduceMul, Int.reduceNeg, and_false, false_and, and_self, u2r, j_b0, j_b1, Classical.not_not, eq_self, true_implies, false_implies, not_true_eq_false, not_false_eq_true, Int.reduceLT, Int.reduceLE, cn_n, cn_k, cn_k0, cn_r, cn_r0, cn_sr, cn_sr0, cn_si, nat3, q0, q1, q2, q3, q4, q5, q6])
  all_goals first
    | contradiction
    | exact trivial
    | rfl
    | omega
    | exact (bi1 (by omega)).symm
    | exact (bi0 (by omega)).symm
    | exact (bi1 (by assumption)).symm
    | exact (bi0 (by assumption)).symm
    | ((try unfold IN_); (repeat (first | rw [if_pos (by omega)] | rw [if_neg (by omega)])); done)
    | ((try unfold IN_); (repeat (first | rw [if_pos (by omega)] | rw [if_neg (by omega)])); rfl)
    | ((try unfold IN_); (repeat (first | rw [if_pos (by omega)] | rw [if_neg (by omega)] | rw [if_pos (by assumption)] | rw [if_neg (by assumption)])); rfl)
set_option maxRecDepth 100000 in
set_option maxHeartbeats 4000000 in
theorem kc_Keeper (B : jm_B) (l : Launch) (h0 : jm_H) (ac : Nat) (n : Nat) (hn : n < 3) (c : Nat → Nat) (ι : S_) (hz : ∀ a, 53 + 4 * n ≤ a → c a = 0) (hy : ∀ a j, 54 + 4 * n ≤ a → ι a j = 0) : jm_Ct gG B l (gm 31) [.inr (.inl (some (ac + (53 + 4 * n)))), .inl (Int32.ofInt (n))] (cn_ h0 ac (54 + 4 * n) (stage ac (c)) (ι)) (fun v h' => h' = (cn_ h0 ac (55 + 4 * n) (stage ac (upn (c) (53 + 4 * n) (1 + 1))) (jm_u2 (jm_u2 (jm_u2 (ι) (54 + 4 * n) 2 1) (53 + 4 * n) 2 0) (53 + 4 * n) 0 n))) := by
  show jm_Ct gG B l M_Keeper_init _ _ _
  refine jm_C0 (code := k_Keeper_init) (Or.inl (by decide)) (by decide) v_Keeper_init rfl (Nat.le_of_ble_eq_true rfl) [some (.inr (.inl (some (ac + (53 + 4 * n))))), some (.inl (Int32.ofInt (n)))] rfl rfl ⟨18, ?_⟩
  have q0 : KD (53 + 4 * n) = .inl 4 := by unfold KD; (repeat (first | rw [if_pos (by omega)] | rw [if_neg (by omega)])); try rfl
  have q1 : KD (54 + 4 * n) = .inl 0 := by unfold KD; (repeat (first | rw [if_pos (by omega)] | rw [if_neg (by omega)])); try rfl
  have q2 : jm_nw (cn_ h0 ac (54 + 4 * n) (stage ac (c)) (ι)) (.inl 0) = (cn_ h0 ac (55 + 4 * n) (stage ac (c)) (ι)) := cn_nw (by omega) (by unfold KD; (repeat (first | rw [if_pos (by omega)] | rw [if_neg (by omega)])); try rfl) (fun j => stage_n (by (repeat rw [upn_n (by omega)]); try exact hz _ (by omega))) (fun j => by (repeat rw [u2n (by omega)]); try exact hy _ _ (by omega))
  have q3 : jm_u2 (stage ac (c)) (53 + 4 * n) 1 (some (ac + (54 + 4 * n))) = stage ac (upn (c) (53 + 4 * n) (1 + 1)) := stage_u (by (first | (rw [upn_p rfl]; done) | (rw [upn_p rfl]; omega) | ((repeat rw [upn_n (by omega)]); have := hz (53 + 4 * n) (by omega); omega))) (by rw [(rho_p (by omega) (by omega)).1]; congr 1; omega) (fun i h1 h2 => by rw [show i = 0 by omega]; exact (rho_p (by omega) (by omega)).2)
  simp (disch := omega) only [e_Keeper_init_0, e_Keeper_init_1, e_Keeper_init_2, e_Keeper_init_3, e_Keeper_init_4a, e_Keeper_init_4b, e_Keeper_init_5, e_Keeper_init_6, e_Keeper_init_7, e_Keeper_init_8, e_Keeper_init_9, e_Keeper_init_10, e_Keeper_init_11, e_Keeper_init_12, e_Keeper_init_13, jm_ia, jm_na, jm_qa, jm_aa, jm_asg, jm_l4, jm_Kr, jm_okv, jm_rc, jm_bo, true_and, and_true, Nat.add_zero, Nat.le_refl, j_lt, j_le, j_eq, j_lt0, j_0lt, j_le0, j_0le, j_eq0, j_add, j_sub, j_mul, j_neg, j_0sub, j_nat, j_in, j_div, j_rem, Sum.inl.injEq, exists_eq', true_or, or_true, if_true, if_false, not_true_eq_false, not_false_eq_true, implies_true, j_eq1, reduceIte, Nat.reduceEqDiff, Int.reduceEq, Int.reduceToNat, Nat.reduceAdd, Int.reduceAdd, Int.reduceSub, Int.reduceMul, Int.reduceNeg, and_false, false_and, and_self, u2r, j_b0, j_b1, Classical.not_not, eq_self, true_implies, false_implies, not_true_eq_false, not_false_eq_true, Int.reduceLT, Int.reduceLE, cn_n, cn_k, cn_k0, cn_r, cn_r0, cn_sr, cn_sr0, cn_si, nat3, q0, q1, q2, q3]
  repeat' first
    | apply And.intro
    | (intro _)
    | (refine ⟨_, kc_Arc_init B l _ (ac + (54 + 4 * n)) (by rw [cn_k (by omega)]; exact congrArg some (by unfold KD; (repeat (first | rw [if_pos (by omega)] | rw [if_neg (by omega)])); try rfl)), ?_⟩; rintro h' rfl; try simp (disch := omega) only [e_Keeper_init_0, e_Keeper_init_1, e_Keeper_init_2, e_Keeper_init_3, e_Keeper_init_4a, e_Keeper_init_4b, e_Keeper_init_5, e_Keeper_init_6, e_Keeper_init_7, e_Keeper_init_8, e_Keeper_init_9, e_Keeper_init_10, e_Keeper_init_11, e_Keeper_init_12, e_Keeper_init_13, jm_ia, jm_na, jm_qa, jm_aa, jm_asg, jm_l4, jm_Kr, jm_okv, jm_rc, jm_bo, true_and, and_true, Nat.add_zero, Nat.le_refl, j_lt, j_le, j_eq, j_lt0, j_0lt, j_le0, j_0le, j_eq0, j_add, j_sub, j_mul, j_neg, j_0sub, j_nat, j_in, j_div, j_rem, Sum.inl.injEq, exists_eq', true_or, or_true, if_true, if_false, not_true_eq_false, not_false_eq_true, implies_true, j_eq1, reduceIte, Nat.reduceEqDiff, Int.reduceEq, Int.reduceToNat, Nat.reduceAdd, Int.reduceAdd, Int.reduceSub, Int.reduceMul, Int.reduceNeg, and_false, false_and, and_self, u2r, j_b0, j_b1, Classical.not_not, eq_self, true_implies, false_implies, not_true_eq_false, not_false_eq_true, Int.reduceLT, Int.reduceLE, cn_n, cn_k, cn_k0, cn_r, cn_r0, cn_sr, cn_sr0, cn_si, nat3, q0, q1, q2, q3])
  all_goals first
    | contradiction
    | exact trivial
    | rfl
    | omega
    | exact (bi1 (by omega)).symm
    | exact (bi0 (by omega)).symm
    | exact (bi1 (by assumption)).symm
    | exact (bi0 (by assumption)).symm
    | ((try unfold IN_); (repeat (first | rw [if_pos (by omega)] | rw [if_neg (by omega)])); done)
    | ((try unfold IN_); (repeat (first | rw [if_pos (by omega)] | rw [if_neg (by omega)])); rfl)
    | ((try unfold IN_); (repeat (first | rw [if_pos (by omega)] | rw [if_neg (by omega)] | rw [if_pos (by assumption)] | rw [if_neg (by assumption)])); rfl)
set_option maxRecDepth 100000 in
set_option maxHeartbeats 4000000 in
theorem kc_Asker (B : jm_B) (l : Launch) (h0 : jm_H) (ac : Nat) (n : Nat) (hn : n < 3) (c : Nat → Nat) (ι : S_) (hz : ∀ a, 55 + 4 * n ≤ a → c a = 0) (hy : ∀ a j, 56 + 4 * n ≤ a → ι a j = 0) : jm_Ct gG B l (gm 5) [.inr (.inl (some (ac + (55 + 4 * n)))), .inl (Int32.ofInt (n))] (cn_ h0 ac (56 + 4 * n) (stage ac (c)) (ι)) (fun v h' => h' = (cn_ h0 ac (57 + 4 * n) (stage ac (upn (c) (55 + 4 * n) (1 + 1))) (jm_u2 (jm_u2 (jm_u2 (ι) (56 + 4 * n) 2 1) (55 + 4 * n) 2 0) (55 + 4 * n) 0 n))) := by
  show jm_Ct gG B l M_Asker_init _ _ _
  refine jm_C0 (code := k_Asker_init) (Or.inl (by decide)) (by decide) v_Asker_init rfl (Nat.le_of_ble_eq_true rfl) [some (.inr (.inl (some (ac + (55 + 4 * n))))), some (.inl (Int32.ofInt (n)))] rfl rfl ⟨18, ?_⟩
  have q0 : KD (55 + 4 * n) = .inl 1 := by unfold KD; (repeat (first | rw [if_pos (by omega)] | rw [if_neg (by omega)])); try rfl
  have q1 : KD (56 + 4 * n) = .inl 0 := by unfold KD; (repeat (first | rw [if_pos (by omega)] | rw [if_neg (by omega)])); try rfl
  have q2 : jm_nw (cn_ h0 ac (56 + 4 * n) (stage ac (c)) (ι)) (.inl 0) = (cn_ h0 ac (57 + 4 * n) (stage ac (c)) (ι)) := cn_nw (by omega) (by unfold KD; (repeat (first | rw [if_pos (by omega)] | rw [if_neg (by omega)])); try rfl) (fun j => stage_n (by (repeat rw [upn_n (by omega)]); try exact hz _ (by omega))) (fun j => by (repeat rw [u2n (by omega)]); try exact hy _ _ (by omega))
  have q3 : jm_u2 (stage ac (c)) (55 + 4 * n) 1 (some (ac + (56 + 4 * n))) = stage ac (upn (c) (55 + 4 * n) (1 + 1)) := stage_u (by (first | (rw [upn_p rfl]; done) | (rw [upn_p rfl]; omega) | ((repeat rw [upn_n (by omega)]); have := hz (55 + 4 * n) (by omega); omega))) (by rw [(rho_p (by omega) (by omega)).1]; congr 1; omega) (fun i h1 h2 => by rw [show i = 0 by omega]; exact (rho_p (by omega) (by omega)).2)
  simp (disch := omega) only [e_Asker_init_0, e_Asker_init_1, e_Asker_init_2, e_Asker_init_3, e_Asker_init_4a, e_Asker_init_4b, e_Asker_init_5, e_Asker_init_6, e_Asker_init_7, e_Asker_init_8, e_Asker_init_9, e_Asker_init_10, e_Asker_init_11, e_Asker_init_12, e_Asker_init_13, jm_ia, jm_na, jm_qa, jm_aa, jm_asg, jm_l4, jm_Kr, jm_okv, jm_rc, jm_bo, true_and, and_true, Nat.add_zero, Nat.le_refl, j_lt, j_le, j_eq, j_lt0, j_0lt, j_le0, j_0le, j_eq0, j_add, j_sub, j_mul, j_neg, j_0sub, j_nat, j_in, j_div, j_rem, Sum.inl.injEq, exists_eq', true_or, or_true, if_true, if_false, not_true_eq_false, not_false_eq_true, implies_true, j_eq1, reduceIte, Nat.reduceEqDiff, Int.reduceEq, Int.reduceToNat, Nat.reduceAdd, Int.reduceAdd, Int.reduceSub, Int.reduceMul, Int.reduceNeg, and_false, false_and, and_self, u2r, j_b0, j_b1, Classical.not_not, eq_self, true_implies, false_implies, not_true_eq_false, not_false_eq_true, Int.reduceLT, Int.reduceLE, cn_n, cn_k, cn_k0, cn_r, cn_r0, cn_sr, cn_sr0, cn_si, nat3, q0, q1, q2, q3]
  repeat' first
    | apply And.intro
    | (intro _)
    | (refine ⟨_, kc_Arc_init B l _ (ac + (56 + 4 * n)) (by rw [cn_k (by omega)]; exact congrArg some (by unfold KD; (repeat (first | rw [if_pos (by omega)] | rw [if_neg (by omega)])); try rfl)), ?_⟩; rintro h' rfl; try simp (disch := omega) only [e_Asker_init_0, e_Asker_init_1, e_Asker_init_2, e_Asker_init_3, e_Asker_init_4a, e_Asker_init_4b, e_Asker_init_5, e_Asker_init_6, e_Asker_init_7, e_Asker_init_8, e_Asker_init_9, e_Asker_init_10, e_Asker_init_11, e_Asker_init_12, e_Asker_init_13, jm_ia, jm_na, jm_qa, jm_aa, jm_asg, jm_l4, jm_Kr, jm_okv, jm_rc, jm_bo, true_and, and_true, Nat.add_zero, Nat.le_refl, j_lt, j_le, j_eq, j_lt0, j_0lt, j_le0, j_0le, j_eq0, j_add, j_sub, j_mul, j_neg, j_0sub, j_nat, j_in, j_div, j_rem, Sum.inl.injEq, exists_eq', true_or, or_true, if_true, if_false, not_true_eq_false, not_false_eq_true, implies_true, j_eq1, reduceIte, Nat.reduceEqDiff, Int.reduceEq, Int.reduceToNat, Nat.reduceAdd, Int.reduceAdd, Int.reduceSub, Int.reduceMul, Int.reduceNeg, and_false, false_and, and_self, u2r, j_b0, j_b1, Classical.not_not, eq_self, true_implies, false_implies, not_true_eq_false, not_false_eq_true, Int.reduceLT, Int.reduceLE, cn_n, cn_k, cn_k0, cn_r, cn_r0, cn_sr, cn_sr0, cn_si, nat3, q0, q1, q2, q3])
  all_goals first
    | contradiction
    | exact trivial
    | rfl
    | omega
    | exact (bi1 (by omega)).symm
    | exact (bi0 (by omega)).symm
    | exact (bi1 (by assumption)).symm
    | exact (bi0 (by assumption)).symm
    | ((try unfold IN_); (repeat (first | rw [if_pos (by omega)] | rw [if_neg (by omega)])); done)
    | ((try unfold IN_); (repeat (first | rw [if_pos (by omega)] | rw [if_neg (by omega)])); rfl)
    | ((try unfold IN_); (repeat (first | rw [if_pos (by omega)] | rw [if_neg (by omega)] | rw [if_pos (by assumption)] | rw [if_neg (by assumption)])); rfl)
theorem upn_upn (c : Nat → Nat) (o x y : Nat) : upn (upn c o x) o y = upn c o y := by
  funext a
  unfold upn
  split <;> rfl
theorem upn_0 {c : Nat → Nat} {o : Nat} (h : c o = 0) : upn c o 0 = c := by
  funext a
  unfold upn
  split
  · rename_i q; rw [q, h]
  · rfl
theorem upn_3 (c : Nat → Nat) (o : Nat) : upn (upn (upn c o (0 + 1)) o (1 + 1)) o (2 + 1) = upn c o 3 := by rw [upn_upn, upn_upn]
def Iv_kc_Bus (h0 : jm_H) (ac : Nat) (c : Nat → Nat) (ι : S_) : Nat → Nat → List (Option jm_V) → List jm_V → jm_H → Nat → Nat → Prop := fun kq pc L st h' ce sl =>
  (pc = 32 ∧ ∃ (n : Nat) (ν : M_), L = [some (.inr (.inl (some (ac + 4)))), some (.inl (Int32.ofInt (n)))] ∧ st = [] ∧ h' = cn_ h0 ac (8 + n) ν ι ∧ ce = 3 + n ∧ sl = 130 + 4 * n ∧ kq = 100 - n ∧ (n ≤ 12 ∧ ν = stage ac (upn (upn c 4 3) 5 n))) ∨
  (pc = 59 ∧ ∃ (n : Nat) (ν : M_), L = [some (.inr (.inl (some (ac + 4)))), some (.inl (Int32.ofInt (n)))] ∧ st = [] ∧ h' = cn_ h0 ac (20 + n) ν ι ∧ ce = 15 + n ∧ sl = 178 + 4 * n ∧ kq = 50 - n ∧ (n ≤ 18 ∧ ν = stage ac (upn (upn (upn c 4 3) 5 12) 6 n)))
set_option maxRecDepth 100000 in
set_option maxHeartbeats 4000000 in
theorem kc_Bus (B : jm_B) (l : Launch) (h0 : jm_H) (ac : Nat) (c : Nat → Nat) (ι : S_) (hz : ∀ a, 4 ≤ a → c a = 0) (hy : ∀ a j, 5 ≤ a → ι a j = 0) : jm_Ct gG B l (gm 11) [.inr (.inl (some (ac + 4)))] (cn_ h0 ac (5) (stage ac (c)) (ι)) (fun v h' => h' = cn_ h0 ac 38 (stage ac (upn (upn (upn c 4 3) 5 12) 6 18)) ι) := by
  show jm_Ct gG B l M_Bus_init _ _ _
  refine jm_CL (code := k_Bus_init) (Or.inl (by decide)) (by decide) v_Bus_init rfl (Nat.le_of_ble_eq_true rfl) [some (.inr (.inl (some (ac + 4)))), none] rfl rfl (Iv_kc_Bus h0 ac c ι) ?_ ⟨47, ?_⟩
  · intro k pc L st h' ce sl hI
    rcases hI with ⟨rfl, n, ν, rfl, rfl, rfl, rfl, rfl, rfl, hc⟩ | ⟨rfl, n, ν, rfl, rfl, rfl, rfl, rfl, rfl, hc⟩
    · refine ⟨47, 16, ⟨_, _, rfl, rfl⟩, ?_⟩
      obtain ⟨k1, rfl⟩ := hc
      rcases (show n < 12 ∨ n = 12 by omega) with hi | hi
      · have q0 : KD (4) = .inl 2 := by unfold KD; (repeat (first | rw [if_pos (by omega)] | rw [if_neg (by omega)])); try rfl
        have q1 : KD (5) = .inr (10, 12) := by unfold KD; (repeat (first | rw [if_pos (by omega)] | rw [if_neg (by omega)])); try rfl
        have q2 : KD (8 + n) = .inl 6 := by unfold KD; (repeat (first | rw [if_pos (by omega)] | rw [if_neg (by omega)])); try rfl
        have q3 : jm_nw (cn_ h0 ac (8 + n) (stage ac (upn (upn c 4 3) 5 n)) (ι)) (.inl 6) = (cn_ h0 ac (8 + (n + 1)) (stage ac (upn (upn c 4 3) 5 n)) (ι)) := cn_nw (by omega) (by unfold KD; (repeat (first | rw [if_pos (by omega)] | rw [if_neg (by omega)])); try rfl) (fun j => stage_n (by (repeat rw [upn_n (by omega)]); try exact (by (repeat rw [upn_n (by omega)]); exact hz _ (by omega)))) (fun j => by (repeat rw [u2n (by omega)]); try exact hy _ _ (by omega))
        have q4 : jm_u2 (stage ac (upn (upn c 4 3) 5 n)) 5 n (some (ac + (8 + n))) = stage ac (upn (upn c 4 3) 5 (n + 1)) := by rw [stage_u (by rw [upn_p rfl]; omega) (rho_5 ac (by omega)) (fun i h1 h2 => by rw [upn_p rfl] at h2; omega), upn_upn]
        have q5 : stage ac (upn (upn c 4 3) 5 n) 4 0 = some (ac + 5) := (stage_r (by (repeat rw [upn_n (by omega)]); rw [upn_p rfl]; omega)).trans (rho_4 ac (by omega))
        have q6 : True := trivial
        have q7 : True := trivial
        have q8 : True := trivial
        have q9 : True := trivial
        have q10 : True := trivial
        have z0 : True := trivial
        simp (disch := omega) only [e_Bus_init_0, e_Bus_init_1, e_Bus_init_2, e_Bus_init_3, e_Bus_init_4, e_Bus_init_5, e_Bus_init_6, e_Bus_init_7, e_Bus_init_8, e_Bus_init_9, e_Bus_init_10, e_Bus_init_11, e_Bus_init_12, e_Bus_init_13, e_Bus_init_14, e_Bus_init_15, c_Bus_init_16, e_Bus_init_16, e_Bus_init_17, e_Bus_init_18, e_Bus_init_19, e_Bus_init_20, e_Bus_init_21, e_Bus_init_22, e_Bus_init_23a, e_Bus_init_23b, e_Bus_init_24, e_Bus_init_25, e_Bus_init_26, e_Bus_init_27, e_Bus_init_28, e_Bus_init_29, c_Bus_init_30, e_Bus_init_30, e_Bus_init_31, e_Bus_init_32, e_Bus_init_33, e_Bus_init_34, e_Bus_init_35, e_Bus_init_36, e_Bus_init_37a, e_Bus_init_37b, e_Bus_init_38, e_Bus_init_39, e_Bus_init_40, e_Bus_init_41, e_Bus_init_42, jm_ia, jm_na, jm_qa, jm_aa, jm_asg, jm_l4, jm_Kr, jm_okv, jm_rc, jm_bo, true_and, and_true, Nat.add_zero, Nat.le_refl, j_lt, j_le, j_eq, j_lt0, j_0lt, j_le0, j_0le, j_eq0, j_add, j_sub, j_mul, j_neg, j_0sub, j_nat, j_in, j_div, j_rem, Sum.inl.injEq, exists_eq', true_or, or_true, if_true, if_false, not_true_eq_false, not_false_eq_true, implies_true, j_eq1, reduceIte, Nat.reduceEqDiff, Int.reduceEq, Int.reduceToNat, Nat.reduceAdd, Int.reduceAdd, Int.reduceSub, Int.reduceMul, Int.reduceNeg, and_false, false_and, and_self, u2r, j_b0, j_b1, Classical.not_not, eq_self, true_implies, false_implies, not_true_eq_false, not_false_eq_true, Int.reduceLT, Int.reduceLE, cn_n, cn_k, cn_k0, cn_r, cn_r0, cn_sr, cn_sr0, cn_si, nat3, q0, q1, q2, q3, q4, q5, q6, q7, q8, q9, q0, q1, q2, q3, q4, q5, q6, q7, q8, q9, q10]
        repeat' first
          | apply And.intro
          | (intro _)
          | (refine ⟨_, kc_Msg_init B l _ (ac + (8 + n)) (by rw [cn_k (by omega)]; exact congrArg some (by unfold KD; (repeat (first | rw [if_pos (by omega)] | rw [if_neg (by omega)])); try rfl)), ?_⟩; rintro h' rfl; try simp (disch := omega) only [e_Bus_init_0, e_Bus_init_1, e_Bus_init_2, e_Bus_init_3, e_Bus_init_4, e_Bus_init_5, e_Bus_init_6, e_Bus_init_7, e_Bus_init_8, e_Bus_init_9, e_Bus_init_10, e_Bus_init_11, e_Bus_init_12, e_Bus_init_13, e_Bus_init_14, e_Bus_init_15, c_Bus_init_16, e_Bus_init_16, e_Bus_init_17, e_Bus_init_18, e_Bus_init_19, e_Bus_init_20, e_Bus_init_21, e_Bus_init_22, e_Bus_init_23a, e_Bus_init_23b, e_Bus_init_24, e_Bus_init_25, e_Bus_init_26, e_Bus_init_27, e_Bus_init_28, e_Bus_init_29, c_Bus_init_30, e_Bus_init_30, e_Bus_init_31, e_Bus_init_32, e_Bus_init_33, e_Bus_init_34, e_Bus_init_35, e_Bus_init_36, e_Bus_init_37a, e_Bus_init_37b, e_Bus_init_38, e_Bus_init_39, e_Bus_init_40, e_Bus_init_41, e_Bus_init_42, jm_ia, jm_na, jm_qa, jm_aa, jm_asg, jm_l4, jm_Kr, jm_okv, jm_rc, jm_bo, true_and, and_true, Nat.add_zero, Nat.le_refl, j_lt, j_le, j_eq, j_lt0, j_0lt, j_le0, j_0le, j_eq0, j_add, j_sub, j_mul, j_neg, j_0sub, j_nat, j_in, j_div, j_rem, Sum.inl.injEq, exists_eq', true_or, or_true, if_true, if_false, not_true_eq_false, not_false_eq_true, implies_true, j_eq1, reduceIte, Nat.reduceEqDiff, Int.reduceEq, Int.reduceToNat, Nat.reduceAdd, Int.reduceAdd, Int.reduceSub, Int.reduceMul, Int.reduceNeg, and_false, false_and, and_self, u2r, j_b0, j_b1, Classical.not_not, eq_self, true_implies, false_implies, not_true_eq_false, not_false_eq_true, Int.reduceLT, Int.reduceLE, cn_n, cn_k, cn_k0, cn_r, cn_r0, cn_sr, cn_sr0, cn_si, nat3, q0, q1, q2, q3, q4, q5, q6, q7, q8, q9, q0, q1, q2, q3, q4, q5, q6, q7, q8, q9, q10])
          | (refine ⟨_, kc_Msg_init B l _ (ac + (20 + n)) (by rw [cn_k (by omega)]; exact congrArg some (by unfold KD; (repeat (first | rw [if_pos (by omega)] | rw [if_neg (by omega)])); try rfl)), ?_⟩; rintro h' rfl; try simp (disch := omega) only [e_Bus_init_0, e_Bus_init_1, e_Bus_init_2, e_Bus_init_3, e_Bus_init_4, e_Bus_init_5, e_Bus_init_6, e_Bus_init_7, e_Bus_init_8, e_Bus_init_9, e_Bus_init_10, e_Bus_init_11, e_Bus_init_12, e_Bus_init_13, e_Bus_init_14, e_Bus_init_15, c_Bus_init_16, e_Bus_init_16, e_Bus_init_17, e_Bus_init_18, e_Bus_init_19, e_Bus_init_20, e_Bus_init_21, e_Bus_init_22, e_Bus_init_23a, e_Bus_init_23b, e_Bus_init_24, e_Bus_init_25, e_Bus_init_26, e_Bus_init_27, e_Bus_init_28, e_Bus_init_29, c_Bus_init_30, e_Bus_init_30, e_Bus_init_31, e_Bus_init_32, e_Bus_init_33, e_Bus_init_34, e_Bus_init_35, e_Bus_init_36, e_Bus_init_37a, e_Bus_init_37b, e_Bus_init_38, e_Bus_init_39, e_Bus_init_40, e_Bus_init_41, e_Bus_init_42, jm_ia, jm_na, jm_qa, jm_aa, jm_asg, jm_l4, jm_Kr, jm_okv, jm_rc, jm_bo, true_and, and_true, Nat.add_zero, Nat.le_refl, j_lt, j_le, j_eq, j_lt0, j_0lt, j_le0, j_0le, j_eq0, j_add, j_sub, j_mul, j_neg, j_0sub, j_nat, j_in, j_div, j_rem, Sum.inl.injEq, exists_eq', true_or, or_true, if_true, if_false, not_true_eq_false, not_false_eq_true, implies_true, j_eq1, reduceIte, Nat.reduceEqDiff, Int.reduceEq, Int.reduceToNat, Nat.reduceAdd, Int.reduceAdd, Int.reduceSub, Int.reduceMul, Int.reduceNeg, and_false, false_and, and_self, u2r, j_b0, j_b1, Classical.not_not, eq_self, true_implies, false_implies, not_true_eq_false, not_false_eq_true, Int.reduceLT, Int.reduceLE, cn_n, cn_k, cn_k0, cn_r, cn_r0, cn_sr, cn_sr0, cn_si, nat3, q0, q1, q2, q3, q4, q5, q6, q7, q8, q9, q0, q1, q2, q3, q4, q5, q6, q7, q8, q9, q10])
        all_goals first
          | (refine ⟨_, ?_, Or.inl (⟨rfl, 0, _, rfl, rfl, rfl, rfl, rfl, rfl, ?_⟩)⟩ <;> first | omega | exact ⟨by omega, rfl⟩ | exact ⟨by omega, q10⟩ | exact ⟨by omega, z0⟩)
          | (refine ⟨_, Or.inl (⟨rfl, 0, _, rfl, rfl, rfl, rfl, rfl, rfl, ?_⟩) ⟩ <;> first | omega | exact ⟨by omega, rfl⟩ | exact ⟨by omega, q10⟩ | exact ⟨by omega, z0⟩)
          | (refine ⟨_, ?_, Or.inl (⟨rfl, (n + 1), _, rfl, rfl, rfl, rfl, rfl, rfl, ?_⟩)⟩ <;> first | omega | exact ⟨by omega, rfl⟩ | exact ⟨by omega, q10⟩ | exact ⟨by omega, z0⟩)
          | (refine ⟨_, Or.inl (⟨rfl, (n + 1), _, rfl, rfl, rfl, rfl, rfl, rfl, ?_⟩) ⟩ <;> first | omega | exact ⟨by omega, rfl⟩ | exact ⟨by omega, q10⟩ | exact ⟨by omega, z0⟩)
          | (refine ⟨_, ?_, Or.inr (⟨rfl, 0, _, rfl, rfl, rfl, rfl, rfl, rfl, ?_⟩)⟩ <;> first | omega | exact ⟨by omega, rfl⟩ | exact ⟨by omega, q10⟩ | exact ⟨by omega, z0⟩)
          | (refine ⟨_, Or.inr (⟨rfl, 0, _, rfl, rfl, rfl, rfl, rfl, rfl, ?_⟩) ⟩ <;> first | omega | exact ⟨by omega, rfl⟩ | exact ⟨by omega, q10⟩ | exact ⟨by omega, z0⟩)
          | (refine ⟨_, ?_, Or.inr (⟨rfl, (n + 1), _, rfl, rfl, rfl, rfl, rfl, rfl, ?_⟩)⟩ <;> first | omega | exact ⟨by omega, rfl⟩ | exact ⟨by omega, q10⟩ | exact ⟨by omega, z0⟩)
          | (refine ⟨_, Or.inr (⟨rfl, (n + 1), _, rfl, rfl, rfl, rfl, rfl, rfl, ?_⟩) ⟩ <;> first | omega | exact ⟨by omega, rfl⟩ | exact ⟨by omega, q10⟩ | exact ⟨by omega, z0⟩)
          | contradiction
          | exact trivial
          | rfl
          | omega
          | exact (bi1 (by omega)).symm
          | exact (bi0 (by omega)).symm
          | exact (bi1 (by assumption)).symm
          | exact (bi0 (by assumption)).symm
          | ((try unfold IN_); (repeat (first | rw [if_pos (by omega)] | rw [if_neg (by omega)])); done)
          | ((try unfold IN_); (repeat (first | rw [if_pos (by omega)] | rw [if_neg (by omega)])); rfl)
          | ((try unfold IN_); (repeat (first | rw [if_pos (by omega)] | rw [if_neg (by omega)] | rw [if_pos (by assumption)] | rw [if_neg (by assumption)])); rfl)
      · obtain rfl : n = 12 := by omega
        have z0 : stage ac (upn (upn c 4 3) 5 12) = stage ac (upn (upn (upn c 4 3) 5 12) 6 0) := by rw [upn_0 (c := upn (upn c 4 3) 5 12) (by rw [upn_n (by omega), upn_n (by omega)]; exact hz 6 (by omega))]
        have q0 : True := trivial
        have q1 : True := trivial
        have q2 : True := trivial
        have q3 : True := trivial
        have q4 : True := trivial
        have q5 : True := trivial
        have q6 : True := trivial
        have q7 : True := trivial
        have q8 : True := trivial
        have q9 : True := trivial
        have q10 : True := trivial
        simp (disch := omega) only [e_Bus_init_0, e_Bus_init_1, e_Bus_init_2, e_Bus_init_3, e_Bus_init_4, e_Bus_init_5, e_Bus_init_6, e_Bus_init_7, e_Bus_init_8, e_Bus_init_9, e_Bus_init_10, e_Bus_init_11, e_Bus_init_12, e_Bus_init_13, e_Bus_init_14, e_Bus_init_15, c_Bus_init_16, e_Bus_init_16, e_Bus_init_17, e_Bus_init_18, e_Bus_init_19, e_Bus_init_20, e_Bus_init_21, e_Bus_init_22, e_Bus_init_23a, e_Bus_init_23b, e_Bus_init_24, e_Bus_init_25, e_Bus_init_26, e_Bus_init_27, e_Bus_init_28, e_Bus_init_29, c_Bus_init_30, e_Bus_init_30, e_Bus_init_31, e_Bus_init_32, e_Bus_init_33, e_Bus_init_34, e_Bus_init_35, e_Bus_init_36, e_Bus_init_37a, e_Bus_init_37b, e_Bus_init_38, e_Bus_init_39, e_Bus_init_40, e_Bus_init_41, e_Bus_init_42, jm_ia, jm_na, jm_qa, jm_aa, jm_asg, jm_l4, jm_Kr, jm_okv, jm_rc, jm_bo, true_and, and_true, Nat.add_zero, Nat.le_refl, j_lt, j_le, j_eq, j_lt0, j_0lt, j_le0, j_0le, j_eq0, j_add, j_sub, j_mul, j_neg, j_0sub, j_nat, j_in, j_div, j_rem, Sum.inl.injEq, exists_eq', true_or, or_true, if_true, if_false, not_true_eq_false, not_false_eq_true, implies_true, j_eq1, reduceIte, Nat.reduceEqDiff, Int.reduceEq, Int.reduceToNat, Nat.reduceAdd, Int.reduceAdd, Int.reduceSub, Int.reduceMul, Int.reduceNeg, and_false, false_and, and_self, u2r, j_b0, j_b1, Classical.not_not, eq_self, true_implies, false_implies, not_true_eq_false, not_false_eq_true, Int.reduceLT, Int.reduceLE, cn_n, cn_k, cn_k0, cn_r, cn_r0, cn_sr, cn_sr0, cn_si, nat3, q0, q1, q2, q3, q4, q5, q6, q7, q8, q9, q0, q1, q2, q3, q4, q5, q6, q7, q8, q9, q10]
        repeat' first
          | apply And.intro
          | (intro _)
          | (refine ⟨_, kc_Msg_init B l _ (ac + (8 + n)) (by rw [cn_k (by omega)]; exact congrArg some (by unfold KD; (repeat (first | rw [if_pos (by omega)] | rw [if_neg (by omega)])); try rfl)), ?_⟩; rintro h' rfl; try simp (disch := omega) only [e_Bus_init_0, e_Bus_init_1, e_Bus_init_2, e_Bus_init_3, e_Bus_init_4, e_Bus_init_5, e_Bus_init_6, e_Bus_init_7, e_Bus_init_8, e_Bus_init_9, e_Bus_init_10, e_Bus_init_11, e_Bus_init_12, e_Bus_init_13, e_Bus_init_14, e_Bus_init_15, c_Bus_init_16, e_Bus_init_16, e_Bus_init_17, e_Bus_init_18, e_Bus_init_19, e_Bus_init_20, e_Bus_init_21, e_Bus_init_22, e_Bus_init_23a, e_Bus_init_23b, e_Bus_init_24, e_Bus_init_25, e_Bus_init_26, e_Bus_init_27, e_Bus_init_28, e_Bus_init_29, c_Bus_init_30, e_Bus_init_30, e_Bus_init_31, e_Bus_init_32, e_Bus_init_33, e_Bus_init_34, e_Bus_init_35, e_Bus_init_36, e_Bus_init_37a, e_Bus_init_37b, e_Bus_init_38, e_Bus_init_39, e_Bus_init_40, e_Bus_init_41, e_Bus_init_42, jm_ia, jm_na, jm_qa, jm_aa, jm_asg, jm_l4, jm_Kr, jm_okv, jm_rc, jm_bo, true_and, and_true, Nat.add_zero, Nat.le_refl, j_lt, j_le, j_eq, j_lt0, j_0lt, j_le0, j_0le, j_eq0, j_add, j_sub, j_mul, j_neg, j_0sub, j_nat, j_in, j_div, j_rem, Sum.inl.injEq, exists_eq', true_or, or_true, if_true, if_false, not_true_eq_false, not_false_eq_true, implies_true, j_eq1, reduceIte, Nat.reduceEqDiff, Int.reduceEq, Int.reduceToNat, Nat.reduceAdd, Int.reduceAdd, Int.reduceSub, Int.reduceMul, Int.reduceNeg, and_false, false_and, and_self, u2r, j_b0, j_b1, Classical.not_not, eq_self, true_implies, false_implies, not_true_eq_false, not_false_eq_true, Int.reduceLT, Int.reduceLE, cn_n, cn_k, cn_k0, cn_r, cn_r0, cn_sr, cn_sr0, cn_si, nat3, q0, q1, q2, q3, q4, q5, q6, q7, q8, q9, q0, q1, q2, q3, q4, q5, q6, q7, q8, q9, q10])
          | (refine ⟨_, kc_Msg_init B l _ (ac + (20 + n)) (by rw [cn_k (by omega)]; exact congrArg some (by unfold KD; (repeat (first | rw [if_pos (by omega)] | rw [if_neg (by omega)])); try rfl)), ?_⟩; rintro h' rfl; try simp (disch := omega) only [e_Bus_init_0, e_Bus_init_1, e_Bus_init_2, e_Bus_init_3, e_Bus_init_4, e_Bus_init_5, e_Bus_init_6, e_Bus_init_7, e_Bus_init_8, e_Bus_init_9, e_Bus_init_10, e_Bus_init_11, e_Bus_init_12, e_Bus_init_13, e_Bus_init_14, e_Bus_init_15, c_Bus_init_16, e_Bus_init_16, e_Bus_init_17, e_Bus_init_18, e_Bus_init_19, e_Bus_init_20, e_Bus_init_21, e_Bus_init_22, e_Bus_init_23a, e_Bus_init_23b, e_Bus_init_24, e_Bus_init_25, e_Bus_init_26, e_Bus_init_27, e_Bus_init_28, e_Bus_init_29, c_Bus_init_30, e_Bus_init_30, e_Bus_init_31, e_Bus_init_32, e_Bus_init_33, e_Bus_init_34, e_Bus_init_35, e_Bus_init_36, e_Bus_init_37a, e_Bus_init_37b, e_Bus_init_38, e_Bus_init_39, e_Bus_init_40, e_Bus_init_41, e_Bus_init_42, jm_ia, jm_na, jm_qa, jm_aa, jm_asg, jm_l4, jm_Kr, jm_okv, jm_rc, jm_bo, true_and, and_true, Nat.add_zero, Nat.le_refl, j_lt, j_le, j_eq, j_lt0, j_0lt, j_le0, j_0le, j_eq0, j_add, j_sub, j_mul, j_neg, j_0sub, j_nat, j_in, j_div, j_rem, Sum.inl.injEq, exists_eq', true_or, or_true, if_true, if_false, not_true_eq_false, not_false_eq_true, implies_true, j_eq1, reduceIte, Nat.reduceEqDiff, Int.reduceEq, Int.reduceToNat, Nat.reduceAdd, Int.reduceAdd, Int.reduceSub, Int.reduceMul, Int.reduceNeg, and_false, false_and, and_self, u2r, j_b0, j_b1, Classical.not_not, eq_self, true_implies, false_implies, not_true_eq_false, not_false_eq_true, Int.reduceLT, Int.reduceLE, cn_n, cn_k, cn_k0, cn_r, cn_r0, cn_sr, cn_sr0, cn_si, nat3, q0, q1, q2, q3, q4, q5, q6, q7, q8, q9, q0, q1, q2, q3, q4, q5, q6, q7, q8, q9, q10])
        all_goals first
          | (refine ⟨_, ?_, Or.inl (⟨rfl, 0, _, rfl, rfl, rfl, rfl, rfl, rfl, ?_⟩)⟩ <;> first | omega | exact ⟨by omega, rfl⟩ | exact ⟨by omega, q10⟩ | exact ⟨by omega, z0⟩)
          | (refine ⟨_, Or.inl (⟨rfl, 0, _, rfl, rfl, rfl, rfl, rfl, rfl, ?_⟩) ⟩ <;> first | omega | exact ⟨by omega, rfl⟩ | exact ⟨by omega, q10⟩ | exact ⟨by omega, z0⟩)
          | (refine ⟨_, ?_, Or.inl (⟨rfl, (n + 1), _, rfl, rfl, rfl, rfl, rfl, rfl, ?_⟩)⟩ <;> first | omega | exact ⟨by omega, rfl⟩ | exact ⟨by omega, q10⟩ | exact ⟨by omega, z0⟩)
          | (refine ⟨_, Or.inl (⟨rfl, (n + 1), _, rfl, rfl, rfl, rfl, rfl, rfl, ?_⟩) ⟩ <;> first | omega | exact ⟨by omega, rfl⟩ | exact ⟨by omega, q10⟩ | exact ⟨by omega, z0⟩)
          | (refine ⟨_, ?_, Or.inr (⟨rfl, 0, _, rfl, rfl, rfl, rfl, rfl, rfl, ?_⟩)⟩ <;> first | omega | exact ⟨by omega, rfl⟩ | exact ⟨by omega, q10⟩ | exact ⟨by omega, z0⟩)
          | (refine ⟨_, Or.inr (⟨rfl, 0, _, rfl, rfl, rfl, rfl, rfl, rfl, ?_⟩) ⟩ <;> first | omega | exact ⟨by omega, rfl⟩ | exact ⟨by omega, q10⟩ | exact ⟨by omega, z0⟩)
          | (refine ⟨_, ?_, Or.inr (⟨rfl, (n + 1), _, rfl, rfl, rfl, rfl, rfl, rfl, ?_⟩)⟩ <;> first | omega | exact ⟨by omega, rfl⟩ | exact ⟨by omega, q10⟩ | exact ⟨by omega, z0⟩)
          | (refine ⟨_, Or.inr (⟨rfl, (n + 1), _, rfl, rfl, rfl, rfl, rfl, rfl, ?_⟩) ⟩ <;> first | omega | exact ⟨by omega, rfl⟩ | exact ⟨by omega, q10⟩ | exact ⟨by omega, z0⟩)
          | contradiction
          | exact trivial
          | rfl
          | omega
          | exact (bi1 (by omega)).symm
          | exact (bi0 (by omega)).symm
          | exact (bi1 (by assumption)).symm
          | exact (bi0 (by assumption)).symm
          | ((try unfold IN_); (repeat (first | rw [if_pos (by omega)] | rw [if_neg (by omega)])); done)
          | ((try unfold IN_); (repeat (first | rw [if_pos (by omega)] | rw [if_neg (by omega)])); rfl)
          | ((try unfold IN_); (repeat (first | rw [if_pos (by omega)] | rw [if_neg (by omega)] | rw [if_pos (by assumption)] | rw [if_neg (by assumption)])); rfl)
    · refine ⟨47, 30, ⟨_, _, rfl, rfl⟩, ?_⟩
      obtain ⟨k1, rfl⟩ := hc
      rcases (show n < 18 ∨ n = 18 by omega) with hi | hi
      · have q0 : KD (4) = .inl 2 := by unfold KD; (repeat (first | rw [if_pos (by omega)] | rw [if_neg (by omega)])); try rfl
        have q1 : KD (6) = .inr (10, 18) := by unfold KD; (repeat (first | rw [if_pos (by omega)] | rw [if_neg (by omega)])); try rfl
        have q2 : KD (20 + n) = .inl 6 := by unfold KD; (repeat (first | rw [if_pos (by omega)] | rw [if_neg (by omega)])); try rfl
        have q3 : jm_nw (cn_ h0 ac (20 + n) (stage ac (upn (upn (upn c 4 3) 5 12) 6 n)) (ι)) (.inl 6) = (cn_ h0 ac (20 + (n + 1)) (stage ac (upn (upn (upn c 4 3) 5 12) 6 n)) (ι)) := cn_nw (by omega) (by unfold KD; (repeat (first | rw [if_pos (by omega)] | rw [if_neg (by omega)])); try rfl) (fun j => stage_n (by (repeat rw [upn_n (by omega)]); try exact (by (repeat rw [upn_n (by omega)]); exact hz _ (by omega)))) (fun j => by (repeat rw [u2n (by omega)]); try exact hy _ _ (by omega))
        have q4 : jm_u2 (stage ac (upn (upn (upn c 4 3) 5 12) 6 n)) 6 n (some (ac + (20 + n))) = stage ac (upn (upn (upn c 4 3) 5 12) 6 (n + 1)) := by rw [stage_u (by rw [upn_p rfl]; omega) (rho_6 ac (by omega)) (fun i h1 h2 => by rw [upn_p rfl] at h2; omega), upn_upn]
        have q5 : stage ac (upn (upn (upn c 4 3) 5 12) 6 n) 4 1 = some (ac + 6) := (stage_r (by (repeat rw [upn_n (by omega)]); rw [upn_p rfl]; omega)).trans (rho_4 ac (by omega))
        have q6 : True := trivial
        have q7 : True := trivial
        have q8 : True := trivial
        have q9 : True := trivial
        have q10 : True := trivial
        have z0 : True := trivial
        simp (disch := omega) only [e_Bus_init_0, e_Bus_init_1, e_Bus_init_2, e_Bus_init_3, e_Bus_init_4, e_Bus_init_5, e_Bus_init_6, e_Bus_init_7, e_Bus_init_8, e_Bus_init_9, e_Bus_init_10, e_Bus_init_11, e_Bus_init_12, e_Bus_init_13, e_Bus_init_14, e_Bus_init_15, c_Bus_init_16, e_Bus_init_16, e_Bus_init_17, e_Bus_init_18, e_Bus_init_19, e_Bus_init_20, e_Bus_init_21, e_Bus_init_22, e_Bus_init_23a, e_Bus_init_23b, e_Bus_init_24, e_Bus_init_25, e_Bus_init_26, e_Bus_init_27, e_Bus_init_28, e_Bus_init_29, c_Bus_init_30, e_Bus_init_30, e_Bus_init_31, e_Bus_init_32, e_Bus_init_33, e_Bus_init_34, e_Bus_init_35, e_Bus_init_36, e_Bus_init_37a, e_Bus_init_37b, e_Bus_init_38, e_Bus_init_39, e_Bus_init_40, e_Bus_init_41, e_Bus_init_42, jm_ia, jm_na, jm_qa, jm_aa, jm_asg, jm_l4, jm_Kr, jm_okv, jm_rc, jm_bo, true_and, and_true, Nat.add_zero, Nat.le_refl, j_lt, j_le, j_eq, j_lt0, j_0lt, j_le0, j_0le, j_eq0, j_add, j_sub, j_mul, j_neg, j_0sub, j_nat, j_in, j_div, j_rem, Sum.inl.injEq, exists_eq', true_or, or_true, if_true, if_false, not_true_eq_false, not_false_eq_true, implies_true, j_eq1, reduceIte, Nat.reduceEqDiff, Int.reduceEq, Int.reduceToNat, Nat.reduceAdd, Int.reduceAdd, Int.reduceSub, Int.reduceMul, Int.reduceNeg, and_false, false_and, and_self, u2r, j_b0, j_b1, Classical.not_not, eq_self, true_implies, false_implies, not_true_eq_false, not_false_eq_true, Int.reduceLT, Int.reduceLE, cn_n, cn_k, cn_k0, cn_r, cn_r0, cn_sr, cn_sr0, cn_si, nat3, q0, q1, q2, q3, q4, q5, q6, q7, q8, q9, q0, q1, q2, q3, q4, q5, q6, q7, q8, q9, q10]
        repeat' first
          | apply And.intro
          | (intro _)
          | (refine ⟨_, kc_Msg_init B l _ (ac + (8 + n)) (by rw [cn_k (by omega)]; exact congrArg some (by unfold KD; (repeat (first | rw [if_pos (by omega)] | rw [if_neg (by omega)])); try rfl)), ?_⟩; rintro h' rfl; try simp (disch := omega) only [e_Bus_init_0, e_Bus_init_1, e_Bus_init_2, e_Bus_init_3, e_Bus_init_4, e_Bus_init_5, e_Bus_init_6, e_Bus_init_7, e_Bus_init_8, e_Bus_init_9, e_Bus_init_10, e_Bus_init_11, e_Bus_init_12, e_Bus_init_13, e_Bus_init_14, e_Bus_init_15, c_Bus_init_16, e_Bus_init_16, e_Bus_init_17, e_Bus_init_18, e_Bus_init_19, e_Bus_init_20, e_Bus_init_21, e_Bus_init_22, e_Bus_init_23a, e_Bus_init_23b, e_Bus_init_24, e_Bus_init_25, e_Bus_init_26, e_Bus_init_27, e_Bus_init_28, e_Bus_init_29, c_Bus_init_30, e_Bus_init_30, e_Bus_init_31, e_Bus_init_32, e_Bus_init_33, e_Bus_init_34, e_Bus_init_35, e_Bus_init_36, e_Bus_init_37a, e_Bus_init_37b, e_Bus_init_38, e_Bus_init_39, e_Bus_init_40, e_Bus_init_41, e_Bus_init_42, jm_ia, jm_na, jm_qa, jm_aa, jm_asg, jm_l4, jm_Kr, jm_okv, jm_rc, jm_bo, true_and, and_true, Nat.add_zero, Nat.le_refl, j_lt, j_le, j_eq, j_lt0, j_0lt, j_le0, j_0le, j_eq0, j_add, j_sub, j_mul, j_neg, j_0sub, j_nat, j_in, j_div, j_rem, Sum.inl.injEq, exists_eq', true_or, or_true, if_true, if_false, not_true_eq_false, not_false_eq_true, implies_true, j_eq1, reduceIte, Nat.reduceEqDiff, Int.reduceEq, Int.reduceToNat, Nat.reduceAdd, Int.reduceAdd, Int.reduceSub, Int.reduceMul, Int.reduceNeg, and_false, false_and, and_self, u2r, j_b0, j_b1, Classical.not_not, eq_self, true_implies, false_implies, not_true_eq_false, not_false_eq_true, Int.reduceLT, Int.reduceLE, cn_n, cn_k, cn_k0, cn_r, cn_r0, cn_sr, cn_sr0, cn_si, nat3, q0, q1, q2, q3, q4, q5, q6, q7, q8, q9, q0, q1, q2, q3, q4, q5, q6, q7, q8, q9, q10])
          | (refine ⟨_, kc_Msg_init B l _ (ac + (20 + n)) (by rw [cn_k (by omega)]; exact congrArg some (by unfold KD; (repeat (first | rw [if_pos (by omega)] | rw [if_neg (by omega)])); try rfl)), ?_⟩; rintro h' rfl; try simp (disch := omega) only [e_Bus_init_0, e_Bus_init_1, e_Bus_init_2, e_Bus_init_3, e_Bus_init_4, e_Bus_init_5, e_Bus_init_6, e_Bus_init_7, e_Bus_init_8, e_Bus_init_9, e_Bus_init_10, e_Bus_init_11, e_Bus_init_12, e_Bus_init_13, e_Bus_init_14, e_Bus_init_15, c_Bus_init_16, e_Bus_init_16, e_Bus_init_17, e_Bus_init_18, e_Bus_init_19, e_Bus_init_20, e_Bus_init_21, e_Bus_init_22, e_Bus_init_23a, e_Bus_init_23b, e_Bus_init_24, e_Bus_init_25, e_Bus_init_26, e_Bus_init_27, e_Bus_init_28, e_Bus_init_29, c_Bus_init_30, e_Bus_init_30, e_Bus_init_31, e_Bus_init_32, e_Bus_init_33, e_Bus_init_34, e_Bus_init_35, e_Bus_init_36, e_Bus_init_37a, e_Bus_init_37b, e_Bus_init_38, e_Bus_init_39, e_Bus_init_40, e_Bus_init_41, e_Bus_init_42, jm_ia, jm_na, jm_qa, jm_aa, jm_asg, jm_l4, jm_Kr, jm_okv, jm_rc, jm_bo, true_and, and_true, Nat.add_zero, Nat.le_refl, j_lt, j_le, j_eq, j_lt0, j_0lt, j_le0, j_0le, j_eq0, j_add, j_sub, j_mul, j_neg, j_0sub, j_nat, j_in, j_div, j_rem, Sum.inl.injEq, exists_eq', true_or, or_true, if_true, if_false, not_true_eq_false, not_false_eq_true, implies_true, j_eq1, reduceIte, Nat.reduceEqDiff, Int.reduceEq, Int.reduceToNat, Nat.reduceAdd, Int.reduceAdd, Int.reduceSub, Int.reduceMul, Int.reduceNeg, and_false, false_and, and_self, u2r, j_b0, j_b1, Classical.not_not, eq_self, true_implies, false_implies, not_true_eq_false, not_false_eq_true, Int.reduceLT, Int.reduceLE, cn_n, cn_k, cn_k0, cn_r, cn_r0, cn_sr, cn_sr0, cn_si, nat3, q0, q1, q2, q3, q4, q5, q6, q7, q8, q9, q0, q1, q2, q3, q4, q5, q6, q7, q8, q9, q10])
        all_goals first
          | (refine ⟨_, ?_, Or.inl (⟨rfl, 0, _, rfl, rfl, rfl, rfl, rfl, rfl, ?_⟩)⟩ <;> first | omega | exact ⟨by omega, rfl⟩ | exact ⟨by omega, q10⟩ | exact ⟨by omega, z0⟩)
          | (refine ⟨_, Or.inl (⟨rfl, 0, _, rfl, rfl, rfl, rfl, rfl, rfl, ?_⟩) ⟩ <;> first | omega | exact ⟨by omega, rfl⟩ | exact ⟨by omega, q10⟩ | exact ⟨by omega, z0⟩)
          | (refine ⟨_, ?_, Or.inl (⟨rfl, (n + 1), _, rfl, rfl, rfl, rfl, rfl, rfl, ?_⟩)⟩ <;> first | omega | exact ⟨by omega, rfl⟩ | exact ⟨by omega, q10⟩ | exact ⟨by omega, z0⟩)
          | (refine ⟨_, Or.inl (⟨rfl, (n + 1), _, rfl, rfl, rfl, rfl, rfl, rfl, ?_⟩) ⟩ <;> first | omega | exact ⟨by omega, rfl⟩ | exact ⟨by omega, q10⟩ | exact ⟨by omega, z0⟩)
          | (refine ⟨_, ?_, Or.inr (⟨rfl, 0, _, rfl, rfl, rfl, rfl, rfl, rfl, ?_⟩)⟩ <;> first | omega | exact ⟨by omega, rfl⟩ | exact ⟨by omega, q10⟩ | exact ⟨by omega, z0⟩)
          | (refine ⟨_, Or.inr (⟨rfl, 0, _, rfl, rfl, rfl, rfl, rfl, rfl, ?_⟩) ⟩ <;> first | omega | exact ⟨by omega, rfl⟩ | exact ⟨by omega, q10⟩ | exact ⟨by omega, z0⟩)
          | (refine ⟨_, ?_, Or.inr (⟨rfl, (n + 1), _, rfl, rfl, rfl, rfl, rfl, rfl, ?_⟩)⟩ <;> first | omega | exact ⟨by omega, rfl⟩ | exact ⟨by omega, q10⟩ | exact ⟨by omega, z0⟩)
          | (refine ⟨_, Or.inr (⟨rfl, (n + 1), _, rfl, rfl, rfl, rfl, rfl, rfl, ?_⟩) ⟩ <;> first | omega | exact ⟨by omega, rfl⟩ | exact ⟨by omega, q10⟩ | exact ⟨by omega, z0⟩)
          | contradiction
          | exact trivial
          | rfl
          | omega
          | exact (bi1 (by omega)).symm
          | exact (bi0 (by omega)).symm
          | exact (bi1 (by assumption)).symm
          | exact (bi0 (by assumption)).symm
          | ((try unfold IN_); (repeat (first | rw [if_pos (by omega)] | rw [if_neg (by omega)])); done)
          | ((try unfold IN_); (repeat (first | rw [if_pos (by omega)] | rw [if_neg (by omega)])); rfl)
          | ((try unfold IN_); (repeat (first | rw [if_pos (by omega)] | rw [if_neg (by omega)] | rw [if_pos (by assumption)] | rw [if_neg (by assumption)])); rfl)
      · obtain rfl : n = 18 := by omega
        have z0 : True := trivial
        have q0 : True := trivial
        have q1 : True := trivial
        have q2 : True := trivial
        have q3 : True := trivial
        have q4 : True := trivial
        have q5 : True := trivial
        have q6 : True := trivial
        have q7 : True := trivial
        have q8 : True := trivial
        have q9 : True := trivial
        have q10 : True := trivial
        simp (disch := omega) only [e_Bus_init_0, e_Bus_init_1, e_Bus_init_2, e_Bus_init_3, e_Bus_init_4, e_Bus_init_5, e_Bus_init_6, e_Bus_init_7, e_Bus_init_8, e_Bus_init_9, e_Bus_init_10, e_Bus_init_11, e_Bus_init_12, e_Bus_init_13, e_Bus_init_14, e_Bus_init_15, c_Bus_init_16, e_Bus_init_16, e_Bus_init_17, e_Bus_init_18, e_Bus_init_19, e_Bus_init_20, e_Bus_init_21, e_Bus_init_22, e_Bus_init_23a, e_Bus_init_23b, e_Bus_init_24, e_Bus_init_25, e_Bus_init_26, e_Bus_init_27, e_Bus_init_28, e_Bus_init_29, c_Bus_init_30, e_Bus_init_30, e_Bus_init_31, e_Bus_init_32, e_Bus_init_33, e_Bus_init_34, e_Bus_init_35, e_Bus_init_36, e_Bus_init_37a, e_Bus_init_37b, e_Bus_init_38, e_Bus_init_39, e_Bus_init_40, e_Bus_init_41, e_Bus_init_42, jm_ia, jm_na, jm_qa, jm_aa, jm_asg, jm_l4, jm_Kr, jm_okv, jm_rc, jm_bo, true_and, and_true, Nat.add_zero, Nat.le_refl, j_lt, j_le, j_eq, j_lt0, j_0lt, j_le0, j_0le, j_eq0, j_add, j_sub, j_mul, j_neg, j_0sub, j_nat, j_in, j_div, j_rem, Sum.inl.injEq, exists_eq', true_or, or_true, if_true, if_false, not_true_eq_false, not_false_eq_true, implies_true, j_eq1, reduceIte, Nat.reduceEqDiff, Int.reduceEq, Int.reduceToNat, Nat.reduceAdd, Int.reduceAdd, Int.reduceSub, Int.reduceMul, Int.reduceNeg, and_false, false_and, and_self, u2r, j_b0, j_b1, Classical.not_not, eq_self, true_implies, false_implies, not_true_eq_false, not_false_eq_true, Int.reduceLT, Int.reduceLE, cn_n, cn_k, cn_k0, cn_r, cn_r0, cn_sr, cn_sr0, cn_si, nat3, q0, q1, q2, q3, q4, q5, q6, q7, q8, q9, q0, q1, q2, q3, q4, q5, q6, q7, q8, q9, q10]
        repeat' first
          | apply And.intro
          | (intro _)
          | (refine ⟨_, kc_Msg_init B l _ (ac + (8 + n)) (by rw [cn_k (by omega)]; exact congrArg some (by unfold KD; (repeat (first | rw [if_pos (by omega)] | rw [if_neg (by omega)])); try rfl)), ?_⟩; rintro h' rfl; try simp (disch := omega) only [e_Bus_init_0, e_Bus_init_1, e_Bus_init_2, e_Bus_init_3, e_Bus_init_4, e_Bus_init_5, e_Bus_init_6, e_Bus_init_7, e_Bus_init_8, e_Bus_init_9, e_Bus_init_10, e_Bus_init_11, e_Bus_init_12, e_Bus_init_13, e_Bus_init_14, e_Bus_init_15, c_Bus_init_16, e_Bus_init_16, e_Bus_init_17, e_Bus_init_18, e_Bus_init_19, e_Bus_init_20, e_Bus_init_21, e_Bus_init_22, e_Bus_init_23a, e_Bus_init_23b, e_Bus_init_24, e_Bus_init_25, e_Bus_init_26, e_Bus_init_27, e_Bus_init_28, e_Bus_init_29, c_Bus_init_30, e_Bus_init_30, e_Bus_init_31, e_Bus_init_32, e_Bus_init_33, e_Bus_init_34, e_Bus_init_35, e_Bus_init_36, e_Bus_init_37a, e_Bus_init_37b, e_Bus_init_38, e_Bus_init_39, e_Bus_init_40, e_Bus_init_41, e_Bus_init_42, jm_ia, jm_na, jm_qa, jm_aa, jm_asg, jm_l4, jm_Kr, jm_okv, jm_rc, jm_bo, true_and, and_true, Nat.add_zero, Nat.le_refl, j_lt, j_le, j_eq, j_lt0, j_0lt, j_le0, j_0le, j_eq0, j_add, j_sub, j_mul, j_neg, j_0sub, j_nat, j_in, j_div, j_rem, Sum.inl.injEq, exists_eq', true_or, or_true, if_true, if_false, not_true_eq_false, not_false_eq_true, implies_true, j_eq1, reduceIte, Nat.reduceEqDiff, Int.reduceEq, Int.reduceToNat, Nat.reduceAdd, Int.reduceAdd, Int.reduceSub, Int.reduceMul, Int.reduceNeg, and_false, false_and, and_self, u2r, j_b0, j_b1, Classical.not_not, eq_self, true_implies, false_implies, not_true_eq_false, not_false_eq_true, Int.reduceLT, Int.reduceLE, cn_n, cn_k, cn_k0, cn_r, cn_r0, cn_sr, cn_sr0, cn_si, nat3, q0, q1, q2, q3, q4, q5, q6, q7, q8, q9, q0, q1, q2, q3, q4, q5, q6, q7, q8, q9, q10])
          | (refine ⟨_, kc_Msg_init B l _ (ac + (20 + n)) (by rw [cn_k (by omega)]; exact congrArg some (by unfold KD; (repeat (first | rw [if_pos (by omega)] | rw [if_neg (by omega)])); try rfl)), ?_⟩; rintro h' rfl; try simp (disch := omega) only [e_Bus_init_0, e_Bus_init_1, e_Bus_init_2, e_Bus_init_3, e_Bus_init_4, e_Bus_init_5, e_Bus_init_6, e_Bus_init_7, e_Bus_init_8, e_Bus_init_9, e_Bus_init_10, e_Bus_init_11, e_Bus_init_12, e_Bus_init_13, e_Bus_init_14, e_Bus_init_15, c_Bus_init_16, e_Bus_init_16, e_Bus_init_17, e_Bus_init_18, e_Bus_init_19, e_Bus_init_20, e_Bus_init_21, e_Bus_init_22, e_Bus_init_23a, e_Bus_init_23b, e_Bus_init_24, e_Bus_init_25, e_Bus_init_26, e_Bus_init_27, e_Bus_init_28, e_Bus_init_29, c_Bus_init_30, e_Bus_init_30, e_Bus_init_31, e_Bus_init_32, e_Bus_init_33, e_Bus_init_34, e_Bus_init_35, e_Bus_init_36, e_Bus_init_37a, e_Bus_init_37b, e_Bus_init_38, e_Bus_init_39, e_Bus_init_40, e_Bus_init_41, e_Bus_init_42, jm_ia, jm_na, jm_qa, jm_aa, jm_asg, jm_l4, jm_Kr, jm_okv, jm_rc, jm_bo, true_and, and_true, Nat.add_zero, Nat.le_refl, j_lt, j_le, j_eq, j_lt0, j_0lt, j_le0, j_0le, j_eq0, j_add, j_sub, j_mul, j_neg, j_0sub, j_nat, j_in, j_div, j_rem, Sum.inl.injEq, exists_eq', true_or, or_true, if_true, if_false, not_true_eq_false, not_false_eq_true, implies_true, j_eq1, reduceIte, Nat.reduceEqDiff, Int.reduceEq, Int.reduceToNat, Nat.reduceAdd, Int.reduceAdd, Int.reduceSub, Int.reduceMul, Int.reduceNeg, and_false, false_and, and_self, u2r, j_b0, j_b1, Classical.not_not, eq_self, true_implies, false_implies, not_true_eq_false, not_false_eq_true, Int.reduceLT, Int.reduceLE, cn_n, cn_k, cn_k0, cn_r, cn_r0, cn_sr, cn_sr0, cn_si, nat3, q0, q1, q2, q3, q4, q5, q6, q7, q8, q9, q0, q1, q2, q3, q4, q5, q6, q7, q8, q9, q10])
        all_goals first
          | (refine ⟨_, ?_, Or.inl (⟨rfl, 0, _, rfl, rfl, rfl, rfl, rfl, rfl, ?_⟩)⟩ <;> first | omega | exact ⟨by omega, rfl⟩ | exact ⟨by omega, q10⟩ | exact ⟨by omega, z0⟩)
          | (refine ⟨_, Or.inl (⟨rfl, 0, _, rfl, rfl, rfl, rfl, rfl, rfl, ?_⟩) ⟩ <;> first | omega | exact ⟨by omega, rfl⟩ | exact ⟨by omega, q10⟩ | exact ⟨by omega, z0⟩)
          | (refine ⟨_, ?_, Or.inl (⟨rfl, (n + 1), _, rfl, rfl, rfl, rfl, rfl, rfl, ?_⟩)⟩ <;> first | omega | exact ⟨by omega, rfl⟩ | exact ⟨by omega, q10⟩ | exact ⟨by omega, z0⟩)
          | (refine ⟨_, Or.inl (⟨rfl, (n + 1), _, rfl, rfl, rfl, rfl, rfl, rfl, ?_⟩) ⟩ <;> first | omega | exact ⟨by omega, rfl⟩ | exact ⟨by omega, q10⟩ | exact ⟨by omega, z0⟩)
          | (refine ⟨_, ?_, Or.inr (⟨rfl, 0, _, rfl, rfl, rfl, rfl, rfl, rfl, ?_⟩)⟩ <;> first | omega | exact ⟨by omega, rfl⟩ | exact ⟨by omega, q10⟩ | exact ⟨by omega, z0⟩)
          | (refine ⟨_, Or.inr (⟨rfl, 0, _, rfl, rfl, rfl, rfl, rfl, rfl, ?_⟩) ⟩ <;> first | omega | exact ⟨by omega, rfl⟩ | exact ⟨by omega, q10⟩ | exact ⟨by omega, z0⟩)
          | (refine ⟨_, ?_, Or.inr (⟨rfl, (n + 1), _, rfl, rfl, rfl, rfl, rfl, rfl, ?_⟩)⟩ <;> first | omega | exact ⟨by omega, rfl⟩ | exact ⟨by omega, q10⟩ | exact ⟨by omega, z0⟩)
          | (refine ⟨_, Or.inr (⟨rfl, (n + 1), _, rfl, rfl, rfl, rfl, rfl, rfl, ?_⟩) ⟩ <;> first | omega | exact ⟨by omega, rfl⟩ | exact ⟨by omega, q10⟩ | exact ⟨by omega, z0⟩)
          | contradiction
          | exact trivial
          | rfl
          | omega
          | exact (bi1 (by omega)).symm
          | exact (bi0 (by omega)).symm
          | exact (bi1 (by assumption)).symm
          | exact (bi0 (by assumption)).symm
          | ((try unfold IN_); (repeat (first | rw [if_pos (by omega)] | rw [if_neg (by omega)])); done)
          | ((try unfold IN_); (repeat (first | rw [if_pos (by omega)] | rw [if_neg (by omega)])); rfl)
          | ((try unfold IN_); (repeat (first | rw [if_pos (by omega)] | rw [if_neg (by omega)] | rw [if_pos (by assumption)] | rw [if_neg (by assumption)])); rfl)
  · have q0 : KD (4) = .inl 2 := by unfold KD; (repeat (first | rw [if_pos (by omega)] | rw [if_neg (by omega)])); try rfl
    have q1 : KD (5) = .inr (10, 12) := by unfold KD; (repeat (first | rw [if_pos (by omega)] | rw [if_neg (by omega)])); try rfl
    have q2 : jm_nw (cn_ h0 ac (5) (stage ac (c)) (ι)) (.inr (10, 12)) = (cn_ h0 ac (6) (stage ac (c)) (ι)) := cn_nw (by omega) (by unfold KD; (repeat (first | rw [if_pos (by omega)] | rw [if_neg (by omega)])); try rfl) (fun j => stage_n (by (repeat rw [upn_n (by omega)]); try exact hz _ (by omega))) (fun j => by (repeat rw [u2n (by omega)]); try exact hy _ _ (by omega))
    have q3 : jm_u2 (stage ac (c)) (4) 0 (some (ac + (5))) = stage ac (upn (c) (4) (0 + 1)) := stage_u (by (first | (rw [upn_p rfl]; done) | (rw [upn_p rfl]; omega) | ((repeat rw [upn_n (by omega)]); have := hz (4) (by omega); omega))) (rho_4 ac (by omega)) (fun i h1 h2 => by omega)
    have q4 : KD (6) = .inr (10, 18) := by unfold KD; (repeat (first | rw [if_pos (by omega)] | rw [if_neg (by omega)])); try rfl
    have q5 : jm_nw (cn_ h0 ac (6) (stage ac (upn (c) (4) (0 + 1))) (ι)) (.inr (10, 18)) = (cn_ h0 ac (7) (stage ac (upn (c) (4) (0 + 1))) (ι)) := cn_nw (by omega) (by unfold KD; (repeat (first | rw [if_pos (by omega)] | rw [if_neg (by omega)])); try rfl) (fun j => stage_n (by (repeat rw [upn_n (by omega)]); try exact hz _ (by omega))) (fun j => by (repeat rw [u2n (by omega)]); try exact hy _ _ (by omega))
    have q6 : jm_u2 (stage ac (upn (c) (4) (0 + 1))) (4) 1 (some (ac + (6))) = stage ac (upn (upn (c) (4) (0 + 1)) (4) (1 + 1)) := stage_u (by (first | (rw [upn_p rfl]; done) | (rw [upn_p rfl]; omega) | ((repeat rw [upn_n (by omega)]); have := hz (4) (by omega); omega))) (rho_4 ac (by omega)) (fun i h1 h2 => by rw [upn_p rfl] at h2; omega)
    have q7 : KD (7) = .inr (0, 100) := by unfold KD; (repeat (first | rw [if_pos (by omega)] | rw [if_neg (by omega)])); try rfl
    have q8 : jm_nw (cn_ h0 ac (7) (stage ac (upn (upn (c) (4) (0 + 1)) (4) (1 + 1))) (ι)) (.inr (0, 100)) = (cn_ h0 ac (8) (stage ac (upn (upn (c) (4) (0 + 1)) (4) (1 + 1))) (ι)) := cn_nw (by omega) (by unfold KD; (repeat (first | rw [if_pos (by omega)] | rw [if_neg (by omega)])); try rfl) (fun j => stage_n (by (repeat rw [upn_n (by omega)]); try exact hz _ (by omega))) (fun j => by (repeat rw [u2n (by omega)]); try exact hy _ _ (by omega))
    have q9 : jm_u2 (stage ac (upn (upn (c) (4) (0 + 1)) (4) (1 + 1))) (4) 2 (some (ac + (7))) = stage ac (upn (upn (upn (c) (4) (0 + 1)) (4) (1 + 1)) (4) (2 + 1)) := stage_u (by (first | (rw [upn_p rfl]; done) | (rw [upn_p rfl]; omega) | ((repeat rw [upn_n (by omega)]); have := hz (4) (by omega); omega))) (rho_4 ac (by omega)) (fun i h1 h2 => by rw [upn_p rfl] at h2; omega)
    have q10 : stage ac (upn (upn (upn (c) (4) (0 + 1)) (4) (1 + 1)) (4) (2 + 1)) = stage ac (upn (upn c 4 3) 5 0) := by rw [upn_3, upn_0 (c := upn c 4 3) (by rw [upn_n (by omega)]; exact hz 5 (by omega))]
    have z0 : True := trivial
    simp (disch := omega) only [e_Bus_init_0, e_Bus_init_1, e_Bus_init_2, e_Bus_init_3, e_Bus_init_4, e_Bus_init_5, e_Bus_init_6, e_Bus_init_7, e_Bus_init_8, e_Bus_init_9, e_Bus_init_10, e_Bus_init_11, e_Bus_init_12, e_Bus_init_13, e_Bus_init_14, e_Bus_init_15, c_Bus_init_16, e_Bus_init_16, e_Bus_init_17, e_Bus_init_18, e_Bus_init_19, e_Bus_init_20, e_Bus_init_21, e_Bus_init_22, e_Bus_init_23a, e_Bus_init_23b, e_Bus_init_24, e_Bus_init_25, e_Bus_init_26, e_Bus_init_27, e_Bus_init_28, e_Bus_init_29, c_Bus_init_30, e_Bus_init_30, e_Bus_init_31, e_Bus_init_32, e_Bus_init_33, e_Bus_init_34, e_Bus_init_35, e_Bus_init_36, e_Bus_init_37a, e_Bus_init_37b, e_Bus_init_38, e_Bus_init_39, e_Bus_init_40, e_Bus_init_41, e_Bus_init_42, jm_ia, jm_na, jm_qa, jm_aa, jm_asg, jm_l4, jm_Kr, jm_okv, jm_rc, jm_bo, true_and, and_true, Nat.add_zero, Nat.le_refl, j_lt, j_le, j_eq, j_lt0, j_0lt, j_le0, j_0le, j_eq0, j_add, j_sub, j_mul, j_neg, j_0sub, j_nat, j_in, j_div, j_rem, Sum.inl.injEq, exists_eq', true_or, or_true, if_true, if_false, not_true_eq_false, not_false_eq_true, implies_true, j_eq1, reduceIte, Nat.reduceEqDiff, Int.reduceEq, Int.reduceToNat, Nat.reduceAdd, Int.reduceAdd, Int.reduceSub, Int.reduceMul, Int.reduceNeg, and_false, false_and, and_self, u2r, j_b0, j_b1, Classical.not_not, eq_self, true_implies, false_implies, not_true_eq_false, not_false_eq_true, Int.reduceLT, Int.reduceLE, cn_n, cn_k, cn_k0, cn_r, cn_r0, cn_sr, cn_sr0, cn_si, nat3, q0, q1, q2, q3, q4, q5, q6, q7, q8, q9]
    repeat' first
      | apply And.intro
      | (intro _)
      | (refine ⟨_, kc_Msg_init B l _ (ac + (8 + n)) (by rw [cn_k (by omega)]; exact congrArg some (by unfold KD; (repeat (first | rw [if_pos (by omega)] | rw [if_neg (by omega)])); try rfl)), ?_⟩; rintro h' rfl; try simp (disch := omega) only [e_Bus_init_0, e_Bus_init_1, e_Bus_init_2, e_Bus_init_3, e_Bus_init_4, e_Bus_init_5, e_Bus_init_6, e_Bus_init_7, e_Bus_init_8, e_Bus_init_9, e_Bus_init_10, e_Bus_init_11, e_Bus_init_12, e_Bus_init_13, e_Bus_init_14, e_Bus_init_15, c_Bus_init_16, e_Bus_init_16, e_Bus_init_17, e_Bus_init_18, e_Bus_init_19, e_Bus_init_20, e_Bus_init_21, e_Bus_init_22, e_Bus_init_23a, e_Bus_init_23b, e_Bus_init_24, e_Bus_init_25, e_Bus_init_26, e_Bus_init_27, e_Bus_init_28, e_Bus_init_29, c_Bus_init_30, e_Bus_init_30, e_Bus_init_31, e_Bus_init_32, e_Bus_init_33, e_Bus_init_34, e_Bus_init_35, e_Bus_init_36, e_Bus_init_37a, e_Bus_init_37b, e_Bus_init_38, e_Bus_init_39, e_Bus_init_40, e_Bus_init_41, e_Bus_init_42, jm_ia, jm_na, jm_qa, jm_aa, jm_asg, jm_l4, jm_Kr, jm_okv, jm_rc, jm_bo, true_and, and_true, Nat.add_zero, Nat.le_refl, j_lt, j_le, j_eq, j_lt0, j_0lt, j_le0, j_0le, j_eq0, j_add, j_sub, j_mul, j_neg, j_0sub, j_nat, j_in, j_div, j_rem, Sum.inl.injEq, exists_eq', true_or, or_true, if_true, if_false, not_true_eq_false, not_false_eq_true, implies_true, j_eq1, reduceIte, Nat.reduceEqDiff, Int.reduceEq, Int.reduceToNat, Nat.reduceAdd, Int.reduceAdd, Int.reduceSub, Int.reduceMul, Int.reduceNeg, and_false, false_and, and_self, u2r, j_b0, j_b1, Classical.not_not, eq_self, true_implies, false_implies, not_true_eq_false, not_false_eq_true, Int.reduceLT, Int.reduceLE, cn_n, cn_k, cn_k0, cn_r, cn_r0, cn_sr, cn_sr0, cn_si, nat3, q0, q1, q2, q3, q4, q5, q6, q7, q8, q9])
      | (refine ⟨_, kc_Msg_init B l _ (ac + (20 + n)) (by rw [cn_k (by omega)]; exact congrArg some (by unfold KD; (repeat (first | rw [if_pos (by omega)] | rw [if_neg (by omega)])); try rfl)), ?_⟩; rintro h' rfl; try simp (disch := omega) only [e_Bus_init_0, e_Bus_init_1, e_Bus_init_2, e_Bus_init_3, e_Bus_init_4, e_Bus_init_5, e_Bus_init_6, e_Bus_init_7, e_Bus_init_8, e_Bus_init_9, e_Bus_init_10, e_Bus_init_11, e_Bus_init_12, e_Bus_init_13, e_Bus_init_14, e_Bus_init_15, c_Bus_init_16, e_Bus_init_16, e_Bus_init_17, e_Bus_init_18, e_Bus_init_19, e_Bus_init_20, e_Bus_init_21, e_Bus_init_22, e_Bus_init_23a, e_Bus_init_23b, e_Bus_init_24, e_Bus_init_25, e_Bus_init_26, e_Bus_init_27, e_Bus_init_28, e_Bus_init_29, c_Bus_init_30, e_Bus_init_30, e_Bus_init_31, e_Bus_init_32, e_Bus_init_33, e_Bus_init_34, e_Bus_init_35, e_Bus_init_36, e_Bus_init_37a, e_Bus_init_37b, e_Bus_init_38, e_Bus_init_39, e_Bus_init_40, e_Bus_init_41, e_Bus_init_42, jm_ia, jm_na, jm_qa, jm_aa, jm_asg, jm_l4, jm_Kr, jm_okv, jm_rc, jm_bo, true_and, and_true, Nat.add_zero, Nat.le_refl, j_lt, j_le, j_eq, j_lt0, j_0lt, j_le0, j_0le, j_eq0, j_add, j_sub, j_mul, j_neg, j_0sub, j_nat, j_in, j_div, j_rem, Sum.inl.injEq, exists_eq', true_or, or_true, if_true, if_false, not_true_eq_false, not_false_eq_true, implies_true, j_eq1, reduceIte, Nat.reduceEqDiff, Int.reduceEq, Int.reduceToNat, Nat.reduceAdd, Int.reduceAdd, Int.reduceSub, Int.reduceMul, Int.reduceNeg, and_false, false_and, and_self, u2r, j_b0, j_b1, Classical.not_not, eq_self, true_implies, false_implies, not_true_eq_false, not_false_eq_true, Int.reduceLT, Int.reduceLE, cn_n, cn_k, cn_k0, cn_r, cn_r0, cn_sr, cn_sr0, cn_si, nat3, q0, q1, q2, q3, q4, q5, q6, q7, q8, q9])
    all_goals first
      | (refine ⟨_, ?_, Or.inl (⟨rfl, 0, _, rfl, rfl, rfl, rfl, rfl, rfl, ?_⟩)⟩ <;> first | omega | exact ⟨by omega, rfl⟩ | exact ⟨by omega, q10⟩ | exact ⟨by omega, z0⟩)
      | (refine ⟨_, Or.inl (⟨rfl, 0, _, rfl, rfl, rfl, rfl, rfl, rfl, ?_⟩) ⟩ <;> first | omega | exact ⟨by omega, rfl⟩ | exact ⟨by omega, q10⟩ | exact ⟨by omega, z0⟩)
      | (refine ⟨_, ?_, Or.inl (⟨rfl, (n + 1), _, rfl, rfl, rfl, rfl, rfl, rfl, ?_⟩)⟩ <;> first | omega | exact ⟨by omega, rfl⟩ | exact ⟨by omega, q10⟩ | exact ⟨by omega, z0⟩)
      | (refine ⟨_, Or.inl (⟨rfl, (n + 1), _, rfl, rfl, rfl, rfl, rfl, rfl, ?_⟩) ⟩ <;> first | omega | exact ⟨by omega, rfl⟩ | exact ⟨by omega, q10⟩ | exact ⟨by omega, z0⟩)
      | (refine ⟨_, ?_, Or.inr (⟨rfl, 0, _, rfl, rfl, rfl, rfl, rfl, rfl, ?_⟩)⟩ <;> first | omega | exact ⟨by omega, rfl⟩ | exact ⟨by omega, q10⟩ | exact ⟨by omega, z0⟩)
      | (refine ⟨_, Or.inr (⟨rfl, 0, _, rfl, rfl, rfl, rfl, rfl, rfl, ?_⟩) ⟩ <;> first | omega | exact ⟨by omega, rfl⟩ | exact ⟨by omega, q10⟩ | exact ⟨by omega, z0⟩)
      | (refine ⟨_, ?_, Or.inr (⟨rfl, (n + 1), _, rfl, rfl, rfl, rfl, rfl, rfl, ?_⟩)⟩ <;> first | omega | exact ⟨by omega, rfl⟩ | exact ⟨by omega, q10⟩ | exact ⟨by omega, z0⟩)
      | (refine ⟨_, Or.inr (⟨rfl, (n + 1), _, rfl, rfl, rfl, rfl, rfl, rfl, ?_⟩) ⟩ <;> first | omega | exact ⟨by omega, rfl⟩ | exact ⟨by omega, q10⟩ | exact ⟨by omega, z0⟩)
      | contradiction
      | exact trivial
      | rfl
      | omega
      | exact (bi1 (by omega)).symm
      | exact (bi0 (by omega)).symm
      | exact (bi1 (by assumption)).symm
      | exact (bi0 (by assumption)).symm
      | ((try unfold IN_); (repeat (first | rw [if_pos (by omega)] | rw [if_neg (by omega)])); done)
      | ((try unfold IN_); (repeat (first | rw [if_pos (by omega)] | rw [if_neg (by omega)])); rfl)
      | ((try unfold IN_); (repeat (first | rw [if_pos (by omega)] | rw [if_neg (by omega)] | rw [if_pos (by assumption)] | rw [if_neg (by assumption)])); rfl)
theorem cQ_0 : upn (upn (upn (upn (upn (fun _ => 0) 0 3) 4 3) 5 12) 6 18) 0 (3 + 1) = cQ 0 := by
  funext a
  by_cases q0 : a = 0
  · subst q0; rfl
  · by_cases q1 : a = 6
    · subst q1; rfl
    · by_cases q2 : a = 5
      · subst q2; rfl
      · by_cases q3 : a = 4
        · subst q3; rfl
        · rw [upn_n q0, upn_n q1, upn_n q2, upn_n q3, upn_n q0]
          unfold cQ
          rw [if_neg q0]
          by_cases q4 : a = 1
          · rw [if_pos q4]
          · rw [if_neg q4, if_neg q3, if_neg q2, if_neg q1, if_neg (by omega)]
theorem cQ_s (n : Nat) : upn (upn (upn (upn (upn (cQ n) (39 + 5 * n) (0 + 1)) (39 + 5 * n) (1 + 1)) (38 + 5 * n) (0 + 1)) (38 + 5 * n) (1 + 1)) 1 (n + 1) = cQ (n + 1) := by
  funext a
  by_cases q1 : a = 1
  · rw [upn_p q1]; unfold cQ; rw [if_neg (by omega), if_pos q1]
  · rw [upn_n q1]
    by_cases q2 : a = 38 + 5 * n
    · rw [upn_p q2]; unfold cQ
      rw [if_neg (by omega), if_neg q1, if_neg (by omega), if_neg (by omega), if_neg (by omega), if_pos (by omega)]
    · rw [upn_n q2, upn_n q2]
      by_cases q3 : a = 39 + 5 * n
      · rw [upn_p q3]; unfold cQ
        rw [if_neg (by omega), if_neg q1, if_neg (by omega), if_neg (by omega), if_neg (by omega), if_pos (by omega)]
      · rw [upn_n q3, upn_n q3]; unfold cQ
        rw [if_neg q1, if_neg q1]
        by_cases q4 : 38 ≤ a ∧ a < 38 + 5 * n ∧ (a - 38) % 5 ≤ 1
        · rw [if_pos q4, if_pos (show 38 ≤ a ∧ a < 38 + 5 * (n + 1) ∧ (a - 38) % 5 ≤ 1 by omega)]
        · rw [if_neg q4, if_neg (show ¬ (38 ≤ a ∧ a < 38 + 5 * (n + 1) ∧ (a - 38) % 5 ≤ 1) by omega)]
theorem cQ_P : cQ 3 = cP 0 := by
  funext a
  unfold cQ cP
  by_cases q2 : a = 2
  · rw [if_pos q2, if_neg (by omega), if_neg (by omega), if_neg (by omega), if_neg (by omega), if_neg (by omega), if_neg (by omega), if_neg (by omega), if_neg (by omega)]
  · rw [if_neg q2]
    by_cases q3 : a = 3
    · rw [if_pos q3, if_neg (by omega), if_neg (by omega), if_neg (by omega), if_neg (by omega), if_neg (by omega), if_neg (by omega), if_neg (by omega), if_neg (by omega)]
    · rw [if_neg q3, if_neg (show ¬ (53 ≤ a ∧ a < 53 + 4 * 0 ∧ (a - 53) % 2 = 0) by omega)]
theorem cP_s (p : Nat) : upn (upn (upn (upn (cP p) (53 + 4 * p) (1 + 1)) 2 (p + 1)) (55 + 4 * p) (1 + 1)) 3 (p + 1) = cP (p + 1) := by
  funext a
  by_cases q1 : a = 3
  · rw [upn_p q1]; unfold cP; rw [if_neg (by omega), if_neg (by omega), if_neg (by omega), if_pos q1]
  · rw [upn_n q1]
    by_cases q2 : a = 55 + 4 * p
    · rw [upn_p q2]; unfold cP
      rw [if_neg (by omega), if_neg (by omega), if_neg (by omega), if_neg q1, if_neg (by omega), if_neg (by omega), if_neg (by omega), if_neg (by omega), if_pos (by omega)]
    · rw [upn_n q2]
      by_cases q3 : a = 2
      · rw [upn_p q3]; unfold cP; rw [if_neg (by omega), if_neg (by omega), if_pos q3]
      · rw [upn_n q3]
        by_cases q4 : a = 53 + 4 * p
        · rw [upn_p q4]; unfold cP
          rw [if_neg (by omega), if_neg (by omega), if_neg q3, if_neg q1, if_neg (by omega), if_neg (by omega), if_neg (by omega), if_neg (by omega), if_pos (by omega)]
        · rw [upn_n q4]; unfold cP
          rw [if_neg q3, if_neg q3, if_neg q1, if_neg q1]
          by_cases q5 : 53 ≤ a ∧ a < 53 + 4 * p ∧ (a - 53) % 2 = 0
          · rw [if_pos q5, if_pos (show 53 ≤ a ∧ a < 53 + 4 * (p + 1) ∧ (a - 53) % 2 = 0 by omega)]
          · rw [if_neg q5, if_neg (show ¬ (53 ≤ a ∧ a < 53 + 4 * (p + 1) ∧ (a - 53) % 2 = 0) by omega)]
theorem iP_0 : (fun _ _ => 0 : S_) = iP 0 := by
  funext a b
  show (0 : Int) = (if a < 53 + 4 * 0 then iot a b else 0)
  by_cases q : a < 53
  · rw [if_pos (by omega)]; unfold iot; rw [if_pos q]
  · rw [if_neg (by omega)]
theorem iP_s (p : Nat) : jm_u2 (jm_u2 (jm_u2 (jm_u2 (jm_u2 (jm_u2 (iP p) (54 + 4 * p) 2 1) (53 + 4 * p) 2 0) (53 + 4 * p) 0 p) (56 + 4 * p) 2 1) (55 + 4 * p) 2 0) (55 + 4 * p) 0 p = iP (p + 1) := by
  funext a b
  by_cases q1 : a < 53 + 4 * p
  · simp (disch := omega) only [u2n]
    show (if a < 53 + 4 * p then iot a b else 0) = (if a < 53 + 4 * (p + 1) then iot a b else 0)
    rw [if_pos q1, if_pos (by omega)]
  · by_cases q2 : a < 53 + 4 * (p + 1)
    · show _ = (if a < 53 + 4 * (p + 1) then iot a b else 0)
      rw [if_pos q2]
      have z : iP p a b = 0 := if_neg q1
      unfold iot
      rw [if_neg (by omega)]
      rcases (show a = 53 + 4 * p ∨ a = 54 + 4 * p ∨ a = 55 + 4 * p ∨ a = 56 + 4 * p by omega) with r | r | r | r
      · subst r
        rw [if_pos (by omega)]
        by_cases r2 : b = 0
        · subst r2; simp (disch := omega) only [u2n, u2p]; rw [if_pos trivial]; omega
        · rw [if_neg r2]
          by_cases r3 : b = 2
          · subst r3; simp (disch := omega) only [u2n, u2p]
          · simp (disch := omega) only [u2n]; exact z
      · subst r
        rw [if_neg (by omega)]
        by_cases r3 : b = 2
        · subst r3; simp (disch := omega) only [u2n, u2p]; rw [if_pos trivial]
        · rw [if_neg r3]; simp (disch := omega) only [u2n]; exact z
      · subst r
        rw [if_pos (by omega)]
        by_cases r2 : b = 0
        · subst r2; simp (disch := omega) only [u2n, u2p]; rw [if_pos trivial]; omega
        · rw [if_neg r2]
          by_cases r3 : b = 2
          · subst r3; simp (disch := omega) only [u2n, u2p]
          · simp (disch := omega) only [u2n]; exact z
      · subst r
        rw [if_neg (by omega)]
        by_cases r3 : b = 2
        · subst r3; simp (disch := omega) only [u2n, u2p]; rw [if_pos trivial]
        · rw [if_neg r3]; simp (disch := omega) only [u2n]; exact z
    · simp (disch := omega) only [u2n]
      show (if a < 53 + 4 * p then iot a b else 0) = (if a < 53 + 4 * (p + 1) then iot a b else 0)
      rw [if_neg q1, if_neg q2]
theorem cQ_z {n a : Nat} (h : 38 + 5 * n ≤ a) : cQ n a = 0 := by
  unfold cQ
  rw [if_neg (by omega), if_neg (by omega), if_neg (by omega), if_neg (by omega), if_neg (by omega), if_neg (by omega)]
theorem cP_z {p a : Nat} (h : 53 + 4 * p ≤ a) : cP p a = 0 := by
  unfold cP
  rw [if_neg (by omega), if_neg (by omega), if_neg (by omega), if_neg (by omega), if_neg (by omega), if_neg (by omega), if_neg (by omega), if_neg (by omega), if_neg (by omega)]
theorem iP_z {p a j : Nat} (h : 53 + 4 * p ≤ a) : iP p a j = 0 := if_neg (by omega)
theorem cQ_1 (n : Nat) : cQ n 0 = 4 ∧ cQ n 1 = n := ⟨rfl, rfl⟩
theorem cP_1 (p : Nat) : cP p 0 = 4 ∧ cP p 2 = p ∧ cP p 3 = p := ⟨rfl, rfl, rfl⟩
def Iv_kc_Site (h0 : jm_H) (ac : Nat) : Nat → Nat → List (Option jm_V) → List jm_V → jm_H → Nat → Nat → Prop := fun kq pc L st h' ce sl =>
  (pc = 41 ∧ ∃ (n : Nat) (ν : M_) (ι : S_), L = [some (.inr (.inl (some (ac)))), some (.inl (Int32.ofInt (n)))] ∧ st = [] ∧ h' = cn_ h0 ac (38 + 5 * n) ν ι ∧ ce = 37 + 5 * n ∧ sl = 269 + 37 * n ∧ kq = 100 - n ∧ (n ≤ 3 ∧ ν = stage ac (cQ n) ∧ ι = (fun _ _ => 0))) ∨
  (pc = 67 ∧ ∃ (n : Nat) (ν : M_) (ι : S_), L = [some (.inr (.inl (some (ac)))), some (.inl (Int32.ofInt (n)))] ∧ st = [] ∧ h' = cn_ h0 ac (53 + 4 * n) ν ι ∧ ce = 52 + 4 * n ∧ sl = 380 + 17 * n ∧ kq = 50 - n ∧ (n ≤ 3 ∧ ν = stage ac (cP n) ∧ ι = iP n))
set_option maxRecDepth 100000 in
set_option maxHeartbeats 4000000 in
theorem kc_Site (B : jm_B) (l : Launch) (h0 : jm_H) (ac : Nat) : jm_Ct gG B l (gm 46) [.inr (.inl (some (ac)))] (cn_ h0 ac (1) (stage ac (fun _ => 0)) (fun _ _ => 0)) (fun v h' => h' = cn_ h0 ac 65 (stage ac (cP 3)) (iP 3)) := by
  show jm_Ct gG B l M_Site_init _ _ _
  refine jm_CL (code := k_Site_init) (Or.inl (by decide)) (by decide) v_Site_init rfl (Nat.le_of_ble_eq_true rfl) [some (.inr (.inl (some (ac)))), none] rfl rfl (Iv_kc_Site h0 ac) ?_ ⟨61, ?_⟩
  · intro k pc L st h' ce sl hI
    rcases hI with ⟨rfl, n, ν, ι, rfl, rfl, rfl, rfl, rfl, rfl, hc⟩ | ⟨rfl, n, ν, ι, rfl, rfl, rfl, rfl, rfl, rfl, hc⟩
    · refine ⟨61, 21, ⟨_, _, rfl, rfl⟩, ?_⟩
      obtain ⟨k1, rfl, rfl⟩ := hc
      rcases (show n < 3 ∨ n = 3 by omega) with hi | hi
      · have q0 : KD (0) = .inl 7 := by unfold KD; (repeat (first | rw [if_pos (by omega)] | rw [if_neg (by omega)])); try rfl
        have q1 : KD (1) = .inr (7, 3) := by unfold KD; (repeat (first | rw [if_pos (by omega)] | rw [if_neg (by omega)])); try rfl
        have q2 : KD (38 + 5 * n) = .inl 3 := by unfold KD; (repeat (first | rw [if_pos (by omega)] | rw [if_neg (by omega)])); try rfl
        have q3 : jm_nw (cn_ h0 ac (38 + 5 * n) (stage ac (cQ n)) (fun _ _ => 0)) (.inl 3) = (cn_ h0 ac (39 + 5 * n) (stage ac (cQ n)) (fun _ _ => 0)) := cn_nw (by omega) (by unfold KD; (repeat (first | rw [if_pos (by omega)] | rw [if_neg (by omega)])); try rfl) (fun j => stage_n (by (repeat rw [upn_n (by omega)]); try exact cQ_z (by omega))) (fun j => by (repeat rw [u2n (by omega)]); try exact rfl)
        have q4 : stage ac (cQ n) 0 0 = some (ac + 1) := (stage_r (by rw [(cQ_1 n).1]; omega)).trans (rho_0 ac (by omega))
        have q5 : jm_u2 (stage ac (upn (upn (upn (upn (cQ n) (39 + 5 * n) (0 + 1)) (39 + 5 * n) (1 + 1)) (38 + 5 * n) (0 + 1)) (38 + 5 * n) (1 + 1))) 1 n (some (ac + (38 + 5 * n))) = stage ac (cQ (n + 1)) := by rw [stage_u (by rw [upn_n (by omega), upn_n (by omega), upn_n (by omega), upn_n (by omega), (cQ_1 n).2]; omega) (rho_1 ac (by omega)) (fun i h1 h2 => by rw [upn_n (by omega), upn_n (by omega), upn_n (by omega), upn_n (by omega), (cQ_1 n).2] at h2; omega), cQ_s]
        have q6 : (43 + 5 * n) = 38 + 5 * (n + 1) := by omega
        have q7 : True := trivial
        have q8 : True := trivial
        have q9 : True := trivial
        have q10 : True := trivial
        have q11 : True := trivial
        have q12 : True := trivial
        have q13 : True := trivial
        simp (disch := omega) only [e_Site_init_0, e_Site_init_1, e_Site_init_2, e_Site_init_3, e_Site_init_4, e_Site_init_5, e_Site_init_6, e_Site_init_7, e_Site_init_8, e_Site_init_9, e_Site_init_10, e_Site_init_11, e_Site_init_12, e_Site_init_13, e_Site_init_14, e_Site_init_15, e_Site_init_16a, e_Site_init_16b, e_Site_init_17, e_Site_init_18, e_Site_init_19, e_Site_init_20, c_Site_init_21, e_Site_init_21, e_Site_init_22, e_Site_init_23, e_Site_init_24, e_Site_init_25, e_Site_init_26, e_Site_init_27, e_Site_init_28a, e_Site_init_28b, e_Site_init_29, e_Site_init_30, e_Site_init_31, e_Site_init_32, e_Site_init_33, e_Site_init_34, c_Site_init_35, e_Site_init_35, e_Site_init_36, e_Site_init_37, e_Site_init_38, e_Site_init_39, e_Site_init_40, e_Site_init_41, e_Site_init_42a, e_Site_init_42b, e_Site_init_43, e_Site_init_44, e_Site_init_45, e_Site_init_46, e_Site_init_47, e_Site_init_48, e_Site_init_49, e_Site_init_50a, e_Site_init_50b, e_Site_init_51, e_Site_init_52, e_Site_init_53, e_Site_init_54, e_Site_init_55, e_Site_init_56, jm_ia, jm_na, jm_qa, jm_aa, jm_asg, jm_l4, jm_Kr, jm_okv, jm_rc, jm_bo, true_and, and_true, Nat.add_zero, Nat.le_refl, j_lt, j_le, j_eq, j_lt0, j_0lt, j_le0, j_0le, j_eq0, j_add, j_sub, j_mul, j_neg, j_0sub, j_nat, j_in, j_div, j_rem, Sum.inl.injEq, exists_eq', true_or, or_true, if_true, if_false, not_true_eq_false, not_false_eq_true, implies_true, j_eq1, reduceIte, Nat.reduceEqDiff, Int.reduceEq, Int.reduceToNat, Nat.reduceAdd, Int.reduceAdd, Int.reduceSub, Int.reduceMul, Int.reduceNeg, and_false, false_and, and_self, u2r, j_b0, j_b1, Classical.not_not, eq_self, true_implies, false_implies, not_true_eq_false, not_false_eq_true, Int.reduceLT, Int.reduceLE, cn_n, cn_k, cn_k0, cn_r, cn_r0, cn_sr, cn_sr0, cn_si, nat3, q0, q1, q2, q3, q4, q5, q6, q7, q8, q9, q10, q11, q12, q13, q0, q1, q2, q3, q4, q5, q6, q7, q8, q9, q10, q11, q12, q13]
        repeat' first
          | apply And.intro
          | (intro _)
          | (refine ⟨_, kc_Bus B l h0 ac (upn (fun _ => 0) 0 3) (fun _ _ => 0) (fun a q => upn_n (by omega)) (fun _ _ _ => rfl), ?_⟩; rintro h' rfl; try simp (disch := omega) only [e_Site_init_0, e_Site_init_1, e_Site_init_2, e_Site_init_3, e_Site_init_4, e_Site_init_5, e_Site_init_6, e_Site_init_7, e_Site_init_8, e_Site_init_9, e_Site_init_10, e_Site_init_11, e_Site_init_12, e_Site_init_13, e_Site_init_14, e_Site_init_15, e_Site_init_16a, e_Site_init_16b, e_Site_init_17, e_Site_init_18, e_Site_init_19, e_Site_init_20, c_Site_init_21, e_Site_init_21, e_Site_init_22, e_Site_init_23, e_Site_init_24, e_Site_init_25, e_Site_init_26, e_Site_init_27, e_Site_init_28a, e_Site_init_28b, e_Site_init_29, e_Site_init_30, e_Site_init_31, e_Site_init_32, e_Site_init_33, e_Site_init_34, c_Site_init_35, e_Site_init_35, e_Site_init_36, e_Site_init_37, e_Site_init_38, e_Site_init_39, e_Site_init_40, e_Site_init_41, e_Site_init_42a, e_Site_init_42b, e_Site_init_43, e_Site_init_44, e_Site_init_45, e_Site_init_46, e_Site_init_47, e_Site_init_48, e_Site_init_49, e_Site_init_50a, e_Site_init_50b, e_Site_init_51, e_Site_init_52, e_Site_init_53, e_Site_init_54, e_Site_init_55, e_Site_init_56, jm_ia, jm_na, jm_qa, jm_aa, jm_asg, jm_l4, jm_Kr, jm_okv, jm_rc, jm_bo, true_and, and_true, Nat.add_zero, Nat.le_refl, j_lt, j_le, j_eq, j_lt0, j_0lt, j_le0, j_0le, j_eq0, j_add, j_sub, j_mul, j_neg, j_0sub, j_nat, j_in, j_div, j_rem, Sum.inl.injEq, exists_eq', true_or, or_true, if_true, if_false, not_true_eq_false, not_false_eq_true, implies_true, j_eq1, reduceIte, Nat.reduceEqDiff, Int.reduceEq, Int.reduceToNat, Nat.reduceAdd, Int.reduceAdd, Int.reduceSub, Int.reduceMul, Int.reduceNeg, and_false, false_and, and_self, u2r, j_b0, j_b1, Classical.not_not, eq_self, true_implies, false_implies, not_true_eq_false, not_false_eq_true, Int.reduceLT, Int.reduceLE, cn_n, cn_k, cn_k0, cn_r, cn_r0, cn_sr, cn_sr0, cn_si, nat3, q0, q1, q2, q3, q4, q5, q6, q7, q8, q9, q10, q11, q12, q13, q0, q1, q2, q3, q4, q5, q6, q7, q8, q9, q10, q11, q12, q13])
          | (refine ⟨_, kc_Crane B l h0 ac n (by omega) (cQ n) (fun _ _ => 0) (fun a q => cQ_z (by omega)) (fun _ _ _ => rfl), ?_⟩; rintro h' rfl; try simp (disch := omega) only [e_Site_init_0, e_Site_init_1, e_Site_init_2, e_Site_init_3, e_Site_init_4, e_Site_init_5, e_Site_init_6, e_Site_init_7, e_Site_init_8, e_Site_init_9, e_Site_init_10, e_Site_init_11, e_Site_init_12, e_Site_init_13, e_Site_init_14, e_Site_init_15, e_Site_init_16a, e_Site_init_16b, e_Site_init_17, e_Site_init_18, e_Site_init_19, e_Site_init_20, c_Site_init_21, e_Site_init_21, e_Site_init_22, e_Site_init_23, e_Site_init_24, e_Site_init_25, e_Site_init_26, e_Site_init_27, e_Site_init_28a, e_Site_init_28b, e_Site_init_29, e_Site_init_30, e_Site_init_31, e_Site_init_32, e_Site_init_33, e_Site_init_34, c_Site_init_35, e_Site_init_35, e_Site_init_36, e_Site_init_37, e_Site_init_38, e_Site_init_39, e_Site_init_40, e_Site_init_41, e_Site_init_42a, e_Site_init_42b, e_Site_init_43, e_Site_init_44, e_Site_init_45, e_Site_init_46, e_Site_init_47, e_Site_init_48, e_Site_init_49, e_Site_init_50a, e_Site_init_50b, e_Site_init_51, e_Site_init_52, e_Site_init_53, e_Site_init_54, e_Site_init_55, e_Site_init_56, jm_ia, jm_na, jm_qa, jm_aa, jm_asg, jm_l4, jm_Kr, jm_okv, jm_rc, jm_bo, true_and, and_true, Nat.add_zero, Nat.le_refl, j_lt, j_le, j_eq, j_lt0, j_0lt, j_le0, j_0le, j_eq0, j_add, j_sub, j_mul, j_neg, j_0sub, j_nat, j_in, j_div, j_rem, Sum.inl.injEq, exists_eq', true_or, or_true, if_true, if_false, not_true_eq_false, not_false_eq_true, implies_true, j_eq1, reduceIte, Nat.reduceEqDiff, Int.reduceEq, Int.reduceToNat, Nat.reduceAdd, Int.reduceAdd, Int.reduceSub, Int.reduceMul, Int.reduceNeg, and_false, false_and, and_self, u2r, j_b0, j_b1, Classical.not_not, eq_self, true_implies, false_implies, not_true_eq_false, not_false_eq_true, Int.reduceLT, Int.reduceLE, cn_n, cn_k, cn_k0, cn_r, cn_r0, cn_sr, cn_sr0, cn_si, nat3, q0, q1, q2, q3, q4, q5, q6, q7, q8, q9, q10, q11, q12, q13, q0, q1, q2, q3, q4, q5, q6, q7, q8, q9, q10, q11, q12, q13])
          | (refine ⟨_, kc_Keeper B l h0 ac n (by omega) (cP n) (iP n) (fun a q => cP_z (by omega)) (fun _ _ _ => iP_z (by omega)), ?_⟩; rintro h' rfl; try simp (disch := omega) only [e_Site_init_0, e_Site_init_1, e_Site_init_2, e_Site_init_3, e_Site_init_4, e_Site_init_5, e_Site_init_6, e_Site_init_7, e_Site_init_8, e_Site_init_9, e_Site_init_10, e_Site_init_11, e_Site_init_12, e_Site_init_13, e_Site_init_14, e_Site_init_15, e_Site_init_16a, e_Site_init_16b, e_Site_init_17, e_Site_init_18, e_Site_init_19, e_Site_init_20, c_Site_init_21, e_Site_init_21, e_Site_init_22, e_Site_init_23, e_Site_init_24, e_Site_init_25, e_Site_init_26, e_Site_init_27, e_Site_init_28a, e_Site_init_28b, e_Site_init_29, e_Site_init_30, e_Site_init_31, e_Site_init_32, e_Site_init_33, e_Site_init_34, c_Site_init_35, e_Site_init_35, e_Site_init_36, e_Site_init_37, e_Site_init_38, e_Site_init_39, e_Site_init_40, e_Site_init_41, e_Site_init_42a, e_Site_init_42b, e_Site_init_43, e_Site_init_44, e_Site_init_45, e_Site_init_46, e_Site_init_47, e_Site_init_48, e_Site_init_49, e_Site_init_50a, e_Site_init_50b, e_Site_init_51, e_Site_init_52, e_Site_init_53, e_Site_init_54, e_Site_init_55, e_Site_init_56, jm_ia, jm_na, jm_qa, jm_aa, jm_asg, jm_l4, jm_Kr, jm_okv, jm_rc, jm_bo, true_and, and_true, Nat.add_zero, Nat.le_refl, j_lt, j_le, j_eq, j_lt0, j_0lt, j_le0, j_0le, j_eq0, j_add, j_sub, j_mul, j_neg, j_0sub, j_nat, j_in, j_div, j_rem, Sum.inl.injEq, exists_eq', true_or, or_true, if_true, if_false, not_true_eq_false, not_false_eq_true, implies_true, j_eq1, reduceIte, Nat.reduceEqDiff, Int.reduceEq, Int.reduceToNat, Nat.reduceAdd, Int.reduceAdd, Int.reduceSub, Int.reduceMul, Int.reduceNeg, and_false, false_and, and_self, u2r, j_b0, j_b1, Classical.not_not, eq_self, true_implies, false_implies, not_true_eq_false, not_false_eq_true, Int.reduceLT, Int.reduceLE, cn_n, cn_k, cn_k0, cn_r, cn_r0, cn_sr, cn_sr0, cn_si, nat3, q0, q1, q2, q3, q4, q5, q6, q7, q8, q9, q10, q11, q12, q13, q0, q1, q2, q3, q4, q5, q6, q7, q8, q9, q10, q11, q12, q13])
          | (refine ⟨_, kc_Asker B l h0 ac n (by omega) (upn (upn (cP n) (53 + 4 * n) (1 + 1)) 2 (n + 1)) (jm_u2 (jm_u2 (jm_u2 (iP n) (54 + 4 * n) 2 1) (53 + 4 * n) 2 0) (53 + 4 * n) 0 n) (fun a q => by rw [upn_n (by omega), upn_n (by omega)]; exact cP_z (by omega)) (fun a j q => by rw [u2n (by omega), u2n (by omega), u2n (by omega)]; exact iP_z (by omega)), ?_⟩; rintro h' rfl; try simp (disch := omega) only [e_Site_init_0, e_Site_init_1, e_Site_init_2, e_Site_init_3, e_Site_init_4, e_Site_init_5, e_Site_init_6, e_Site_init_7, e_Site_init_8, e_Site_init_9, e_Site_init_10, e_Site_init_11, e_Site_init_12, e_Site_init_13, e_Site_init_14, e_Site_init_15, e_Site_init_16a, e_Site_init_16b, e_Site_init_17, e_Site_init_18, e_Site_init_19, e_Site_init_20, c_Site_init_21, e_Site_init_21, e_Site_init_22, e_Site_init_23, e_Site_init_24, e_Site_init_25, e_Site_init_26, e_Site_init_27, e_Site_init_28a, e_Site_init_28b, e_Site_init_29, e_Site_init_30, e_Site_init_31, e_Site_init_32, e_Site_init_33, e_Site_init_34, c_Site_init_35, e_Site_init_35, e_Site_init_36, e_Site_init_37, e_Site_init_38, e_Site_init_39, e_Site_init_40, e_Site_init_41, e_Site_init_42a, e_Site_init_42b, e_Site_init_43, e_Site_init_44, e_Site_init_45, e_Site_init_46, e_Site_init_47, e_Site_init_48, e_Site_init_49, e_Site_init_50a, e_Site_init_50b, e_Site_init_51, e_Site_init_52, e_Site_init_53, e_Site_init_54, e_Site_init_55, e_Site_init_56, jm_ia, jm_na, jm_qa, jm_aa, jm_asg, jm_l4, jm_Kr, jm_okv, jm_rc, jm_bo, true_and, and_true, Nat.add_zero, Nat.le_refl, j_lt, j_le, j_eq, j_lt0, j_0lt, j_le0, j_0le, j_eq0, j_add, j_sub, j_mul, j_neg, j_0sub, j_nat, j_in, j_div, j_rem, Sum.inl.injEq, exists_eq', true_or, or_true, if_true, if_false, not_true_eq_false, not_false_eq_true, implies_true, j_eq1, reduceIte, Nat.reduceEqDiff, Int.reduceEq, Int.reduceToNat, Nat.reduceAdd, Int.reduceAdd, Int.reduceSub, Int.reduceMul, Int.reduceNeg, and_false, false_and, and_self, u2r, j_b0, j_b1, Classical.not_not, eq_self, true_implies, false_implies, not_true_eq_false, not_false_eq_true, Int.reduceLT, Int.reduceLE, cn_n, cn_k, cn_k0, cn_r, cn_r0, cn_sr, cn_sr0, cn_si, nat3, q0, q1, q2, q3, q4, q5, q6, q7, q8, q9, q10, q11, q12, q13, q0, q1, q2, q3, q4, q5, q6, q7, q8, q9, q10, q11, q12, q13])
        all_goals first
          | (refine ⟨_, ?_, Or.inl (⟨rfl, 0, _, _, rfl, rfl, rfl, rfl, rfl, rfl, ?_⟩)⟩ <;> first | omega | exact ⟨by omega, rfl, rfl⟩ | exact ⟨by omega, congrArg (stage ac) cQ_P, iP_0⟩)
          | (refine ⟨_, Or.inl (⟨rfl, 0, _, _, rfl, rfl, rfl, rfl, rfl, rfl, ?_⟩) ⟩ <;> first | omega | exact ⟨by omega, rfl, rfl⟩ | exact ⟨by omega, congrArg (stage ac) cQ_P, iP_0⟩)
          | (refine ⟨_, ?_, Or.inl (⟨rfl, (n + 1), _, _, rfl, rfl, rfl, rfl, rfl, rfl, ?_⟩)⟩ <;> first | omega | exact ⟨by omega, rfl, rfl⟩ | exact ⟨by omega, congrArg (stage ac) cQ_P, iP_0⟩)
          | (refine ⟨_, Or.inl (⟨rfl, (n + 1), _, _, rfl, rfl, rfl, rfl, rfl, rfl, ?_⟩) ⟩ <;> first | omega | exact ⟨by omega, rfl, rfl⟩ | exact ⟨by omega, congrArg (stage ac) cQ_P, iP_0⟩)
          | (refine ⟨_, ?_, Or.inr (⟨rfl, 0, _, _, rfl, rfl, rfl, rfl, rfl, rfl, ?_⟩)⟩ <;> first | omega | exact ⟨by omega, rfl, rfl⟩ | exact ⟨by omega, congrArg (stage ac) cQ_P, iP_0⟩)
          | (refine ⟨_, Or.inr (⟨rfl, 0, _, _, rfl, rfl, rfl, rfl, rfl, rfl, ?_⟩) ⟩ <;> first | omega | exact ⟨by omega, rfl, rfl⟩ | exact ⟨by omega, congrArg (stage ac) cQ_P, iP_0⟩)
          | (refine ⟨_, ?_, Or.inr (⟨rfl, (n + 1), _, _, rfl, rfl, rfl, rfl, rfl, rfl, ?_⟩)⟩ <;> first | omega | exact ⟨by omega, rfl, rfl⟩ | exact ⟨by omega, congrArg (stage ac) cQ_P, iP_0⟩)
          | (refine ⟨_, Or.inr (⟨rfl, (n + 1), _, _, rfl, rfl, rfl, rfl, rfl, rfl, ?_⟩) ⟩ <;> first | omega | exact ⟨by omega, rfl, rfl⟩ | exact ⟨by omega, congrArg (stage ac) cQ_P, iP_0⟩)
          | contradiction
          | exact trivial
          | rfl
          | omega
          | exact (bi1 (by omega)).symm
          | exact (bi0 (by omega)).symm
          | exact (bi1 (by assumption)).symm
          | exact (bi0 (by assumption)).symm
          | ((try unfold IN_); (repeat (first | rw [if_pos (by omega)] | rw [if_neg (by omega)])); done)
          | ((try unfold IN_); (repeat (first | rw [if_pos (by omega)] | rw [if_neg (by omega)])); rfl)
          | ((try unfold IN_); (repeat (first | rw [if_pos (by omega)] | rw [if_neg (by omega)] | rw [if_pos (by assumption)] | rw [if_neg (by assumption)])); rfl)
      · obtain rfl : n = 3 := by omega
        have q0 : True := trivial
        have q1 : True := trivial
        have q2 : True := trivial
        have q3 : True := trivial
        have q4 : True := trivial
        have q5 : True := trivial
        have q6 : True := trivial
        have q7 : True := trivial
        have q8 : True := trivial
        have q9 : True := trivial
        have q10 : True := trivial
        have q11 : True := trivial
        have q12 : True := trivial
        have q13 : True := trivial
        simp (disch := omega) only [e_Site_init_0, e_Site_init_1, e_Site_init_2, e_Site_init_3, e_Site_init_4, e_Site_init_5, e_Site_init_6, e_Site_init_7, e_Site_init_8, e_Site_init_9, e_Site_init_10, e_Site_init_11, e_Site_init_12, e_Site_init_13, e_Site_init_14, e_Site_init_15, e_Site_init_16a, e_Site_init_16b, e_Site_init_17, e_Site_init_18, e_Site_init_19, e_Site_init_20, c_Site_init_21, e_Site_init_21, e_Site_init_22, e_Site_init_23, e_Site_init_24, e_Site_init_25, e_Site_init_26, e_Site_init_27, e_Site_init_28a, e_Site_init_28b, e_Site_init_29, e_Site_init_30, e_Site_init_31, e_Site_init_32, e_Site_init_33, e_Site_init_34, c_Site_init_35, e_Site_init_35, e_Site_init_36, e_Site_init_37, e_Site_init_38, e_Site_init_39, e_Site_init_40, e_Site_init_41, e_Site_init_42a, e_Site_init_42b, e_Site_init_43, e_Site_init_44, e_Site_init_45, e_Site_init_46, e_Site_init_47, e_Site_init_48, e_Site_init_49, e_Site_init_50a, e_Site_init_50b, e_Site_init_51, e_Site_init_52, e_Site_init_53, e_Site_init_54, e_Site_init_55, e_Site_init_56, jm_ia, jm_na, jm_qa, jm_aa, jm_asg, jm_l4, jm_Kr, jm_okv, jm_rc, jm_bo, true_and, and_true, Nat.add_zero, Nat.le_refl, j_lt, j_le, j_eq, j_lt0, j_0lt, j_le0, j_0le, j_eq0, j_add, j_sub, j_mul, j_neg, j_0sub, j_nat, j_in, j_div, j_rem, Sum.inl.injEq, exists_eq', true_or, or_true, if_true, if_false, not_true_eq_false, not_false_eq_true, implies_true, j_eq1, reduceIte, Nat.reduceEqDiff, Int.reduceEq, Int.reduceToNat, Nat.reduceAdd, Int.reduceAdd, Int.reduceSub, Int.reduceMul, Int.reduceNeg, and_false, false_and, and_self, u2r, j_b0, j_b1, Classical.not_not, eq_self, true_implies, false_implies, not_true_eq_false, not_false_eq_true, Int.reduceLT, Int.reduceLE, cn_n, cn_k, cn_k0, cn_r, cn_r0, cn_sr, cn_sr0, cn_si, nat3, q0, q1, q2, q3, q4, q5, q6, q7, q8, q9, q10, q11, q12, q13, q0, q1, q2, q3, q4, q5, q6, q7, q8, q9, q10, q11, q12, q13]
        repeat' first
          | apply And.intro
          | (intro _)
          | (refine ⟨_, kc_Bus B l h0 ac (upn (fun _ => 0) 0 3) (fun _ _ => 0) (fun a q => upn_n (by omega)) (fun _ _ _ => rfl), ?_⟩; rintro h' rfl; try simp (disch := omega) only [e_Site_init_0, e_Site_init_1, e_Site_init_2, e_Site_init_3, e_Site_init_4, e_Site_init_5, e_Site_init_6, e_Site_init_7, e_Site_init_8, e_Site_init_9, e_Site_init_10, e_Site_init_11, e_Site_init_12, e_Site_init_13, e_Site_init_14, e_Site_init_15, e_Site_init_16a, e_Site_init_16b, e_Site_init_17, e_Site_init_18, e_Site_init_19, e_Site_init_20, c_Site_init_21, e_Site_init_21, e_Site_init_22, e_Site_init_23, e_Site_init_24, e_Site_init_25, e_Site_init_26, e_Site_init_27, e_Site_init_28a, e_Site_init_28b, e_Site_init_29, e_Site_init_30, e_Site_init_31, e_Site_init_32, e_Site_init_33, e_Site_init_34, c_Site_init_35, e_Site_init_35, e_Site_init_36, e_Site_init_37, e_Site_init_38, e_Site_init_39, e_Site_init_40, e_Site_init_41, e_Site_init_42a, e_Site_init_42b, e_Site_init_43, e_Site_init_44, e_Site_init_45, e_Site_init_46, e_Site_init_47, e_Site_init_48, e_Site_init_49, e_Site_init_50a, e_Site_init_50b, e_Site_init_51, e_Site_init_52, e_Site_init_53, e_Site_init_54, e_Site_init_55, e_Site_init_56, jm_ia, jm_na, jm_qa, jm_aa, jm_asg, jm_l4, jm_Kr, jm_okv, jm_rc, jm_bo, true_and, and_true, Nat.add_zero, Nat.le_refl, j_lt, j_le, j_eq, j_lt0, j_0lt, j_le0, j_0le, j_eq0, j_add, j_sub, j_mul, j_neg, j_0sub, j_nat, j_in, j_div, j_rem, Sum.inl.injEq, exists_eq', true_or, or_true, if_true, if_false, not_true_eq_false, not_false_eq_true, implies_true, j_eq1, reduceIte, Nat.reduceEqDiff, Int.reduceEq, Int.reduceToNat, Nat.reduceAdd, Int.reduceAdd, Int.reduceSub, Int.reduceMul, Int.reduceNeg, and_false, false_and, and_self, u2r, j_b0, j_b1, Classical.not_not, eq_self, true_implies, false_implies, not_true_eq_false, not_false_eq_true, Int.reduceLT, Int.reduceLE, cn_n, cn_k, cn_k0, cn_r, cn_r0, cn_sr, cn_sr0, cn_si, nat3, q0, q1, q2, q3, q4, q5, q6, q7, q8, q9, q10, q11, q12, q13, q0, q1, q2, q3, q4, q5, q6, q7, q8, q9, q10, q11, q12, q13])
          | (refine ⟨_, kc_Crane B l h0 ac n (by omega) (cQ n) (fun _ _ => 0) (fun a q => cQ_z (by omega)) (fun _ _ _ => rfl), ?_⟩; rintro h' rfl; try simp (disch := omega) only [e_Site_init_0, e_Site_init_1, e_Site_init_2, e_Site_init_3, e_Site_init_4, e_Site_init_5, e_Site_init_6, e_Site_init_7, e_Site_init_8, e_Site_init_9, e_Site_init_10, e_Site_init_11, e_Site_init_12, e_Site_init_13, e_Site_init_14, e_Site_init_15, e_Site_init_16a, e_Site_init_16b, e_Site_init_17, e_Site_init_18, e_Site_init_19, e_Site_init_20, c_Site_init_21, e_Site_init_21, e_Site_init_22, e_Site_init_23, e_Site_init_24, e_Site_init_25, e_Site_init_26, e_Site_init_27, e_Site_init_28a, e_Site_init_28b, e_Site_init_29, e_Site_init_30, e_Site_init_31, e_Site_init_32, e_Site_init_33, e_Site_init_34, c_Site_init_35, e_Site_init_35, e_Site_init_36, e_Site_init_37, e_Site_init_38, e_Site_init_39, e_Site_init_40, e_Site_init_41, e_Site_init_42a, e_Site_init_42b, e_Site_init_43, e_Site_init_44, e_Site_init_45, e_Site_init_46, e_Site_init_47, e_Site_init_48, e_Site_init_49, e_Site_init_50a, e_Site_init_50b, e_Site_init_51, e_Site_init_52, e_Site_init_53, e_Site_init_54, e_Site_init_55, e_Site_init_56, jm_ia, jm_na, jm_qa, jm_aa, jm_asg, jm_l4, jm_Kr, jm_okv, jm_rc, jm_bo, true_and, and_true, Nat.add_zero, Nat.le_refl, j_lt, j_le, j_eq, j_lt0, j_0lt, j_le0, j_0le, j_eq0, j_add, j_sub, j_mul, j_neg, j_0sub, j_nat, j_in, j_div, j_rem, Sum.inl.injEq, exists_eq', true_or, or_true, if_true, if_false, not_true_eq_false, not_false_eq_true, implies_true, j_eq1, reduceIte, Nat.reduceEqDiff, Int.reduceEq, Int.reduceToNat, Nat.reduceAdd, Int.reduceAdd, Int.reduceSub, Int.reduceMul, Int.reduceNeg, and_false, false_and, and_self, u2r, j_b0, j_b1, Classical.not_not, eq_self, true_implies, false_implies, not_true_eq_false, not_false_eq_true, Int.reduceLT, Int.reduceLE, cn_n, cn_k, cn_k0, cn_r, cn_r0, cn_sr, cn_sr0, cn_si, nat3, q0, q1, q2, q3, q4, q5, q6, q7, q8, q9, q10, q11, q12, q13, q0, q1, q2, q3, q4, q5, q6, q7, q8, q9, q10, q11, q12, q13])
          | (refine ⟨_, kc_Keeper B l h0 ac n (by omega) (cP n) (iP n) (fun a q => cP_z (by omega)) (fun _ _ _ => iP_z (by omega)), ?_⟩; rintro h' rfl; try simp (disch := omega) only [e_Site_init_0, e_Site_init_1, e_Site_init_2, e_Site_init_3, e_Site_init_4, e_Site_init_5, e_Site_init_6, e_Site_init_7, e_Site_init_8, e_Site_init_9, e_Site_init_10, e_Site_init_11, e_Site_init_12, e_Site_init_13, e_Site_init_14, e_Site_init_15, e_Site_init_16a, e_Site_init_16b, e_Site_init_17, e_Site_init_18, e_Site_init_19, e_Site_init_20, c_Site_init_21, e_Site_init_21, e_Site_init_22, e_Site_init_23, e_Site_init_24, e_Site_init_25, e_Site_init_26, e_Site_init_27, e_Site_init_28a, e_Site_init_28b, e_Site_init_29, e_Site_init_30, e_Site_init_31, e_Site_init_32, e_Site_init_33, e_Site_init_34, c_Site_init_35, e_Site_init_35, e_Site_init_36, e_Site_init_37, e_Site_init_38, e_Site_init_39, e_Site_init_40, e_Site_init_41, e_Site_init_42a, e_Site_init_42b, e_Site_init_43, e_Site_init_44, e_Site_init_45, e_Site_init_46, e_Site_init_47, e_Site_init_48, e_Site_init_49, e_Site_init_50a, e_Site_init_50b, e_Site_init_51, e_Site_init_52, e_Site_init_53, e_Site_init_54, e_Site_init_55, e_Site_init_56, jm_ia, jm_na, jm_qa, jm_aa, jm_asg, jm_l4, jm_Kr, jm_okv, jm_rc, jm_bo, true_and, and_true, Nat.add_zero, Nat.le_refl, j_lt, j_le, j_eq, j_lt0, j_0lt, j_le0, j_0le, j_eq0, j_add, j_sub, j_mul, j_neg, j_0sub, j_nat, j_in, j_div, j_rem, Sum.inl.injEq, exists_eq', true_or, or_true, if_true, if_false, not_true_eq_false, not_false_eq_true, implies_true, j_eq1, reduceIte, Nat.reduceEqDiff, Int.reduceEq, Int.reduceToNat, Nat.reduceAdd, Int.reduceAdd, Int.reduceSub, Int.reduceMul, Int.reduceNeg, and_false, false_and, and_self, u2r, j_b0, j_b1, Classical.not_not, eq_self, true_implies, false_implies, not_true_eq_false, not_false_eq_true, Int.reduceLT, Int.reduceLE, cn_n, cn_k, cn_k0, cn_r, cn_r0, cn_sr, cn_sr0, cn_si, nat3, q0, q1, q2, q3, q4, q5, q6, q7, q8, q9, q10, q11, q12, q13, q0, q1, q2, q3, q4, q5, q6, q7, q8, q9, q10, q11, q12, q13])
          | (refine ⟨_, kc_Asker B l h0 ac n (by omega) (upn (upn (cP n) (53 + 4 * n) (1 + 1)) 2 (n + 1)) (jm_u2 (jm_u2 (jm_u2 (iP n) (54 + 4 * n) 2 1) (53 + 4 * n) 2 0) (53 + 4 * n) 0 n) (fun a q => by rw [upn_n (by omega), upn_n (by omega)]; exact cP_z (by omega)) (fun a j q => by rw [u2n (by omega), u2n (by omega), u2n (by omega)]; exact iP_z (by omega)), ?_⟩; rintro h' rfl; try simp (disch := omega) only [e_Site_init_0, e_Site_init_1, e_Site_init_2, e_Site_init_3, e_Site_init_4, e_Site_init_5, e_Site_init_6, e_Site_init_7, e_Site_init_8, e_Site_init_9, e_Site_init_10, e_Site_init_11, e_Site_init_12, e_Site_init_13, e_Site_init_14, e_Site_init_15, e_Site_init_16a, e_Site_init_16b, e_Site_init_17, e_Site_init_18, e_Site_init_19, e_Site_init_20, c_Site_init_21, e_Site_init_21, e_Site_init_22, e_Site_init_23, e_Site_init_24, e_Site_init_25, e_Site_init_26, e_Site_init_27, e_Site_init_28a, e_Site_init_28b, e_Site_init_29, e_Site_init_30, e_Site_init_31, e_Site_init_32, e_Site_init_33, e_Site_init_34, c_Site_init_35, e_Site_init_35, e_Site_init_36, e_Site_init_37, e_Site_init_38, e_Site_init_39, e_Site_init_40, e_Site_init_41, e_Site_init_42a, e_Site_init_42b, e_Site_init_43, e_Site_init_44, e_Site_init_45, e_Site_init_46, e_Site_init_47, e_Site_init_48, e_Site_init_49, e_Site_init_50a, e_Site_init_50b, e_Site_init_51, e_Site_init_52, e_Site_init_53, e_Site_init_54, e_Site_init_55, e_Site_init_56, jm_ia, jm_na, jm_qa, jm_aa, jm_asg, jm_l4, jm_Kr, jm_okv, jm_rc, jm_bo, true_and, and_true, Nat.add_zero, Nat.le_refl, j_lt, j_le, j_eq, j_lt0, j_0lt, j_le0, j_0le, j_eq0, j_add, j_sub, j_mul, j_neg, j_0sub, j_nat, j_in, j_div, j_rem, Sum.inl.injEq, exists_eq', true_or, or_true, if_true, if_false, not_true_eq_false, not_false_eq_true, implies_true, j_eq1, reduceIte, Nat.reduceEqDiff, Int.reduceEq, Int.reduceToNat, Nat.reduceAdd, Int.reduceAdd, Int.reduceSub, Int.reduceMul, Int.reduceNeg, and_false, false_and, and_self, u2r, j_b0, j_b1, Classical.not_not, eq_self, true_implies, false_implies, not_true_eq_false, not_false_eq_true, Int.reduceLT, Int.reduceLE, cn_n, cn_k, cn_k0, cn_r, cn_r0, cn_sr, cn_sr0, cn_si, nat3, q0, q1, q2, q3, q4, q5, q6, q7, q8, q9, q10, q11, q12, q13, q0, q1, q2, q3, q4, q5, q6, q7, q8, q9, q10, q11, q12, q13])
        all_goals first
          | (refine ⟨_, ?_, Or.inl (⟨rfl, 0, _, _, rfl, rfl, rfl, rfl, rfl, rfl, ?_⟩)⟩ <;> first | omega | exact ⟨by omega, rfl, rfl⟩ | exact ⟨by omega, congrArg (stage ac) cQ_P, iP_0⟩)
          | (refine ⟨_, Or.inl (⟨rfl, 0, _, _, rfl, rfl, rfl, rfl, rfl, rfl, ?_⟩) ⟩ <;> first | omega | exact ⟨by omega, rfl, rfl⟩ | exact ⟨by omega, congrArg (stage ac) cQ_P, iP_0⟩)
          | (refine ⟨_, ?_, Or.inl (⟨rfl, (n + 1), _, _, rfl, rfl, rfl, rfl, rfl, rfl, ?_⟩)⟩ <;> first | omega | exact ⟨by omega, rfl, rfl⟩ | exact ⟨by omega, congrArg (stage ac) cQ_P, iP_0⟩)
          | (refine ⟨_, Or.inl (⟨rfl, (n + 1), _, _, rfl, rfl, rfl, rfl, rfl, rfl, ?_⟩) ⟩ <;> first | omega | exact ⟨by omega, rfl, rfl⟩ | exact ⟨by omega, congrArg (stage ac) cQ_P, iP_0⟩)
          | (refine ⟨_, ?_, Or.inr (⟨rfl, 0, _, _, rfl, rfl, rfl, rfl, rfl, rfl, ?_⟩)⟩ <;> first | omega | exact ⟨by omega, rfl, rfl⟩ | exact ⟨by omega, congrArg (stage ac) cQ_P, iP_0⟩)
          | (refine ⟨_, Or.inr (⟨rfl, 0, _, _, rfl, rfl, rfl, rfl, rfl, rfl, ?_⟩) ⟩ <;> first | omega | exact ⟨by omega, rfl, rfl⟩ | exact ⟨by omega, congrArg (stage ac) cQ_P, iP_0⟩)
          | (refine ⟨_, ?_, Or.inr (⟨rfl, (n + 1), _, _, rfl, rfl, rfl, rfl, rfl, rfl, ?_⟩)⟩ <;> first | omega | exact ⟨by omega, rfl, rfl⟩ | exact ⟨by omega, congrArg (stage ac) cQ_P, iP_0⟩)
          | (refine ⟨_, Or.inr (⟨rfl, (n + 1), _, _, rfl, rfl, rfl, rfl, rfl, rfl, ?_⟩) ⟩ <;> first | omega | exact ⟨by omega, rfl, rfl⟩ | exact ⟨by omega, congrArg (stage ac) cQ_P, iP_0⟩)
          | contradiction
          | exact trivial
          | rfl
          | omega
          | exact (bi1 (by omega)).symm
          | exact (bi0 (by omega)).symm
          | exact (bi1 (by assumption)).symm
          | exact (bi0 (by assumption)).symm
          | ((try unfold IN_); (repeat (first | rw [if_pos (by omega)] | rw [if_neg (by omega)])); done)
          | ((try unfold IN_); (repeat (first | rw [if_pos (by omega)] | rw [if_neg (by omega)])); rfl)
          | ((try unfold IN_); (repeat (first | rw [if_pos (by omega)] | rw [if_neg (by omega)] | rw [if_pos (by assumption)] | rw [if_neg (by assumption)])); rfl)
    · refine ⟨61, 35, ⟨_, _, rfl, rfl⟩, ?_⟩
      obtain ⟨k1, rfl, rfl⟩ := hc
      rcases (show n < 3 ∨ n = 3 by omega) with hi | hi
      · have q0 : KD (0) = .inl 7 := by unfold KD; (repeat (first | rw [if_pos (by omega)] | rw [if_neg (by omega)])); try rfl
        have q1 : KD (2) = .inr (8, 3) := by unfold KD; (repeat (first | rw [if_pos (by omega)] | rw [if_neg (by omega)])); try rfl
        have q2 : KD (3) = .inr (5, 3) := by unfold KD; (repeat (first | rw [if_pos (by omega)] | rw [if_neg (by omega)])); try rfl
        have q3 : KD (53 + 4 * n) = .inl 4 := by unfold KD; (repeat (first | rw [if_pos (by omega)] | rw [if_neg (by omega)])); try rfl
        have q4 : jm_nw (cn_ h0 ac (53 + 4 * n) (stage ac (cP n)) (iP n)) (.inl 4) = (cn_ h0 ac (54 + 4 * n) (stage ac (cP n)) (iP n)) := cn_nw (by omega) (by unfold KD; (repeat (first | rw [if_pos (by omega)] | rw [if_neg (by omega)])); try rfl) (fun j => stage_n (by (repeat rw [upn_n (by omega)]); try exact cP_z (by omega))) (fun j => by (repeat rw [u2n (by omega)]); try exact iP_z (by omega))
        have q5 : stage ac (cP n) 0 1 = some (ac + 2) := (stage_r (by rw [(cP_1 n).1]; omega)).trans (rho_0 ac (by omega))
        have q6 : jm_u2 (stage ac (upn (cP n) (53 + 4 * n) (1 + 1))) 2 n (some (ac + (53 + 4 * n))) = stage ac (upn (upn (cP n) (53 + 4 * n) (1 + 1)) 2 (n + 1)) := stage_u (by rw [upn_n (by omega), (cP_1 n).2.1]; omega) (rho_2 ac (by omega)) (fun i h1 h2 => by rw [upn_n (by omega), (cP_1 n).2.1] at h2; omega)
        have q7 : stage ac (upn (upn (cP n) (53 + 4 * n) (1 + 1)) 2 (n + 1)) 0 2 = some (ac + 3) := (stage_r (by rw [upn_n (by omega), upn_n (by omega), (cP_1 n).1]; omega)).trans (rho_0 ac (by omega))
        have q8 : KD (55 + 4 * n) = .inl 1 := by unfold KD; (repeat (first | rw [if_pos (by omega)] | rw [if_neg (by omega)])); try rfl
        have q9 : jm_nw (cn_ h0 ac (55 + 4 * n) (stage ac (upn (upn (cP n) (53 + 4 * n) (1 + 1)) 2 (n + 1))) (jm_u2 (jm_u2 (jm_u2 (iP n) (54 + 4 * n) 2 1) (53 + 4 * n) 2 0) (53 + 4 * n) 0 n)) (.inl 1) = (cn_ h0 ac (56 + 4 * n) (stage ac (upn (upn (cP n) (53 + 4 * n) (1 + 1)) 2 (n + 1))) (jm_u2 (jm_u2 (jm_u2 (iP n) (54 + 4 * n) 2 1) (53 + 4 * n) 2 0) (53 + 4 * n) 0 n)) := cn_nw (by omega) (by unfold KD; (repeat (first | rw [if_pos (by omega)] | rw [if_neg (by omega)])); try rfl) (fun j => stage_n (by (repeat rw [upn_n (by omega)]); try exact cP_z (by omega))) (fun j => by (repeat rw [u2n (by omega)]); try exact iP_z (by omega))
        have q10 : jm_u2 (stage ac (upn (upn (upn (cP n) (53 + 4 * n) (1 + 1)) 2 (n + 1)) (55 + 4 * n) (1 + 1))) 3 n (some (ac + (55 + 4 * n))) = stage ac (cP (n + 1)) := by rw [stage_u (by rw [upn_n (by omega), upn_n (by omega), upn_n (by omega), (cP_1 n).2.2]; omega) (rho_3 ac (by omega)) (fun i h1 h2 => by rw [upn_n (by omega), upn_n (by omega), upn_n (by omega), (cP_1 n).2.2] at h2; omega), cP_s]
        have q11 : jm_u2 (jm_u2 (jm_u2 (jm_u2 (jm_u2 (jm_u2 (iP n) (54 + 4 * n) 2 1) (53 + 4 * n) 2 0) (53 + 4 * n) 0 n) (56 + 4 * n) 2 1) (55 + 4 * n) 2 0) (55 + 4 * n) 0 n = iP (n + 1) := iP_s n
        have q12 : (57 + 4 * n) = 53 + 4 * (n + 1) := by omega
        have q13 : True := trivial
        simp (disch := omega) only [e_Site_init_0, e_Site_init_1, e_Site_init_2, e_Site_init_3, e_Site_init_4, e_Site_init_5, e_Site_init_6, e_Site_init_7, e_Site_init_8, e_Site_init_9, e_Site_init_10, e_Site_init_11, e_Site_init_12, e_Site_init_13, e_Site_init_14, e_Site_init_15, e_Site_init_16a, e_Site_init_16b, e_Site_init_17, e_Site_init_18, e_Site_init_19, e_Site_init_20, c_Site_init_21, e_Site_init_21, e_Site_init_22, e_Site_init_23, e_Site_init_24, e_Site_init_25, e_Site_init_26, e_Site_init_27, e_Site_init_28a, e_Site_init_28b, e_Site_init_29, e_Site_init_30, e_Site_init_31, e_Site_init_32, e_Site_init_33, e_Site_init_34, c_Site_init_35, e_Site_init_35, e_Site_init_36, e_Site_init_37, e_Site_init_38, e_Site_init_39, e_Site_init_40, e_Site_init_41, e_Site_init_42a, e_Site_init_42b, e_Site_init_43, e_Site_init_44, e_Site_init_45, e_Site_init_46, e_Site_init_47, e_Site_init_48, e_Site_init_49, e_Site_init_50a, e_Site_init_50b, e_Site_init_51, e_Site_init_52, e_Site_init_53, e_Site_init_54, e_Site_init_55, e_Site_init_56, jm_ia, jm_na, jm_qa, jm_aa, jm_asg, jm_l4, jm_Kr, jm_okv, jm_rc, jm_bo, true_and, and_true, Nat.add_zero, Nat.le_refl, j_lt, j_le, j_eq, j_lt0, j_0lt, j_le0, j_0le, j_eq0, j_add, j_sub, j_mul, j_neg, j_0sub, j_nat, j_in, j_div, j_rem, Sum.inl.injEq, exists_eq', true_or, or_true, if_true, if_false, not_true_eq_false, not_false_eq_true, implies_true, j_eq1, reduceIte, Nat.reduceEqDiff, Int.reduceEq, Int.reduceToNat, Nat.reduceAdd, Int.reduceAdd, Int.reduceSub, Int.reduceMul, Int.reduceNeg, and_false, false_and, and_self, u2r, j_b0, j_b1, Classical.not_not, eq_self, true_implies, false_implies, not_true_eq_false, not_false_eq_true, Int.reduceLT, Int.reduceLE, cn_n, cn_k, cn_k0, cn_r, cn_r0, cn_sr, cn_sr0, cn_si, nat3, q0, q1, q2, q3, q4, q5, q6, q7, q8, q9, q10, q11, q12, q13, q0, q1, q2, q3, q4, q5, q6, q7, q8, q9, q10, q11, q12, q13]
        repeat' first
          | apply And.intro
          | (intro _)
          | (refine ⟨_, kc_Bus B l h0 ac (upn (fun _ => 0) 0 3) (fun _ _ => 0) (fun a q => upn_n (by omega)) (fun _ _ _ => rfl), ?_⟩; rintro h' rfl; try simp (disch := omega) only [e_Site_init_0, e_Site_init_1, e_Site_init_2, e_Site_init_3, e_Site_init_4, e_Site_init_5, e_Site_init_6, e_Site_init_7, e_Site_init_8, e_Site_init_9, e_Site_init_10, e_Site_init_11, e_Site_init_12, e_Site_init_13, e_Site_init_14, e_Site_init_15, e_Site_init_16a, e_Site_init_16b, e_Site_init_17, e_Site_init_18, e_Site_init_19, e_Site_init_20, c_Site_init_21, e_Site_init_21, e_Site_init_22, e_Site_init_23, e_Site_init_24, e_Site_init_25, e_Site_init_26, e_Site_init_27, e_Site_init_28a, e_Site_init_28b, e_Site_init_29, e_Site_init_30, e_Site_init_31, e_Site_init_32, e_Site_init_33, e_Site_init_34, c_Site_init_35, e_Site_init_35, e_Site_init_36, e_Site_init_37, e_Site_init_38, e_Site_init_39, e_Site_init_40, e_Site_init_41, e_Site_init_42a, e_Site_init_42b, e_Site_init_43, e_Site_init_44, e_Site_init_45, e_Site_init_46, e_Site_init_47, e_Site_init_48, e_Site_init_49, e_Site_init_50a, e_Site_init_50b, e_Site_init_51, e_Site_init_52, e_Site_init_53, e_Site_init_54, e_Site_init_55, e_Site_init_56, jm_ia, jm_na, jm_qa, jm_aa, jm_asg, jm_l4, jm_Kr, jm_okv, jm_rc, jm_bo, true_and, and_true, Nat.add_zero, Nat.le_refl, j_lt, j_le, j_eq, j_lt0, j_0lt, j_le0, j_0le, j_eq0, j_add, j_sub, j_mul, j_neg, j_0sub, j_nat, j_in, j_div, j_rem, Sum.inl.injEq, exists_eq', true_or, or_true, if_true, if_false, not_true_eq_false, not_false_eq_true, implies_true, j_eq1, reduceIte, Nat.reduceEqDiff, Int.reduceEq, Int.reduceToNat, Nat.reduceAdd, Int.reduceAdd, Int.reduceSub, Int.reduceMul, Int.reduceNeg, and_false, false_and, and_self, u2r, j_b0, j_b1, Classical.not_not, eq_self, true_implies, false_implies, not_true_eq_false, not_false_eq_true, Int.reduceLT, Int.reduceLE, cn_n, cn_k, cn_k0, cn_r, cn_r0, cn_sr, cn_sr0, cn_si, nat3, q0, q1, q2, q3, q4, q5, q6, q7, q8, q9, q10, q11, q12, q13, q0, q1, q2, q3, q4, q5, q6, q7, q8, q9, q10, q11, q12, q13])
          | (refine ⟨_, kc_Crane B l h0 ac n (by omega) (cQ n) (fun _ _ => 0) (fun a q => cQ_z (by omega)) (fun _ _ _ => rfl), ?_⟩; rintro h' rfl; try simp (disch := omega) only [e_Site_init_0, e_Site_init_1, e_Site_init_2, e_Site_init_3, e_Site_init_4, e_Site_init_5, e_Site_init_6, e_Site_init_7, e_Site_init_8, e_Site_init_9, e_Site_init_10, e_Site_init_11, e_Site_init_12, e_Site_init_13, e_Site_init_14, e_Site_init_15, e_Site_init_16a, e_Site_init_16b, e_Site_init_17, e_Site_init_18, e_Site_init_19, e_Site_init_20, c_Site_init_21, e_Site_init_21, e_Site_init_22, e_Site_init_23, e_Site_init_24, e_Site_init_25, e_Site_init_26, e_Site_init_27, e_Site_init_28a, e_Site_init_28b, e_Site_init_29, e_Site_init_30, e_Site_init_31, e_Site_init_32, e_Site_init_33, e_Site_init_34, c_Site_init_35, e_Site_init_35, e_Site_init_36, e_Site_init_37, e_Site_init_38, e_Site_init_39, e_Site_init_40, e_Site_init_41, e_Site_init_42a, e_Site_init_42b, e_Site_init_43, e_Site_init_44, e_Site_init_45, e_Site_init_46, e_Site_init_47, e_Site_init_48, e_Site_init_49, e_Site_init_50a, e_Site_init_50b, e_Site_init_51, e_Site_init_52, e_Site_init_53, e_Site_init_54, e_Site_init_55, e_Site_init_56, jm_ia, jm_na, jm_qa, jm_aa, jm_asg, jm_l4, jm_Kr, jm_okv, jm_rc, jm_bo, true_and, and_true, Nat.add_zero, Nat.le_refl, j_lt, j_le, j_eq, j_lt0, j_0lt, j_le0, j_0le, j_eq0, j_add, j_sub, j_mul, j_neg, j_0sub, j_nat, j_in, j_div, j_rem, Sum.inl.injEq, exists_eq', true_or, or_true, if_true, if_false, not_true_eq_false, not_false_eq_true, implies_true, j_eq1, reduceIte, Nat.reduceEqDiff, Int.reduceEq, Int.reduceToNat, Nat.reduceAdd, Int.reduceAdd, Int.reduceSub, Int.reduceMul, Int.reduceNeg, and_false, false_and, and_self, u2r, j_b0, j_b1, Classical.not_not, eq_self, true_implies, false_implies, not_true_eq_false, not_false_eq_true, Int.reduceLT, Int.reduceLE, cn_n, cn_k, cn_k0, cn_r, cn_r0, cn_sr, cn_sr0, cn_si, nat3, q0, q1, q2, q3, q4, q5, q6, q7, q8, q9, q10, q11, q12, q13, q0, q1, q2, q3, q4, q5, q6, q7, q8, q9, q10, q11, q12, q13])
          | (refine ⟨_, kc_Keeper B l h0 ac n (by omega) (cP n) (iP n) (fun a q => cP_z (by omega)) (fun _ _ _ => iP_z (by omega)), ?_⟩; rintro h' rfl; try simp (disch := omega) only [e_Site_init_0, e_Site_init_1, e_Site_init_2, e_Site_init_3, e_Site_init_4, e_Site_init_5, e_Site_init_6, e_Site_init_7, e_Site_init_8, e_Site_init_9, e_Site_init_10, e_Site_init_11, e_Site_init_12, e_Site_init_13, e_Site_init_14, e_Site_init_15, e_Site_init_16a, e_Site_init_16b, e_Site_init_17, e_Site_init_18, e_Site_init_19, e_Site_init_20, c_Site_init_21, e_Site_init_21, e_Site_init_22, e_Site_init_23, e_Site_init_24, e_Site_init_25, e_Site_init_26, e_Site_init_27, e_Site_init_28a, e_Site_init_28b, e_Site_init_29, e_Site_init_30, e_Site_init_31, e_Site_init_32, e_Site_init_33, e_Site_init_34, c_Site_init_35, e_Site_init_35, e_Site_init_36, e_Site_init_37, e_Site_init_38, e_Site_init_39, e_Site_init_40, e_Site_init_41, e_Site_init_42a, e_Site_init_42b, e_Site_init_43, e_Site_init_44, e_Site_init_45, e_Site_init_46, e_Site_init_47, e_Site_init_48, e_Site_init_49, e_Site_init_50a, e_Site_init_50b, e_Site_init_51, e_Site_init_52, e_Site_init_53, e_Site_init_54, e_Site_init_55, e_Site_init_56, jm_ia, jm_na, jm_qa, jm_aa, jm_asg, jm_l4, jm_Kr, jm_okv, jm_rc, jm_bo, true_and, and_true, Nat.add_zero, Nat.le_refl, j_lt, j_le, j_eq, j_lt0, j_0lt, j_le0, j_0le, j_eq0, j_add, j_sub, j_mul, j_neg, j_0sub, j_nat, j_in, j_div, j_rem, Sum.inl.injEq, exists_eq', true_or, or_true, if_true, if_false, not_true_eq_false, not_false_eq_true, implies_true, j_eq1, reduceIte, Nat.reduceEqDiff, Int.reduceEq, Int.reduceToNat, Nat.reduceAdd, Int.reduceAdd, Int.reduceSub, Int.reduceMul, Int.reduceNeg, and_false, false_and, and_self, u2r, j_b0, j_b1, Classical.not_not, eq_self, true_implies, false_implies, not_true_eq_false, not_false_eq_true, Int.reduceLT, Int.reduceLE, cn_n, cn_k, cn_k0, cn_r, cn_r0, cn_sr, cn_sr0, cn_si, nat3, q0, q1, q2, q3, q4, q5, q6, q7, q8, q9, q10, q11, q12, q13, q0, q1, q2, q3, q4, q5, q6, q7, q8, q9, q10, q11, q12, q13])
          | (refine ⟨_, kc_Asker B l h0 ac n (by omega) (upn (upn (cP n) (53 + 4 * n) (1 + 1)) 2 (n + 1)) (jm_u2 (jm_u2 (jm_u2 (iP n) (54 + 4 * n) 2 1) (53 + 4 * n) 2 0) (53 + 4 * n) 0 n) (fun a q => by rw [upn_n (by omega), upn_n (by omega)]; exact cP_z (by omega)) (fun a j q => by rw [u2n (by omega), u2n (by omega), u2n (by omega)]; exact iP_z (by omega)), ?_⟩; rintro h' rfl; try simp (disch := omega) only [e_Site_init_0, e_Site_init_1, e_Site_init_2, e_Site_init_3, e_Site_init_4, e_Site_init_5, e_Site_init_6, e_Site_init_7, e_Site_init_8, e_Site_init_9, e_Site_init_10, e_Site_init_11, e_Site_init_12, e_Site_init_13, e_Site_init_14, e_Site_init_15, e_Site_init_16a, e_Site_init_16b, e_Site_init_17, e_Site_init_18, e_Site_init_19, e_Site_init_20, c_Site_init_21, e_Site_init_21, e_Site_init_22, e_Site_init_23, e_Site_init_24, e_Site_init_25, e_Site_init_26, e_Site_init_27, e_Site_init_28a, e_Site_init_28b, e_Site_init_29, e_Site_init_30, e_Site_init_31, e_Site_init_32, e_Site_init_33, e_Site_init_34, c_Site_init_35, e_Site_init_35, e_Site_init_36, e_Site_init_37, e_Site_init_38, e_Site_init_39, e_Site_init_40, e_Site_init_41, e_Site_init_42a, e_Site_init_42b, e_Site_init_43, e_Site_init_44, e_Site_init_45, e_Site_init_46, e_Site_init_47, e_Site_init_48, e_Site_init_49, e_Site_init_50a, e_Site_init_50b, e_Site_init_51, e_Site_init_52, e_Site_init_53, e_Site_init_54, e_Site_init_55, e_Site_init_56, jm_ia, jm_na, jm_qa, jm_aa, jm_asg, jm_l4, jm_Kr, jm_okv, jm_rc, jm_bo, true_and, and_true, Nat.add_zero, Nat.le_refl, j_lt, j_le, j_eq, j_lt0, j_0lt, j_le0, j_0le, j_eq0, j_add, j_sub, j_mul, j_neg, j_0sub, j_nat, j_in, j_div, j_rem, Sum.inl.injEq, exists_eq', true_or, or_true, if_true, if_false, not_true_eq_false, not_false_eq_true, implies_true, j_eq1, reduceIte, Nat.reduceEqDiff, Int.reduceEq, Int.reduceToNat, Nat.reduceAdd, Int.reduceAdd, Int.reduceSub, Int.reduceMul, Int.reduceNeg, and_false, false_and, and_self, u2r, j_b0, j_b1, Classical.not_not, eq_self, true_implies, false_implies, not_true_eq_false, not_false_eq_true, Int.reduceLT, Int.reduceLE, cn_n, cn_k, cn_k0, cn_r, cn_r0, cn_sr, cn_sr0, cn_si, nat3, q0, q1, q2, q3, q4, q5, q6, q7, q8, q9, q10, q11, q12, q13, q0, q1, q2, q3, q4, q5, q6, q7, q8, q9, q10, q11, q12, q13])
        all_goals first
          | (refine ⟨_, ?_, Or.inl (⟨rfl, 0, _, _, rfl, rfl, rfl, rfl, rfl, rfl, ?_⟩)⟩ <;> first | omega | exact ⟨by omega, rfl, rfl⟩ | exact ⟨by omega, congrArg (stage ac) cQ_P, iP_0⟩)
          | (refine ⟨_, Or.inl (⟨rfl, 0, _, _, rfl, rfl, rfl, rfl, rfl, rfl, ?_⟩) ⟩ <;> first | omega | exact ⟨by omega, rfl, rfl⟩ | exact ⟨by omega, congrArg (stage ac) cQ_P, iP_0⟩)
          | (refine ⟨_, ?_, Or.inl (⟨rfl, (n + 1), _, _, rfl, rfl, rfl, rfl, rfl, rfl, ?_⟩)⟩ <;> first | omega | exact ⟨by omega, rfl, rfl⟩ | exact ⟨by omega, congrArg (stage ac) cQ_P, iP_0⟩)
          | (refine ⟨_, Or.inl (⟨rfl, (n + 1), _, _, rfl, rfl, rfl, rfl, rfl, rfl, ?_⟩) ⟩ <;> first | omega | exact ⟨by omega, rfl, rfl⟩ | exact ⟨by omega, congrArg (stage ac) cQ_P, iP_0⟩)
          | (refine ⟨_, ?_, Or.inr (⟨rfl, 0, _, _, rfl, rfl, rfl, rfl, rfl, rfl, ?_⟩)⟩ <;> first | omega | exact ⟨by omega, rfl, rfl⟩ | exact ⟨by omega, congrArg (stage ac) cQ_P, iP_0⟩)
          | (refine ⟨_, Or.inr (⟨rfl, 0, _, _, rfl, rfl, rfl, rfl, rfl, rfl, ?_⟩) ⟩ <;> first | omega | exact ⟨by omega, rfl, rfl⟩ | exact ⟨by omega, congrArg (stage ac) cQ_P, iP_0⟩)
          | (refine ⟨_, ?_, Or.inr (⟨rfl, (n + 1), _, _, rfl, rfl, rfl, rfl, rfl, rfl, ?_⟩)⟩ <;> first | omega | exact ⟨by omega, rfl, rfl⟩ | exact ⟨by omega, congrArg (stage ac) cQ_P, iP_0⟩)
          | (refine ⟨_, Or.inr (⟨rfl, (n + 1), _, _, rfl, rfl, rfl, rfl, rfl, rfl, ?_⟩) ⟩ <;> first | omega | exact ⟨by omega, rfl, rfl⟩ | exact ⟨by omega, congrArg (stage ac) cQ_P, iP_0⟩)
          | contradiction
          | exact trivial
          | rfl
          | omega
          | exact (bi1 (by omega)).symm
          | exact (bi0 (by omega)).symm
          | exact (bi1 (by assumption)).symm
          | exact (bi0 (by assumption)).symm
          | ((try unfold IN_); (repeat (first | rw [if_pos (by omega)] | rw [if_neg (by omega)])); done)
          | ((try unfold IN_); (repeat (first | rw [if_pos (by omega)] | rw [if_neg (by omega)])); rfl)
          | ((try unfold IN_); (repeat (first | rw [if_pos (by omega)] | rw [if_neg (by omega)] | rw [if_pos (by assumption)] | rw [if_neg (by assumption)])); rfl)
      · obtain rfl : n = 3 := by omega
        have q0 : True := trivial
        have q1 : True := trivial
        have q2 : True := trivial
        have q3 : True := trivial
        have q4 : True := trivial
        have q5 : True := trivial
        have q6 : True := trivial
        have q7 : True := trivial
        have q8 : True := trivial
        have q9 : True := trivial
        have q10 : True := trivial
        have q11 : True := trivial
        have q12 : True := trivial
        have q13 : True := trivial
        simp (disch := omega) only [e_Site_init_0, e_Site_init_1, e_Site_init_2, e_Site_init_3, e_Site_init_4, e_Site_init_5, e_Site_init_6, e_Site_init_7, e_Site_init_8, e_Site_init_9, e_Site_init_10, e_Site_init_11, e_Site_init_12, e_Site_init_13, e_Site_init_14, e_Site_init_15, e_Site_init_16a, e_Site_init_16b, e_Site_init_17, e_Site_init_18, e_Site_init_19, e_Site_init_20, c_Site_init_21, e_Site_init_21, e_Site_init_22, e_Site_init_23, e_Site_init_24, e_Site_init_25, e_Site_init_26, e_Site_init_27, e_Site_init_28a, e_Site_init_28b, e_Site_init_29, e_Site_init_30, e_Site_init_31, e_Site_init_32, e_Site_init_33, e_Site_init_34, c_Site_init_35, e_Site_init_35, e_Site_init_36, e_Site_init_37, e_Site_init_38, e_Site_init_39, e_Site_init_40, e_Site_init_41, e_Site_init_42a, e_Site_init_42b, e_Site_init_43, e_Site_init_44, e_Site_init_45, e_Site_init_46, e_Site_init_47, e_Site_init_48, e_Site_init_49, e_Site_init_50a, e_Site_init_50b, e_Site_init_51, e_Site_init_52, e_Site_init_53, e_Site_init_54, e_Site_init_55, e_Site_init_56, jm_ia, jm_na, jm_qa, jm_aa, jm_asg, jm_l4, jm_Kr, jm_okv, jm_rc, jm_bo, true_and, and_true, Nat.add_zero, Nat.le_refl, j_lt, j_le, j_eq, j_lt0, j_0lt, j_le0, j_0le, j_eq0, j_add, j_sub, j_mul, j_neg, j_0sub, j_nat, j_in, j_div, j_rem, Sum.inl.injEq, exists_eq', true_or, or_true, if_true, if_false, not_true_eq_false, not_false_eq_true, implies_true, j_eq1, reduceIte, Nat.reduceEqDiff, Int.reduceEq, Int.reduceToNat, Nat.reduceAdd, Int.reduceAdd, Int.reduceSub, Int.reduceMul, Int.reduceNeg, and_false, false_and, and_self, u2r, j_b0, j_b1, Classical.not_not, eq_self, true_implies, false_implies, not_true_eq_false, not_false_eq_true, Int.reduceLT, Int.reduceLE, cn_n, cn_k, cn_k0, cn_r, cn_r0, cn_sr, cn_sr0, cn_si, nat3, q0, q1, q2, q3, q4, q5, q6, q7, q8, q9, q10, q11, q12, q13, q0, q1, q2, q3, q4, q5, q6, q7, q8, q9, q10, q11, q12, q13]
        repeat' first
          | apply And.intro
          | (intro _)
          | (refine ⟨_, kc_Bus B l h0 ac (upn (fun _ => 0) 0 3) (fun _ _ => 0) (fun a q => upn_n (by omega)) (fun _ _ _ => rfl), ?_⟩; rintro h' rfl; try simp (disch := omega) only [e_Site_init_0, e_Site_init_1, e_Site_init_2, e_Site_init_3, e_Site_init_4, e_Site_init_5, e_Site_init_6, e_Site_init_7, e_Site_init_8, e_Site_init_9, e_Site_init_10, e_Site_init_11, e_Site_init_12, e_Site_init_13, e_Site_init_14, e_Site_init_15, e_Site_init_16a, e_Site_init_16b, e_Site_init_17, e_Site_init_18, e_Site_init_19, e_Site_init_20, c_Site_init_21, e_Site_init_21, e_Site_init_22, e_Site_init_23, e_Site_init_24, e_Site_init_25, e_Site_init_26, e_Site_init_27, e_Site_init_28a, e_Site_init_28b, e_Site_init_29, e_Site_init_30, e_Site_init_31, e_Site_init_32, e_Site_init_33, e_Site_init_34, c_Site_init_35, e_Site_init_35, e_Site_init_36, e_Site_init_37, e_Site_init_38, e_Site_init_39, e_Site_init_40, e_Site_init_41, e_Site_init_42a, e_Site_init_42b, e_Site_init_43, e_Site_init_44, e_Site_init_45, e_Site_init_46, e_Site_init_47, e_Site_init_48, e_Site_init_49, e_Site_init_50a, e_Site_init_50b, e_Site_init_51, e_Site_init_52, e_Site_init_53, e_Site_init_54, e_Site_init_55, e_Site_init_56, jm_ia, jm_na, jm_qa, jm_aa, jm_asg, jm_l4, jm_Kr, jm_okv, jm_rc, jm_bo, true_and, and_true, Nat.add_zero, Nat.le_refl, j_lt, j_le, j_eq, j_lt0, j_0lt, j_le0, j_0le, j_eq0, j_add, j_sub, j_mul, j_neg, j_0sub, j_nat, j_in, j_div, j_rem, Sum.inl.injEq, exists_eq', true_or, or_true, if_true, if_false, not_true_eq_false, not_false_eq_true, implies_true, j_eq1, reduceIte, Nat.reduceEqDiff, Int.reduceEq, Int.reduceToNat, Nat.reduceAdd, Int.reduceAdd, Int.reduceSub, Int.reduceMul, Int.reduceNeg, and_false, false_and, and_self, u2r, j_b0, j_b1, Classical.not_not, eq_self, true_implies, false_implies, not_true_eq_false, not_false_eq_true, Int.reduceLT, Int.reduceLE, cn_n, cn_k, cn_k0, cn_r, cn_r0, cn_sr, cn_sr0, cn_si, nat3, q0, q1, q2, q3, q4, q5, q6, q7, q8, q9, q10, q11, q12, q13, q0, q1, q2, q3, q4, q5, q6, q7, q8, q9, q10, q11, q12, q13])
          | (refine ⟨_, kc_Crane B l h0 ac n (by omega) (cQ n) (fun _ _ => 0) (fun a q => cQ_z (by omega)) (fun _ _ _ => rfl), ?_⟩; rintro h' rfl; try simp (disch := omega) only [e_Site_init_0, e_Site_init_1, e_Site_init_2, e_Site_init_3, e_Site_init_4, e_Site_init_5, e_Site_init_6, e_Site_init_7, e_Site_init_8, e_Site_init_9, e_Site_init_10, e_Site_init_11, e_Site_init_12, e_Site_init_13, e_Site_init_14, e_Site_init_15, e_Site_init_16a, e_Site_init_16b, e_Site_init_17, e_Site_init_18, e_Site_init_19, e_Site_init_20, c_Site_init_21, e_Site_init_21, e_Site_init_22, e_Site_init_23, e_Site_init_24, e_Site_init_25, e_Site_init_26, e_Site_init_27, e_Site_init_28a, e_Site_init_28b, e_Site_init_29, e_Site_init_30, e_Site_init_31, e_Site_init_32, e_Site_init_33, e_Site_init_34, c_Site_init_35, e_Site_init_35, e_Site_init_36, e_Site_init_37, e_Site_init_38, e_Site_init_39, e_Site_init_40, e_Site_init_41, e_Site_init_42a, e_Site_init_42b, e_Site_init_43, e_Site_init_44, e_Site_init_45, e_Site_init_46, e_Site_init_47, e_Site_init_48, e_Site_init_49, e_Site_init_50a, e_Site_init_50b, e_Site_init_51, e_Site_init_52, e_Site_init_53, e_Site_init_54, e_Site_init_55, e_Site_init_56, jm_ia, jm_na, jm_qa, jm_aa, jm_asg, jm_l4, jm_Kr, jm_okv, jm_rc, jm_bo, true_and, and_true, Nat.add_zero, Nat.le_refl, j_lt, j_le, j_eq, j_lt0, j_0lt, j_le0, j_0le, j_eq0, j_add, j_sub, j_mul, j_neg, j_0sub, j_nat, j_in, j_div, j_rem, Sum.inl.injEq, exists_eq', true_or, or_true, if_true, if_false, not_true_eq_false, not_false_eq_true, implies_true, j_eq1, reduceIte, Nat.reduceEqDiff, Int.reduceEq, Int.reduceToNat, Nat.reduceAdd, Int.reduceAdd, Int.reduceSub, Int.reduceMul, Int.reduceNeg, and_false, false_and, and_self, u2r, j_b0, j_b1, Classical.not_not, eq_self, true_implies, false_implies, not_true_eq_false, not_false_eq_true, Int.reduceLT, Int.reduceLE, cn_n, cn_k, cn_k0, cn_r, cn_r0, cn_sr, cn_sr0, cn_si, nat3, q0, q1, q2, q3, q4, q5, q6, q7, q8, q9, q10, q11, q12, q13, q0, q1, q2, q3, q4, q5, q6, q7, q8, q9, q10, q11, q12, q13])
          | (refine ⟨_, kc_Keeper B l h0 ac n (by omega) (cP n) (iP n) (fun a q => cP_z (by omega)) (fun _ _ _ => iP_z (by omega)), ?_⟩; rintro h' rfl; try simp (disch := omega) only [e_Site_init_0, e_Site_init_1, e_Site_init_2, e_Site_init_3, e_Site_init_4, e_Site_init_5, e_Site_init_6, e_Site_init_7, e_Site_init_8, e_Site_init_9, e_Site_init_10, e_Site_init_11, e_Site_init_12, e_Site_init_13, e_Site_init_14, e_Site_init_15, e_Site_init_16a, e_Site_init_16b, e_Site_init_17, e_Site_init_18, e_Site_init_19, e_Site_init_20, c_Site_init_21, e_Site_init_21, e_Site_init_22, e_Site_init_23, e_Site_init_24, e_Site_init_25, e_Site_init_26, e_Site_init_27, e_Site_init_28a, e_Site_init_28b, e_Site_init_29, e_Site_init_30, e_Site_init_31, e_Site_init_32, e_Site_init_33, e_Site_init_34, c_Site_init_35, e_Site_init_35, e_Site_init_36, e_Site_init_37, e_Site_init_38, e_Site_init_39, e_Site_init_40, e_Site_init_41, e_Site_init_42a, e_Site_init_42b, e_Site_init_43, e_Site_init_44, e_Site_init_45, e_Site_init_46, e_Site_init_47, e_Site_init_48, e_Site_init_49, e_Site_init_50a, e_Site_init_50b, e_Site_init_51, e_Site_init_52, e_Site_init_53, e_Site_init_54, e_Site_init_55, e_Site_init_56, jm_ia, jm_na, jm_qa, jm_aa, jm_asg, jm_l4, jm_Kr, jm_okv, jm_rc, jm_bo, true_and, and_true, Nat.add_zero, Nat.le_refl, j_lt, j_le, j_eq, j_lt0, j_0lt, j_le0, j_0le, j_eq0, j_add, j_sub, j_mul, j_neg, j_0sub, j_nat, j_in, j_div, j_rem, Sum.inl.injEq, exists_eq', true_or, or_true, if_true, if_false, not_true_eq_false, not_false_eq_true, implies_true, j_eq1, reduceIte, Nat.reduceEqDiff, Int.reduceEq, Int.reduceToNat, Nat.reduceAdd, Int.reduceAdd, Int.reduceSub, Int.reduceMul, Int.reduceNeg, and_false, false_and, and_self, u2r, j_b0, j_b1, Classical.not_not, eq_self, true_implies, false_implies, not_true_eq_false, not_false_eq_true, Int.reduceLT, Int.reduceLE, cn_n, cn_k, cn_k0, cn_r, cn_r0, cn_sr, cn_sr0, cn_si, nat3, q0, q1, q2, q3, q4, q5, q6, q7, q8, q9, q10, q11, q12, q13, q0, q1, q2, q3, q4, q5, q6, q7, q8, q9, q10, q11, q12, q13])
          | (refine ⟨_, kc_Asker B l h0 ac n (by omega) (upn (upn (cP n) (53 + 4 * n) (1 + 1)) 2 (n + 1)) (jm_u2 (jm_u2 (jm_u2 (iP n) (54 + 4 * n) 2 1) (53 + 4 * n) 2 0) (53 + 4 * n) 0 n) (fun a q => by rw [upn_n (by omega), upn_n (by omega)]; exact cP_z (by omega)) (fun a j q => by rw [u2n (by omega), u2n (by omega), u2n (by omega)]; exact iP_z (by omega)), ?_⟩; rintro h' rfl; try simp (disch := omega) only [e_Site_init_0, e_Site_init_1, e_Site_init_2, e_Site_init_3, e_Site_init_4, e_Site_init_5, e_Site_init_6, e_Site_init_7, e_Site_init_8, e_Site_init_9, e_Site_init_10, e_Site_init_11, e_Site_init_12, e_Site_init_13, e_Site_init_14, e_Site_init_15, e_Site_init_16a, e_Site_init_16b, e_Site_init_17, e_Site_init_18, e_Site_init_19, e_Site_init_20, c_Site_init_21, e_Site_init_21, e_Site_init_22, e_Site_init_23, e_Site_init_24, e_Site_init_25, e_Site_init_26, e_Site_init_27, e_Site_init_28a, e_Site_init_28b, e_Site_init_29, e_Site_init_30, e_Site_init_31, e_Site_init_32, e_Site_init_33, e_Site_init_34, c_Site_init_35, e_Site_init_35, e_Site_init_36, e_Site_init_37, e_Site_init_38, e_Site_init_39, e_Site_init_40, e_Site_init_41, e_Site_init_42a, e_Site_init_42b, e_Site_init_43, e_Site_init_44, e_Site_init_45, e_Site_init_46, e_Site_init_47, e_Site_init_48, e_Site_init_49, e_Site_init_50a, e_Site_init_50b, e_Site_init_51, e_Site_init_52, e_Site_init_53, e_Site_init_54, e_Site_init_55, e_Site_init_56, jm_ia, jm_na, jm_qa, jm_aa, jm_asg, jm_l4, jm_Kr, jm_okv, jm_rc, jm_bo, true_and, and_true, Nat.add_zero, Nat.le_refl, j_lt, j_le, j_eq, j_lt0, j_0lt, j_le0, j_0le, j_eq0, j_add, j_sub, j_mul, j_neg, j_0sub, j_nat, j_in, j_div, j_rem, Sum.inl.injEq, exists_eq', true_or, or_true, if_true, if_false, not_true_eq_false, not_false_eq_true, implies_true, j_eq1, reduceIte, Nat.reduceEqDiff, Int.reduceEq, Int.reduceToNat, Nat.reduceAdd, Int.reduceAdd, Int.reduceSub, Int.reduceMul, Int.reduceNeg, and_false, false_and, and_self, u2r, j_b0, j_b1, Classical.not_not, eq_self, true_implies, false_implies, not_true_eq_false, not_false_eq_true, Int.reduceLT, Int.reduceLE, cn_n, cn_k, cn_k0, cn_r, cn_r0, cn_sr, cn_sr0, cn_si, nat3, q0, q1, q2, q3, q4, q5, q6, q7, q8, q9, q10, q11, q12, q13, q0, q1, q2, q3, q4, q5, q6, q7, q8, q9, q10, q11, q12, q13])
        all_goals first
          | (refine ⟨_, ?_, Or.inl (⟨rfl, 0, _, _, rfl, rfl, rfl, rfl, rfl, rfl, ?_⟩)⟩ <;> first | omega | exact ⟨by omega, rfl, rfl⟩ | exact ⟨by omega, congrArg (stage ac) cQ_P, iP_0⟩)
          | (refine ⟨_, Or.inl (⟨rfl, 0, _, _, rfl, rfl, rfl, rfl, rfl, rfl, ?_⟩) ⟩ <;> first | omega | exact ⟨by omega, rfl, rfl⟩ | exact ⟨by omega, congrArg (stage ac) cQ_P, iP_0⟩)
          | (refine ⟨_, ?_, Or.inl (⟨rfl, (n + 1), _, _, rfl, rfl, rfl, rfl, rfl, rfl, ?_⟩)⟩ <;> first | omega | exact ⟨by omega, rfl, rfl⟩ | exact ⟨by omega, congrArg (stage ac) cQ_P, iP_0⟩)
          | (refine ⟨_, Or.inl (⟨rfl, (n + 1), _, _, rfl, rfl, rfl, rfl, rfl, rfl, ?_⟩) ⟩ <;> first | omega | exact ⟨by omega, rfl, rfl⟩ | exact ⟨by omega, congrArg (stage ac) cQ_P, iP_0⟩)
          | (refine ⟨_, ?_, Or.inr (⟨rfl, 0, _, _, rfl, rfl, rfl, rfl, rfl, rfl, ?_⟩)⟩ <;> first | omega | exact ⟨by omega, rfl, rfl⟩ | exact ⟨by omega, congrArg (stage ac) cQ_P, iP_0⟩)
          | (refine ⟨_, Or.inr (⟨rfl, 0, _, _, rfl, rfl, rfl, rfl, rfl, rfl, ?_⟩) ⟩ <;> first | omega | exact ⟨by omega, rfl, rfl⟩ | exact ⟨by omega, congrArg (stage ac) cQ_P, iP_0⟩)
          | (refine ⟨_, ?_, Or.inr (⟨rfl, (n + 1), _, _, rfl, rfl, rfl, rfl, rfl, rfl, ?_⟩)⟩ <;> first | omega | exact ⟨by omega, rfl, rfl⟩ | exact ⟨by omega, congrArg (stage ac) cQ_P, iP_0⟩)
          | (refine ⟨_, Or.inr (⟨rfl, (n + 1), _, _, rfl, rfl, rfl, rfl, rfl, rfl, ?_⟩) ⟩ <;> first | omega | exact ⟨by omega, rfl, rfl⟩ | exact ⟨by omega, congrArg (stage ac) cQ_P, iP_0⟩)
          | contradiction
          | exact trivial
          | rfl
          | omega
          | exact (bi1 (by omega)).symm
          | exact (bi0 (by omega)).symm
          | exact (bi1 (by assumption)).symm
          | exact (bi0 (by assumption)).symm
          | ((try unfold IN_); (repeat (first | rw [if_pos (by omega)] | rw [if_neg (by omega)])); done)
          | ((try unfold IN_); (repeat (first | rw [if_pos (by omega)] | rw [if_neg (by omega)])); rfl)
          | ((try unfold IN_); (repeat (first | rw [if_pos (by omega)] | rw [if_neg (by omega)] | rw [if_pos (by assumption)] | rw [if_neg (by assumption)])); rfl)
  · have q0 : KD (0) = .inl 7 := by unfold KD; (repeat (first | rw [if_pos (by omega)] | rw [if_neg (by omega)])); try rfl
    have q1 : KD (1) = .inr (7, 3) := by unfold KD; (repeat (first | rw [if_pos (by omega)] | rw [if_neg (by omega)])); try rfl
    have q2 : jm_nw (cn_ h0 ac (1) (stage ac (fun _ => 0)) (fun _ _ => 0)) (.inr (7, 3)) = (cn_ h0 ac (2) (stage ac (fun _ => 0)) (fun _ _ => 0)) := cn_nw (by omega) (by unfold KD; (repeat (first | rw [if_pos (by omega)] | rw [if_neg (by omega)])); try rfl) (fun j => stage_n (by (repeat rw [upn_n (by omega)]); try exact rfl)) (fun j => by (repeat rw [u2n (by omega)]); try exact rfl)
    have q3 : jm_u2 (stage ac (fun _ => 0)) (0) 0 (some (ac + (1))) = stage ac (upn (fun _ => 0) (0) (0 + 1)) := stage_u (by (first | (rw [upn_p rfl]; done) | (rw [upn_p rfl]; omega) | ((repeat rw [upn_n (by omega)]); have := (rfl : (0 : Nat) = 0); omega))) (rho_0 ac (by omega)) (fun i h1 h2 => by omega)
    have q4 : KD (2) = .inr (8, 3) := by unfold KD; (repeat (first | rw [if_pos (by omega)] | rw [if_neg (by omega)])); try rfl
    have q5 : jm_nw (cn_ h0 ac (2) (stage ac (upn (fun _ => 0) (0) (0 + 1))) (fun _ _ => 0)) (.inr (8, 3)) = (cn_ h0 ac (3) (stage ac (upn (fun _ => 0) (0) (0 + 1))) (fun _ _ => 0)) := cn_nw (by omega) (by unfold KD; (repeat (first | rw [if_pos (by omega)] | rw [if_neg (by omega)])); try rfl) (fun j => stage_n (by (repeat rw [upn_n (by omega)]); try exact rfl)) (fun j => by (repeat rw [u2n (by omega)]); try exact rfl)
    have q6 : jm_u2 (stage ac (upn (fun _ => 0) (0) (0 + 1))) (0) 1 (some (ac + (2))) = stage ac (upn (upn (fun _ => 0) (0) (0 + 1)) (0) (1 + 1)) := stage_u (by (first | (rw [upn_p rfl]; done) | (rw [upn_p rfl]; omega) | ((repeat rw [upn_n (by omega)]); have := hz (0) (by omega); omega))) (rho_0 ac (by omega)) (fun i h1 h2 => by rw [upn_p rfl] at h2; omega)
    have q7 : KD (3) = .inr (5, 3) := by unfold KD; (repeat (first | rw [if_pos (by omega)] | rw [if_neg (by omega)])); try rfl
    have q8 : jm_nw (cn_ h0 ac (3) (stage ac (upn (upn (fun _ => 0) (0) (0 + 1)) (0) (1 + 1))) (fun _ _ => 0)) (.inr (5, 3)) = (cn_ h0 ac (4) (stage ac (upn (upn (fun _ => 0) (0) (0 + 1)) (0) (1 + 1))) (fun _ _ => 0)) := cn_nw (by omega) (by unfold KD; (repeat (first | rw [if_pos (by omega)] | rw [if_neg (by omega)])); try rfl) (fun j => stage_n (by (repeat rw [upn_n (by omega)]); try exact rfl)) (fun j => by (repeat rw [u2n (by omega)]); try exact rfl)
    have q9 : jm_u2 (stage ac (upn (upn (fun _ => 0) (0) (0 + 1)) (0) (1 + 1))) (0) 2 (some (ac + (3))) = stage ac (upn (upn (upn (fun _ => 0) (0) (0 + 1)) (0) (1 + 1)) (0) (2 + 1)) := stage_u (by (first | (rw [upn_p rfl]; done) | (rw [upn_p rfl]; omega) | ((repeat rw [upn_n (by omega)]); have := hz (0) (by omega); omega))) (rho_0 ac (by omega)) (fun i h1 h2 => by rw [upn_p rfl] at h2; omega)
    have q10 : stage ac (upn (upn (upn (fun _ => 0) (0) (0 + 1)) (0) (1 + 1)) (0) (2 + 1)) = stage ac (upn (fun _ => 0) 0 3) := by rw [upn_3]
    have q11 : KD (4) = .inl 2 := by unfold KD; (repeat (first | rw [if_pos (by omega)] | rw [if_neg (by omega)])); try rfl
    have q12 : jm_nw (cn_ h0 ac (4) (stage ac (upn (fun _ => 0) 0 3)) (fun _ _ => 0)) (.inl 2) = (cn_ h0 ac (5) (stage ac (upn (fun _ => 0) 0 3)) (fun _ _ => 0)) := cn_nw (by omega) (by unfold KD; (repeat (first | rw [if_pos (by omega)] | rw [if_neg (by omega)])); try rfl) (fun j => stage_n (by (repeat rw [upn_n (by omega)]); try exact rfl)) (fun j => by (repeat rw [u2n (by omega)]); try exact rfl)
    have q13 : jm_u2 (stage ac (upn (upn (upn (upn (fun _ => 0) 0 3) 4 3) 5 12) 6 18)) 0 3 (some (ac + 4)) = stage ac (cQ 0) := by rw [stage_u (by rw [upn_n (by omega), upn_n (by omega), upn_n (by omega), upn_p rfl]; omega) (rho_0 ac (by omega)) (fun i h1 h2 => by rw [upn_n (by omega), upn_n (by omega), upn_n (by omega), upn_p rfl] at h2; omega), cQ_0]
    simp (disch := omega) only [e_Site_init_0, e_Site_init_1, e_Site_init_2, e_Site_init_3, e_Site_init_4, e_Site_init_5, e_Site_init_6, e_Site_init_7, e_Site_init_8, e_Site_init_9, e_Site_init_10, e_Site_init_11, e_Site_init_12, e_Site_init_13, e_Site_init_14, e_Site_init_15, e_Site_init_16a, e_Site_init_16b, e_Site_init_17, e_Site_init_18, e_Site_init_19, e_Site_init_20, c_Site_init_21, e_Site_init_21, e_Site_init_22, e_Site_init_23, e_Site_init_24, e_Site_init_25, e_Site_init_26, e_Site_init_27, e_Site_init_28a, e_Site_init_28b, e_Site_init_29, e_Site_init_30, e_Site_init_31, e_Site_init_32, e_Site_init_33, e_Site_init_34, c_Site_init_35, e_Site_init_35, e_Site_init_36, e_Site_init_37, e_Site_init_38, e_Site_init_39, e_Site_init_40, e_Site_init_41, e_Site_init_42a, e_Site_init_42b, e_Site_init_43, e_Site_init_44, e_Site_init_45, e_Site_init_46, e_Site_init_47, e_Site_init_48, e_Site_init_49, e_Site_init_50a, e_Site_init_50b, e_Site_init_51, e_Site_init_52, e_Site_init_53, e_Site_init_54, e_Site_init_55, e_Site_init_56, jm_ia, jm_na, jm_qa, jm_aa, jm_asg, jm_l4, jm_Kr, jm_okv, jm_rc, jm_bo, true_and, and_true, Nat.add_zero, Nat.le_refl, j_lt, j_le, j_eq, j_lt0, j_0lt, j_le0, j_0le, j_eq0, j_add, j_sub, j_mul, j_neg, j_0sub, j_nat, j_in, j_div, j_rem, Sum.inl.injEq, exists_eq', true_or, or_true, if_true, if_false, not_true_eq_false, not_false_eq_true, implies_true, j_eq1, reduceIte, Nat.reduceEqDiff, Int.reduceEq, Int.reduceToNat, Nat.reduceAdd, Int.reduceAdd, Int.reduceSub, Int.reduceMul, Int.reduceNeg, and_false, false_and, and_self, u2r, j_b0, j_b1, Classical.not_not, eq_self, true_implies, false_implies, not_true_eq_false, not_false_eq_true, Int.reduceLT, Int.reduceLE, cn_n, cn_k, cn_k0, cn_r, cn_r0, cn_sr, cn_sr0, cn_si, nat3, q0, q1, q2, q3, q4, q5, q6, q7, q8, q9, q10, q11, q12, q13]
    repeat' first
      | apply And.intro
      | (intro _)
      | (refine ⟨_, kc_Bus B l h0 ac (upn (fun _ => 0) 0 3) (fun _ _ => 0) (fun a q => upn_n (by omega)) (fun _ _ _ => rfl), ?_⟩; rintro h' rfl; try simp (disch := omega) only [e_Site_init_0, e_Site_init_1, e_Site_init_2, e_Site_init_3, e_Site_init_4, e_Site_init_5, e_Site_init_6, e_Site_init_7, e_Site_init_8, e_Site_init_9, e_Site_init_10, e_Site_init_11, e_Site_init_12, e_Site_init_13, e_Site_init_14, e_Site_init_15, e_Site_init_16a, e_Site_init_16b, e_Site_init_17, e_Site_init_18, e_Site_init_19, e_Site_init_20, c_Site_init_21, e_Site_init_21, e_Site_init_22, e_Site_init_23, e_Site_init_24, e_Site_init_25, e_Site_init_26, e_Site_init_27, e_Site_init_28a, e_Site_init_28b, e_Site_init_29, e_Site_init_30, e_Site_init_31, e_Site_init_32, e_Site_init_33, e_Site_init_34, c_Site_init_35, e_Site_init_35, e_Site_init_36, e_Site_init_37, e_Site_init_38, e_Site_init_39, e_Site_init_40, e_Site_init_41, e_Site_init_42a, e_Site_init_42b, e_Site_init_43, e_Site_init_44, e_Site_init_45, e_Site_init_46, e_Site_init_47, e_Site_init_48, e_Site_init_49, e_Site_init_50a, e_Site_init_50b, e_Site_init_51, e_Site_init_52, e_Site_init_53, e_Site_init_54, e_Site_init_55, e_Site_init_56, jm_ia, jm_na, jm_qa, jm_aa, jm_asg, jm_l4, jm_Kr, jm_okv, jm_rc, jm_bo, true_and, and_true, Nat.add_zero, Nat.le_refl, j_lt, j_le, j_eq, j_lt0, j_0lt, j_le0, j_0le, j_eq0, j_add, j_sub, j_mul, j_neg, j_0sub, j_nat, j_in, j_div, j_rem, Sum.inl.injEq, exists_eq', true_or, or_true, if_true, if_false, not_true_eq_false, not_false_eq_true, implies_true, j_eq1, reduceIte, Nat.reduceEqDiff, Int.reduceEq, Int.reduceToNat, Nat.reduceAdd, Int.reduceAdd, Int.reduceSub, Int.reduceMul, Int.reduceNeg, and_false, false_and, and_self, u2r, j_b0, j_b1, Classical.not_not, eq_self, true_implies, false_implies, not_true_eq_false, not_false_eq_true, Int.reduceLT, Int.reduceLE, cn_n, cn_k, cn_k0, cn_r, cn_r0, cn_sr, cn_sr0, cn_si, nat3, q0, q1, q2, q3, q4, q5, q6, q7, q8, q9, q10, q11, q12, q13])
      | (refine ⟨_, kc_Crane B l h0 ac n (by omega) (cQ n) (fun _ _ => 0) (fun a q => cQ_z (by omega)) (fun _ _ _ => rfl), ?_⟩; rintro h' rfl; try simp (disch := omega) only [e_Site_init_0, e_Site_init_1, e_Site_init_2, e_Site_init_3, e_Site_init_4, e_Site_init_5, e_Site_init_6, e_Site_init_7, e_Site_init_8, e_Site_init_9, e_Site_init_10, e_Site_init_11, e_Site_init_12, e_Site_init_13, e_Site_init_14, e_Site_init_15, e_Site_init_16a, e_Site_init_16b, e_Site_init_17, e_Site_init_18, e_Site_init_19, e_Site_init_20, c_Site_init_21, e_Site_init_21, e_Site_init_22, e_Site_init_23, e_Site_init_24, e_Site_init_25, e_Site_init_26, e_Site_init_27, e_Site_init_28a, e_Site_init_28b, e_Site_init_29, e_Site_init_30, e_Site_init_31, e_Site_init_32, e_Site_init_33, e_Site_init_34, c_Site_init_35, e_Site_init_35, e_Site_init_36, e_Site_init_37, e_Site_init_38, e_Site_init_39, e_Site_init_40, e_Site_init_41, e_Site_init_42a, e_Site_init_42b, e_Site_init_43, e_Site_init_44, e_Site_init_45, e_Site_init_46, e_Site_init_47, e_Site_init_48, e_Site_init_49, e_Site_init_50a, e_Site_init_50b, e_Site_init_51, e_Site_init_52, e_Site_init_53, e_Site_init_54, e_Site_init_55, e_Site_init_56, jm_ia, jm_na, jm_qa, jm_aa, jm_asg, jm_l4, jm_Kr, jm_okv, jm_rc, jm_bo, true_and, and_true, Nat.add_zero, Nat.le_refl, j_lt, j_le, j_eq, j_lt0, j_0lt, j_le0, j_0le, j_eq0, j_add, j_sub, j_mul, j_neg, j_0sub, j_nat, j_in, j_div, j_rem, Sum.inl.injEq, exists_eq', true_or, or_true, if_true, if_false, not_true_eq_false, not_false_eq_true, implies_true, j_eq1, reduceIte, Nat.reduceEqDiff, Int.reduceEq, Int.reduceToNat, Nat.reduceAdd, Int.reduceAdd, Int.reduceSub, Int.reduceMul, Int.reduceNeg, and_false, false_and, and_self, u2r, j_b0, j_b1, Classical.not_not, eq_self, true_implies, false_implies, not_true_eq_false, not_false_eq_true, Int.reduceLT, Int.reduceLE, cn_n, cn_k, cn_k0, cn_r, cn_r0, cn_sr, cn_sr0, cn_si, nat3, q0, q1, q2, q3, q4, q5, q6, q7, q8, q9, q10, q11, q12, q13])
      | (refine ⟨_, kc_Keeper B l h0 ac n (by omega) (cP n) (iP n) (fun a q => cP_z (by omega)) (fun _ _ _ => iP_z (by omega)), ?_⟩; rintro h' rfl; try simp (disch := omega) only [e_Site_init_0, e_Site_init_1, e_Site_init_2, e_Site_init_3, e_Site_init_4, e_Site_init_5, e_Site_init_6, e_Site_init_7, e_Site_init_8, e_Site_init_9, e_Site_init_10, e_Site_init_11, e_Site_init_12, e_Site_init_13, e_Site_init_14, e_Site_init_15, e_Site_init_16a, e_Site_init_16b, e_Site_init_17, e_Site_init_18, e_Site_init_19, e_Site_init_20, c_Site_init_21, e_Site_init_21, e_Site_init_22, e_Site_init_23, e_Site_init_24, e_Site_init_25, e_Site_init_26, e_Site_init_27, e_Site_init_28a, e_Site_init_28b, e_Site_init_29, e_Site_init_30, e_Site_init_31, e_Site_init_32, e_Site_init_33, e_Site_init_34, c_Site_init_35, e_Site_init_35, e_Site_init_36, e_Site_init_37, e_Site_init_38, e_Site_init_39, e_Site_init_40, e_Site_init_41, e_Site_init_42a, e_Site_init_42b, e_Site_init_43, e_Site_init_44, e_Site_init_45, e_Site_init_46, e_Site_init_47, e_Site_init_48, e_Site_init_49, e_Site_init_50a, e_Site_init_50b, e_Site_init_51, e_Site_init_52, e_Site_init_53, e_Site_init_54, e_Site_init_55, e_Site_init_56, jm_ia, jm_na, jm_qa, jm_aa, jm_asg, jm_l4, jm_Kr, jm_okv, jm_rc, jm_bo, true_and, and_true, Nat.add_zero, Nat.le_refl, j_lt, j_le, j_eq, j_lt0, j_0lt, j_le0, j_0le, j_eq0, j_add, j_sub, j_mul, j_neg, j_0sub, j_nat, j_in, j_div, j_rem, Sum.inl.injEq, exists_eq', true_or, or_true, if_true, if_false, not_true_eq_false, not_false_eq_true, implies_true, j_eq1, reduceIte, Nat.reduceEqDiff, Int.reduceEq, Int.reduceToNat, Nat.reduceAdd, Int.reduceAdd, Int.reduceSub, Int.reduceMul, Int.reduceNeg, and_false, false_and, and_self, u2r, j_b0, j_b1, Classical.not_not, eq_self, true_implies, false_implies, not_true_eq_false, not_false_eq_true, Int.reduceLT, Int.reduceLE, cn_n, cn_k, cn_k0, cn_r, cn_r0, cn_sr, cn_sr0, cn_si, nat3, q0, q1, q2, q3, q4, q5, q6, q7, q8, q9, q10, q11, q12, q13])
      | (refine ⟨_, kc_Asker B l h0 ac n (by omega) (upn (upn (cP n) (53 + 4 * n) (1 + 1)) 2 (n + 1)) (jm_u2 (jm_u2 (jm_u2 (iP n) (54 + 4 * n) 2 1) (53 + 4 * n) 2 0) (53 + 4 * n) 0 n) (fun a q => by rw [upn_n (by omega), upn_n (by omega)]; exact cP_z (by omega)) (fun a j q => by rw [u2n (by omega), u2n (by omega), u2n (by omega)]; exact iP_z (by omega)), ?_⟩; rintro h' rfl; try simp (disch := omega) only [e_Site_init_0, e_Site_init_1, e_Site_init_2, e_Site_init_3, e_Site_init_4, e_Site_init_5, e_Site_init_6, e_Site_init_7, e_Site_init_8, e_Site_init_9, e_Site_init_10, e_Site_init_11, e_Site_init_12, e_Site_init_13, e_Site_init_14, e_Site_init_15, e_Site_init_16a, e_Site_init_16b, e_Site_init_17, e_Site_init_18, e_Site_init_19, e_Site_init_20, c_Site_init_21, e_Site_init_21, e_Site_init_22, e_Site_init_23, e_Site_init_24, e_Site_init_25, e_Site_init_26, e_Site_init_27, e_Site_init_28a, e_Site_init_28b, e_Site_init_29, e_Site_init_30, e_Site_init_31, e_Site_init_32, e_Site_init_33, e_Site_init_34, c_Site_init_35, e_Site_init_35, e_Site_init_36, e_Site_init_37, e_Site_init_38, e_Site_init_39, e_Site_init_40, e_Site_init_41, e_Site_init_42a, e_Site_init_42b, e_Site_init_43, e_Site_init_44, e_Site_init_45, e_Site_init_46, e_Site_init_47, e_Site_init_48, e_Site_init_49, e_Site_init_50a, e_Site_init_50b, e_Site_init_51, e_Site_init_52, e_Site_init_53, e_Site_init_54, e_Site_init_55, e_Site_init_56, jm_ia, jm_na, jm_qa, jm_aa, jm_asg, jm_l4, jm_Kr, jm_okv, jm_rc, jm_bo, true_and, and_true, Nat.add_zero, Nat.le_refl, j_lt, j_le, j_eq, j_lt0, j_0lt, j_le0, j_0le, j_eq0, j_add, j_sub, j_mul, j_neg, j_0sub, j_nat, j_in, j_div, j_rem, Sum.inl.injEq, exists_eq', true_or, or_true, if_true, if_false, not_true_eq_false, not_false_eq_true, implies_true, j_eq1, reduceIte, Nat.reduceEqDiff, Int.reduceEq, Int.reduceToNat, Nat.reduceAdd, Int.reduceAdd, Int.reduceSub, Int.reduceMul, Int.reduceNeg, and_false, false_and, and_self, u2r, j_b0, j_b1, Classical.not_not, eq_self, true_implies, false_implies, not_true_eq_false, not_false_eq_true, Int.reduceLT, Int.reduceLE, cn_n, cn_k, cn_k0, cn_r, cn_r0, cn_sr, cn_sr0, cn_si, nat3, q0, q1, q2, q3, q4, q5, q6, q7, q8, q9, q10, q11, q12, q13])
    all_goals first
      | (refine ⟨_, ?_, Or.inl (⟨rfl, 0, _, _, rfl, rfl, rfl, rfl, rfl, rfl, ?_⟩)⟩ <;> first | omega | exact ⟨by omega, rfl, rfl⟩ | exact ⟨by omega, congrArg (stage ac) cQ_P, iP_0⟩)
      | (refine ⟨_, Or.inl (⟨rfl, 0, _, _, rfl, rfl, rfl, rfl, rfl, rfl, ?_⟩) ⟩ <;> first | omega | exact ⟨by omega, rfl, rfl⟩ | exact ⟨by omega, congrArg (stage ac) cQ_P, iP_0⟩)
      | (refine ⟨_, ?_, Or.inl (⟨rfl, (n + 1), _, _, rfl, rfl, rfl, rfl, rfl, rfl, ?_⟩)⟩ <;> first | omega | exact ⟨by omega, rfl, rfl⟩ | exact ⟨by omega, congrArg (stage ac) cQ_P, iP_0⟩)
      | (refine ⟨_, Or.inl (⟨rfl, (n + 1), _, _, rfl, rfl, rfl, rfl, rfl, rfl, ?_⟩) ⟩ <;> first | omega | exact ⟨by omega, rfl, rfl⟩ | exact ⟨by omega, congrArg (stage ac) cQ_P, iP_0⟩)
      | (refine ⟨_, ?_, Or.inr (⟨rfl, 0, _, _, rfl, rfl, rfl, rfl, rfl, rfl, ?_⟩)⟩ <;> first | omega | exact ⟨by omega, rfl, rfl⟩ | exact ⟨by omega, congrArg (stage ac) cQ_P, iP_0⟩)
      | (refine ⟨_, Or.inr (⟨rfl, 0, _, _, rfl, rfl, rfl, rfl, rfl, rfl, ?_⟩) ⟩ <;> first | omega | exact ⟨by omega, rfl, rfl⟩ | exact ⟨by omega, congrArg (stage ac) cQ_P, iP_0⟩)
      | (refine ⟨_, ?_, Or.inr (⟨rfl, (n + 1), _, _, rfl, rfl, rfl, rfl, rfl, rfl, ?_⟩)⟩ <;> first | omega | exact ⟨by omega, rfl, rfl⟩ | exact ⟨by omega, congrArg (stage ac) cQ_P, iP_0⟩)
      | (refine ⟨_, Or.inr (⟨rfl, (n + 1), _, _, rfl, rfl, rfl, rfl, rfl, rfl, ?_⟩) ⟩ <;> first | omega | exact ⟨by omega, rfl, rfl⟩ | exact ⟨by omega, congrArg (stage ac) cQ_P, iP_0⟩)
      | contradiction
      | exact trivial
      | rfl
      | omega
      | exact (bi1 (by omega)).symm
      | exact (bi0 (by omega)).symm
      | exact (bi1 (by assumption)).symm
      | exact (bi0 (by assumption)).symm
      | ((try unfold IN_); (repeat (first | rw [if_pos (by omega)] | rw [if_neg (by omega)])); done)
      | ((try unfold IN_); (repeat (first | rw [if_pos (by omega)] | rw [if_neg (by omega)])); rfl)
      | ((try unfold IN_); (repeat (first | rw [if_pos (by omega)] | rw [if_neg (by omega)] | rw [if_pos (by assumption)] | rw [if_neg (by assumption)])); rfl)
