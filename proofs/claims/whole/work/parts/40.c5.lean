/-! the arcs of a crane of the class -/
def clo (κ : S_) (i : Nat) : Int := if i < 4 then 1 else κ 47 (i - 4)
abbrev pres (κ : S_) (c : Int) (i : Nat) : Prop := (i < 4 ∧ (i : Int) < κ 10 c.toNat) ∨ (4 ≤ i ∧ crk (((i : Int) - 4) / 2) (((i : Int) - 4) % 2) = c ∧ ¬ κ 13 (((i : Int) - 4) / 2).toNat = 0)
def AIs (h : jm_H) (ac : Nat) (κ : S_) (μ : M_) (n : Nat) (ids : Nat → Nat) : Prop :=
  (0 ≤ κ 45 n ∧ κ 45 n ≤ 6) ∧
  (∀ i : Nat, (i : Int) < κ 45 n → ids i < 10 ∧ ∃ a, μ (42 + 5 * n) i = some a ∧ jm_k h a = some (.inl 0) ∧ jm_i (cs h ac κ μ) a 0 = Int32.ofInt (fI κ n (ids i)) ∧ jm_i (cs h ac κ μ) a 1 = Int32.ofInt (zI κ n (ids i)) ∧ jm_i (cs h ac κ μ) a 2 = Int32.ofInt (clo κ (ids i))) ∧
  (∀ g : Nat → Int, sumF (fun i => g (ids i)) (κ 45 n).toNat = sumF (fun i => if pres κ n i then g i else 0) 10)
def CNv (κ : S_) : Prop := ∀ p : Nat, κ 47 (2 * p) = (if κ 16 p = 1 then 0 else 1) ∧ κ 47 (2 * p + 1) = (if κ 20 p = 2 then 0 else 1)
theorem CN_b {κ : S_} (h : CNv κ) (j : Nat) : 0 ≤ κ 47 j ∧ κ 47 j ≤ 1 := by
  have e := h (j / 2)
  rcases (show j = 2 * (j / 2) ∨ j = 2 * (j / 2) + 1 by omega) with q | q
  · rw [q, e.1]; split <;> omega
  · rw [q, e.2]; split <;> omega
theorem clo_b {κ : S_} (h : CNv κ) (i : Nat) : 0 ≤ clo κ i ∧ clo κ i ≤ 1 := by
  unfold clo
  split
  · omega
  · exact CN_b h _
theorem clI_pc {κ : S_} (h : CNv κ) (c : Int) {i : Nat} : clI κ c i ↔ (pres κ c i ∧ clo κ i = 1) := by
  unfold clo
  by_cases e : i < 4
  · rw [if_pos e]
    constructor
    · rintro (⟨_, q⟩ | ⟨q, _⟩)
      · exact ⟨Or.inl ⟨e, q⟩, rfl⟩
      · omega
    · rintro ⟨⟨_, q⟩ | ⟨q, _⟩, _⟩
      · exact Or.inl ⟨e, q⟩
      · omega
  · rw [if_neg e]
    have e2 := h ((i - 4) / 2)
    have e3 : (((i : Int) - 4) / 2).toNat = (i - 4) / 2 := by omega
    have key : (¬ κ 13 (((i : Int) - 4) / 2).toNat = 0 ∧ κ 47 (i - 4) = 1) ↔ shutS κ (((i : Int) - 4) / 2) (((i : Int) - 4) % 2) := by
      unfold shutS
      rw [e3]
      rcases (show i - 4 = 2 * ((i - 4) / 2) ∨ i - 4 = 2 * ((i - 4) / 2) + 1 by omega) with q | q
      · have q1 : ((i : Int) - 4) % 2 = 0 := by omega
        have q2 : κ 47 (i - 4) = (if κ 16 ((i - 4) / 2) = 1 then 0 else 1) := by rw [← e2.1, ← q]
        rw [q2, q1]
        by_cases q3 : κ 16 ((i - 4) / 2) = 1
        · rw [if_pos q3]; simp [q3]
        · rw [if_neg q3]; simp [q3]
      · have q1 : ((i : Int) - 4) % 2 = 1 := by omega
        have q2 : κ 47 (i - 4) = (if κ 20 ((i - 4) / 2) = 2 then 0 else 1) := by rw [← e2.2, ← q]
        rw [q2, q1]
        by_cases q3 : κ 20 ((i - 4) / 2) = 2
        · rw [if_pos q3]; simp [q3]
        · rw [if_neg q3]; simp [q3]
    constructor
    · rintro (⟨q, _⟩ | ⟨q1, q2, q3⟩)
      · omega
      · have := key.mpr q3
        exact ⟨Or.inr ⟨q1, q2, this.1⟩, this.2⟩
    · rintro ⟨⟨q, _⟩ | ⟨q1, q2, q3⟩, q4⟩
      · omega
      · exact Or.inr ⟨q1, q2, key.mp ⟨q3, q4⟩⟩
def cfl2 (κ : S_) (c : Int) (i : Nat) : Int := if clo κ i = 1 ∧ IN_ (κ 1 c.toNat) (fI κ c i) (zI κ c i) then 1 else 0
def nsf2 (κ : S_) (c v D : Int) (i : Nat) : Int := if clo κ i = 1 ∧ ¬ IN_ (κ 1 c.toNat) (fI κ c i) (zI κ c i) ∧ ¬ ((0 < v → D < (fI κ c i - κ 1 c.toNat) % 3600) ∧ (v < 0 → D < (κ 1 c.toNat - (fI κ c i + zI κ c i - 1)) % 3600)) then 1 else 0
theorem sumF_ext {g g' : Nat → Int} {n : Nat} (h : ∀ i, i < n → g i = g' i) : sumF g n = sumF g' n := by
  induction n with
  | zero => rfl
  | succ n ih =>
    show sumF g n + g n = sumF g' n + g' n
    rw [ih (fun i hi => h i (by omega)), h n (by omega)]
theorem sum_cfl {h : jm_H} {ac : Nat} {κ : S_} {μ : M_} {n : Nat} {ids : Nat → Nat} (hA : AIs h ac κ μ n ids) (hC : CNv κ) : sumF (fun i => cfl2 κ n (ids i)) (κ 45 n).toNat = sumF (cfl κ n) 10 := by
  rw [hA.2.2 (cfl2 κ n)]
  refine sumF_ext (fun i _ => ?_)
  unfold cfl cfl2
  by_cases e1 : pres κ n i
  · rw [if_pos e1]
    by_cases e2 : clo κ i = 1 ∧ IN_ (κ 1 ((n : Int)).toNat) (fI κ n i) (zI κ n i)
    · rw [if_pos e2, if_pos ⟨(clI_pc hC n).mpr ⟨e1, e2.1⟩, e2.2⟩]
    · rw [if_neg e2, if_neg (fun q => e2 ⟨((clI_pc hC n).mp q.1).2, q.2⟩)]
  · rw [if_neg e1, if_neg (fun q => e1 ((clI_pc hC n).mp q.1).1)]
theorem sum_nsf {h : jm_H} {ac : Nat} {κ : S_} {μ : M_} {n : Nat} {ids : Nat → Nat} (hA : AIs h ac κ μ n ids) (hC : CNv κ) (v D : Int) : sumF (fun i => nsf2 κ n v D (ids i)) (κ 45 n).toNat = sumF (nsf κ n v D) 10 := by
  rw [hA.2.2 (nsf2 κ n v D)]
  refine sumF_ext (fun i _ => ?_)
  unfold nsf nsf2
  by_cases e1 : pres κ n i
  · rw [if_pos e1]
    by_cases e2 : clo κ i = 1 ∧ ¬ IN_ (κ 1 ((n : Int)).toNat) (fI κ n i) (zI κ n i) ∧ ¬ ((0 < v → D < (fI κ n i - κ 1 ((n : Int)).toNat) % 3600) ∧ (v < 0 → D < (κ 1 ((n : Int)).toNat - (fI κ n i + zI κ n i - 1)) % 3600))
    · rw [if_pos e2, if_pos ⟨(clI_pc hC n).mpr ⟨e1, e2.1⟩, e2.2⟩]
    · rw [if_neg e2, if_neg (fun q => e2 ⟨((clI_pc hC n).mp q.1).2, q.2⟩)]
  · rw [if_neg e1, if_neg (fun q => e1 ((clI_pc hC n).mp q.1).1)]
def Iv_k_closed (h : jm_H) (ac : Nat) (κ : S_) (μ : M_) (n : Nat) (ids : Nat → Nat) : Nat → Nat → List (Option jm_V) → List jm_V → jm_H → Nat → Nat → Prop := fun kq pc L st h' ce sl =>
  (pc = 4 ∧ ∃ (c : Int) (i : Int), L = [some (.inr (.inl (some ((ac + (38 + 5 * n)))))), some (.inl (Int32.ofInt (c))), some (.inl (Int32.ofInt (i)))] ∧ st = [] ∧ h' = cs h ac κ μ ∧ ce = 0 ∧ sl = 0 ∧ kq = (κ 45 n - i).toNat ∧ (0 ≤ i ∧ i ≤ κ 45 n ∧ sumF (fun j => cfl2 κ n (ids j)) i.toNat = c))
set_option maxRecDepth 100000 in
set_option maxHeartbeats 4000000 in
theorem k_closed (B : jm_B) (l : Launch) (h : jm_H) (ac : Nat) (κ : S_) (μ : M_) (H : RC B ac h) (n : Nat) (hn : n < 3) {m f : Int} (hB : BB m f κ) (hS : SS κ) (ids : Nat → Nat) (hA : AIs h ac κ μ n ids) (hC : CNv κ) : jm_Ct gG B l (gm 22) [.inr (.inl (some ((ac + (38 + 5 * n)))))] (cs h ac κ μ) (fun v h' => h' = cs h ac κ μ ∧ v = .inl (Int32.ofInt (sumF (cfl κ n) 10))) := by
  show jm_Ct gG B l M_Crane_closedArcsAround _ _ _
  refine jm_CL (code := k_Crane_closedArcsAround) (Or.inl (by decide)) (by decide) v_Crane_closedArcsAround rfl (Nat.le_of_ble_eq_true rfl) [some (.inr (.inl (some ((ac + (38 + 5 * n)))))), none, none] rfl rfl (Iv_k_closed h ac κ μ n ids) ?_ ⟨31, ?_⟩
  · intro k pc L st h' ce sl hI
    rcases hI with ⟨rfl, c, i, rfl, rfl, rfl, rfl, rfl, rfl, hc⟩
    · refine ⟨31, 4, ⟨_, _, rfl, rfl⟩, ?_⟩
      have b1 : 0 ≤ κ 1 n ∧ κ 1 n < 3600 := hB 1 n
      have bc := hA.1
      obtain ⟨k1, k2, k3⟩ := hc
      have s1 := sumF_s (fun j => cfl2 κ n (ids j)) k1
      have hl : κ 45 n ≤ i → sumF (fun j => cfl2 κ n (ids j)) i.toNat = sumF (cfl κ n) 10 := fun q => by rw [← sum_cfl hA hC, show κ 45 n = i by omega]
      rcases (show i < κ 45 n ∨ κ 45 n ≤ i by omega) with hi | hi
      · obtain ⟨j1, a, m1, m2, m3, m4, m5⟩ := hA.2.1 i.toNat (by omega)
        have fz := fzb hB n (ids i.toNat)
        have cb := clo_b hC (ids i.toNat)
        obtain ⟨w1, hw1⟩ := flg_ex (IN_ (κ 1 n) (fI κ n (ids i.toNat)) (zI κ n (ids i.toNat)))
        have w0 := flg01 hw1
        have w2 := flg1 hw1
        have nf : cfl2 κ n (ids i.toNat) = 1 ↔ (clo κ (ids i.toNat) = 1 ∧ w1 = 1) := by
          unfold cfl2
          rw [fl1 rfl, w2, nat3]
        have nb : 0 ≤ cfl2 κ n (ids i.toNat) ∧ cfl2 κ n (ids i.toNat) ≤ 1 := by unfold cfl2; exact fl01 rfl
        clear w2
        have hj : ¬ κ 45 n ≤ i := by omega
        have mm := m1
        simp (disch := omega) only [e_Crane_closedArcsAround_0, e_Crane_closedArcsAround_1, e_Crane_closedArcsAround_2, e_Crane_closedArcsAround_3, c_Crane_closedArcsAround_4, e_Crane_closedArcsAround_4, e_Crane_closedArcsAround_5, e_Crane_closedArcsAround_6, e_Crane_closedArcsAround_7, e_Crane_closedArcsAround_8, e_Crane_closedArcsAround_9, e_Crane_closedArcsAround_10, e_Crane_closedArcsAround_11, e_Crane_closedArcsAround_12, e_Crane_closedArcsAround_13, e_Crane_closedArcsAround_14, e_Crane_closedArcsAround_15, e_Crane_closedArcsAround_16, e_Crane_closedArcsAround_17, e_Crane_closedArcsAround_18, e_Crane_closedArcsAround_19, e_Crane_closedArcsAround_20, e_Crane_closedArcsAround_21, e_Crane_closedArcsAround_22, e_Crane_closedArcsAround_23, e_Crane_closedArcsAround_24, e_Crane_closedArcsAround_25, e_Crane_closedArcsAround_26, jm_ia, jm_na, jm_qa, jm_aa, jm_asg, jm_l4, jm_Kr, jm_okv, jm_rc, jm_bo, true_and, and_true, Nat.add_zero, Nat.le_refl, j_lt, j_le, j_eq, j_lt0, j_0lt, j_le0, j_0le, j_eq0, j_add, j_sub, j_mul, j_neg, j_0sub, j_nat, j_in, j_div, j_rem, Sum.inl.injEq, exists_eq', true_or, or_true, if_true, if_false, not_true_eq_false, not_false_eq_true, implies_true, j_eq1, reduceIte, Nat.reduceEqDiff, Int.reduceEq, Int.reduceToNat, Nat.reduceAdd, Int.reduceAdd, Int.reduceSub, Int.reduceMul, Int.reduceNeg, and_false, false_and, and_self, u2r, j_b0, j_b1, Classical.not_not, eq_self, true_implies, false_implies, not_true_eq_false, not_false_eq_true, Int.reduceLT, Int.reduceLE, ck, cn, ck0 H, ck1 H, ck2 H, ck3 H, ck4 H, ck5 H, ck6 H, ck7 H, ck8 H, ck9 H, ck10 H, ck11 H, ck12 H, ck13 H, ck14 H, ck15 H, ck16 H, ck17 H, ck18 H, cr0 H, cr1 H, cr2 H, cr3 H, cr4 H, cr5 H, cr6 H, cr7 H, cr8 H, cr9 H, cr10 H, cr11 H, cr12 H, cr13 H, cr14 H, cr15 H, cr16 H, i_s4, i_b3, i_b4, i_b5, i_b6, i_b7, i_b8, i_b9, i_c2, i_c3, i_c4, i_c5, i_c6, i_c7, i_c8, i_c9, i_c10, i_c11, i_t2, i_k0, i_k2, i_k3, i_k4, i_k5, i_ka0, i_ka1, i_ka2, i_a0, i_a2, i_a3, i_a4, i_aa0, i_aa1, i_aa2, i_o0, i_o1, i_o2, i_f, i_u, i_rd, i_ld, w_s4, w_b3, w_b4, w_b5, w_b6, w_b7, w_b8, w_b9, w_c2, w_c3, w_c4, w_c5, w_c6, w_c7, w_c8, w_c9, w_c10, w_c11, w_t2, w_k0, w_k2, w_k3, w_k4, w_k5, w_ka0, w_ka1, w_ka2, w_a0, w_a2, w_a3, w_a4, w_aa0, w_aa1, w_aa2, w_o0, w_o1, w_o2, w_f, w_u, w_rd, w_ld, csk0 H, csk1 H, csi0 H, csi1 H, cr, wr, hj, m1, m2, m5]
        repeat' first
          | apply And.intro
          | (intro _)
          | (refine ⟨_, k_has B l (cs h ac κ μ) a m2 _ _ m3 m4 fz.1.1 fz.1.2 fz.2.1 fz.2.2 _ b1.1 b1.2 hw1, ?_⟩; rintro y h' ⟨rfl, hy⟩; cases hy; try simp (disch := omega) only [e_Crane_closedArcsAround_0, e_Crane_closedArcsAround_1, e_Crane_closedArcsAround_2, e_Crane_closedArcsAround_3, c_Crane_closedArcsAround_4, e_Crane_closedArcsAround_4, e_Crane_closedArcsAround_5, e_Crane_closedArcsAround_6, e_Crane_closedArcsAround_7, e_Crane_closedArcsAround_8, e_Crane_closedArcsAround_9, e_Crane_closedArcsAround_10, e_Crane_closedArcsAround_11, e_Crane_closedArcsAround_12, e_Crane_closedArcsAround_13, e_Crane_closedArcsAround_14, e_Crane_closedArcsAround_15, e_Crane_closedArcsAround_16, e_Crane_closedArcsAround_17, e_Crane_closedArcsAround_18, e_Crane_closedArcsAround_19, e_Crane_closedArcsAround_20, e_Crane_closedArcsAround_21, e_Crane_closedArcsAround_22, e_Crane_closedArcsAround_23, e_Crane_closedArcsAround_24, e_Crane_closedArcsAround_25, e_Crane_closedArcsAround_26, jm_ia, jm_na, jm_qa, jm_aa, jm_asg, jm_l4, jm_Kr, jm_okv, jm_rc, jm_bo, true_and, and_true, Nat.add_zero, Nat.le_refl, j_lt, j_le, j_eq, j_lt0, j_0lt, j_le0, j_0le, j_eq0, j_add, j_sub, j_mul, j_neg, j_0sub, j_nat, j_in, j_div, j_rem, Sum.inl.injEq, exists_eq', true_or, or_true, if_true, if_false, not_true_eq_false, not_false_eq_true, implies_true, j_eq1, reduceIte, Nat.reduceEqDiff, Int.reduceEq, Int.reduceToNat, Nat.reduceAdd, Int.reduceAdd, Int.reduceSub, Int.reduceMul, Int.reduceNeg, and_false, false_and, and_self, u2r, j_b0, j_b1, Classical.not_not, eq_self, true_implies, false_implies, not_true_eq_false, not_false_eq_true, Int.reduceLT, Int.reduceLE, ck, cn, ck0 H, ck1 H, ck2 H, ck3 H, ck4 H, ck5 H, ck6 H, ck7 H, ck8 H, ck9 H, ck10 H, ck11 H, ck12 H, ck13 H, ck14 H, ck15 H, ck16 H, ck17 H, ck18 H, cr0 H, cr1 H, cr2 H, cr3 H, cr4 H, cr5 H, cr6 H, cr7 H, cr8 H, cr9 H, cr10 H, cr11 H, cr12 H, cr13 H, cr14 H, cr15 H, cr16 H, i_s4, i_b3, i_b4, i_b5, i_b6, i_b7, i_b8, i_b9, i_c2, i_c3, i_c4, i_c5, i_c6, i_c7, i_c8, i_c9, i_c10, i_c11, i_t2, i_k0, i_k2, i_k3, i_k4, i_k5, i_ka0, i_ka1, i_ka2, i_a0, i_a2, i_a3, i_a4, i_aa0, i_aa1, i_aa2, i_o0, i_o1, i_o2, i_f, i_u, i_rd, i_ld, w_s4, w_b3, w_b4, w_b5, w_b6, w_b7, w_b8, w_b9, w_c2, w_c3, w_c4, w_c5, w_c6, w_c7, w_c8, w_c9, w_c10, w_c11, w_t2, w_k0, w_k2, w_k3, w_k4, w_k5, w_ka0, w_ka1, w_ka2, w_a0, w_a2, w_a3, w_a4, w_aa0, w_aa1, w_aa2, w_o0, w_o1, w_o2, w_f, w_u, w_rd, w_ld, csk0 H, csk1 H, csi0 H, csi1 H, cr, wr, hj, m1, m2, m5])
        all_goals first
          | (refine ⟨_, ?_, ⟨rfl, _, _, rfl, rfl, rfl, rfl, rfl, rfl, ?_⟩⟩ <;> omega)
          | (refine ⟨_, ⟨rfl, _, _, rfl, rfl, rfl, rfl, rfl, rfl, ?_⟩ ⟩ <;> omega)
          | contradiction
          | exact trivial
          | rfl
          | omega
          | exact (bi1 (by omega)).symm
          | exact (bi0 (by omega)).symm
          | exact (bi1 (by assumption)).symm
          | exact (bi0 (by assumption)).symm
          | (congr 1; omega)
          | ((try unfold IN_); (repeat (first | rw [if_pos (by omega)] | rw [if_neg (by omega)])); done)
          | ((try unfold IN_); (repeat (first | rw [if_pos (by omega)] | rw [if_neg (by omega)])); rfl)
          | ((try unfold IN_); (repeat (first | rw [if_pos (by omega)] | rw [if_neg (by omega)] | rw [if_pos (by assumption)] | rw [if_neg (by assumption)])); rfl)
      · have hj : κ 45 n ≤ i := hi
        have m1 : True := trivial
        have m2 : True := trivial
        have m5 : True := trivial
        simp (disch := omega) only [e_Crane_closedArcsAround_0, e_Crane_closedArcsAround_1, e_Crane_closedArcsAround_2, e_Crane_closedArcsAround_3, c_Crane_closedArcsAround_4, e_Crane_closedArcsAround_4, e_Crane_closedArcsAround_5, e_Crane_closedArcsAround_6, e_Crane_closedArcsAround_7, e_Crane_closedArcsAround_8, e_Crane_closedArcsAround_9, e_Crane_closedArcsAround_10, e_Crane_closedArcsAround_11, e_Crane_closedArcsAround_12, e_Crane_closedArcsAround_13, e_Crane_closedArcsAround_14, e_Crane_closedArcsAround_15, e_Crane_closedArcsAround_16, e_Crane_closedArcsAround_17, e_Crane_closedArcsAround_18, e_Crane_closedArcsAround_19, e_Crane_closedArcsAround_20, e_Crane_closedArcsAround_21, e_Crane_closedArcsAround_22, e_Crane_closedArcsAround_23, e_Crane_closedArcsAround_24, e_Crane_closedArcsAround_25, e_Crane_closedArcsAround_26, jm_ia, jm_na, jm_qa, jm_aa, jm_asg, jm_l4, jm_Kr, jm_okv, jm_rc, jm_bo, true_and, and_true, Nat.add_zero, Nat.le_refl, j_lt, j_le, j_eq, j_lt0, j_0lt, j_le0, j_0le, j_eq0, j_add, j_sub, j_mul, j_neg, j_0sub, j_nat, j_in, j_div, j_rem, Sum.inl.injEq, exists_eq', true_or, or_true, if_true, if_false, not_true_eq_false, not_false_eq_true, implies_true, j_eq1, reduceIte, Nat.reduceEqDiff, Int.reduceEq, Int.reduceToNat, Nat.reduceAdd, Int.reduceAdd, Int.reduceSub, Int.reduceMul, Int.reduceNeg, and_false, false_and, and_self, u2r, j_b0, j_b1, Classical.not_not, eq_self, true_implies, false_implies, not_true_eq_false, not_false_eq_true, Int.reduceLT, Int.reduceLE, ck, cn, ck0 H, ck1 H, ck2 H, ck3 H, ck4 H, ck5 H, ck6 H, ck7 H, ck8 H, ck9 H, ck10 H, ck11 H, ck12 H, ck13 H, ck14 H, ck15 H, ck16 H, ck17 H, ck18 H, cr0 H, cr1 H, cr2 H, cr3 H, cr4 H, cr5 H, cr6 H, cr7 H, cr8 H, cr9 H, cr10 H, cr11 H, cr12 H, cr13 H, cr14 H, cr15 H, cr16 H, i_s4, i_b3, i_b4, i_b5, i_b6, i_b7, i_b8, i_b9, i_c2, i_c3, i_c4, i_c5, i_c6, i_c7, i_c8, i_c9, i_c10, i_c11, i_t2, i_k0, i_k2, i_k3, i_k4, i_k5, i_ka0, i_ka1, i_ka2, i_a0, i_a2, i_a3, i_a4, i_aa0, i_aa1, i_aa2, i_o0, i_o1, i_o2, i_f, i_u, i_rd, i_ld, w_s4, w_b3, w_b4, w_b5, w_b6, w_b7, w_b8, w_b9, w_c2, w_c3, w_c4, w_c5, w_c6, w_c7, w_c8, w_c9, w_c10, w_c11, w_t2, w_k0, w_k2, w_k3, w_k4, w_k5, w_ka0, w_ka1, w_ka2, w_a0, w_a2, w_a3, w_a4, w_aa0, w_aa1, w_aa2, w_o0, w_o1, w_o2, w_f, w_u, w_rd, w_ld, csk0 H, csk1 H, csi0 H, csi1 H, cr, wr, hj, m1, m2, m5]
        repeat' first
          | apply And.intro
          | (intro _)
          | (refine ⟨_, k_has B l (cs h ac κ μ) a m2 _ _ m3 m4 fz.1.1 fz.1.2 fz.2.1 fz.2.2 _ b1.1 b1.2 hw1, ?_⟩; rintro y h' ⟨rfl, hy⟩; cases hy; try simp (disch := omega) only [e_Crane_closedArcsAround_0, e_Crane_closedArcsAround_1, e_Crane_closedArcsAround_2, e_Crane_closedArcsAround_3, c_Crane_closedArcsAround_4, e_Crane_closedArcsAround_4, e_Crane_closedArcsAround_5, e_Crane_closedArcsAround_6, e_Crane_closedArcsAround_7, e_Crane_closedArcsAround_8, e_Crane_closedArcsAround_9, e_Crane_closedArcsAround_10, e_Crane_closedArcsAround_11, e_Crane_closedArcsAround_12, e_Crane_closedArcsAround_13, e_Crane_closedArcsAround_14, e_Crane_closedArcsAround_15, e_Crane_closedArcsAround_16, e_Crane_closedArcsAround_17, e_Crane_closedArcsAround_18, e_Crane_closedArcsAround_19, e_Crane_closedArcsAround_20, e_Crane_closedArcsAround_21, e_Crane_closedArcsAround_22, e_Crane_closedArcsAround_23, e_Crane_closedArcsAround_24, e_Crane_closedArcsAround_25, e_Crane_closedArcsAround_26, jm_ia, jm_na, jm_qa, jm_aa, jm_asg, jm_l4, jm_Kr, jm_okv, jm_rc, jm_bo, true_and, and_true, Nat.add_zero, Nat.le_refl, j_lt, j_le, j_eq, j_lt0, j_0lt, j_le0, j_0le, j_eq0, j_add, j_sub, j_mul, j_neg, j_0sub, j_nat, j_in, j_div, j_rem, Sum.inl.injEq, exists_eq', true_or, or_true, if_true, if_false, not_true_eq_false, not_false_eq_true, implies_true, j_eq1, reduceIte, Nat.reduceEqDiff, Int.reduceEq, Int.reduceToNat, Nat.reduceAdd, Int.reduceAdd, Int.reduceSub, Int.reduceMul, Int.reduceNeg, and_false, false_and, and_self, u2r, j_b0, j_b1, Classical.not_not, eq_self, true_implies, false_implies, not_true_eq_false, not_false_eq_true, Int.reduceLT, Int.reduceLE, ck, cn, ck0 H, ck1 H, ck2 H, ck3 H, ck4 H, ck5 H, ck6 H, ck7 H, ck8 H, ck9 H, ck10 H, ck11 H, ck12 H, ck13 H, ck14 H, ck15 H, ck16 H, ck17 H, ck18 H, cr0 H, cr1 H, cr2 H, cr3 H, cr4 H, cr5 H, cr6 H, cr7 H, cr8 H, cr9 H, cr10 H, cr11 H, cr12 H, cr13 H, cr14 H, cr15 H, cr16 H, i_s4, i_b3, i_b4, i_b5, i_b6, i_b7, i_b8, i_b9, i_c2, i_c3, i_c4, i_c5, i_c6, i_c7, i_c8, i_c9, i_c10, i_c11, i_t2, i_k0, i_k2, i_k3, i_k4, i_k5, i_ka0, i_ka1, i_ka2, i_a0, i_a2, i_a3, i_a4, i_aa0, i_aa1, i_aa2, i_o0, i_o1, i_o2, i_f, i_u, i_rd, i_ld, w_s4, w_b3, w_b4, w_b5, w_b6, w_b7, w_b8, w_b9, w_c2, w_c3, w_c4, w_c5, w_c6, w_c7, w_c8, w_c9, w_c10, w_c11, w_t2, w_k0, w_k2, w_k3, w_k4, w_k5, w_ka0, w_ka1, w_ka2, w_a0, w_a2, w_a3, w_a4, w_aa0, w_aa1, w_aa2, w_o0, w_o1, w_o2, w_f, w_u, w_rd, w_ld, csk0 H, csk1 H, csi0 H, csi1 H, cr, wr, hj, m1, m2, m5])
        all_goals first
          | (refine ⟨_, ?_, ⟨rfl, _, _, rfl, rfl, rfl, rfl, rfl, rfl, ?_⟩⟩ <;> omega)
          | (refine ⟨_, ⟨rfl, _, _, rfl, rfl, rfl, rfl, rfl, rfl, ?_⟩ ⟩ <;> omega)
          | contradiction
          | exact trivial
          | rfl
          | omega
          | exact (bi1 (by omega)).symm
          | exact (bi0 (by omega)).symm
          | exact (bi1 (by assumption)).symm
          | exact (bi0 (by assumption)).symm
          | (congr 1; omega)
          | ((try unfold IN_); (repeat (first | rw [if_pos (by omega)] | rw [if_neg (by omega)])); done)
          | ((try unfold IN_); (repeat (first | rw [if_pos (by omega)] | rw [if_neg (by omega)])); rfl)
          | ((try unfold IN_); (repeat (first | rw [if_pos (by omega)] | rw [if_neg (by omega)] | rw [if_pos (by assumption)] | rw [if_neg (by assumption)])); rfl)
  · have b1 : 0 ≤ κ 1 n ∧ κ 1 n < 3600 := hB 1 n
    have bc := hA.1
    have s0 : sumF (fun j => cfl2 κ n (ids j)) (0 : Int).toNat = 0 := rfl
    simp (disch := omega) only [e_Crane_closedArcsAround_0, e_Crane_closedArcsAround_1, e_Crane_closedArcsAround_2, e_Crane_closedArcsAround_3, c_Crane_closedArcsAround_4, e_Crane_closedArcsAround_4, e_Crane_closedArcsAround_5, e_Crane_closedArcsAround_6, e_Crane_closedArcsAround_7, e_Crane_closedArcsAround_8, e_Crane_closedArcsAround_9, e_Crane_closedArcsAround_10, e_Crane_closedArcsAround_11, e_Crane_closedArcsAround_12, e_Crane_closedArcsAround_13, e_Crane_closedArcsAround_14, e_Crane_closedArcsAround_15, e_Crane_closedArcsAround_16, e_Crane_closedArcsAround_17, e_Crane_closedArcsAround_18, e_Crane_closedArcsAround_19, e_Crane_closedArcsAround_20, e_Crane_closedArcsAround_21, e_Crane_closedArcsAround_22, e_Crane_closedArcsAround_23, e_Crane_closedArcsAround_24, e_Crane_closedArcsAround_25, e_Crane_closedArcsAround_26, jm_ia, jm_na, jm_qa, jm_aa, jm_asg, jm_l4, jm_Kr, jm_okv, jm_rc, jm_bo, true_and, and_true, Nat.add_zero, Nat.le_refl, j_lt, j_le, j_eq, j_lt0, j_0lt, j_le0, j_0le, j_eq0, j_add, j_sub, j_mul, j_neg, j_0sub, j_nat, j_in, j_div, j_rem, Sum.inl.injEq, exists_eq', true_or, or_true, if_true, if_false, not_true_eq_false, not_false_eq_true, implies_true, j_eq1, reduceIte, Nat.reduceEqDiff, Int.reduceEq, Int.reduceToNat, Nat.reduceAdd, Int.reduceAdd, Int.reduceSub, Int.reduceMul, Int.reduceNeg, and_false, false_and, and_self, u2r, j_b0, j_b1, Classical.not_not, eq_self, true_implies, false_implies, not_true_eq_false, not_false_eq_true, Int.reduceLT, Int.reduceLE, ck, cn, ck0 H, ck1 H, ck2 H, ck3 H, ck4 H, ck5 H, ck6 H, ck7 H, ck8 H, ck9 H, ck10 H, ck11 H, ck12 H, ck13 H, ck14 H, ck15 H, ck16 H, ck17 H, ck18 H, cr0 H, cr1 H, cr2 H, cr3 H, cr4 H, cr5 H, cr6 H, cr7 H, cr8 H, cr9 H, cr10 H, cr11 H, cr12 H, cr13 H, cr14 H, cr15 H, cr16 H, i_s4, i_b3, i_b4, i_b5, i_b6, i_b7, i_b8, i_b9, i_c2, i_c3, i_c4, i_c5, i_c6, i_c7, i_c8, i_c9, i_c10, i_c11, i_t2, i_k0, i_k2, i_k3, i_k4, i_k5, i_ka0, i_ka1, i_ka2, i_a0, i_a2, i_a3, i_a4, i_aa0, i_aa1, i_aa2, i_o0, i_o1, i_o2, i_f, i_u, i_rd, i_ld, w_s4, w_b3, w_b4, w_b5, w_b6, w_b7, w_b8, w_b9, w_c2, w_c3, w_c4, w_c5, w_c6, w_c7, w_c8, w_c9, w_c10, w_c11, w_t2, w_k0, w_k2, w_k3, w_k4, w_k5, w_ka0, w_ka1, w_ka2, w_a0, w_a2, w_a3, w_a4, w_aa0, w_aa1, w_aa2, w_o0, w_o1, w_o2, w_f, w_u, w_rd, w_ld, csk0 H, csk1 H, csi0 H, csi1 H, cr, wr]
    repeat' first
      | apply And.intro
      | (intro _)
      | (refine ⟨_, k_has B l (cs h ac κ μ) a m2 _ _ m3 m4 fz.1.1 fz.1.2 fz.2.1 fz.2.2 _ b1.1 b1.2 hw1, ?_⟩; rintro y h' ⟨rfl, hy⟩; cases hy; try simp (disch := omega) only [e_Crane_closedArcsAround_0, e_Crane_closedArcsAround_1, e_Crane_closedArcsAround_2, e_Crane_closedArcsAround_3, c_Crane_closedArcsAround_4, e_Crane_closedArcsAround_4, e_Crane_closedArcsAround_5, e_Crane_closedArcsAround_6, e_Crane_closedArcsAround_7, e_Crane_closedArcsAround_8, e_Crane_closedArcsAround_9, e_Crane_closedArcsAround_10, e_Crane_closedArcsAround_11, e_Crane_closedArcsAround_12, e_Crane_closedArcsAround_13, e_Crane_closedArcsAround_14, e_Crane_closedArcsAround_15, e_Crane_closedArcsAround_16, e_Crane_closedArcsAround_17, e_Crane_closedArcsAround_18, e_Crane_closedArcsAround_19, e_Crane_closedArcsAround_20, e_Crane_closedArcsAround_21, e_Crane_closedArcsAround_22, e_Crane_closedArcsAround_23, e_Crane_closedArcsAround_24, e_Crane_closedArcsAround_25, e_Crane_closedArcsAround_26, jm_ia, jm_na, jm_qa, jm_aa, jm_asg, jm_l4, jm_Kr, jm_okv, jm_rc, jm_bo, true_and, and_true, Nat.add_zero, Nat.le_refl, j_lt, j_le, j_eq, j_lt0, j_0lt, j_le0, j_0le, j_eq0, j_add, j_sub, j_mul, j_neg, j_0sub, j_nat, j_in, j_div, j_rem, Sum.inl.injEq, exists_eq', true_or, or_true, if_true, if_false, not_true_eq_false, not_false_eq_true, implies_true, j_eq1, reduceIte, Nat.reduceEqDiff, Int.reduceEq, Int.reduceToNat, Nat.reduceAdd, Int.reduceAdd, Int.reduceSub, Int.reduceMul, Int.reduceNeg, and_false, false_and, and_self, u2r, j_b0, j_b1, Classical.not_not, eq_self, true_implies, false_implies, not_true_eq_false, not_false_eq_true, Int.reduceLT, Int.reduceLE, ck, cn, ck0 H, ck1 H, ck2 H, ck3 H, ck4 H, ck5 H, ck6 H, ck7 H, ck8 H, ck9 H, ck10 H, ck11 H, ck12 H, ck13 H, ck14 H, ck15 H, ck16 H, ck17 H, ck18 H, cr0 H, cr1 H, cr2 H, cr3 H, cr4 H, cr5 H, cr6 H, cr7 H, cr8 H, cr9 H, cr10 H, cr11 H, cr12 H, cr13 H, cr14 H, cr15 H, cr16 H, i_s4, i_b3, i_b4, i_b5, i_b6, i_b7, i_b8, i_b9, i_c2, i_c3, i_c4, i_c5, i_c6, i_c7, i_c8, i_c9, i_c10, i_c11, i_t2, i_k0, i_k2, i_k3, i_k4, i_k5, i_ka0, i_ka1, i_ka2, i_a0, i_a2, i_a3, i_a4, i_aa0, i_aa1, i_aa2, i_o0, i_o1, i_o2, i_f, i_u, i_rd, i_ld, w_s4, w_b3, w_b4, w_b5, w_b6, w_b7, w_b8, w_b9, w_c2, w_c3, w_c4, w_c5, w_c6, w_c7, w_c8, w_c9, w_c10, w_c11, w_t2, w_k0, w_k2, w_k3, w_k4, w_k5, w_ka0, w_ka1, w_ka2, w_a0, w_a2, w_a3, w_a4, w_aa0, w_aa1, w_aa2, w_o0, w_o1, w_o2, w_f, w_u, w_rd, w_ld, csk0 H, csk1 H, csi0 H, csi1 H, cr, wr])
    all_goals first
      | (refine ⟨_, ?_, ⟨rfl, _, _, rfl, rfl, rfl, rfl, rfl, rfl, ?_⟩⟩ <;> omega)
      | (refine ⟨_, ⟨rfl, _, _, rfl, rfl, rfl, rfl, rfl, rfl, ?_⟩ ⟩ <;> omega)
      | contradiction
      | exact trivial
      | rfl
      | omega
      | exact (bi1 (by omega)).symm
      | exact (bi0 (by omega)).symm
      | exact (bi1 (by assumption)).symm
      | exact (bi0 (by assumption)).symm
      | (congr 1; omega)
      | ((try unfold IN_); (repeat (first | rw [if_pos (by omega)] | rw [if_neg (by omega)])); done)
      | ((try unfold IN_); (repeat (first | rw [if_pos (by omega)] | rw [if_neg (by omega)])); rfl)
      | ((try unfold IN_); (repeat (first | rw [if_pos (by omega)] | rw [if_neg (by omega)] | rw [if_pos (by assumption)] | rw [if_neg (by assumption)])); rfl)
def Iv_k_safe (h : jm_H) (ac : Nat) (κ : S_) (μ : M_) (n : Nat) (ids : Nat → Nat) (v M : Int) : Nat → Nat → List (Option jm_V) → List jm_V → jm_H → Nat → Nat → Prop := fun kq pc L st h' ce sl =>
  (pc = 22 ∧ ∃ (i : Int), L = [some (.inr (.inl (some ((ac + (38 + 5 * n)))))), some (.inl (Int32.ofInt (v))), some (.inl (Int32.ofInt (M))), some (.inl (Int32.ofInt (wayS v))), some (.inl (Int32.ofInt (i)))] ∧ st = [] ∧ h' = cs h ac κ μ ∧ ce = 0 ∧ sl = 0 ∧ kq = (κ 45 n - i).toNat ∧ (0 ≤ i ∧ i ≤ κ 45 n ∧ sumF (fun j => nsf2 κ n v (wayS v) (ids j)) i.toNat = 0))
set_option maxRecDepth 100000 in
set_option maxHeartbeats 4000000 in
theorem k_safe (B : jm_B) (l : Launch) (h : jm_H) (ac : Nat) (κ : S_) (μ : M_) (H : RC B ac h) (n : Nat) (hn : n < 3) {m f : Int} (hB : BB m f κ) (hS : SS κ) (ids : Nat → Nat) (hA : AIs h ac κ μ n ids) (hC : CNv κ) (v : Int) (hv0 : -10 ≤ v) (hv1 : v ≤ 10) (hv : ¬ v = 0) : jm_Ct gG B l (gm 27) [.inr (.inl (some ((ac + (38 + 5 * n))))), .inl (Int32.ofInt (v))] (cs h ac κ μ) (fun v_ h' => h' = cs h ac κ μ ∧ v_ = .inl (Int32.ofInt (safeW κ n v))) := by
  show jm_Ct gG B l M_Crane_isSafe _ _ _
  refine jm_CL (code := k_Crane_isSafe) (Or.inl (by decide)) (by decide) v_Crane_isSafe rfl (Nat.le_of_ble_eq_true rfl) [some (.inr (.inl (some ((ac + (38 + 5 * n)))))), some (.inl (Int32.ofInt (v))), none, none, none] rfl rfl (Iv_k_safe h ac κ μ n ids v (if 0 ≤ v then v else 0 - v)) ?_ ⟨55, ?_⟩
  · intro k pc L st h' ce sl hI
    rcases hI with ⟨rfl, i, rfl, rfl, rfl, rfl, rfl, rfl, hc⟩
    · refine ⟨55, 17, ⟨_, _, rfl, rfl⟩, ?_⟩
      have b1 : 0 ≤ κ 1 n ∧ κ 1 n < 3600 := hB 1 n
      have bc := hA.1
      obtain ⟨M, hM⟩ : ∃ M, (if 0 ≤ v then v else 0 - v) = M := ⟨_, rfl⟩
      have Mb : 0 ≤ M ∧ M ≤ 10 := by rw [← hM]; split <;> omega
      have Mp := mulb Mb.1 Mb.2 (show 0 ≤ M + 1 by omega) (show M + 1 ≤ 11 by omega)
      have Mw : M * (M + 1) / 2 = wayS v := by
        unfold wayS tri
        by_cases q : v < 0
        · rw [if_pos q, ← hM, if_neg (by omega), show 0 - v = -v by omega]
        · rw [if_neg q, ← hM, if_pos (by omega)]
      obtain ⟨k1, k2, k3⟩ := hc
      have s1 := sumF_s (fun j => nsf2 κ n v (wayS v) (ids j)) k1
      have W0 : 0 ≤ wayS v ∧ wayS v ≤ 55 := by omega
      have sb : ∀ j, 0 ≤ (fun j => nsf2 κ n v (wayS v) (ids j)) j := fun j => by show 0 ≤ nsf2 κ n v (wayS v) (ids j); unfold nsf2; split <;> omega
      have hl : κ 45 n ≤ i → safeW κ n v = 1 := fun q => by
        unfold safeW
        rw [← sum_nsf hA hC, show κ 45 n = i by omega, k3]
        rfl
      have hx : Unit → i < κ 45 n → nsf2 κ n v (wayS v) (ids i.toNat) = 1 → safeW κ n v = 0 := fun _ q1 q2 => by
        unfold safeW
        rw [← sum_nsf hA hC]
        refine if_neg (fun q3 => ?_)
        have := sumF_le sb (show (i + 1).toNat ≤ (κ 45 n).toNat by omega)
        rw [q3, s1, k3] at this
        have e : (fun j => nsf2 κ n v (wayS v) (ids j)) i.toNat = 1 := q2
        omega
      rcases (show i < κ 45 n ∨ κ 45 n ≤ i by omega) with hi | hi
      · obtain ⟨j1, a, m1, m2, m3, m4, m5⟩ := hA.2.1 i.toNat (by omega)
        have fz := fzb hB n (ids i.toNat)
        have cb := clo_b hC (ids i.toNat)
        obtain ⟨w1, hw1⟩ := flg_ex (IN_ (κ 1 n) (fI κ n (ids i.toNat)) (zI κ n (ids i.toNat)))
        have w0 := flg01 hw1
        have w2 := flg1 hw1
        obtain ⟨d, hd⟩ : ∃ d, (if 0 < v then (fI κ n (ids i.toNat) - κ 1 n) % 3600 else (κ 1 n - (fI κ n (ids i.toNat) + zI κ n (ids i.toNat) - 1)) % 3600) = d := ⟨_, rfl⟩
        have db : 0 ≤ d ∧ d < 3600 := by rw [← hd]; split <;> omega
        have nb : 0 ≤ nsf2 κ n v (wayS v) (ids i.toNat) ∧ nsf2 κ n v (wayS v) (ids i.toNat) ≤ 1 := by unfold nsf2; exact fl01 rfl
        have nf : nsf2 κ n v (wayS v) (ids i.toNat) = 1 ↔ (clo κ (ids i.toNat) = 1 ∧ w1 = 0 ∧ d ≤ wayS v) := by
          unfold nsf2
          rw [fl1 rfl, nat3, ← w2]
          refine ⟨fun q => ⟨q.1, by omega, ?_⟩, fun q => ⟨q.1, by omega, fun z => ?_⟩⟩
          · rw [← hd]
            by_cases z : d ≤ wayS v
            · rw [hd]; exact z
            · exfalso
              refine q.2.2 ⟨fun y => ?_, fun y => ?_⟩
              · rw [if_pos y] at hd; omega
              · rw [if_neg (by omega)] at hd; omega
          · have q3 := q.2.2
            rcases (show 0 < v ∨ v < 0 by omega) with y | y
            · have := z.1 y; rw [if_pos y] at hd; omega
            · have := z.2 y; rw [if_neg (by omega)] at hd; omega
        clear w2
        have hj : ¬ κ 45 n ≤ i := by omega
        simp (disch := omega) only [e_Crane_isSafe_0, e_Crane_isSafe_1, e_Crane_isSafe_2, e_Crane_isSafe_3, e_Crane_isSafe_4, e_Crane_isSafe_5, e_Crane_isSafe_6, e_Crane_isSafe_7, e_Crane_isSafe_8, e_Crane_isSafe_9, e_Crane_isSafe_10, e_Crane_isSafe_11, e_Crane_isSafe_12, e_Crane_isSafe_13, e_Crane_isSafe_14, e_Crane_isSafe_15, e_Crane_isSafe_16, c_Crane_isSafe_17, e_Crane_isSafe_17, e_Crane_isSafe_18, e_Crane_isSafe_19, e_Crane_isSafe_20, e_Crane_isSafe_21, e_Crane_isSafe_22, e_Crane_isSafe_23, e_Crane_isSafe_24, e_Crane_isSafe_25, e_Crane_isSafe_26, e_Crane_isSafe_27, e_Crane_isSafe_28, e_Crane_isSafe_29, e_Crane_isSafe_30, e_Crane_isSafe_31, e_Crane_isSafe_32, e_Crane_isSafe_33, e_Crane_isSafe_34, e_Crane_isSafe_35, e_Crane_isSafe_36, e_Crane_isSafe_37, e_Crane_isSafe_38, e_Crane_isSafe_39, e_Crane_isSafe_40, e_Crane_isSafe_41, e_Crane_isSafe_42, e_Crane_isSafe_43, e_Crane_isSafe_44, e_Crane_isSafe_45, e_Crane_isSafe_46, e_Crane_isSafe_47, e_Crane_isSafe_48, e_Crane_isSafe_49, e_Crane_isSafe_50, jm_ia, jm_na, jm_qa, jm_aa, jm_asg, jm_l4, jm_Kr, jm_okv, jm_rc, jm_bo, true_and, and_true, Nat.add_zero, Nat.le_refl, j_lt, j_le, j_eq, j_lt0, j_0lt, j_le0, j_0le, j_eq0, j_add, j_sub, j_mul, j_neg, j_0sub, j_nat, j_in, j_div, j_rem, Sum.inl.injEq, exists_eq', true_or, or_true, if_true, if_false, not_true_eq_false, not_false_eq_true, implies_true, j_eq1, reduceIte, Nat.reduceEqDiff, Int.reduceEq, Int.reduceToNat, Nat.reduceAdd, Int.reduceAdd, Int.reduceSub, Int.reduceMul, Int.reduceNeg, and_false, false_and, and_self, u2r, j_b0, j_b1, Classical.not_not, eq_self, true_implies, false_implies, not_true_eq_false, not_false_eq_true, Int.reduceLT, Int.reduceLE, ck, cn, ck0 H, ck1 H, ck2 H, ck3 H, ck4 H, ck5 H, ck6 H, ck7 H, ck8 H, ck9 H, ck10 H, ck11 H, ck12 H, ck13 H, ck14 H, ck15 H, ck16 H, ck17 H, ck18 H, cr0 H, cr1 H, cr2 H, cr3 H, cr4 H, cr5 H, cr6 H, cr7 H, cr8 H, cr9 H, cr10 H, cr11 H, cr12 H, cr13 H, cr14 H, cr15 H, cr16 H, i_s4, i_b3, i_b4, i_b5, i_b6, i_b7, i_b8, i_b9, i_c2, i_c3, i_c4, i_c5, i_c6, i_c7, i_c8, i_c9, i_c10, i_c11, i_t2, i_k0, i_k2, i_k3, i_k4, i_k5, i_ka0, i_ka1, i_ka2, i_a0, i_a2, i_a3, i_a4, i_aa0, i_aa1, i_aa2, i_o0, i_o1, i_o2, i_f, i_u, i_rd, i_ld, w_s4, w_b3, w_b4, w_b5, w_b6, w_b7, w_b8, w_b9, w_c2, w_c3, w_c4, w_c5, w_c6, w_c7, w_c8, w_c9, w_c10, w_c11, w_t2, w_k0, w_k2, w_k3, w_k4, w_k5, w_ka0, w_ka1, w_ka2, w_a0, w_a2, w_a3, w_a4, w_aa0, w_aa1, w_aa2, w_o0, w_o1, w_o2, w_f, w_u, w_rd, w_ld, csk0 H, csk1 H, csi0 H, csi1 H, cr, wr, j_ite, Mw, hM, hj, m1, m2, m5, hd]
        repeat' first
          | apply And.intro
          | (intro _)
          | (refine ⟨_, k_has B l (cs h ac κ μ) a m2 _ _ m3 m4 fz.1.1 fz.1.2 fz.2.1 fz.2.2 _ b1.1 b1.2 hw1, ?_⟩; rintro y h' ⟨rfl, hy⟩; cases hy; try simp (disch := omega) only [e_Crane_isSafe_0, e_Crane_isSafe_1, e_Crane_isSafe_2, e_Crane_isSafe_3, e_Crane_isSafe_4, e_Crane_isSafe_5, e_Crane_isSafe_6, e_Crane_isSafe_7, e_Crane_isSafe_8, e_Crane_isSafe_9, e_Crane_isSafe_10, e_Crane_isSafe_11, e_Crane_isSafe_12, e_Crane_isSafe_13, e_Crane_isSafe_14, e_Crane_isSafe_15, e_Crane_isSafe_16, c_Crane_isSafe_17, e_Crane_isSafe_17, e_Crane_isSafe_18, e_Crane_isSafe_19, e_Crane_isSafe_20, e_Crane_isSafe_21, e_Crane_isSafe_22, e_Crane_isSafe_23, e_Crane_isSafe_24, e_Crane_isSafe_25, e_Crane_isSafe_26, e_Crane_isSafe_27, e_Crane_isSafe_28, e_Crane_isSafe_29, e_Crane_isSafe_30, e_Crane_isSafe_31, e_Crane_isSafe_32, e_Crane_isSafe_33, e_Crane_isSafe_34, e_Crane_isSafe_35, e_Crane_isSafe_36, e_Crane_isSafe_37, e_Crane_isSafe_38, e_Crane_isSafe_39, e_Crane_isSafe_40, e_Crane_isSafe_41, e_Crane_isSafe_42, e_Crane_isSafe_43, e_Crane_isSafe_44, e_Crane_isSafe_45, e_Crane_isSafe_46, e_Crane_isSafe_47, e_Crane_isSafe_48, e_Crane_isSafe_49, e_Crane_isSafe_50, jm_ia, jm_na, jm_qa, jm_aa, jm_asg, jm_l4, jm_Kr, jm_okv, jm_rc, jm_bo, true_and, and_true, Nat.add_zero, Nat.le_refl, j_lt, j_le, j_eq, j_lt0, j_0lt, j_le0, j_0le, j_eq0, j_add, j_sub, j_mul, j_neg, j_0sub, j_nat, j_in, j_div, j_rem, Sum.inl.injEq, exists_eq', true_or, or_true, if_true, if_false, not_true_eq_false, not_false_eq_true, implies_true, j_eq1, reduceIte, Nat.reduceEqDiff, Int.reduceEq, Int.reduceToNat, Nat.reduceAdd, Int.reduceAdd, Int.reduceSub, Int.reduceMul, Int.reduceNeg, and_false, false_and, and_self, u2r, j_b0, j_b1, Classical.not_not, eq_self, true_implies, false_implies, not_true_eq_false, not_false_eq_true, Int.reduceLT, Int.reduceLE, ck, cn, ck0 H, ck1 H, ck2 H, ck3 H, ck4 H, ck5 H, ck6 H, ck7 H, ck8 H, ck9 H, ck10 H, ck11 H, ck12 H, ck13 H, ck14 H, ck15 H, ck16 H, ck17 H, ck18 H, cr0 H, cr1 H, cr2 H, cr3 H, cr4 H, cr5 H, cr6 H, cr7 H, cr8 H, cr9 H, cr10 H, cr11 H, cr12 H, cr13 H, cr14 H, cr15 H, cr16 H, i_s4, i_b3, i_b4, i_b5, i_b6, i_b7, i_b8, i_b9, i_c2, i_c3, i_c4, i_c5, i_c6, i_c7, i_c8, i_c9, i_c10, i_c11, i_t2, i_k0, i_k2, i_k3, i_k4, i_k5, i_ka0, i_ka1, i_ka2, i_a0, i_a2, i_a3, i_a4, i_aa0, i_aa1, i_aa2, i_o0, i_o1, i_o2, i_f, i_u, i_rd, i_ld, w_s4, w_b3, w_b4, w_b5, w_b6, w_b7, w_b8, w_b9, w_c2, w_c3, w_c4, w_c5, w_c6, w_c7, w_c8, w_c9, w_c10, w_c11, w_t2, w_k0, w_k2, w_k3, w_k4, w_k5, w_ka0, w_ka1, w_ka2, w_a0, w_a2, w_a3, w_a4, w_aa0, w_aa1, w_aa2, w_o0, w_o1, w_o2, w_f, w_u, w_rd, w_ld, csk0 H, csk1 H, csi0 H, csi1 H, cr, wr, j_ite, Mw, hM, hj, m1, m2, m5, hd])
          | (refine ⟨_, k_ahead B l (cs h ac κ μ) a m2 _ _ m3 m4 fz.1.1 fz.1.2 fz.2.1 fz.2.2 _ b1.1 b1.2 v (by omega) (by omega), ?_⟩; rintro y h' ⟨rfl, hy⟩; cases hy; try simp (disch := omega) only [e_Crane_isSafe_0, e_Crane_isSafe_1, e_Crane_isSafe_2, e_Crane_isSafe_3, e_Crane_isSafe_4, e_Crane_isSafe_5, e_Crane_isSafe_6, e_Crane_isSafe_7, e_Crane_isSafe_8, e_Crane_isSafe_9, e_Crane_isSafe_10, e_Crane_isSafe_11, e_Crane_isSafe_12, e_Crane_isSafe_13, e_Crane_isSafe_14, e_Crane_isSafe_15, e_Crane_isSafe_16, c_Crane_isSafe_17, e_Crane_isSafe_17, e_Crane_isSafe_18, e_Crane_isSafe_19, e_Crane_isSafe_20, e_Crane_isSafe_21, e_Crane_isSafe_22, e_Crane_isSafe_23, e_Crane_isSafe_24, e_Crane_isSafe_25, e_Crane_isSafe_26, e_Crane_isSafe_27, e_Crane_isSafe_28, e_Crane_isSafe_29, e_Crane_isSafe_30, e_Crane_isSafe_31, e_Crane_isSafe_32, e_Crane_isSafe_33, e_Crane_isSafe_34, e_Crane_isSafe_35, e_Crane_isSafe_36, e_Crane_isSafe_37, e_Crane_isSafe_38, e_Crane_isSafe_39, e_Crane_isSafe_40, e_Crane_isSafe_41, e_Crane_isSafe_42, e_Crane_isSafe_43, e_Crane_isSafe_44, e_Crane_isSafe_45, e_Crane_isSafe_46, e_Crane_isSafe_47, e_Crane_isSafe_48, e_Crane_isSafe_49, e_Crane_isSafe_50, jm_ia, jm_na, jm_qa, jm_aa, jm_asg, jm_l4, jm_Kr, jm_okv, jm_rc, jm_bo, true_and, and_true, Nat.add_zero, Nat.le_refl, j_lt, j_le, j_eq, j_lt0, j_0lt, j_le0, j_0le, j_eq0, j_add, j_sub, j_mul, j_neg, j_0sub, j_nat, j_in, j_div, j_rem, Sum.inl.injEq, exists_eq', true_or, or_true, if_true, if_false, not_true_eq_false, not_false_eq_true, implies_true, j_eq1, reduceIte, Nat.reduceEqDiff, Int.reduceEq, Int.reduceToNat, Nat.reduceAdd, Int.reduceAdd, Int.reduceSub, Int.reduceMul, Int.reduceNeg, and_false, false_and, and_self, u2r, j_b0, j_b1, Classical.not_not, eq_self, true_implies, false_implies, not_true_eq_false, not_false_eq_true, Int.reduceLT, Int.reduceLE, ck, cn, ck0 H, ck1 H, ck2 H, ck3 H, ck4 H, ck5 H, ck6 H, ck7 H, ck8 H, ck9 H, ck10 H, ck11 H, ck12 H, ck13 H, ck14 H, ck15 H, ck16 H, ck17 H, ck18 H, cr0 H, cr1 H, cr2 H, cr3 H, cr4 H, cr5 H, cr6 H, cr7 H, cr8 H, cr9 H, cr10 H, cr11 H, cr12 H, cr13 H, cr14 H, cr15 H, cr16 H, i_s4, i_b3, i_b4, i_b5, i_b6, i_b7, i_b8, i_b9, i_c2, i_c3, i_c4, i_c5, i_c6, i_c7, i_c8, i_c9, i_c10, i_c11, i_t2, i_k0, i_k2, i_k3, i_k4, i_k5, i_ka0, i_ka1, i_ka2, i_a0, i_a2, i_a3, i_a4, i_aa0, i_aa1, i_aa2, i_o0, i_o1, i_o2, i_f, i_u, i_rd, i_ld, w_s4, w_b3, w_b4, w_b5, w_b6, w_b7, w_b8, w_b9, w_c2, w_c3, w_c4, w_c5, w_c6, w_c7, w_c8, w_c9, w_c10, w_c11, w_t2, w_k0, w_k2, w_k3, w_k4, w_k5, w_ka0, w_ka1, w_ka2, w_a0, w_a2, w_a3, w_a4, w_aa0, w_aa1, w_aa2, w_o0, w_o1, w_o2, w_f, w_u, w_rd, w_ld, csk0 H, csk1 H, csi0 H, csi1 H, cr, wr, j_ite, Mw, hM, hj, m1, m2, m5, hd])
        all_goals first
          | (refine ⟨_, ?_, ⟨rfl, _, rfl, rfl, rfl, rfl, rfl, rfl, ?_⟩⟩ <;> omega)
          | (refine ⟨_, ⟨rfl, _, rfl, rfl, rfl, rfl, rfl, rfl, ?_⟩ ⟩ <;> omega)
          | contradiction
          | exact trivial
          | rfl
          | omega
          | exact (bi1 (by omega)).symm
          | exact (bi0 (by omega)).symm
          | exact (bi1 (by assumption)).symm
          | exact (bi0 (by assumption)).symm
          | (congr 1; omega)
          | (rw [hl (by omega)]; done)
          | (rw [hx () (by omega) (by omega)]; done)
          | ((try unfold IN_); (repeat (first | rw [if_pos (by omega)] | rw [if_neg (by omega)])); done)
          | ((try unfold IN_); (repeat (first | rw [if_pos (by omega)] | rw [if_neg (by omega)])); rfl)
          | ((try unfold IN_); (repeat (first | rw [if_pos (by omega)] | rw [if_neg (by omega)] | rw [if_pos (by assumption)] | rw [if_neg (by assumption)])); rfl)
      · have hj : κ 45 n ≤ i := hi
        have m1 : True := trivial
        have m2 : True := trivial
        have m5 : True := trivial
        have hd : True := trivial
        simp (disch := omega) only [e_Crane_isSafe_0, e_Crane_isSafe_1, e_Crane_isSafe_2, e_Crane_isSafe_3, e_Crane_isSafe_4, e_Crane_isSafe_5, e_Crane_isSafe_6, e_Crane_isSafe_7, e_Crane_isSafe_8, e_Crane_isSafe_9, e_Crane_isSafe_10, e_Crane_isSafe_11, e_Crane_isSafe_12, e_Crane_isSafe_13, e_Crane_isSafe_14, e_Crane_isSafe_15, e_Crane_isSafe_16, c_Crane_isSafe_17, e_Crane_isSafe_17, e_Crane_isSafe_18, e_Crane_isSafe_19, e_Crane_isSafe_20, e_Crane_isSafe_21, e_Crane_isSafe_22, e_Crane_isSafe_23, e_Crane_isSafe_24, e_Crane_isSafe_25, e_Crane_isSafe_26, e_Crane_isSafe_27, e_Crane_isSafe_28, e_Crane_isSafe_29, e_Crane_isSafe_30, e_Crane_isSafe_31, e_Crane_isSafe_32, e_Crane_isSafe_33, e_Crane_isSafe_34, e_Crane_isSafe_35, e_Crane_isSafe_36, e_Crane_isSafe_37, e_Crane_isSafe_38, e_Crane_isSafe_39, e_Crane_isSafe_40, e_Crane_isSafe_41, e_Crane_isSafe_42, e_Crane_isSafe_43, e_Crane_isSafe_44, e_Crane_isSafe_45, e_Crane_isSafe_46, e_Crane_isSafe_47, e_Crane_isSafe_48, e_Crane_isSafe_49, e_Crane_isSafe_50, jm_ia, jm_na, jm_qa, jm_aa, jm_asg, jm_l4, jm_Kr, jm_okv, jm_rc, jm_bo, true_and, and_true, Nat.add_zero, Nat.le_refl, j_lt, j_le, j_eq, j_lt0, j_0lt, j_le0, j_0le, j_eq0, j_add, j_sub, j_mul, j_neg, j_0sub, j_nat, j_in, j_div, j_rem, Sum.inl.injEq, exists_eq', true_or, or_true, if_true, if_false, not_true_eq_false, not_false_eq_true, implies_true, j_eq1, reduceIte, Nat.reduceEqDiff, Int.reduceEq, Int.reduceToNat, Nat.reduceAdd, Int.reduceAdd, Int.reduceSub, Int.reduceMul, Int.reduceNeg, and_false, false_and, and_self, u2r, j_b0, j_b1, Classical.not_not, eq_self, true_implies, false_implies, not_true_eq_false, not_false_eq_true, Int.reduceLT, Int.reduceLE, ck, cn, ck0 H, ck1 H, ck2 H, ck3 H, ck4 H, ck5 H, ck6 H, ck7 H, ck8 H, ck9 H, ck10 H, ck11 H, ck12 H, ck13 H, ck14 H, ck15 H, ck16 H, ck17 H, ck18 H, cr0 H, cr1 H, cr2 H, cr3 H, cr4 H, cr5 H, cr6 H, cr7 H, cr8 H, cr9 H, cr10 H, cr11 H, cr12 H, cr13 H, cr14 H, cr15 H, cr16 H, i_s4, i_b3, i_b4, i_b5, i_b6, i_b7, i_b8, i_b9, i_c2, i_c3, i_c4, i_c5, i_c6, i_c7, i_c8, i_c9, i_c10, i_c11, i_t2, i_k0, i_k2, i_k3, i_k4, i_k5, i_ka0, i_ka1, i_ka2, i_a0, i_a2, i_a3, i_a4, i_aa0, i_aa1, i_aa2, i_o0, i_o1, i_o2, i_f, i_u, i_rd, i_ld, w_s4, w_b3, w_b4, w_b5, w_b6, w_b7, w_b8, w_b9, w_c2, w_c3, w_c4, w_c5, w_c6, w_c7, w_c8, w_c9, w_c10, w_c11, w_t2, w_k0, w_k2, w_k3, w_k4, w_k5, w_ka0, w_ka1, w_ka2, w_a0, w_a2, w_a3, w_a4, w_aa0, w_aa1, w_aa2, w_o0, w_o1, w_o2, w_f, w_u, w_rd, w_ld, csk0 H, csk1 H, csi0 H, csi1 H, cr, wr, j_ite, Mw, hM, hj, m1, m2, m5, hd]
        repeat' first
          | apply And.intro
          | (intro _)
          | (refine ⟨_, k_has B l (cs h ac κ μ) a m2 _ _ m3 m4 fz.1.1 fz.1.2 fz.2.1 fz.2.2 _ b1.1 b1.2 hw1, ?_⟩; rintro y h' ⟨rfl, hy⟩; cases hy; try simp (disch := omega) only [e_Crane_isSafe_0, e_Crane_isSafe_1, e_Crane_isSafe_2, e_Crane_isSafe_3, e_Crane_isSafe_4, e_Crane_isSafe_5, e_Crane_isSafe_6, e_Crane_isSafe_7, e_Crane_isSafe_8, e_Crane_isSafe_9, e_Crane_isSafe_10, e_Crane_isSafe_11, e_Crane_isSafe_12, e_Crane_isSafe_13, e_Crane_isSafe_14, e_Crane_isSafe_15, e_Crane_isSafe_16, c_Crane_isSafe_17, e_Crane_isSafe_17, e_Crane_isSafe_18, e_Crane_isSafe_19, e_Crane_isSafe_20, e_Crane_isSafe_21, e_Crane_isSafe_22, e_Crane_isSafe_23, e_Crane_isSafe_24, e_Crane_isSafe_25, e_Crane_isSafe_26, e_Crane_isSafe_27, e_Crane_isSafe_28, e_Crane_isSafe_29, e_Crane_isSafe_30, e_Crane_isSafe_31, e_Crane_isSafe_32, e_Crane_isSafe_33, e_Crane_isSafe_34, e_Crane_isSafe_35, e_Crane_isSafe_36, e_Crane_isSafe_37, e_Crane_isSafe_38, e_Crane_isSafe_39, e_Crane_isSafe_40, e_Crane_isSafe_41, e_Crane_isSafe_42, e_Crane_isSafe_43, e_Crane_isSafe_44, e_Crane_isSafe_45, e_Crane_isSafe_46, e_Crane_isSafe_47, e_Crane_isSafe_48, e_Crane_isSafe_49, e_Crane_isSafe_50, jm_ia, jm_na, jm_qa, jm_aa, jm_asg, jm_l4, jm_Kr, jm_okv, jm_rc, jm_bo, true_and, and_true, Nat.add_zero, Nat.le_refl, j_lt, j_le, j_eq, j_lt0, j_0lt, j_le0, j_0le, j_eq0, j_add, j_sub, j_mul, j_neg, j_0sub, j_nat, j_in, j_div, j_rem, Sum.inl.injEq, exists_eq', true_or, or_true, if_true, if_false, not_true_eq_false, not_false_eq_true, implies_true, j_eq1, reduceIte, Nat.reduceEqDiff, Int.reduceEq, Int.reduceToNat, Nat.reduceAdd, Int.reduceAdd, Int.reduceSub, Int.reduceMul, Int.reduceNeg, and_false, false_and, and_self, u2r, j_b0, j_b1, Classical.not_not, eq_self, true_implies, false_implies, not_true_eq_false, not_false_eq_true, Int.reduceLT, Int.reduceLE, ck, cn, ck0 H, ck1 H, ck2 H, ck3 H, ck4 H, ck5 H, ck6 H, ck7 H, ck8 H, ck9 H, ck10 H, ck11 H, ck12 H, ck13 H, ck14 H, ck15 H, ck16 H, ck17 H, ck18 H, cr0 H, cr1 H, cr2 H, cr3 H, cr4 H, cr5 H, cr6 H, cr7 H, cr8 H, cr9 H, cr10 H, cr11 H, cr12 H, cr13 H, cr14 H, cr15 H, cr16 H, i_s4, i_b3, i_b4, i_b5, i_b6, i_b7, i_b8, i_b9, i_c2, i_c3, i_c4, i_c5, i_c6, i_c7, i_c8, i_c9, i_c10, i_c11, i_t2, i_k0, i_k2, i_k3, i_k4, i_k5, i_ka0, i_ka1, i_ka2, i_a0, i_a2, i_a3, i_a4, i_aa0, i_aa1, i_aa2, i_o0, i_o1, i_o2, i_f, i_u, i_rd, i_ld, w_s4, w_b3, w_b4, w_b5, w_b6, w_b7, w_b8, w_b9, w_c2, w_c3, w_c4, w_c5, w_c6, w_c7, w_c8, w_c9, w_c10, w_c11, w_t2, w_k0, w_k2, w_k3, w_k4, w_k5, w_ka0, w_ka1, w_ka2, w_a0, w_a2, w_a3, w_a4, w_aa0, w_aa1, w_aa2, w_o0, w_o1, w_o2, w_f, w_u, w_rd, w_ld, csk0 H, csk1 H, csi0 H, csi1 H, cr, wr, j_ite, Mw, hM, hj, m1, m2, m5, hd])
          | (refine ⟨_, k_ahead B l (cs h ac κ μ) a m2 _ _ m3 m4 fz.1.1 fz.1.2 fz.2.1 fz.2.2 _ b1.1 b1.2 v (by omega) (by omega), ?_⟩; rintro y h' ⟨rfl, hy⟩; cases hy; try simp (disch := omega) only [e_Crane_isSafe_0, e_Crane_isSafe_1, e_Crane_isSafe_2, e_Crane_isSafe_3, e_Crane_isSafe_4, e_Crane_isSafe_5, e_Crane_isSafe_6, e_Crane_isSafe_7, e_Crane_isSafe_8, e_Crane_isSafe_9, e_Crane_isSafe_10, e_Crane_isSafe_11, e_Crane_isSafe_12, e_Crane_isSafe_13, e_Crane_isSafe_14, e_Crane_isSafe_15, e_Crane_isSafe_16, c_Crane_isSafe_17, e_Crane_isSafe_17, e_Crane_isSafe_18, e_Crane_isSafe_19, e_Crane_isSafe_20, e_Crane_isSafe_21, e_Crane_isSafe_22, e_Crane_isSafe_23, e_Crane_isSafe_24, e_Crane_isSafe_25, e_Crane_isSafe_26, e_Crane_isSafe_27, e_Crane_isSafe_28, e_Crane_isSafe_29, e_Crane_isSafe_30, e_Crane_isSafe_31, e_Crane_isSafe_32, e_Crane_isSafe_33, e_Crane_isSafe_34, e_Crane_isSafe_35, e_Crane_isSafe_36, e_Crane_isSafe_37, e_Crane_isSafe_38, e_Crane_isSafe_39, e_Crane_isSafe_40, e_Crane_isSafe_41, e_Crane_isSafe_42, e_Crane_isSafe_43, e_Crane_isSafe_44, e_Crane_isSafe_45, e_Crane_isSafe_46, e_Crane_isSafe_47, e_Crane_isSafe_48, e_Crane_isSafe_49, e_Crane_isSafe_50, jm_ia, jm_na, jm_qa, jm_aa, jm_asg, jm_l4, jm_Kr, jm_okv, jm_rc, jm_bo, true_and, and_true, Nat.add_zero, Nat.le_refl, j_lt, j_le, j_eq, j_lt0, j_0lt, j_le0, j_0le, j_eq0, j_add, j_sub, j_mul, j_neg, j_0sub, j_nat, j_in, j_div, j_rem, Sum.inl.injEq, exists_eq', true_or, or_true, if_true, if_false, not_true_eq_false, not_false_eq_true, implies_true, j_eq1, reduceIte, Nat.reduceEqDiff, Int.reduceEq, Int.reduceToNat, Nat.reduceAdd, Int.reduceAdd, Int.reduceSub, Int.reduceMul, Int.reduceNeg, and_false, false_and, and_self, u2r, j_b0, j_b1, Classical.not_not, eq_self, true_implies, false_implies, not_true_eq_false, not_false_eq_true, Int.reduceLT, Int.reduceLE, ck, cn, ck0 H, ck1 H, ck2 H, ck3 H, ck4 H, ck5 H, ck6 H, ck7 H, ck8 H, ck9 H, ck10 H, ck11 H, ck12 H, ck13 H, ck14 H, ck15 H, ck16 H, ck17 H, ck18 H, cr0 H, cr1 H, cr2 H, cr3 H, cr4 H, cr5 H, cr6 H, cr7 H, cr8 H, cr9 H, cr10 H, cr11 H, cr12 H, cr13 H, cr14 H, cr15 H, cr16 H, i_s4, i_b3, i_b4, i_b5, i_b6, i_b7, i_b8, i_b9, i_c2, i_c3, i_c4, i_c5, i_c6, i_c7, i_c8, i_c9, i_c10, i_c11, i_t2, i_k0, i_k2, i_k3, i_k4, i_k5, i_ka0, i_ka1, i_ka2, i_a0, i_a2, i_a3, i_a4, i_aa0, i_aa1, i_aa2, i_o0, i_o1, i_o2, i_f, i_u, i_rd, i_ld, w_s4, w_b3, w_b4, w_b5, w_b6, w_b7, w_b8, w_b9, w_c2, w_c3, w_c4, w_c5, w_c6, w_c7, w_c8, w_c9, w_c10, w_c11, w_t2, w_k0, w_k2, w_k3, w_k4, w_k5, w_ka0, w_ka1, w_ka2, w_a0, w_a2, w_a3, w_a4, w_aa0, w_aa1, w_aa2, w_o0, w_o1, w_o2, w_f, w_u, w_rd, w_ld, csk0 H, csk1 H, csi0 H, csi1 H, cr, wr, j_ite, Mw, hM, hj, m1, m2, m5, hd])
        all_goals first
          | (refine ⟨_, ?_, ⟨rfl, _, rfl, rfl, rfl, rfl, rfl, rfl, ?_⟩⟩ <;> omega)
          | (refine ⟨_, ⟨rfl, _, rfl, rfl, rfl, rfl, rfl, rfl, ?_⟩ ⟩ <;> omega)
          | contradiction
          | exact trivial
          | rfl
          | omega
          | exact (bi1 (by omega)).symm
          | exact (bi0 (by omega)).symm
          | exact (bi1 (by assumption)).symm
          | exact (bi0 (by assumption)).symm
          | (congr 1; omega)
          | (rw [hl (by omega)]; done)
          | (rw [hx () (by omega) (by omega)]; done)
          | ((try unfold IN_); (repeat (first | rw [if_pos (by omega)] | rw [if_neg (by omega)])); done)
          | ((try unfold IN_); (repeat (first | rw [if_pos (by omega)] | rw [if_neg (by omega)])); rfl)
          | ((try unfold IN_); (repeat (first | rw [if_pos (by omega)] | rw [if_neg (by omega)] | rw [if_pos (by assumption)] | rw [if_neg (by assumption)])); rfl)
  · have b1 : 0 ≤ κ 1 n ∧ κ 1 n < 3600 := hB 1 n
    have bc := hA.1
    obtain ⟨M, hM⟩ : ∃ M, (if 0 ≤ v then v else 0 - v) = M := ⟨_, rfl⟩
    have Mb : 0 ≤ M ∧ M ≤ 10 := by rw [← hM]; split <;> omega
    have Mp := mulb Mb.1 Mb.2 (show 0 ≤ M + 1 by omega) (show M + 1 ≤ 11 by omega)
    have Mw : M * (M + 1) / 2 = wayS v := by
      unfold wayS tri
      by_cases q : v < 0
      · rw [if_pos q, ← hM, if_neg (by omega), show 0 - v = -v by omega]
      · rw [if_neg q, ← hM, if_pos (by omega)]
    have s0 : sumF (fun j => nsf2 κ n v (wayS v) (ids j)) (0 : Int).toNat = 0 := rfl
    simp (disch := omega) only [e_Crane_isSafe_0, e_Crane_isSafe_1, e_Crane_isSafe_2, e_Crane_isSafe_3, e_Crane_isSafe_4, e_Crane_isSafe_5, e_Crane_isSafe_6, e_Crane_isSafe_7, e_Crane_isSafe_8, e_Crane_isSafe_9, e_Crane_isSafe_10, e_Crane_isSafe_11, e_Crane_isSafe_12, e_Crane_isSafe_13, e_Crane_isSafe_14, e_Crane_isSafe_15, e_Crane_isSafe_16, c_Crane_isSafe_17, e_Crane_isSafe_17, e_Crane_isSafe_18, e_Crane_isSafe_19, e_Crane_isSafe_20, e_Crane_isSafe_21, e_Crane_isSafe_22, e_Crane_isSafe_23, e_Crane_isSafe_24, e_Crane_isSafe_25, e_Crane_isSafe_26, e_Crane_isSafe_27, e_Crane_isSafe_28, e_Crane_isSafe_29, e_Crane_isSafe_30, e_Crane_isSafe_31, e_Crane_isSafe_32, e_Crane_isSafe_33, e_Crane_isSafe_34, e_Crane_isSafe_35, e_Crane_isSafe_36, e_Crane_isSafe_37, e_Crane_isSafe_38, e_Crane_isSafe_39, e_Crane_isSafe_40, e_Crane_isSafe_41, e_Crane_isSafe_42, e_Crane_isSafe_43, e_Crane_isSafe_44, e_Crane_isSafe_45, e_Crane_isSafe_46, e_Crane_isSafe_47, e_Crane_isSafe_48, e_Crane_isSafe_49, e_Crane_isSafe_50, jm_ia, jm_na, jm_qa, jm_aa, jm_asg, jm_l4, jm_Kr, jm_okv, jm_rc, jm_bo, true_and, and_true, Nat.add_zero, Nat.le_refl, j_lt, j_le, j_eq, j_lt0, j_0lt, j_le0, j_0le, j_eq0, j_add, j_sub, j_mul, j_neg, j_0sub, j_nat, j_in, j_div, j_rem, Sum.inl.injEq, exists_eq', true_or, or_true, if_true, if_false, not_true_eq_false, not_false_eq_true, implies_true, j_eq1, reduceIte, Nat.reduceEqDiff, Int.reduceEq, Int.reduceToNat, Nat.reduceAdd, Int.reduceAdd, Int.reduceSub, Int.reduceMul, Int.reduceNeg, and_false, false_and, and_self, u2r, j_b0, j_b1, Classical.not_not, eq_self, true_implies, false_implies, not_true_eq_false, not_false_eq_true, Int.reduceLT, Int.reduceLE, ck, cn, ck0 H, ck1 H, ck2 H, ck3 H, ck4 H, ck5 H, ck6 H, ck7 H, ck8 H, ck9 H, ck10 H, ck11 H, ck12 H, ck13 H, ck14 H, ck15 H, ck16 H, ck17 H, ck18 H, cr0 H, cr1 H, cr2 H, cr3 H, cr4 H, cr5 H, cr6 H, cr7 H, cr8 H, cr9 H, cr10 H, cr11 H, cr12 H, cr13 H, cr14 H, cr15 H, cr16 H, i_s4, i_b3, i_b4, i_b5, i_b6, i_b7, i_b8, i_b9, i_c2, i_c3, i_c4, i_c5, i_c6, i_c7, i_c8, i_c9, i_c10, i_c11, i_t2, i_k0, i_k2, i_k3, i_k4, i_k5, i_ka0, i_ka1, i_ka2, i_a0, i_a2, i_a3, i_a4, i_aa0, i_aa1, i_aa2, i_o0, i_o1, i_o2, i_f, i_u, i_rd, i_ld, w_s4, w_b3, w_b4, w_b5, w_b6, w_b7, w_b8, w_b9, w_c2, w_c3, w_c4, w_c5, w_c6, w_c7, w_c8, w_c9, w_c10, w_c11, w_t2, w_k0, w_k2, w_k3, w_k4, w_k5, w_ka0, w_ka1, w_ka2, w_a0, w_a2, w_a3, w_a4, w_aa0, w_aa1, w_aa2, w_o0, w_o1, w_o2, w_f, w_u, w_rd, w_ld, csk0 H, csk1 H, csi0 H, csi1 H, cr, wr, j_ite, Mw, hM]
    repeat' first
      | apply And.intro
      | (intro _)
      | (refine ⟨_, k_has B l (cs h ac κ μ) a m2 _ _ m3 m4 fz.1.1 fz.1.2 fz.2.1 fz.2.2 _ b1.1 b1.2 hw1, ?_⟩; rintro y h' ⟨rfl, hy⟩; cases hy; try simp (disch := omega) only [e_Crane_isSafe_0, e_Crane_isSafe_1, e_Crane_isSafe_2, e_Crane_isSafe_3, e_Crane_isSafe_4, e_Crane_isSafe_5, e_Crane_isSafe_6, e_Crane_isSafe_7, e_Crane_isSafe_8, e_Crane_isSafe_9, e_Crane_isSafe_10, e_Crane_isSafe_11, e_Crane_isSafe_12, e_Crane_isSafe_13, e_Crane_isSafe_14, e_Crane_isSafe_15, e_Crane_isSafe_16, c_Crane_isSafe_17, e_Crane_isSafe_17, e_Crane_isSafe_18, e_Crane_isSafe_19, e_Crane_isSafe_20, e_Crane_isSafe_21, e_Crane_isSafe_22, e_Crane_isSafe_23, e_Crane_isSafe_24, e_Crane_isSafe_25, e_Crane_isSafe_26, e_Crane_isSafe_27, e_Crane_isSafe_28, e_Crane_isSafe_29, e_Crane_isSafe_30, e_Crane_isSafe_31, e_Crane_isSafe_32, e_Crane_isSafe_33, e_Crane_isSafe_34, e_Crane_isSafe_35, e_Crane_isSafe_36, e_Crane_isSafe_37, e_Crane_isSafe_38, e_Crane_isSafe_39, e_Crane_isSafe_40, e_Crane_isSafe_41, e_Crane_isSafe_42, e_Crane_isSafe_43, e_Crane_isSafe_44, e_Crane_isSafe_45, e_Crane_isSafe_46, e_Crane_isSafe_47, e_Crane_isSafe_48, e_Crane_isSafe_49, e_Crane_isSafe_50, jm_ia, jm_na, jm_qa, jm_aa, jm_asg, jm_l4, jm_Kr, jm_okv, jm_rc, jm_bo, true_and, and_true, Nat.add_zero, Nat.le_refl, j_lt, j_le, j_eq, j_lt0, j_0lt, j_le0, j_0le, j_eq0, j_add, j_sub, j_mul, j_neg, j_0sub, j_nat, j_in, j_div, j_rem, Sum.inl.injEq, exists_eq', true_or, or_true, if_true, if_false, not_true_eq_false, not_false_eq_true, implies_true, j_eq1, reduceIte, Nat.reduceEqDiff, Int.reduceEq, Int.reduceToNat, Nat.reduceAdd, Int.reduceAdd, Int.reduceSub, Int.reduceMul, Int.reduceNeg, and_false, false_and, and_self, u2r, j_b0, j_b1, Classical.not_not, eq_self, true_implies, false_implies, not_true_eq_false, not_false_eq_true, Int.reduceLT, Int.reduceLE, ck, cn, ck0 H, ck1 H, ck2 H, ck3 H, ck4 H, ck5 H, ck6 H, ck7 H, ck8 H, ck9 H, ck10 H, ck11 H, ck12 H, ck13 H, ck14 H, ck15 H, ck16 H, ck17 H, ck18 H, cr0 H, cr1 H, cr2 H, cr3 H, cr4 H, cr5 H, cr6 H, cr7 H, cr8 H, cr9 H, cr10 H, cr11 H, cr12 H, cr13 H, cr14 H, cr15 H, cr16 H, i_s4, i_b3, i_b4, i_b5, i_b6, i_b7, i_b8, i_b9, i_c2, i_c3, i_c4, i_c5, i_c6, i_c7, i_c8, i_c9, i_c10, i_c11, i_t2, i_k0, i_k2, i_k3, i_k4, i_k5, i_ka0, i_ka1, i_ka2, i_a0, i_a2, i_a3, i_a4, i_aa0, i_aa1, i_aa2, i_o0, i_o1, i_o2, i_f, i_u, i_rd, i_ld, w_s4, w_b3, w_b4, w_b5, w_b6, w_b7, w_b8, w_b9, w_c2, w_c3, w_c4, w_c5, w_c6, w_c7, w_c8, w_c9, w_c10, w_c11, w_t2, w_k0, w_k2, w_k3, w_k4, w_k5, w_ka0, w_ka1, w_ka2, w_a0, w_a2, w_a3, w_a4, w_aa0, w_aa1, w_aa2, w_o0, w_o1, w_o2, w_f, w_u, w_rd, w_ld, csk0 H, csk1 H, csi0 H, csi1 H, cr, wr, j_ite, Mw, hM])
      | (refine ⟨_, k_ahead B l (cs h ac κ μ) a m2 _ _ m3 m4 fz.1.1 fz.1.2 fz.2.1 fz.2.2 _ b1.1 b1.2 v (by omega) (by omega), ?_⟩; rintro y h' ⟨rfl, hy⟩; cases hy; try simp (disch := omega) only [e_Crane_isSafe_0, e_Crane_isSafe_1, e_Crane_isSafe_2, e_Crane_isSafe_3, e_Crane_isSafe_4, e_Crane_isSafe_5, e_Crane_isSafe_6, e_Crane_isSafe_7, e_Crane_isSafe_8, e_Crane_isSafe_9, e_Crane_isSafe_10, e_Crane_isSafe_11, e_Crane_isSafe_12, e_Crane_isSafe_13, e_Crane_isSafe_14, e_Crane_isSafe_15, e_Crane_isSafe_16, c_Crane_isSafe_17, e_Crane_isSafe_17, e_Crane_isSafe_18, e_Crane_isSafe_19, e_Crane_isSafe_20, e_Crane_isSafe_21, e_Crane_isSafe_22, e_Crane_isSafe_23, e_Crane_isSafe_24, e_Crane_isSafe_25, e_Crane_isSafe_26, e_Crane_isSafe_27, e_Crane_isSafe_28, e_Crane_isSafe_29, e_Crane_isSafe_30, e_Crane_isSafe_31, e_Crane_isSafe_32, e_Crane_isSafe_33, e_Crane_isSafe_34, e_Crane_isSafe_35, e_Crane_isSafe_36, e_Crane_isSafe_37, e_Crane_isSafe_38, e_Crane_isSafe_39, e_Crane_isSafe_40, e_Crane_isSafe_41, e_Crane_isSafe_42, e_Crane_isSafe_43, e_Crane_isSafe_44, e_Crane_isSafe_45, e_Crane_isSafe_46, e_Crane_isSafe_47, e_Crane_isSafe_48, e_Crane_isSafe_49, e_Crane_isSafe_50, jm_ia, jm_na, jm_qa, jm_aa, jm_asg, jm_l4, jm_Kr, jm_okv, jm_rc, jm_bo, true_and, and_true, Nat.add_zero, Nat.le_refl, j_lt, j_le, j_eq, j_lt0, j_0lt, j_le0, j_0le, j_eq0, j_add, j_sub, j_mul, j_neg, j_0sub, j_nat, j_in, j_div, j_rem, Sum.inl.injEq, exists_eq', true_or, or_true, if_true, if_false, not_true_eq_false, not_false_eq_true, implies_true, j_eq1, reduceIte, Nat.reduceEqDiff, Int.reduceEq, Int.reduceToNat, Nat.reduceAdd, Int.reduceAdd, Int.reduceSub, Int.reduceMul, Int.reduceNeg, and_false, false_and, and_self, u2r, j_b0, j_b1, Classical.not_not, eq_self, true_implies, false_implies, not_true_eq_false, not_false_eq_true, Int.reduceLT, Int.reduceLE, ck, cn, ck0 H, ck1 H, ck2 H, ck3 H, ck4 H, ck5 H, ck6 H, ck7 H, ck8 H, ck9 H, ck10 H, ck11 H, ck12 H, ck13 H, ck14 H, ck15 H, ck16 H, ck17 H, ck18 H, cr0 H, cr1 H, cr2 H, cr3 H, cr4 H, cr5 H, cr6 H, cr7 H, cr8 H, cr9 H, cr10 H, cr11 H, cr12 H, cr13 H, cr14 H, cr15 H, cr16 H, i_s4, i_b3, i_b4, i_b5, i_b6, i_b7, i_b8, i_b9, i_c2, i_c3, i_c4, i_c5, i_c6, i_c7, i_c8, i_c9, i_c10, i_c11, i_t2, i_k0, i_k2, i_k3, i_k4, i_k5, i_ka0, i_ka1, i_ka2, i_a0, i_a2, i_a3, i_a4, i_aa0, i_aa1, i_aa2, i_o0, i_o1, i_o2, i_f, i_u, i_rd, i_ld, w_s4, w_b3, w_b4, w_b5, w_b6, w_b7, w_b8, w_b9, w_c2, w_c3, w_c4, w_c5, w_c6, w_c7, w_c8, w_c9, w_c10, w_c11, w_t2, w_k0, w_k2, w_k3, w_k4, w_k5, w_ka0, w_ka1, w_ka2, w_a0, w_a2, w_a3, w_a4, w_aa0, w_aa1, w_aa2, w_o0, w_o1, w_o2, w_f, w_u, w_rd, w_ld, csk0 H, csk1 H, csi0 H, csi1 H, cr, wr, j_ite, Mw, hM])
    all_goals first
      | (refine ⟨_, ?_, ⟨rfl, _, rfl, rfl, rfl, rfl, rfl, rfl, ?_⟩⟩ <;> omega)
      | (refine ⟨_, ⟨rfl, _, rfl, rfl, rfl, rfl, rfl, rfl, ?_⟩ ⟩ <;> omega)
      | contradiction
      | exact trivial
      | rfl
      | omega
      | exact (bi1 (by omega)).symm
      | exact (bi0 (by omega)).symm
      | exact (bi1 (by assumption)).symm
      | exact (bi0 (by assumption)).symm
      | (congr 1; omega)
      | (rw [hl (by omega)]; done)
      | (rw [hx () (by omega) (by omega)]; done)
      | ((try unfold IN_); (repeat (first | rw [if_pos (by omega)] | rw [if_neg (by omega)])); done)
      | ((try unfold IN_); (repeat (first | rw [if_pos (by omega)] | rw [if_neg (by omega)])); rfl)
      | ((try unfold IN_); (repeat (first | rw [if_pos (by omega)] | rw [if_neg (by omega)] | rw [if_pos (by assumption)] | rw [if_neg (by assumption)])); rfl)
