/-! the table of loads -/
def lineS (σ : S_) (b i r : Int) : Int := σ 9 (b + i - 1).toNat + ((σ 9 (b + i).toNat - σ 9 (b + i - 1).toNat) * (r - σ 8 (b + i - 1).toNat)) / (σ 8 (b + i).toNat - σ 8 (b + i - 1).toNat)
def tabF (σ : S_) (c r : Int) : Nat → Int → Int
  | 0, _ => 0
  | n + 1, i => if i < σ 7 c.toNat then (if r ≤ σ 8 (c * 8 + i).toNat then (if i = 0 then σ 9 (c * 8).toNat else lineS σ (c * 8) i r) else tabF σ c r n (i + 1)) else 0
def tabS (σ : S_) (c r : Int) : Int := tabF σ c r 9 0
theorem tabF_0 (σ : S_) (c r : Int) : ∀ (n : Nat) (i : Int), (∀ j, i ≤ j → j < σ 7 c.toNat → σ 8 (c * 8 + j).toNat < r) → tabF σ c r n i = 0 := by
  intro n
  induction n with
  | zero => intro i _; rfl
  | succ n ih =>
    intro i h
    unfold tabF
    split
    · rename_i hi
      rw [if_neg (by have := h i (Int.le_refl i) hi; omega)]
      exact ih (i + 1) (fun j h1 h2 => h j (by omega) h2)
    · rfl
theorem tabF_k (σ : S_) (c r k : Int) (hk : k < σ 7 c.toNat) (hr : r ≤ σ 8 (c * 8 + k).toNat) : ∀ (n : Nat) (i : Int), i ≤ k → k < i + n → (∀ j, i ≤ j → j < k → σ 8 (c * 8 + j).toNat < r) → tabF σ c r n i = if k = 0 then σ 9 (c * 8).toNat else lineS σ (c * 8) k r := by
  intro n
  induction n with
  | zero => intro i h1 h2 _; omega
  | succ n ih =>
    intro i h1 h2 h
    unfold tabF
    rw [if_pos (by omega)]
    by_cases e : i = k
    · subst e
      rw [if_pos hr]
    · rw [if_neg (by have := h i (Int.le_refl i) (by omega); omega)]
      exact ih (i + 1) (by omega) (by omega) (fun j h1 h2 => h j (by omega) h2)
theorem tab_alg (x y a b r : Int) (h : a < b) : (x * (b - r) + y * (r - a)) / (b - a) = x + (y - x) * (r - a) / (b - a) := by
  have e : x * (b - r) + y * (r - a) = (y - x) * (r - a) + x * (b - a) := by
    simp only [Int.mul_sub, Int.sub_mul]; omega
  rw [e, Int.add_mul_ediv_right _ _ (by omega)]
  omega
theorem SS3 {σ : S_} (h : SS σ) {c i j : Int} (hc0 : 0 ≤ c) (hc1 : c ≤ 2) (h0 : 0 ≤ i) (h1 : i < j) (h2 : j < σ 7 c.toNat) : σ 8 (c * 8 + i).toNat < σ 8 (c * 8 + j).toNat := by
  have e := h.2.2 c.toNat i.toNat j.toNat (by omega) (by omega) (by omega)
  rw [show (c * 8 + i).toNat = 8 * c.toNat + i.toNat by omega, show (c * 8 + j).toNat = 8 * c.toNat + j.toNat by omega]
  exact e
theorem mulb {x y p q : Int} (h1 : 0 ≤ x) (h2 : x ≤ p) (h3 : 0 ≤ y) (h4 : y ≤ q) : 0 ≤ x * y ∧ x * y ≤ p * q := ⟨Int.mul_nonneg h1 h3, Int.mul_le_mul h2 h4 h3 (by omega)⟩
theorem line_b {x y a b r : Int} (hx0 : 0 ≤ x) (hx1 : x ≤ 1000) (hy0 : 0 ≤ y) (hy1 : y ≤ 1000) (h : a < b) (h1 : a ≤ r) (h2 : r ≤ b) : 0 ≤ x + (y - x) * (r - a) / (b - a) ∧ x + (y - x) * (r - a) / (b - a) ≤ 1000 := by
  rw [← tab_alg x y a b r h]
  have e1 : 0 ≤ x * (b - r) := Int.mul_nonneg hx0 (by omega)
  have e2 : 0 ≤ y * (r - a) := Int.mul_nonneg hy0 (by omega)
  have e3 : x * (b - r) ≤ 1000 * (b - r) := Int.mul_le_mul_of_nonneg_right hx1 (by omega)
  have e4 : y * (r - a) ≤ 1000 * (r - a) := Int.mul_le_mul_of_nonneg_right hy1 (by omega)
  refine ⟨Int.ediv_nonneg (by omega) (by omega), ?_⟩
  have e5 : (x * (b - r) + y * (r - a)) / (b - a) ≤ (1000 * (b - a)) / (b - a) := Int.ediv_le_ediv (by omega) (by omega)
  rw [Int.mul_ediv_cancel _ (by omega)] at e5
  exact e5
theorem tabFb {m f : Int} {σ : S_} (hB : BB m f σ) (hS : SS σ) {c : Int} (hc0 : 0 ≤ c) (hc1 : c ≤ 2) (r : Int) (hr : 0 ≤ r) : ∀ (n : Nat) (i : Int), 0 ≤ i → (∀ j, 0 ≤ j → j < i → σ 8 (c * 8 + j).toNat < r) → 0 ≤ tabF σ c r n i ∧ tabF σ c r n i ≤ 1000 := by
  intro n
  induction n with
  | zero => intro i _ _; exact ⟨Int.le_refl 0, by show (0:Int) ≤ 1000; decide⟩
  | succ n ih =>
    intro i hi h
    unfold tabF
    split
    · split
      · split
        · exact hB 9 _
        · have a1 : 0 ≤ σ 9 (c * 8 + i).toNat ∧ σ 9 (c * 8 + i).toNat ≤ 1000 := hB 9 _
          have a2 : 0 ≤ σ 9 (c * 8 + i - 1).toNat ∧ σ 9 (c * 8 + i - 1).toNat ≤ 1000 := hB 9 _
          have a3 := h (i - 1) (by omega) (by omega)
          rw [show c * 8 + (i - 1) = c * 8 + i - 1 by omega] at a3
          exact line_b a2.1 a2.2 a1.1 a1.2 (by omega) (by omega) (by omega)
      · rename_i q
        exact ih (i + 1) (by omega) (fun j h1 h2 => by
          by_cases e : j = i
          · subst e; omega
          · exact h j h1 (by omega))
    · exact ⟨by decide, by decide⟩
theorem tabb {m f : Int} {σ : S_} (hB : BB m f σ) (hS : SS σ) {c : Int} (hc0 : 0 ≤ c) (hc1 : c ≤ 2) (r : Int) (hr : 0 ≤ r) : 0 ≤ tabS σ c r ∧ tabS σ c r ≤ 1000 := tabFb hB hS hc0 hc1 r hr 9 0 (by omega) (fun j h1 h2 => by omega)
def Iv_m_table (h : jm_H) (am : Nat) (σ : S_) (c r : Int) : Nat → Nat → List (Option jm_V) → List jm_V → jm_H → Nat → Nat → Prop := fun kq pc L st h' ce sl =>
  (pc = 55 ∧ ∃ (k : Int), L = [some (.inr (.inl (some am))), some (.inl (Int32.ofInt (c))), some (.inl (Int32.ofInt (r))), some (.inl (Int32.ofInt (c * 8))), some (.inl (Int32.ofInt (k))), none] ∧ st = [] ∧ h' = mo h am σ ∧ ce = 0 ∧ sl = 0 ∧ kq = (9 - k).toNat ∧ (1 ≤ k ∧ k ≤ σ 7 c.toNat - 1 ∧ ¬ σ 7 c.toNat = 0 ∧ r ≤ σ 8 (c * 8 + σ 7 c.toNat - 1).toNat ∧ σ 8 (c * 8).toNat < r ∧ ∀ j, 0 ≤ j → j < k → σ 8 (c * 8 + j).toNat < r))
set_option maxRecDepth 100000 in
set_option maxHeartbeats 4000000 in
theorem m_table (B : jm_B) (l : Launch) (h : jm_H) (am : Nat) (σ : S_) (H : RM B am h) {m f : Int} (hB : BB m f σ) (hm : m ≤ 6000000) (hf : f ≤ 95) (c : Int) (hc0 : 0 ≤ c) (hc1 : c ≤ 2) (hS : SS σ) (r : Int) (hr0 : 0 ≤ r) (hr1 : r ≤ 6000) : jm_Ct gG B l (gm 92) [.inr (.inl (some am)), .inl (Int32.ofInt (c)), .inl (Int32.ofInt (r))] (mo h am σ) (fun v h' => h' = mo h am σ ∧ v = .inl (Int32.ofInt (tabS σ c r))) := by
  show jm_Ct gG B l M_Mod_table _ _ _
  refine jm_CL (code := k_Mod_table) (Or.inl (by decide)) (by decide) v_Mod_table rfl (Nat.le_of_ble_eq_true rfl) [some (.inr (.inl (some am))), some (.inl (Int32.ofInt (c))), some (.inl (Int32.ofInt (r))), none, none, none] rfl rfl (Iv_m_table h am σ c r) ?_ ⟨105, ?_⟩
  · intro k pc L st h' ce sl hI
    rcases hI with ⟨rfl, k, rfl, rfl, rfl, rfl, rfl, rfl, hc⟩
    · refine ⟨105, 37, ⟨_, _, rfl, rfl⟩, ?_⟩
      have b0 : 0 ≤ σ 7 c.toNat ∧ σ 7 c.toNat ≤ 8 := hB 7 _
      have b1 : 0 ≤ σ 8 (c * 8 + σ 7 c.toNat - 1).toNat ∧ σ 8 (c * 8 + σ 7 c.toNat - 1).toNat ≤ 6000 := hB 8 _
      have b2 : 0 ≤ σ 8 (c * 8).toNat ∧ σ 8 (c * 8).toNat ≤ 6000 := hB 8 _
      have b3 : 0 ≤ σ 9 (c * 8).toNat ∧ σ 9 (c * 8).toNat ≤ 1000 := hB 9 _
      have t0 : σ 7 c.toNat = 0 → tabS σ c r = 0 := fun e => tabF_0 σ c r 9 0 (fun j _ h2 => by omega)
      have t1 : σ 8 (c * 8 + σ 7 c.toNat - 1).toNat < r → tabS σ c r = 0 := fun e => tabF_0 σ c r 9 0 (fun j h1 h2 => by
        by_cases q : j = σ 7 c.toNat - 1
        · rw [show c * 8 + j = c * 8 + σ 7 c.toNat - 1 by omega]; exact e
        · have := SS3 hS hc0 hc1 h1 (show j < σ 7 c.toNat - 1 by omega) (by omega)
          rw [show c * 8 + (σ 7 c.toNat - 1) = c * 8 + σ 7 c.toNat - 1 by omega] at this
          omega)
      have t2 : ¬ σ 7 c.toNat = 0 → r ≤ σ 8 (c * 8).toNat → tabS σ c r = σ 9 (c * 8).toNat := fun e1 e2 => (tabF_k σ c r 0 (by omega) (by rw [Int.add_zero]; exact e2) 9 0 (by omega) (by omega) (fun j _ _ => by omega)).trans (if_pos rfl)
      have c1 : 0 ≤ σ 8 (c * 8 + k).toNat ∧ σ 8 (c * 8 + k).toNat ≤ 6000 := hB 8 _
      have c2 : 0 ≤ σ 8 (c * 8 + k - 1).toNat ∧ σ 8 (c * 8 + k - 1).toNat ≤ 6000 := hB 8 _
      have c3 : 0 ≤ σ 9 (c * 8 + k).toNat ∧ σ 9 (c * 8 + k).toNat ≤ 1000 := hB 9 _
      have c4 : 0 ≤ σ 9 (c * 8 + k - 1).toNat ∧ σ 9 (c * 8 + k - 1).toNat ≤ 1000 := hB 9 _
      obtain ⟨k1, k2, k3, k4, k5, k6⟩ := hc
      have c5 : σ 8 (c * 8 + k - 1).toNat < r := by
        have := k6 (k - 1) (by omega) (by omega)
        rw [show c * 8 + (k - 1) = c * 8 + k - 1 by omega] at this
        exact this
      have c6 : k = σ 7 c.toNat - 1 → σ 8 (c * 8 + k).toNat = σ 8 (c * 8 + σ 7 c.toNat - 1).toNat := fun e => by rw [show c * 8 + k = c * 8 + σ 7 c.toNat - 1 by omega]
      have c7 : r ≤ σ 8 (c * 8 + k).toNat → 0 ≤ σ 9 (c * 8 + k - 1).toNat * (σ 8 (c * 8 + k).toNat - r) ∧ σ 9 (c * 8 + k - 1).toNat * (σ 8 (c * 8 + k).toNat - r) ≤ 1000 * 6000 := fun e => mulb (by omega) (by omega) (by omega) (by omega)
      have c8 : 0 ≤ σ 9 (c * 8 + k).toNat * (r - σ 8 (c * 8 + k - 1).toNat) ∧ σ 9 (c * 8 + k).toNat * (r - σ 8 (c * 8 + k - 1).toNat) ≤ 1000 * 6000 := mulb (by omega) (by omega) (by omega) (by omega)
      have t3 : r ≤ σ 8 (c * 8 + k).toNat → tabS σ c r = (σ 9 (c * 8 + k - 1).toNat * (σ 8 (c * 8 + k).toNat - r) + σ 9 (c * 8 + k).toNat * (r - σ 8 (c * 8 + k - 1).toNat)) / (σ 8 (c * 8 + k).toNat - σ 8 (c * 8 + k - 1).toNat) := fun e => by
        rw [tab_alg _ _ _ _ _ (by omega)]
        exact (tabF_k σ c r k (by omega) e 9 0 (by omega) (by omega) (fun j h1 h2 => k6 j h1 h2)).trans (if_neg (by omega))
      have t4 : σ 8 (c * 8 + k).toNat < r → ∀ j, 0 ≤ j → j < k + 1 → σ 8 (c * 8 + j).toNat < r := fun e j h1 h2 => by
        by_cases q : j = k
        · subst q; exact e
        · exact k6 j h1 (by omega)
      simp (disch := omega) only [e_Mod_table_0, e_Mod_table_1, e_Mod_table_2, e_Mod_table_3, e_Mod_table_4, e_Mod_table_5, e_Mod_table_6, e_Mod_table_7, e_Mod_table_8, e_Mod_table_9, e_Mod_table_10, e_Mod_table_11, e_Mod_table_12, e_Mod_table_13, e_Mod_table_14, e_Mod_table_15, e_Mod_table_16, e_Mod_table_17, e_Mod_table_18, e_Mod_table_19, e_Mod_table_20, e_Mod_table_21, e_Mod_table_22, e_Mod_table_23, e_Mod_table_24, e_Mod_table_25, e_Mod_table_26, e_Mod_table_27, e_Mod_table_28, e_Mod_table_29, e_Mod_table_30, e_Mod_table_31, e_Mod_table_32, e_Mod_table_33, e_Mod_table_34, e_Mod_table_35, e_Mod_table_36, c_Mod_table_37, e_Mod_table_37, e_Mod_table_38, e_Mod_table_39, e_Mod_table_40, e_Mod_table_41, e_Mod_table_42, e_Mod_table_43, e_Mod_table_44, e_Mod_table_45, e_Mod_table_46, e_Mod_table_47, e_Mod_table_48, e_Mod_table_49, e_Mod_table_50, e_Mod_table_51, e_Mod_table_52, e_Mod_table_53, e_Mod_table_54, e_Mod_table_55, e_Mod_table_56, e_Mod_table_57, e_Mod_table_58, e_Mod_table_59, e_Mod_table_60, e_Mod_table_61, e_Mod_table_62, e_Mod_table_63, e_Mod_table_64, e_Mod_table_65, e_Mod_table_66, e_Mod_table_67, e_Mod_table_68, e_Mod_table_69, e_Mod_table_70, e_Mod_table_71, e_Mod_table_72, e_Mod_table_73, e_Mod_table_74, e_Mod_table_75, e_Mod_table_76, e_Mod_table_77, e_Mod_table_78, e_Mod_table_79, e_Mod_table_80, e_Mod_table_81, e_Mod_table_82, e_Mod_table_83, e_Mod_table_84, e_Mod_table_85, e_Mod_table_86, e_Mod_table_87, e_Mod_table_88, e_Mod_table_89, e_Mod_table_90, e_Mod_table_91, e_Mod_table_92, e_Mod_table_93, e_Mod_table_94, e_Mod_table_95, e_Mod_table_96, e_Mod_table_97, e_Mod_table_98, e_Mod_table_99, e_Mod_table_100, jm_ia, jm_na, jm_qa, jm_aa, jm_asg, jm_l4, jm_Kr, jm_okv, jm_rc, jm_bo, true_and, and_true, Nat.add_zero, Nat.le_refl, j_lt, j_le, j_eq, j_lt0, j_0lt, j_le0, j_0le, j_eq0, j_add, j_sub, j_mul, j_neg, j_0sub, j_nat, j_in, j_div, j_rem, Sum.inl.injEq, exists_eq', true_or, or_true, if_true, if_false, not_true_eq_false, not_false_eq_true, implies_true, j_eq1, reduceIte, Nat.reduceEqDiff, Int.reduceEq, Int.reduceToNat, Nat.reduceAdd, Int.reduceAdd, Int.reduceSub, Int.reduceMul, Int.reduceNeg, and_false, false_and, and_self, u2r, j_b0, j_b1, Classical.not_not, eq_self, true_implies, false_implies, not_true_eq_false, not_false_eq_true, Int.reduceLT, Int.reduceLE, rk H, mi0, ms0, rs2 H, rs3 H, rr1 H, ra1 H, rr2 H, ra2 H, rr3 H, ra3 H, rr4 H, ra4 H, rr5 H, ra5 H, rr6 H, ra6 H, rr7 H, ra7 H, rr8 H, ra8 H, rr9 H, ra9 H, rr10 H, ra10 H, rr11 H, ra11 H, rr12 H, ra12 H, rr13 H, ra13 H, rr14 H, ra14 H, rr15 H, ra15 H, rr16 H, ra16 H, rr17 H, ra17 H, rr18 H, ra18 H, rr19 H, ra19 H, rr20 H, ra20 H, rr21 H, ra21 H, rr22 H, ra22 H, rr23 H, ra23 H, rr24 H, ra24 H, rr25 H, ra25 H, rr26 H, ra26 H, rr27 H, ra27 H, rr28 H, ra28 H, rr29 H, ra29 H, rr30 H, ra30 H, mia, msa, ri2 H, ri3 H]
      repeat' first
        | apply And.intro
        | (intro _)
      all_goals (try simp (disch := omega) only [j_nat, j_le, j_lt, j_div] at *)
      all_goals first
        | (refine ⟨_, ?_, ⟨rfl, _, rfl, rfl, rfl, rfl, rfl, rfl, ?_⟩⟩ <;> first | omega | exact ⟨by omega, by omega, by omega, by omega, by omega, t4 (by omega)⟩)
        | (refine ⟨_, ⟨rfl, _, rfl, rfl, rfl, rfl, rfl, rfl, ?_⟩ ⟩ <;> first | omega | exact ⟨by omega, by omega, by omega, by omega, by omega, t4 (by omega)⟩)
        | contradiction
        | exact trivial
        | rfl
        | omega
        | exact (bi1 (by omega)).symm
        | exact (bi0 (by omega)).symm
        | exact (bi1 (by assumption)).symm
        | exact (bi0 (by assumption)).symm
        | (congr 1; omega)
        | (rw [t0 (by omega)])
        | (rw [t1 (by omega)])
        | (rw [t2 (by omega) (by omega)])
        | (rw [t3 (by omega)])
        | ((try unfold IN_); (repeat (first | rw [if_pos (by omega)] | rw [if_neg (by omega)])); done)
        | ((try unfold IN_); (repeat (first | rw [if_pos (by omega)] | rw [if_neg (by omega)])); rfl)
        | ((try unfold IN_); (repeat (first | rw [if_pos (by omega)] | rw [if_neg (by omega)] | rw [if_pos (by assumption)] | rw [if_neg (by assumption)])); rfl)
  · have b0 : 0 ≤ σ 7 c.toNat ∧ σ 7 c.toNat ≤ 8 := hB 7 _
    have b1 : 0 ≤ σ 8 (c * 8 + σ 7 c.toNat - 1).toNat ∧ σ 8 (c * 8 + σ 7 c.toNat - 1).toNat ≤ 6000 := hB 8 _
    have b2 : 0 ≤ σ 8 (c * 8).toNat ∧ σ 8 (c * 8).toNat ≤ 6000 := hB 8 _
    have b3 : 0 ≤ σ 9 (c * 8).toNat ∧ σ 9 (c * 8).toNat ≤ 1000 := hB 9 _
    have t0 : σ 7 c.toNat = 0 → tabS σ c r = 0 := fun e => tabF_0 σ c r 9 0 (fun j _ h2 => by omega)
    have t1 : σ 8 (c * 8 + σ 7 c.toNat - 1).toNat < r → tabS σ c r = 0 := fun e => tabF_0 σ c r 9 0 (fun j h1 h2 => by
      by_cases q : j = σ 7 c.toNat - 1
      · rw [show c * 8 + j = c * 8 + σ 7 c.toNat - 1 by omega]; exact e
      · have := SS3 hS hc0 hc1 h1 (show j < σ 7 c.toNat - 1 by omega) (by omega)
        rw [show c * 8 + (σ 7 c.toNat - 1) = c * 8 + σ 7 c.toNat - 1 by omega] at this
        omega)
    have t2 : ¬ σ 7 c.toNat = 0 → r ≤ σ 8 (c * 8).toNat → tabS σ c r = σ 9 (c * 8).toNat := fun e1 e2 => (tabF_k σ c r 0 (by omega) (by rw [Int.add_zero]; exact e2) 9 0 (by omega) (by omega) (fun j _ _ => by omega)).trans (if_pos rfl)
    have t4 : σ 8 (c * 8).toNat < r → ∀ j, 0 ≤ j → j < 1 → σ 8 (c * 8 + j).toNat < r := fun e j h1 h2 => by
      rw [show c * 8 + j = c * 8 by omega]; exact e
    have c6 : σ 7 c.toNat = 1 → σ 8 (c * 8).toNat = σ 8 (c * 8 + σ 7 c.toNat - 1).toNat := fun e => by rw [show c * 8 + σ 7 c.toNat - 1 = c * 8 by omega]
    simp (disch := omega) only [e_Mod_table_0, e_Mod_table_1, e_Mod_table_2, e_Mod_table_3, e_Mod_table_4, e_Mod_table_5, e_Mod_table_6, e_Mod_table_7, e_Mod_table_8, e_Mod_table_9, e_Mod_table_10, e_Mod_table_11, e_Mod_table_12, e_Mod_table_13, e_Mod_table_14, e_Mod_table_15, e_Mod_table_16, e_Mod_table_17, e_Mod_table_18, e_Mod_table_19, e_Mod_table_20, e_Mod_table_21, e_Mod_table_22, e_Mod_table_23, e_Mod_table_24, e_Mod_table_25, e_Mod_table_26, e_Mod_table_27, e_Mod_table_28, e_Mod_table_29, e_Mod_table_30, e_Mod_table_31, e_Mod_table_32, e_Mod_table_33, e_Mod_table_34, e_Mod_table_35, e_Mod_table_36, c_Mod_table_37, e_Mod_table_37, e_Mod_table_38, e_Mod_table_39, e_Mod_table_40, e_Mod_table_41, e_Mod_table_42, e_Mod_table_43, e_Mod_table_44, e_Mod_table_45, e_Mod_table_46, e_Mod_table_47, e_Mod_table_48, e_Mod_table_49, e_Mod_table_50, e_Mod_table_51, e_Mod_table_52, e_Mod_table_53, e_Mod_table_54, e_Mod_table_55, e_Mod_table_56, e_Mod_table_57, e_Mod_table_58, e_Mod_table_59, e_Mod_table_60, e_Mod_table_61, e_Mod_table_62, e_Mod_table_63, e_Mod_table_64, e_Mod_table_65, e_Mod_table_66, e_Mod_table_67, e_Mod_table_68, e_Mod_table_69, e_Mod_table_70, e_Mod_table_71, e_Mod_table_72, e_Mod_table_73, e_Mod_table_74, e_Mod_table_75, e_Mod_table_76, e_Mod_table_77, e_Mod_table_78, e_Mod_table_79, e_Mod_table_80, e_Mod_table_81, e_Mod_table_82, e_Mod_table_83, e_Mod_table_84, e_Mod_table_85, e_Mod_table_86, e_Mod_table_87, e_Mod_table_88, e_Mod_table_89, e_Mod_table_90, e_Mod_table_91, e_Mod_table_92, e_Mod_table_93, e_Mod_table_94, e_Mod_table_95, e_Mod_table_96, e_Mod_table_97, e_Mod_table_98, e_Mod_table_99, e_Mod_table_100, jm_ia, jm_na, jm_qa, jm_aa, jm_asg, jm_l4, jm_Kr, jm_okv, jm_rc, jm_bo, true_and, and_true, Nat.add_zero, Nat.le_refl, j_lt, j_le, j_eq, j_lt0, j_0lt, j_le0, j_0le, j_eq0, j_add, j_sub, j_mul, j_neg, j_0sub, j_nat, j_in, j_div, j_rem, Sum.inl.injEq, exists_eq', true_or, or_true, if_true, if_false, not_true_eq_false, not_false_eq_true, implies_true, j_eq1, reduceIte, Nat.reduceEqDiff, Int.reduceEq, Int.reduceToNat, Nat.reduceAdd, Int.reduceAdd, Int.reduceSub, Int.reduceMul, Int.reduceNeg, and_false, false_and, and_self, u2r, j_b0, j_b1, Classical.not_not, eq_self, true_implies, false_implies, not_true_eq_false, not_false_eq_true, Int.reduceLT, Int.reduceLE, rk H, mi0, ms0, rs2 H, rs3 H, rr1 H, ra1 H, rr2 H, ra2 H, rr3 H, ra3 H, rr4 H, ra4 H, rr5 H, ra5 H, rr6 H, ra6 H, rr7 H, ra7 H, rr8 H, ra8 H, rr9 H, ra9 H, rr10 H, ra10 H, rr11 H, ra11 H, rr12 H, ra12 H, rr13 H, ra13 H, rr14 H, ra14 H, rr15 H, ra15 H, rr16 H, ra16 H, rr17 H, ra17 H, rr18 H, ra18 H, rr19 H, ra19 H, rr20 H, ra20 H, rr21 H, ra21 H, rr22 H, ra22 H, rr23 H, ra23 H, rr24 H, ra24 H, rr25 H, ra25 H, rr26 H, ra26 H, rr27 H, ra27 H, rr28 H, ra28 H, rr29 H, ra29 H, rr30 H, ra30 H, mia, msa, ri2 H, ri3 H]
    repeat' first
      | apply And.intro
      | (intro _)
    all_goals (try simp (disch := omega) only [j_nat, j_le, j_lt, j_div] at *)
    all_goals first
      | (refine ⟨_, ?_, ⟨rfl, _, rfl, rfl, rfl, rfl, rfl, rfl, ?_⟩⟩ <;> first | omega | exact ⟨by omega, by omega, by omega, by omega, by omega, t4 (by omega)⟩)
      | (refine ⟨_, ⟨rfl, _, rfl, rfl, rfl, rfl, rfl, rfl, ?_⟩ ⟩ <;> first | omega | exact ⟨by omega, by omega, by omega, by omega, by omega, t4 (by omega)⟩)
      | contradiction
      | exact trivial
      | rfl
      | omega
      | exact (bi1 (by omega)).symm
      | exact (bi0 (by omega)).symm
      | exact (bi1 (by assumption)).symm
      | exact (bi0 (by assumption)).symm
      | (congr 1; omega)
      | (rw [t0 (by omega)])
      | (rw [t1 (by omega)])
      | (rw [t2 (by omega) (by omega)])
      | (rw [t3 (by omega)])
      | ((try unfold IN_); (repeat (first | rw [if_pos (by omega)] | rw [if_neg (by omega)])); done)
      | ((try unfold IN_); (repeat (first | rw [if_pos (by omega)] | rw [if_neg (by omega)])); rfl)
      | ((try unfold IN_); (repeat (first | rw [if_pos (by omega)] | rw [if_neg (by omega)] | rw [if_pos (by assumption)] | rw [if_neg (by assumption)])); rfl)
set_option maxRecDepth 100000 in
set_option maxHeartbeats 4000000 in
theorem m_isOver (B : jm_B) (l : Launch) (h : jm_H) (am : Nat) (σ : S_) (H : RM B am h) {m f : Int} (hB : BB m f σ) (hm : m ≤ 6000000) (hf : f ≤ 95) (c : Int) (hc0 : 0 ≤ c) (hc1 : c ≤ 2) (hS : SS σ) : jm_Ct gG B l (gm 93) [.inr (.inl (some am)), .inl (Int32.ofInt (c))] (mo h am σ) (fun v h' => h' = mo h am σ ∧ v = .inl (Int32.ofInt (if tabS σ c (σ 3 c.toNat) < σ 5 c.toNat then 1 else 0))) := by
  show jm_Ct gG B l M_Mod_isOver _ _ _
  refine jm_C0 (code := k_Mod_isOver) (Or.inl (by decide)) (by decide) v_Mod_isOver rfl (Nat.le_of_ble_eq_true rfl) [some (.inr (.inl (some am))), some (.inl (Int32.ofInt (c)))] rfl rfl ⟨20, ?_⟩
  have b0 : 0 ≤ σ 3 c.toNat ∧ σ 3 c.toNat ≤ 6000 := hB 3 _
  have b1 : 0 ≤ σ 5 c.toNat ∧ σ 5 c.toNat ≤ 1000 := hB 5 _
  have b2 := tabb hB hS hc0 hc1 (σ 3 c.toNat) b0.1
  simp (disch := omega) only [e_Mod_isOver_0, e_Mod_isOver_1, e_Mod_isOver_2, e_Mod_isOver_3, e_Mod_isOver_4, e_Mod_isOver_5, e_Mod_isOver_6, e_Mod_isOver_7, e_Mod_isOver_8, e_Mod_isOver_9, e_Mod_isOver_10, e_Mod_isOver_11, e_Mod_isOver_12, e_Mod_isOver_13, e_Mod_isOver_14, e_Mod_isOver_15, jm_ia, jm_na, jm_qa, jm_aa, jm_asg, jm_l4, jm_Kr, jm_okv, jm_rc, jm_bo, true_and, and_true, Nat.add_zero, Nat.le_refl, j_lt, j_le, j_eq, j_lt0, j_0lt, j_le0, j_0le, j_eq0, j_add, j_sub, j_mul, j_neg, j_0sub, j_nat, j_in, j_div, j_rem, Sum.inl.injEq, exists_eq', true_or, or_true, if_true, if_false, not_true_eq_false, not_false_eq_true, implies_true, j_eq1, reduceIte, Nat.reduceEqDiff, Int.reduceEq, Int.reduceToNat, Nat.reduceAdd, Int.reduceAdd, Int.reduceSub, Int.reduceMul, Int.reduceNeg, and_false, false_and, and_self, u2r, j_b0, j_b1, Classical.not_not, eq_self, true_implies, false_implies, not_true_eq_false, not_false_eq_true, Int.reduceLT, Int.reduceLE, rk H, mi0, ms0, rs2 H, rs3 H, rr1 H, ra1 H, rr2 H, ra2 H, rr3 H, ra3 H, rr4 H, ra4 H, rr5 H, ra5 H, rr6 H, ra6 H, rr7 H, ra7 H, rr8 H, ra8 H, rr9 H, ra9 H, rr10 H, ra10 H, rr11 H, ra11 H, rr12 H, ra12 H, rr13 H, ra13 H, rr14 H, ra14 H, rr15 H, ra15 H, rr16 H, ra16 H, rr17 H, ra17 H, rr18 H, ra18 H, rr19 H, ra19 H, rr20 H, ra20 H, rr21 H, ra21 H, rr22 H, ra22 H, rr23 H, ra23 H, rr24 H, ra24 H, rr25 H, ra25 H, rr26 H, ra26 H, rr27 H, ra27 H, rr28 H, ra28 H, rr29 H, ra29 H, rr30 H, ra30 H, mia, msa, ri2 H, ri3 H]
  repeat' first
    | apply And.intro
    | (intro _)
    | (refine ⟨_, m_table B l _ _ _ H hB hm hf c hc0 hc1 hS _ (by omega) (by omega), ?_⟩; rintro y h' ⟨rfl, hy⟩; cases hy; try simp (disch := omega) only [e_Mod_isOver_0, e_Mod_isOver_1, e_Mod_isOver_2, e_Mod_isOver_3, e_Mod_isOver_4, e_Mod_isOver_5, e_Mod_isOver_6, e_Mod_isOver_7, e_Mod_isOver_8, e_Mod_isOver_9, e_Mod_isOver_10, e_Mod_isOver_11, e_Mod_isOver_12, e_Mod_isOver_13, e_Mod_isOver_14, e_Mod_isOver_15, jm_ia, jm_na, jm_qa, jm_aa, jm_asg, jm_l4, jm_Kr, jm_okv, jm_rc, jm_bo, true_and, and_true, Nat.add_zero, Nat.le_refl, j_lt, j_le, j_eq, j_lt0, j_0lt, j_le0, j_0le, j_eq0, j_add, j_sub, j_mul, j_neg, j_0sub, j_nat, j_in, j_div, j_rem, Sum.inl.injEq, exists_eq', true_or, or_true, if_true, if_false, not_true_eq_false, not_false_eq_true, implies_true, j_eq1, reduceIte, Nat.reduceEqDiff, Int.reduceEq, Int.reduceToNat, Nat.reduceAdd, Int.reduceAdd, Int.reduceSub, Int.reduceMul, Int.reduceNeg, and_false, false_and, and_self, u2r, j_b0, j_b1, Classical.not_not, eq_self, true_implies, false_implies, not_true_eq_false, not_false_eq_true, Int.reduceLT, Int.reduceLE, rk H, mi0, ms0, rs2 H, rs3 H, rr1 H, ra1 H, rr2 H, ra2 H, rr3 H, ra3 H, rr4 H, ra4 H, rr5 H, ra5 H, rr6 H, ra6 H, rr7 H, ra7 H, rr8 H, ra8 H, rr9 H, ra9 H, rr10 H, ra10 H, rr11 H, ra11 H, rr12 H, ra12 H, rr13 H, ra13 H, rr14 H, ra14 H, rr15 H, ra15 H, rr16 H, ra16 H, rr17 H, ra17 H, rr18 H, ra18 H, rr19 H, ra19 H, rr20 H, ra20 H, rr21 H, ra21 H, rr22 H, ra22 H, rr23 H, ra23 H, rr24 H, ra24 H, rr25 H, ra25 H, rr26 H, ra26 H, rr27 H, ra27 H, rr28 H, ra28 H, rr29 H, ra29 H, rr30 H, ra30 H, mia, msa, ri2 H, ri3 H])
  all_goals first
    | contradiction
    | exact trivial
    | rfl
    | omega
    | exact (bi1 (by omega)).symm
    | exact (bi0 (by omega)).symm
    | exact (bi1 (by assumption)).symm
    | exact (bi0 (by assumption)).symm
    | ((try unfold IN_); (repeat (first | rw [if_pos (by omega)] | rw [if_neg (by omega)])); done)
    | ((try unfold IN_); (repeat (first | rw [if_pos (by omega)] | rw [if_neg (by omega)])); rfl)
    | ((try unfold IN_); (repeat (first | rw [if_pos (by omega)] | rw [if_neg (by omega)] | rw [if_pos (by assumption)] | rw [if_neg (by assumption)])); rfl)
