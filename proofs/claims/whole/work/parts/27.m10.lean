/-! safe speeds: the whole way of braking stays before every closed arc that doesn't have the crane -/
def PR (σ : S_) (c v D : Int) : Prop := ∀ i : Nat, i < 10 → clI σ c i → ¬ IN_ (σ 1 c.toNat) (fI σ c i) (zI σ c i) → (0 < v → D < (fI σ c i - σ 1 c.toNat) % 3600) ∧ (v < 0 → D < (σ 1 c.toNat - (fI σ c i + zI σ c i - 1)) % 3600)
theorem emd (x y : Int) : x - x / y * y = x % y := by rw [Int.emod_def, Int.mul_comm]
def tri (n : Int) : Int := n * (n + 1) / 2
def wayS (v : Int) : Int := if v < 0 then tri (-v) else tri v
def safeS (σ : S_) (c v : Int) : Prop := PR σ c v (wayS v)
theorem tri_s (u : Int) : tri u = u + tri (u - 1) := by
  unfold tri
  have e : u * (u + 1) = (u - 1) * (u - 1 + 1) + u * 2 := by
    simp only [Int.mul_add, Int.sub_mul, Int.mul_sub, Int.add_mul]; omega
  rw [e, Int.add_mul_ediv_right _ _ (by decide)]
  omega
theorem tri_b {u : Int} (h0 : 0 ≤ u) (h1 : u ≤ 10) : 0 ≤ tri u ∧ tri u ≤ 55 := by
  unfold tri
  have := mulb h0 h1 (show 0 ≤ u + 1 by omega) (show u + 1 ≤ 11 by omega)
  omega
theorem fzb {m f : Int} {σ : S_} (hB : BB m f σ) (c : Int) (i : Nat) : (0 ≤ fI σ c i ∧ fI σ c i < 3600) ∧ (0 ≤ zI σ c i ∧ zI σ c i < 3600) := by
  unfold fI zI
  split
  · exact ⟨hB 11 _, hB 12 _⟩
  · exact ⟨hB 14 _, hB 15 _⟩
theorem z1 {σ : S_} (hS : SS σ) {c : Int} (hc0 : 0 ≤ c) (hc1 : c ≤ 2) {i : Nat} (h : clI σ c i) : 1 ≤ zI σ c i := by
  unfold zI
  rcases h with ⟨h1, h2⟩ | ⟨h1, h2, h3⟩
  · rw [if_pos h1]
    have := hS.2.1 c.toNat i (by omega) h2
    rw [show (c * 4 + i).toNat = 4 * c.toNat + i by omega]
    exact this
  · rw [if_neg (by omega)]
    have := SS1 hS (p := ((i : Int) - 4) / 2) (s := ((i : Int) - 4) % 2) (by omega) (by omega) (by omega) h3.1
    rw [show (2 * (((i : Int) - 4) / 2) + ((i : Int) - 4) % 2).toNat = i - 4 by omega] at this
    exact this
theorem PR_0 {m f : Int} {σ : S_} (hB : BB m f σ) (hS : SS σ) {c : Int} (hc0 : 0 ≤ c) (hc1 : c ≤ 2) (v : Int) : PR σ c v 0 := by
  intro i hi hcl hn
  have b := fzb hB c i
  have z := z1 hS hc0 hc1 hcl
  have b1 : 0 ≤ σ 1 c.toNat ∧ σ 1 c.toNat < 3600 := hB 1 _
  unfold IN_ at hn
  omega
theorem PR_le {σ : S_} {c v D E : Int} (h : D ≤ E) (hp : PR σ c v E) : PR σ c v D := fun i hi hcl hn => by
  have := hp i hi hcl hn
  exact ⟨fun q => by have := this.1 q; omega, fun q => by have := this.2 q; omega⟩
theorem PR_s {m f : Int} {σ : S_} (hB : BB m f σ) (hS : SS σ) {c : Int} (hc0 : 0 ≤ c) (hc1 : c ≤ 2) {v D a : Int} (hD0 : 0 ≤ D) (hD1 : D < 3000) (ha : (0 < v → a = (σ 1 c.toNat + D + 1) % 3600) ∧ (v < 0 → a = (σ 1 c.toNat - D - 1) % 3600)) (h : PR σ c v D) : sumF (bfl σ c a) 10 = 0 → PR σ c v (D + 1) := by
  intro h0 i hi hcl hn
  have b := fzb hB c i
  have z := z1 hS hc0 hc1 hcl
  have b1 : 0 ≤ σ 1 c.toNat ∧ σ 1 c.toNat < 3600 := hB 1 _
  have e := h i hi hcl hn
  have q := sumF_0 (fun i => (bfl_b σ c a i).1) h0 i hi
  have q1 : ¬ IN_ a (fI σ c i) (zI σ c i) := fun q2 => by
    have : bfl σ c a i = 1 := if_pos ⟨hcl, q2, hn⟩
    omega
  unfold IN_ at hn q1
  obtain ⟨a1, a2⟩ := ha
  constructor
  · intro hv
    have a3 := a1 hv
    have e3 := e.1 hv
    clear a1 a2 e
    omega
  · intro hv
    have a3 := a2 hv
    have e3 := e.2 hv
    clear a1 a2 e
    omega
theorem PR_x {m f : Int} {σ : S_} (hB : BB m f σ) {c v D a : Int} (hv : ¬ v = 0) (hD0 : 0 ≤ D) (hD1 : D < 3000) (ha : (0 < v → a = (σ 1 c.toNat + D + 1) % 3600) ∧ (v < 0 → a = (σ 1 c.toNat - D - 1) % 3600)) : PR σ c v (D + 1) → sumF (bfl σ c a) 10 = 0 := by
  intro hp
  have b1 : 0 ≤ σ 1 c.toNat ∧ σ 1 c.toNat < 3600 := hB 1 _
  refine sumF_c (b := 10) (a := 0) (by decide) (fun i _ hi => ?_)
  unfold bfl
  refine if_neg (fun q => ?_)
  obtain ⟨hcl, q2, hn⟩ := q
  have b := fzb hB c i
  have e := hp i hi hcl hn
  unfold IN_ at hn q2
  obtain ⟨a1, a2⟩ := ha
  rcases (show 0 < v ∨ v < 0 by omega) with hv | hv
  · have a3 := a1 hv
    have e3 := e.1 hv
    clear a1 a2 e
    omega
  · have a3 := a2 hv
    have e3 := e.2 hv
    clear a1 a2 e
    omega
theorem m_ahW (B : jm_B) (l : Launch) (h : jm_H) (am : Nat) (σ : S_) (H : RM B am h) {m f : Int} (hB : BB m f σ) (hm : m ≤ 6000000) (hf : f ≤ 95) (c : Int) (hc0 : 0 ≤ c) (hc1 : c ≤ 2) (a : Int) (ha0 : 0 ≤ a) (ha1 : a < 3600) {w : Int} (hw : Flg (¬ sumF (bfl σ c a) 10 = 0) w) : jm_Ct gG B l (gm 88) [.inr (.inl (some am)), .inl (Int32.ofInt c), .inl (Int32.ofInt a)] (mo h am σ) (fun v h' => h' = mo h am σ ∧ v = .inl (Int32.ofInt w)) := by
  have e : (if sumF (bfl σ c a) 10 = 0 then (0:Int) else 1) = w := by
    rcases hw with ⟨rfl, q⟩ | ⟨rfl, q⟩
    · exact if_neg q
    · exact if_pos (Classical.not_not.mp q)
  rw [← e]
  exact m_isAhead B l h am σ H hB hm hf c hc0 hc1 a ha0 ha1
def Iv_m_isSafeP (h : jm_H) (am : Nat) (σ : S_) (c v : Int) : Nat → Nat → List (Option jm_V) → List jm_V → jm_H → Nat → Nat → Prop := fun kq pc L st h' ce sl =>
  (pc = 10 ∧ ∃ (a : Int) (left : Int) (x5 : Option jm_V) (x6 : Option jm_V) (u : Int) (D : Int), L = [some (.inr (.inl (some am))), some (.inl (Int32.ofInt (c))), some (.inl (Int32.ofInt (v))), some (.inl (Int32.ofInt (a))), some (.inl (Int32.ofInt (left))), x5, x6] ∧ st = [] ∧ h' = mo h am σ ∧ ce = 0 ∧ sl = 0 ∧ kq = (2 * (wayS v - D + u) + 1).toNat ∧ ((0 ≤ u ∧ u ≤ 10 ∧ 0 ≤ D ∧ D + tri u = wayS v ∧ left = u ∧ a = (σ 1 c.toNat + D) % 3600) ∧ PR σ c v D)) ∨
  (pc = 33 ∧ ∃ (a : Int) (left : Int) (t : Int) (k : Int) (u : Int) (D : Int), L = [some (.inr (.inl (some am))), some (.inl (Int32.ofInt (c))), some (.inl (Int32.ofInt (v))), some (.inl (Int32.ofInt (a))), some (.inl (Int32.ofInt (left))), some (.inl (Int32.ofInt (t))), some (.inl (Int32.ofInt (k)))] ∧ st = [] ∧ h' = mo h am σ ∧ ce = 0 ∧ sl = 0 ∧ kq = (2 * (wayS v - D + u)).toNat ∧ (((1 ≤ u ∧ u ≤ 10) ∧ (0 ≤ k ∧ k ≤ u) ∧ 0 ≤ D ∧ D + (u - k) + tri (u - 1) = wayS v ∧ t = u ∧ left = u ∧ a = (σ 1 c.toNat + D) % 3600) ∧ PR σ c v D))
set_option maxRecDepth 100000 in
set_option maxHeartbeats 4000000 in
theorem m_isSafeP (B : jm_B) (l : Launch) (h : jm_H) (am : Nat) (σ : S_) (H : RM B am h) {m f : Int} (hB : BB m f σ) (hm : m ≤ 6000000) (hf : f ≤ 95) (c : Int) (hc0 : 0 ≤ c) (hc1 : c ≤ 2) (hS : SS σ) (v : Int) (hv0 : -10 ≤ v) (hv1 : v ≤ 10) (hv : 0 < v) {ws : Int} (hs : Flg (safeS σ c v) ws) : jm_Ct gG B l (gm 89) [.inr (.inl (some am)), .inl (Int32.ofInt (c)), .inl (Int32.ofInt (v))] (mo h am σ) (fun v h' => h' = mo h am σ ∧ v = .inl (Int32.ofInt ws)) := by
  show jm_Ct gG B l M_Mod_isSafe _ _ _
  refine jm_CL (code := k_Mod_isSafe) (Or.inl (by decide)) (by decide) v_Mod_isSafe rfl (Nat.le_of_ble_eq_true rfl) [some (.inr (.inl (some am))), some (.inl (Int32.ofInt (c))), some (.inl (Int32.ofInt (v))), none, none, none, none] rfl rfl (Iv_m_isSafeP h am σ c v) ?_ ⟨57, ?_⟩
  · intro k pc L st h' ce sl hI
    rcases hI with ⟨rfl, a, left, x5, x6, u, D, rfl, rfl, rfl, rfl, rfl, rfl, hc⟩ | ⟨rfl, a, left, t, k, u, D, rfl, rfl, rfl, rfl, rfl, rfl, hc⟩
    · refine ⟨57, 7, ⟨_, _, rfl, rfl⟩, ?_⟩
      have b1 : 0 ≤ σ 1 c.toNat ∧ σ 1 c.toNat < 3600 := hB 1 _
      have hs1 := flg1 hs
      have hs0 := flg01 hs
      have W1 : wayS v = tri v := if_neg (by omega)
      have W2 := tri_b (u := v) (by omega) (by omega)
      obtain ⟨⟨k1, k2, k3, k4, k5, k6⟩, hp⟩ := hc
      have t1 := tri_s u
      have t2 := tri_b k1 k2
      have t3 : 1 ≤ u → _ := fun q => tri_b (show 0 ≤ u - 1 by omega) (by omega)
      have r1 : u = 0 → ws = 1 := fun q => by
        rw [hs1]
        unfold safeS
        have t4 : tri 0 = 0 := rfl
        rw [show wayS v = D by subst q; omega]
        exact hp
      simp (disch := omega) only [e_Mod_isSafe_0, e_Mod_isSafe_1, e_Mod_isSafe_2, e_Mod_isSafe_3, e_Mod_isSafe_4, e_Mod_isSafe_5, e_Mod_isSafe_6, c_Mod_isSafe_7, e_Mod_isSafe_7, e_Mod_isSafe_8, e_Mod_isSafe_9, e_Mod_isSafe_10, e_Mod_isSafe_11, e_Mod_isSafe_12, e_Mod_isSafe_13, e_Mod_isSafe_14, e_Mod_isSafe_15, e_Mod_isSafe_16, e_Mod_isSafe_17, c_Mod_isSafe_18, e_Mod_isSafe_18, e_Mod_isSafe_19, e_Mod_isSafe_20, e_Mod_isSafe_21, e_Mod_isSafe_22, e_Mod_isSafe_23, e_Mod_isSafe_24, e_Mod_isSafe_25, e_Mod_isSafe_26, e_Mod_isSafe_27, e_Mod_isSafe_28, e_Mod_isSafe_29, e_Mod_isSafe_30, e_Mod_isSafe_31, e_Mod_isSafe_32, e_Mod_isSafe_33, e_Mod_isSafe_34, e_Mod_isSafe_35, e_Mod_isSafe_36, e_Mod_isSafe_37, e_Mod_isSafe_38, e_Mod_isSafe_39, e_Mod_isSafe_40, e_Mod_isSafe_41, e_Mod_isSafe_42, e_Mod_isSafe_43, e_Mod_isSafe_44, e_Mod_isSafe_45, e_Mod_isSafe_46, e_Mod_isSafe_47, e_Mod_isSafe_48, e_Mod_isSafe_49, e_Mod_isSafe_50, e_Mod_isSafe_51, e_Mod_isSafe_52, jm_ia, jm_na, jm_qa, jm_aa, jm_asg, jm_l4, jm_Kr, jm_okv, jm_rc, jm_bo, true_and, and_true, Nat.add_zero, Nat.le_refl, j_lt, j_le, j_eq, j_lt0, j_0lt, j_le0, j_0le, j_eq0, j_add, j_sub, j_mul, j_neg, j_0sub, j_nat, j_in, j_div, j_rem, Sum.inl.injEq, exists_eq', true_or, or_true, if_true, if_false, not_true_eq_false, not_false_eq_true, implies_true, j_eq1, reduceIte, Nat.reduceEqDiff, Int.reduceEq, Int.reduceToNat, Nat.reduceAdd, Int.reduceAdd, Int.reduceSub, Int.reduceMul, Int.reduceNeg, and_false, false_and, and_self, u2r, j_b0, j_b1, Classical.not_not, eq_self, true_implies, false_implies, not_true_eq_false, not_false_eq_true, Int.reduceLT, Int.reduceLE, rk H, mi0, ms0, rs2 H, rs3 H, rr1 H, ra1 H, rr2 H, ra2 H, rr3 H, ra3 H, rr4 H, ra4 H, rr5 H, ra5 H, rr6 H, ra6 H, rr7 H, ra7 H, rr8 H, ra8 H, rr9 H, ra9 H, rr10 H, ra10 H, rr11 H, ra11 H, rr12 H, ra12 H, rr13 H, ra13 H, rr14 H, ra14 H, rr15 H, ra15 H, rr16 H, ra16 H, rr17 H, ra17 H, rr18 H, ra18 H, rr19 H, ra19 H, rr20 H, ra20 H, rr21 H, ra21 H, rr22 H, ra22 H, rr23 H, ra23 H, rr24 H, ra24 H, rr25 H, ra25 H, rr26 H, ra26 H, rr27 H, ra27 H, rr28 H, ra28 H, rr29 H, ra29 H, rr30 H, ra30 H, mia, msa, ri2 H, ri3 H, emd]
      repeat' first
        | apply And.intro
        | (intro _)
        | (refine ⟨_, m_ahW B l _ _ _ H hB hm hf c hc0 hc1 ((a + 1) % 3600) (by omega) (by omega) hw5, ?_⟩; rintro y h' ⟨rfl, hy⟩; cases hy; try simp (disch := omega) only [e_Mod_isSafe_0, e_Mod_isSafe_1, e_Mod_isSafe_2, e_Mod_isSafe_3, e_Mod_isSafe_4, e_Mod_isSafe_5, e_Mod_isSafe_6, c_Mod_isSafe_7, e_Mod_isSafe_7, e_Mod_isSafe_8, e_Mod_isSafe_9, e_Mod_isSafe_10, e_Mod_isSafe_11, e_Mod_isSafe_12, e_Mod_isSafe_13, e_Mod_isSafe_14, e_Mod_isSafe_15, e_Mod_isSafe_16, e_Mod_isSafe_17, c_Mod_isSafe_18, e_Mod_isSafe_18, e_Mod_isSafe_19, e_Mod_isSafe_20, e_Mod_isSafe_21, e_Mod_isSafe_22, e_Mod_isSafe_23, e_Mod_isSafe_24, e_Mod_isSafe_25, e_Mod_isSafe_26, e_Mod_isSafe_27, e_Mod_isSafe_28, e_Mod_isSafe_29, e_Mod_isSafe_30, e_Mod_isSafe_31, e_Mod_isSafe_32, e_Mod_isSafe_33, e_Mod_isSafe_34, e_Mod_isSafe_35, e_Mod_isSafe_36, e_Mod_isSafe_37, e_Mod_isSafe_38, e_Mod_isSafe_39, e_Mod_isSafe_40, e_Mod_isSafe_41, e_Mod_isSafe_42, e_Mod_isSafe_43, e_Mod_isSafe_44, e_Mod_isSafe_45, e_Mod_isSafe_46, e_Mod_isSafe_47, e_Mod_isSafe_48, e_Mod_isSafe_49, e_Mod_isSafe_50, e_Mod_isSafe_51, e_Mod_isSafe_52, jm_ia, jm_na, jm_qa, jm_aa, jm_asg, jm_l4, jm_Kr, jm_okv, jm_rc, jm_bo, true_and, and_true, Nat.add_zero, Nat.le_refl, j_lt, j_le, j_eq, j_lt0, j_0lt, j_le0, j_0le, j_eq0, j_add, j_sub, j_mul, j_neg, j_0sub, j_nat, j_in, j_div, j_rem, Sum.inl.injEq, exists_eq', true_or, or_true, if_true, if_false, not_true_eq_false, not_false_eq_true, implies_true, j_eq1, reduceIte, Nat.reduceEqDiff, Int.reduceEq, Int.reduceToNat, Nat.reduceAdd, Int.reduceAdd, Int.reduceSub, Int.reduceMul, Int.reduceNeg, and_false, false_and, and_self, u2r, j_b0, j_b1, Classical.not_not, eq_self, true_implies, false_implies, not_true_eq_false, not_false_eq_true, Int.reduceLT, Int.reduceLE, rk H, mi0, ms0, rs2 H, rs3 H, rr1 H, ra1 H, rr2 H, ra2 H, rr3 H, ra3 H, rr4 H, ra4 H, rr5 H, ra5 H, rr6 H, ra6 H, rr7 H, ra7 H, rr8 H, ra8 H, rr9 H, ra9 H, rr10 H, ra10 H, rr11 H, ra11 H, rr12 H, ra12 H, rr13 H, ra13 H, rr14 H, ra14 H, rr15 H, ra15 H, rr16 H, ra16 H, rr17 H, ra17 H, rr18 H, ra18 H, rr19 H, ra19 H, rr20 H, ra20 H, rr21 H, ra21 H, rr22 H, ra22 H, rr23 H, ra23 H, rr24 H, ra24 H, rr25 H, ra25 H, rr26 H, ra26 H, rr27 H, ra27 H, rr28 H, ra28 H, rr29 H, ra29 H, rr30 H, ra30 H, mia, msa, ri2 H, ri3 H, emd])
      all_goals first
        | (refine ⟨_, ?_, Or.inl (⟨rfl, _, _, _, _, v, 0, rfl, rfl, rfl, rfl, rfl, rfl, ?_⟩)⟩ <;> first | omega | exact ⟨by omega, hp⟩ | exact ⟨by omega, nP (by omega)⟩)
        | (refine ⟨_, Or.inl (⟨rfl, _, _, _, _, v, 0, rfl, rfl, rfl, rfl, rfl, rfl, ?_⟩) ⟩ <;> first | omega | exact ⟨by omega, hp⟩ | exact ⟨by omega, nP (by omega)⟩)
        | (refine ⟨_, ?_, Or.inl (⟨rfl, _, _, _, _, u - 1, D, rfl, rfl, rfl, rfl, rfl, rfl, ?_⟩)⟩ <;> first | omega | exact ⟨by omega, hp⟩ | exact ⟨by omega, nP (by omega)⟩)
        | (refine ⟨_, Or.inl (⟨rfl, _, _, _, _, u - 1, D, rfl, rfl, rfl, rfl, rfl, rfl, ?_⟩) ⟩ <;> first | omega | exact ⟨by omega, hp⟩ | exact ⟨by omega, nP (by omega)⟩)
        | (refine ⟨_, ?_, Or.inr (⟨rfl, _, _, _, _, u, D, rfl, rfl, rfl, rfl, rfl, rfl, ?_⟩)⟩ <;> first | omega | exact ⟨by omega, hp⟩ | exact ⟨by omega, nP (by omega)⟩)
        | (refine ⟨_, Or.inr (⟨rfl, _, _, _, _, u, D, rfl, rfl, rfl, rfl, rfl, rfl, ?_⟩) ⟩ <;> first | omega | exact ⟨by omega, hp⟩ | exact ⟨by omega, nP (by omega)⟩)
        | (refine ⟨_, ?_, Or.inr (⟨rfl, _, _, _, _, u, D + 1, rfl, rfl, rfl, rfl, rfl, rfl, ?_⟩)⟩ <;> first | omega | exact ⟨by omega, hp⟩ | exact ⟨by omega, nP (by omega)⟩)
        | (refine ⟨_, Or.inr (⟨rfl, _, _, _, _, u, D + 1, rfl, rfl, rfl, rfl, rfl, rfl, ?_⟩) ⟩ <;> first | omega | exact ⟨by omega, hp⟩ | exact ⟨by omega, nP (by omega)⟩)
        | contradiction
        | exact trivial
        | rfl
        | omega
        | exact (bi1 (by omega)).symm
        | exact (bi0 (by omega)).symm
        | exact (bi1 (by assumption)).symm
        | exact (bi0 (by assumption)).symm
        | (congr 1; omega)
        | ((try unfold IN_); (repeat (first | rw [if_pos (by omega)] | rw [if_neg (by omega)])); done)
        | ((try unfold IN_); (repeat (first | rw [if_pos (by omega)] | rw [if_neg (by omega)])); rfl)
        | ((try unfold IN_); (repeat (first | rw [if_pos (by omega)] | rw [if_neg (by omega)] | rw [if_pos (by assumption)] | rw [if_neg (by assumption)])); rfl)
    · refine ⟨57, 18, ⟨_, _, rfl, rfl⟩, ?_⟩
      have b1 : 0 ≤ σ 1 c.toNat ∧ σ 1 c.toNat < 3600 := hB 1 _
      have hs1 := flg1 hs
      have hs0 := flg01 hs
      have W1 : wayS v = tri v := if_neg (by omega)
      have W2 := tri_b (u := v) (by omega) (by omega)
      obtain ⟨⟨k1, k2, k3, k4, k5, k6, k7⟩, hp⟩ := hc
      have t3 := tri_b (show 0 ≤ u - 1 by omega) (by omega)
      obtain ⟨w5, hw5⟩ := flg_ex (¬ sumF (bfl σ c ((a + 1) % 3600)) 10 = 0)
      have f5 := flg01 hw5
      have nP : w5 = 0 → PR σ c v (D + 1) := fun q2 => PR_s hB hS hc0 hc1 (a := (a + 1) % 3600) k3 (by omega) ⟨fun _ => by omega, fun _ => by omega⟩ hp (Classical.not_not.mp (fun q3 => by have := (flg1 hw5).mpr q3; omega))
      have xP : w5 = 1 → k < u → ws = 0 := fun q2 q3 => by
        have : ¬ ws = 1 := fun q4 => (flg1 hw5).mp q2 (PR_x hB (v := v) (a := (a + 1) % 3600) (by omega) k3 (by omega) ⟨fun _ => by omega, fun _ => by omega⟩ (PR_le (show D + 1 ≤ wayS v by omega) (hs1.mp q4)))
        omega
      simp (disch := omega) only [e_Mod_isSafe_0, e_Mod_isSafe_1, e_Mod_isSafe_2, e_Mod_isSafe_3, e_Mod_isSafe_4, e_Mod_isSafe_5, e_Mod_isSafe_6, c_Mod_isSafe_7, e_Mod_isSafe_7, e_Mod_isSafe_8, e_Mod_isSafe_9, e_Mod_isSafe_10, e_Mod_isSafe_11, e_Mod_isSafe_12, e_Mod_isSafe_13, e_Mod_isSafe_14, e_Mod_isSafe_15, e_Mod_isSafe_16, e_Mod_isSafe_17, c_Mod_isSafe_18, e_Mod_isSafe_18, e_Mod_isSafe_19, e_Mod_isSafe_20, e_Mod_isSafe_21, e_Mod_isSafe_22, e_Mod_isSafe_23, e_Mod_isSafe_24, e_Mod_isSafe_25, e_Mod_isSafe_26, e_Mod_isSafe_27, e_Mod_isSafe_28, e_Mod_isSafe_29, e_Mod_isSafe_30, e_Mod_isSafe_31, e_Mod_isSafe_32, e_Mod_isSafe_33, e_Mod_isSafe_34, e_Mod_isSafe_35, e_Mod_isSafe_36, e_Mod_isSafe_37, e_Mod_isSafe_38, e_Mod_isSafe_39, e_Mod_isSafe_40, e_Mod_isSafe_41, e_Mod_isSafe_42, e_Mod_isSafe_43, e_Mod_isSafe_44, e_Mod_isSafe_45, e_Mod_isSafe_46, e_Mod_isSafe_47, e_Mod_isSafe_48, e_Mod_isSafe_49, e_Mod_isSafe_50, e_Mod_isSafe_51, e_Mod_isSafe_52, jm_ia, jm_na, jm_qa, jm_aa, jm_asg, jm_l4, jm_Kr, jm_okv, jm_rc, jm_bo, true_and, and_true, Nat.add_zero, Nat.le_refl, j_lt, j_le, j_eq, j_lt0, j_0lt, j_le0, j_0le, j_eq0, j_add, j_sub, j_mul, j_neg, j_0sub, j_nat, j_in, j_div, j_rem, Sum.inl.injEq, exists_eq', true_or, or_true, if_true, if_false, not_true_eq_false, not_false_eq_true, implies_true, j_eq1, reduceIte, Nat.reduceEqDiff, Int.reduceEq, Int.reduceToNat, Nat.reduceAdd, Int.reduceAdd, Int.reduceSub, Int.reduceMul, Int.reduceNeg, and_false, false_and, and_self, u2r, j_b0, j_b1, Classical.not_not, eq_self, true_implies, false_implies, not_true_eq_false, not_false_eq_true, Int.reduceLT, Int.reduceLE, rk H, mi0, ms0, rs2 H, rs3 H, rr1 H, ra1 H, rr2 H, ra2 H, rr3 H, ra3 H, rr4 H, ra4 H, rr5 H, ra5 H, rr6 H, ra6 H, rr7 H, ra7 H, rr8 H, ra8 H, rr9 H, ra9 H, rr10 H, ra10 H, rr11 H, ra11 H, rr12 H, ra12 H, rr13 H, ra13 H, rr14 H, ra14 H, rr15 H, ra15 H, rr16 H, ra16 H, rr17 H, ra17 H, rr18 H, ra18 H, rr19 H, ra19 H, rr20 H, ra20 H, rr21 H, ra21 H, rr22 H, ra22 H, rr23 H, ra23 H, rr24 H, ra24 H, rr25 H, ra25 H, rr26 H, ra26 H, rr27 H, ra27 H, rr28 H, ra28 H, rr29 H, ra29 H, rr30 H, ra30 H, mia, msa, ri2 H, ri3 H, emd]
      repeat' first
        | apply And.intro
        | (intro _)
        | (refine ⟨_, m_ahW B l _ _ _ H hB hm hf c hc0 hc1 ((a + 1) % 3600) (by omega) (by omega) hw5, ?_⟩; rintro y h' ⟨rfl, hy⟩; cases hy; try simp (disch := omega) only [e_Mod_isSafe_0, e_Mod_isSafe_1, e_Mod_isSafe_2, e_Mod_isSafe_3, e_Mod_isSafe_4, e_Mod_isSafe_5, e_Mod_isSafe_6, c_Mod_isSafe_7, e_Mod_isSafe_7, e_Mod_isSafe_8, e_Mod_isSafe_9, e_Mod_isSafe_10, e_Mod_isSafe_11, e_Mod_isSafe_12, e_Mod_isSafe_13, e_Mod_isSafe_14, e_Mod_isSafe_15, e_Mod_isSafe_16, e_Mod_isSafe_17, c_Mod_isSafe_18, e_Mod_isSafe_18, e_Mod_isSafe_19, e_Mod_isSafe_20, e_Mod_isSafe_21, e_Mod_isSafe_22, e_Mod_isSafe_23, e_Mod_isSafe_24, e_Mod_isSafe_25, e_Mod_isSafe_26, e_Mod_isSafe_27, e_Mod_isSafe_28, e_Mod_isSafe_29, e_Mod_isSafe_30, e_Mod_isSafe_31, e_Mod_isSafe_32, e_Mod_isSafe_33, e_Mod_isSafe_34, e_Mod_isSafe_35, e_Mod_isSafe_36, e_Mod_isSafe_37, e_Mod_isSafe_38, e_Mod_isSafe_39, e_Mod_isSafe_40, e_Mod_isSafe_41, e_Mod_isSafe_42, e_Mod_isSafe_43, e_Mod_isSafe_44, e_Mod_isSafe_45, e_Mod_isSafe_46, e_Mod_isSafe_47, e_Mod_isSafe_48, e_Mod_isSafe_49, e_Mod_isSafe_50, e_Mod_isSafe_51, e_Mod_isSafe_52, jm_ia, jm_na, jm_qa, jm_aa, jm_asg, jm_l4, jm_Kr, jm_okv, jm_rc, jm_bo, true_and, and_true, Nat.add_zero, Nat.le_refl, j_lt, j_le, j_eq, j_lt0, j_0lt, j_le0, j_0le, j_eq0, j_add, j_sub, j_mul, j_neg, j_0sub, j_nat, j_in, j_div, j_rem, Sum.inl.injEq, exists_eq', true_or, or_true, if_true, if_false, not_true_eq_false, not_false_eq_true, implies_true, j_eq1, reduceIte, Nat.reduceEqDiff, Int.reduceEq, Int.reduceToNat, Nat.reduceAdd, Int.reduceAdd, Int.reduceSub, Int.reduceMul, Int.reduceNeg, and_false, false_and, and_self, u2r, j_b0, j_b1, Classical.not_not, eq_self, true_implies, false_implies, not_true_eq_false, not_false_eq_true, Int.reduceLT, Int.reduceLE, rk H, mi0, ms0, rs2 H, rs3 H, rr1 H, ra1 H, rr2 H, ra2 H, rr3 H, ra3 H, rr4 H, ra4 H, rr5 H, ra5 H, rr6 H, ra6 H, rr7 H, ra7 H, rr8 H, ra8 H, rr9 H, ra9 H, rr10 H, ra10 H, rr11 H, ra11 H, rr12 H, ra12 H, rr13 H, ra13 H, rr14 H, ra14 H, rr15 H, ra15 H, rr16 H, ra16 H, rr17 H, ra17 H, rr18 H, ra18 H, rr19 H, ra19 H, rr20 H, ra20 H, rr21 H, ra21 H, rr22 H, ra22 H, rr23 H, ra23 H, rr24 H, ra24 H, rr25 H, ra25 H, rr26 H, ra26 H, rr27 H, ra27 H, rr28 H, ra28 H, rr29 H, ra29 H, rr30 H, ra30 H, mia, msa, ri2 H, ri3 H, emd])
      all_goals first
        | (refine ⟨_, ?_, Or.inl (⟨rfl, _, _, _, _, v, 0, rfl, rfl, rfl, rfl, rfl, rfl, ?_⟩)⟩ <;> first | omega | exact ⟨by omega, hp⟩ | exact ⟨by omega, nP (by omega)⟩)
        | (refine ⟨_, Or.inl (⟨rfl, _, _, _, _, v, 0, rfl, rfl, rfl, rfl, rfl, rfl, ?_⟩) ⟩ <;> first | omega | exact ⟨by omega, hp⟩ | exact ⟨by omega, nP (by omega)⟩)
        | (refine ⟨_, ?_, Or.inl (⟨rfl, _, _, _, _, u - 1, D, rfl, rfl, rfl, rfl, rfl, rfl, ?_⟩)⟩ <;> first | omega | exact ⟨by omega, hp⟩ | exact ⟨by omega, nP (by omega)⟩)
        | (refine ⟨_, Or.inl (⟨rfl, _, _, _, _, u - 1, D, rfl, rfl, rfl, rfl, rfl, rfl, ?_⟩) ⟩ <;> first | omega | exact ⟨by omega, hp⟩ | exact ⟨by omega, nP (by omega)⟩)
        | (refine ⟨_, ?_, Or.inr (⟨rfl, _, _, _, _, u, D, rfl, rfl, rfl, rfl, rfl, rfl, ?_⟩)⟩ <;> first | omega | exact ⟨by omega, hp⟩ | exact ⟨by omega, nP (by omega)⟩)
        | (refine ⟨_, Or.inr (⟨rfl, _, _, _, _, u, D, rfl, rfl, rfl, rfl, rfl, rfl, ?_⟩) ⟩ <;> first | omega | exact ⟨by omega, hp⟩ | exact ⟨by omega, nP (by omega)⟩)
        | (refine ⟨_, ?_, Or.inr (⟨rfl, _, _, _, _, u, D + 1, rfl, rfl, rfl, rfl, rfl, rfl, ?_⟩)⟩ <;> first | omega | exact ⟨by omega, hp⟩ | exact ⟨by omega, nP (by omega)⟩)
        | (refine ⟨_, Or.inr (⟨rfl, _, _, _, _, u, D + 1, rfl, rfl, rfl, rfl, rfl, rfl, ?_⟩) ⟩ <;> first | omega | exact ⟨by omega, hp⟩ | exact ⟨by omega, nP (by omega)⟩)
        | contradiction
        | exact trivial
        | rfl
        | omega
        | exact (bi1 (by omega)).symm
        | exact (bi0 (by omega)).symm
        | exact (bi1 (by assumption)).symm
        | exact (bi0 (by assumption)).symm
        | (congr 1; omega)
        | ((try unfold IN_); (repeat (first | rw [if_pos (by omega)] | rw [if_neg (by omega)])); done)
        | ((try unfold IN_); (repeat (first | rw [if_pos (by omega)] | rw [if_neg (by omega)])); rfl)
        | ((try unfold IN_); (repeat (first | rw [if_pos (by omega)] | rw [if_neg (by omega)] | rw [if_pos (by assumption)] | rw [if_neg (by assumption)])); rfl)
  · have b1 : 0 ≤ σ 1 c.toNat ∧ σ 1 c.toNat < 3600 := hB 1 _
    have hs1 := flg1 hs
    have hs0 := flg01 hs
    have W1 : wayS v = tri v := if_neg (by omega)
    have W2 := tri_b (u := v) (by omega) (by omega)
    have hp := PR_0 hB hS hc0 hc1 v
    simp (disch := omega) only [e_Mod_isSafe_0, e_Mod_isSafe_1, e_Mod_isSafe_2, e_Mod_isSafe_3, e_Mod_isSafe_4, e_Mod_isSafe_5, e_Mod_isSafe_6, c_Mod_isSafe_7, e_Mod_isSafe_7, e_Mod_isSafe_8, e_Mod_isSafe_9, e_Mod_isSafe_10, e_Mod_isSafe_11, e_Mod_isSafe_12, e_Mod_isSafe_13, e_Mod_isSafe_14, e_Mod_isSafe_15, e_Mod_isSafe_16, e_Mod_isSafe_17, c_Mod_isSafe_18, e_Mod_isSafe_18, e_Mod_isSafe_19, e_Mod_isSafe_20, e_Mod_isSafe_21, e_Mod_isSafe_22, e_Mod_isSafe_23, e_Mod_isSafe_24, e_Mod_isSafe_25, e_Mod_isSafe_26, e_Mod_isSafe_27, e_Mod_isSafe_28, e_Mod_isSafe_29, e_Mod_isSafe_30, e_Mod_isSafe_31, e_Mod_isSafe_32, e_Mod_isSafe_33, e_Mod_isSafe_34, e_Mod_isSafe_35, e_Mod_isSafe_36, e_Mod_isSafe_37, e_Mod_isSafe_38, e_Mod_isSafe_39, e_Mod_isSafe_40, e_Mod_isSafe_41, e_Mod_isSafe_42, e_Mod_isSafe_43, e_Mod_isSafe_44, e_Mod_isSafe_45, e_Mod_isSafe_46, e_Mod_isSafe_47, e_Mod_isSafe_48, e_Mod_isSafe_49, e_Mod_isSafe_50, e_Mod_isSafe_51, e_Mod_isSafe_52, jm_ia, jm_na, jm_qa, jm_aa, jm_asg, jm_l4, jm_Kr, jm_okv, jm_rc, jm_bo, true_and, and_true, Nat.add_zero, Nat.le_refl, j_lt, j_le, j_eq, j_lt0, j_0lt, j_le0, j_0le, j_eq0, j_add, j_sub, j_mul, j_neg, j_0sub, j_nat, j_in, j_div, j_rem, Sum.inl.injEq, exists_eq', true_or, or_true, if_true, if_false, not_true_eq_false, not_false_eq_true, implies_true, j_eq1, reduceIte, Nat.reduceEqDiff, Int.reduceEq, Int.reduceToNat, Nat.reduceAdd, Int.reduceAdd, Int.reduceSub, Int.reduceMul, Int.reduceNeg, and_false, false_and, and_self, u2r, j_b0, j_b1, Classical.not_not, eq_self, true_implies, false_implies, not_true_eq_false, not_false_eq_true, Int.reduceLT, Int.reduceLE, rk H, mi0, ms0, rs2 H, rs3 H, rr1 H, ra1 H, rr2 H, ra2 H, rr3 H, ra3 H, rr4 H, ra4 H, rr5 H, ra5 H, rr6 H, ra6 H, rr7 H, ra7 H, rr8 H, ra8 H, rr9 H, ra9 H, rr10 H, ra10 H, rr11 H, ra11 H, rr12 H, ra12 H, rr13 H, ra13 H, rr14 H, ra14 H, rr15 H, ra15 H, rr16 H, ra16 H, rr17 H, ra17 H, rr18 H, ra18 H, rr19 H, ra19 H, rr20 H, ra20 H, rr21 H, ra21 H, rr22 H, ra22 H, rr23 H, ra23 H, rr24 H, ra24 H, rr25 H, ra25 H, rr26 H, ra26 H, rr27 H, ra27 H, rr28 H, ra28 H, rr29 H, ra29 H, rr30 H, ra30 H, mia, msa, ri2 H, ri3 H, emd]
    repeat' first
      | apply And.intro
      | (intro _)
      | (refine ⟨_, m_ahW B l _ _ _ H hB hm hf c hc0 hc1 ((a + 1) % 3600) (by omega) (by omega) hw5, ?_⟩; rintro y h' ⟨rfl, hy⟩; cases hy; try simp (disch := omega) only [e_Mod_isSafe_0, e_Mod_isSafe_1, e_Mod_isSafe_2, e_Mod_isSafe_3, e_Mod_isSafe_4, e_Mod_isSafe_5, e_Mod_isSafe_6, c_Mod_isSafe_7, e_Mod_isSafe_7, e_Mod_isSafe_8, e_Mod_isSafe_9, e_Mod_isSafe_10, e_Mod_isSafe_11, e_Mod_isSafe_12, e_Mod_isSafe_13, e_Mod_isSafe_14, e_Mod_isSafe_15, e_Mod_isSafe_16, e_Mod_isSafe_17, c_Mod_isSafe_18, e_Mod_isSafe_18, e_Mod_isSafe_19, e_Mod_isSafe_20, e_Mod_isSafe_21, e_Mod_isSafe_22, e_Mod_isSafe_23, e_Mod_isSafe_24, e_Mod_isSafe_25, e_Mod_isSafe_26, e_Mod_isSafe_27, e_Mod_isSafe_28, e_Mod_isSafe_29, e_Mod_isSafe_30, e_Mod_isSafe_31, e_Mod_isSafe_32, e_Mod_isSafe_33, e_Mod_isSafe_34, e_Mod_isSafe_35, e_Mod_isSafe_36, e_Mod_isSafe_37, e_Mod_isSafe_38, e_Mod_isSafe_39, e_Mod_isSafe_40, e_Mod_isSafe_41, e_Mod_isSafe_42, e_Mod_isSafe_43, e_Mod_isSafe_44, e_Mod_isSafe_45, e_Mod_isSafe_46, e_Mod_isSafe_47, e_Mod_isSafe_48, e_Mod_isSafe_49, e_Mod_isSafe_50, e_Mod_isSafe_51, e_Mod_isSafe_52, jm_ia, jm_na, jm_qa, jm_aa, jm_asg, jm_l4, jm_Kr, jm_okv, jm_rc, jm_bo, true_and, and_true, Nat.add_zero, Nat.le_refl, j_lt, j_le, j_eq, j_lt0, j_0lt, j_le0, j_0le, j_eq0, j_add, j_sub, j_mul, j_neg, j_0sub, j_nat, j_in, j_div, j_rem, Sum.inl.injEq, exists_eq', true_or, or_true, if_true, if_false, not_true_eq_false, not_false_eq_true, implies_true, j_eq1, reduceIte, Nat.reduceEqDiff, Int.reduceEq, Int.reduceToNat, Nat.reduceAdd, Int.reduceAdd, Int.reduceSub, Int.reduceMul, Int.reduceNeg, and_false, false_and, and_self, u2r, j_b0, j_b1, Classical.not_not, eq_self, true_implies, false_implies, not_true_eq_false, not_false_eq_true, Int.reduceLT, Int.reduceLE, rk H, mi0, ms0, rs2 H, rs3 H, rr1 H, ra1 H, rr2 H, ra2 H, rr3 H, ra3 H, rr4 H, ra4 H, rr5 H, ra5 H, rr6 H, ra6 H, rr7 H, ra7 H, rr8 H, ra8 H, rr9 H, ra9 H, rr10 H, ra10 H, rr11 H, ra11 H, rr12 H, ra12 H, rr13 H, ra13 H, rr14 H, ra14 H, rr15 H, ra15 H, rr16 H, ra16 H, rr17 H, ra17 H, rr18 H, ra18 H, rr19 H, ra19 H, rr20 H, ra20 H, rr21 H, ra21 H, rr22 H, ra22 H, rr23 H, ra23 H, rr24 H, ra24 H, rr25 H, ra25 H, rr26 H, ra26 H, rr27 H, ra27 H, rr28 H, ra28 H, rr29 H, ra29 H, rr30 H, ra30 H, mia, msa, ri2 H, ri3 H, emd])
    all_goals first
      | (refine ⟨_, ?_, Or.inl (⟨rfl, _, _, _, _, v, 0, rfl, rfl, rfl, rfl, rfl, rfl, ?_⟩)⟩ <;> first | omega | exact ⟨by omega, hp⟩ | exact ⟨by omega, nP (by omega)⟩)
      | (refine ⟨_, Or.inl (⟨rfl, _, _, _, _, v, 0, rfl, rfl, rfl, rfl, rfl, rfl, ?_⟩) ⟩ <;> first | omega | exact ⟨by omega, hp⟩ | exact ⟨by omega, nP (by omega)⟩)
      | (refine ⟨_, ?_, Or.inl (⟨rfl, _, _, _, _, u - 1, D, rfl, rfl, rfl, rfl, rfl, rfl, ?_⟩)⟩ <;> first | omega | exact ⟨by omega, hp⟩ | exact ⟨by omega, nP (by omega)⟩)
      | (refine ⟨_, Or.inl (⟨rfl, _, _, _, _, u - 1, D, rfl, rfl, rfl, rfl, rfl, rfl, ?_⟩) ⟩ <;> first | omega | exact ⟨by omega, hp⟩ | exact ⟨by omega, nP (by omega)⟩)
      | (refine ⟨_, ?_, Or.inr (⟨rfl, _, _, _, _, u, D, rfl, rfl, rfl, rfl, rfl, rfl, ?_⟩)⟩ <;> first | omega | exact ⟨by omega, hp⟩ | exact ⟨by omega, nP (by omega)⟩)
      | (refine ⟨_, Or.inr (⟨rfl, _, _, _, _, u, D, rfl, rfl, rfl, rfl, rfl, rfl, ?_⟩) ⟩ <;> first | omega | exact ⟨by omega, hp⟩ | exact ⟨by omega, nP (by omega)⟩)
      | (refine ⟨_, ?_, Or.inr (⟨rfl, _, _, _, _, u, D + 1, rfl, rfl, rfl, rfl, rfl, rfl, ?_⟩)⟩ <;> first | omega | exact ⟨by omega, hp⟩ | exact ⟨by omega, nP (by omega)⟩)
      | (refine ⟨_, Or.inr (⟨rfl, _, _, _, _, u, D + 1, rfl, rfl, rfl, rfl, rfl, rfl, ?_⟩) ⟩ <;> first | omega | exact ⟨by omega, hp⟩ | exact ⟨by omega, nP (by omega)⟩)
      | contradiction
      | exact trivial
      | rfl
      | omega
      | exact (bi1 (by omega)).symm
      | exact (bi0 (by omega)).symm
      | exact (bi1 (by assumption)).symm
      | exact (bi0 (by assumption)).symm
      | (congr 1; omega)
      | ((try unfold IN_); (repeat (first | rw [if_pos (by omega)] | rw [if_neg (by omega)])); done)
      | ((try unfold IN_); (repeat (first | rw [if_pos (by omega)] | rw [if_neg (by omega)])); rfl)
      | ((try unfold IN_); (repeat (first | rw [if_pos (by omega)] | rw [if_neg (by omega)] | rw [if_pos (by assumption)] | rw [if_neg (by assumption)])); rfl)
def Iv_m_isSafeN (h : jm_H) (am : Nat) (σ : S_) (c v : Int) : Nat → Nat → List (Option jm_V) → List jm_V → jm_H → Nat → Nat → Prop := fun kq pc L st h' ce sl =>
  (pc = 10 ∧ ∃ (a : Int) (left : Int) (x5 : Option jm_V) (x6 : Option jm_V) (u : Int) (D : Int), L = [some (.inr (.inl (some am))), some (.inl (Int32.ofInt (c))), some (.inl (Int32.ofInt (v))), some (.inl (Int32.ofInt (a))), some (.inl (Int32.ofInt (left))), x5, x6] ∧ st = [] ∧ h' = mo h am σ ∧ ce = 0 ∧ sl = 0 ∧ kq = (2 * (wayS v - D + u) + 1).toNat ∧ ((0 ≤ u ∧ u ≤ 10 ∧ 0 ≤ D ∧ D + tri u = wayS v ∧ left = -u ∧ a = (σ 1 c.toNat - D) % 3600) ∧ PR σ c v D)) ∨
  (pc = 33 ∧ ∃ (a : Int) (left : Int) (t : Int) (k : Int) (u : Int) (D : Int), L = [some (.inr (.inl (some am))), some (.inl (Int32.ofInt (c))), some (.inl (Int32.ofInt (v))), some (.inl (Int32.ofInt (a))), some (.inl (Int32.ofInt (left))), some (.inl (Int32.ofInt (t))), some (.inl (Int32.ofInt (k)))] ∧ st = [] ∧ h' = mo h am σ ∧ ce = 0 ∧ sl = 0 ∧ kq = (2 * (wayS v - D + u)).toNat ∧ (((1 ≤ u ∧ u ≤ 10) ∧ (0 ≤ k ∧ k ≤ u) ∧ 0 ≤ D ∧ D + (u - k) + tri (u - 1) = wayS v ∧ t = u ∧ left = -u ∧ a = (σ 1 c.toNat - D) % 3600) ∧ PR σ c v D))
set_option maxRecDepth 100000 in
set_option maxHeartbeats 4000000 in
theorem m_isSafeN (B : jm_B) (l : Launch) (h : jm_H) (am : Nat) (σ : S_) (H : RM B am h) {m f : Int} (hB : BB m f σ) (hm : m ≤ 6000000) (hf : f ≤ 95) (c : Int) (hc0 : 0 ≤ c) (hc1 : c ≤ 2) (hS : SS σ) (v : Int) (hv0 : -10 ≤ v) (hv1 : v ≤ 10) (hv : v < 0) {ws : Int} (hs : Flg (safeS σ c v) ws) : jm_Ct gG B l (gm 89) [.inr (.inl (some am)), .inl (Int32.ofInt (c)), .inl (Int32.ofInt (v))] (mo h am σ) (fun v h' => h' = mo h am σ ∧ v = .inl (Int32.ofInt ws)) := by
  show jm_Ct gG B l M_Mod_isSafe _ _ _
  refine jm_CL (code := k_Mod_isSafe) (Or.inl (by decide)) (by decide) v_Mod_isSafe rfl (Nat.le_of_ble_eq_true rfl) [some (.inr (.inl (some am))), some (.inl (Int32.ofInt (c))), some (.inl (Int32.ofInt (v))), none, none, none, none] rfl rfl (Iv_m_isSafeN h am σ c v) ?_ ⟨57, ?_⟩
  · intro k pc L st h' ce sl hI
    rcases hI with ⟨rfl, a, left, x5, x6, u, D, rfl, rfl, rfl, rfl, rfl, rfl, hc⟩ | ⟨rfl, a, left, t, k, u, D, rfl, rfl, rfl, rfl, rfl, rfl, hc⟩
    · refine ⟨57, 7, ⟨_, _, rfl, rfl⟩, ?_⟩
      have b1 : 0 ≤ σ 1 c.toNat ∧ σ 1 c.toNat < 3600 := hB 1 _
      have hs1 := flg1 hs
      have hs0 := flg01 hs
      have W1 : wayS v = tri (-v) := if_pos hv
      have W2 := tri_b (u := (-v)) (by omega) (by omega)
      obtain ⟨⟨k1, k2, k3, k4, k5, k6⟩, hp⟩ := hc
      have t1 := tri_s u
      have t2 := tri_b k1 k2
      have t3 : 1 ≤ u → _ := fun q => tri_b (show 0 ≤ u - 1 by omega) (by omega)
      have r1 : u = 0 → ws = 1 := fun q => by
        rw [hs1]
        unfold safeS
        have t4 : tri 0 = 0 := rfl
        rw [show wayS v = D by subst q; omega]
        exact hp
      simp (disch := omega) only [e_Mod_isSafe_0, e_Mod_isSafe_1, e_Mod_isSafe_2, e_Mod_isSafe_3, e_Mod_isSafe_4, e_Mod_isSafe_5, e_Mod_isSafe_6, c_Mod_isSafe_7, e_Mod_isSafe_7, e_Mod_isSafe_8, e_Mod_isSafe_9, e_Mod_isSafe_10, e_Mod_isSafe_11, e_Mod_isSafe_12, e_Mod_isSafe_13, e_Mod_isSafe_14, e_Mod_isSafe_15, e_Mod_isSafe_16, e_Mod_isSafe_17, c_Mod_isSafe_18, e_Mod_isSafe_18, e_Mod_isSafe_19, e_Mod_isSafe_20, e_Mod_isSafe_21, e_Mod_isSafe_22, e_Mod_isSafe_23, e_Mod_isSafe_24, e_Mod_isSafe_25, e_Mod_isSafe_26, e_Mod_isSafe_27, e_Mod_isSafe_28, e_Mod_isSafe_29, e_Mod_isSafe_30, e_Mod_isSafe_31, e_Mod_isSafe_32, e_Mod_isSafe_33, e_Mod_isSafe_34, e_Mod_isSafe_35, e_Mod_isSafe_36, e_Mod_isSafe_37, e_Mod_isSafe_38, e_Mod_isSafe_39, e_Mod_isSafe_40, e_Mod_isSafe_41, e_Mod_isSafe_42, e_Mod_isSafe_43, e_Mod_isSafe_44, e_Mod_isSafe_45, e_Mod_isSafe_46, e_Mod_isSafe_47, e_Mod_isSafe_48, e_Mod_isSafe_49, e_Mod_isSafe_50, e_Mod_isSafe_51, e_Mod_isSafe_52, jm_ia, jm_na, jm_qa, jm_aa, jm_asg, jm_l4, jm_Kr, jm_okv, jm_rc, jm_bo, true_and, and_true, Nat.add_zero, Nat.le_refl, j_lt, j_le, j_eq, j_lt0, j_0lt, j_le0, j_0le, j_eq0, j_add, j_sub, j_mul, j_neg, j_0sub, j_nat, j_in, j_div, j_rem, Sum.inl.injEq, exists_eq', true_or, or_true, if_true, if_false, not_true_eq_false, not_false_eq_true, implies_true, j_eq1, reduceIte, Nat.reduceEqDiff, Int.reduceEq, Int.reduceToNat, Nat.reduceAdd, Int.reduceAdd, Int.reduceSub, Int.reduceMul, Int.reduceNeg, and_false, false_and, and_self, u2r, j_b0, j_b1, Classical.not_not, eq_self, true_implies, false_implies, not_true_eq_false, not_false_eq_true, Int.reduceLT, Int.reduceLE, rk H, mi0, ms0, rs2 H, rs3 H, rr1 H, ra1 H, rr2 H, ra2 H, rr3 H, ra3 H, rr4 H, ra4 H, rr5 H, ra5 H, rr6 H, ra6 H, rr7 H, ra7 H, rr8 H, ra8 H, rr9 H, ra9 H, rr10 H, ra10 H, rr11 H, ra11 H, rr12 H, ra12 H, rr13 H, ra13 H, rr14 H, ra14 H, rr15 H, ra15 H, rr16 H, ra16 H, rr17 H, ra17 H, rr18 H, ra18 H, rr19 H, ra19 H, rr20 H, ra20 H, rr21 H, ra21 H, rr22 H, ra22 H, rr23 H, ra23 H, rr24 H, ra24 H, rr25 H, ra25 H, rr26 H, ra26 H, rr27 H, ra27 H, rr28 H, ra28 H, rr29 H, ra29 H, rr30 H, ra30 H, mia, msa, ri2 H, ri3 H, emd]
      repeat' first
        | apply And.intro
        | (intro _)
        | (refine ⟨_, m_ahW B l _ _ _ H hB hm hf c hc0 hc1 ((a + 3599) % 3600) (by omega) (by omega) hw5, ?_⟩; rintro y h' ⟨rfl, hy⟩; cases hy; try simp (disch := omega) only [e_Mod_isSafe_0, e_Mod_isSafe_1, e_Mod_isSafe_2, e_Mod_isSafe_3, e_Mod_isSafe_4, e_Mod_isSafe_5, e_Mod_isSafe_6, c_Mod_isSafe_7, e_Mod_isSafe_7, e_Mod_isSafe_8, e_Mod_isSafe_9, e_Mod_isSafe_10, e_Mod_isSafe_11, e_Mod_isSafe_12, e_Mod_isSafe_13, e_Mod_isSafe_14, e_Mod_isSafe_15, e_Mod_isSafe_16, e_Mod_isSafe_17, c_Mod_isSafe_18, e_Mod_isSafe_18, e_Mod_isSafe_19, e_Mod_isSafe_20, e_Mod_isSafe_21, e_Mod_isSafe_22, e_Mod_isSafe_23, e_Mod_isSafe_24, e_Mod_isSafe_25, e_Mod_isSafe_26, e_Mod_isSafe_27, e_Mod_isSafe_28, e_Mod_isSafe_29, e_Mod_isSafe_30, e_Mod_isSafe_31, e_Mod_isSafe_32, e_Mod_isSafe_33, e_Mod_isSafe_34, e_Mod_isSafe_35, e_Mod_isSafe_36, e_Mod_isSafe_37, e_Mod_isSafe_38, e_Mod_isSafe_39, e_Mod_isSafe_40, e_Mod_isSafe_41, e_Mod_isSafe_42, e_Mod_isSafe_43, e_Mod_isSafe_44, e_Mod_isSafe_45, e_Mod_isSafe_46, e_Mod_isSafe_47, e_Mod_isSafe_48, e_Mod_isSafe_49, e_Mod_isSafe_50, e_Mod_isSafe_51, e_Mod_isSafe_52, jm_ia, jm_na, jm_qa, jm_aa, jm_asg, jm_l4, jm_Kr, jm_okv, jm_rc, jm_bo, true_and, and_true, Nat.add_zero, Nat.le_refl, j_lt, j_le, j_eq, j_lt0, j_0lt, j_le0, j_0le, j_eq0, j_add, j_sub, j_mul, j_neg, j_0sub, j_nat, j_in, j_div, j_rem, Sum.inl.injEq, exists_eq', true_or, or_true, if_true, if_false, not_true_eq_false, not_false_eq_true, implies_true, j_eq1, reduceIte, Nat.reduceEqDiff, Int.reduceEq, Int.reduceToNat, Nat.reduceAdd, Int.reduceAdd, Int.reduceSub, Int.reduceMul, Int.reduceNeg, and_false, false_and, and_self, u2r, j_b0, j_b1, Classical.not_not, eq_self, true_implies, false_implies, not_true_eq_false, not_false_eq_true, Int.reduceLT, Int.reduceLE, rk H, mi0, ms0, rs2 H, rs3 H, rr1 H, ra1 H, rr2 H, ra2 H, rr3 H, ra3 H, rr4 H, ra4 H, rr5 H, ra5 H, rr6 H, ra6 H, rr7 H, ra7 H, rr8 H, ra8 H, rr9 H, ra9 H, rr10 H, ra10 H, rr11 H, ra11 H, rr12 H, ra12 H, rr13 H, ra13 H, rr14 H, ra14 H, rr15 H, ra15 H, rr16 H, ra16 H, rr17 H, ra17 H, rr18 H, ra18 H, rr19 H, ra19 H, rr20 H, ra20 H, rr21 H, ra21 H, rr22 H, ra22 H, rr23 H, ra23 H, rr24 H, ra24 H, rr25 H, ra25 H, rr26 H, ra26 H, rr27 H, ra27 H, rr28 H, ra28 H, rr29 H, ra29 H, rr30 H, ra30 H, mia, msa, ri2 H, ri3 H, emd])
      all_goals first
        | (refine ⟨_, ?_, Or.inl (⟨rfl, _, _, _, _, (-v), 0, rfl, rfl, rfl, rfl, rfl, rfl, ?_⟩)⟩ <;> first | omega | exact ⟨by omega, hp⟩ | exact ⟨by omega, nP (by omega)⟩)
        | (refine ⟨_, Or.inl (⟨rfl, _, _, _, _, (-v), 0, rfl, rfl, rfl, rfl, rfl, rfl, ?_⟩) ⟩ <;> first | omega | exact ⟨by omega, hp⟩ | exact ⟨by omega, nP (by omega)⟩)
        | (refine ⟨_, ?_, Or.inl (⟨rfl, _, _, _, _, u - 1, D, rfl, rfl, rfl, rfl, rfl, rfl, ?_⟩)⟩ <;> first | omega | exact ⟨by omega, hp⟩ | exact ⟨by omega, nP (by omega)⟩)
        | (refine ⟨_, Or.inl (⟨rfl, _, _, _, _, u - 1, D, rfl, rfl, rfl, rfl, rfl, rfl, ?_⟩) ⟩ <;> first | omega | exact ⟨by omega, hp⟩ | exact ⟨by omega, nP (by omega)⟩)
        | (refine ⟨_, ?_, Or.inr (⟨rfl, _, _, _, _, u, D, rfl, rfl, rfl, rfl, rfl, rfl, ?_⟩)⟩ <;> first | omega | exact ⟨by omega, hp⟩ | exact ⟨by omega, nP (by omega)⟩)
        | (refine ⟨_, Or.inr (⟨rfl, _, _, _, _, u, D, rfl, rfl, rfl, rfl, rfl, rfl, ?_⟩) ⟩ <;> first | omega | exact ⟨by omega, hp⟩ | exact ⟨by omega, nP (by omega)⟩)
        | (refine ⟨_, ?_, Or.inr (⟨rfl, _, _, _, _, u, D + 1, rfl, rfl, rfl, rfl, rfl, rfl, ?_⟩)⟩ <;> first | omega | exact ⟨by omega, hp⟩ | exact ⟨by omega, nP (by omega)⟩)
        | (refine ⟨_, Or.inr (⟨rfl, _, _, _, _, u, D + 1, rfl, rfl, rfl, rfl, rfl, rfl, ?_⟩) ⟩ <;> first | omega | exact ⟨by omega, hp⟩ | exact ⟨by omega, nP (by omega)⟩)
        | contradiction
        | exact trivial
        | rfl
        | omega
        | exact (bi1 (by omega)).symm
        | exact (bi0 (by omega)).symm
        | exact (bi1 (by assumption)).symm
        | exact (bi0 (by assumption)).symm
        | (congr 1; omega)
        | ((try unfold IN_); (repeat (first | rw [if_pos (by omega)] | rw [if_neg (by omega)])); done)
        | ((try unfold IN_); (repeat (first | rw [if_pos (by omega)] | rw [if_neg (by omega)])); rfl)
        | ((try unfold IN_); (repeat (first | rw [if_pos (by omega)] | rw [if_neg (by omega)] | rw [if_pos (by assumption)] | rw [if_neg (by assumption)])); rfl)
    · refine ⟨57, 18, ⟨_, _, rfl, rfl⟩, ?_⟩
      have b1 : 0 ≤ σ 1 c.toNat ∧ σ 1 c.toNat < 3600 := hB 1 _
      have hs1 := flg1 hs
      have hs0 := flg01 hs
      have W1 : wayS v = tri (-v) := if_pos hv
      have W2 := tri_b (u := (-v)) (by omega) (by omega)
      obtain ⟨⟨k1, k2, k3, k4, k5, k6, k7⟩, hp⟩ := hc
      have t3 := tri_b (show 0 ≤ u - 1 by omega) (by omega)
      obtain ⟨w5, hw5⟩ := flg_ex (¬ sumF (bfl σ c ((a + 3599) % 3600)) 10 = 0)
      have f5 := flg01 hw5
      have nP : w5 = 0 → PR σ c v (D + 1) := fun q2 => PR_s hB hS hc0 hc1 (a := (a + 3599) % 3600) k3 (by omega) ⟨fun _ => by omega, fun _ => by omega⟩ hp (Classical.not_not.mp (fun q3 => by have := (flg1 hw5).mpr q3; omega))
      have xP : w5 = 1 → k < u → ws = 0 := fun q2 q3 => by
        have : ¬ ws = 1 := fun q4 => (flg1 hw5).mp q2 (PR_x hB (v := v) (a := (a + 3599) % 3600) (by omega) k3 (by omega) ⟨fun _ => by omega, fun _ => by omega⟩ (PR_le (show D + 1 ≤ wayS v by omega) (hs1.mp q4)))
        omega
      simp (disch := omega) only [e_Mod_isSafe_0, e_Mod_isSafe_1, e_Mod_isSafe_2, e_Mod_isSafe_3, e_Mod_isSafe_4, e_Mod_isSafe_5, e_Mod_isSafe_6, c_Mod_isSafe_7, e_Mod_isSafe_7, e_Mod_isSafe_8, e_Mod_isSafe_9, e_Mod_isSafe_10, e_Mod_isSafe_11, e_Mod_isSafe_12, e_Mod_isSafe_13, e_Mod_isSafe_14, e_Mod_isSafe_15, e_Mod_isSafe_16, e_Mod_isSafe_17, c_Mod_isSafe_18, e_Mod_isSafe_18, e_Mod_isSafe_19, e_Mod_isSafe_20, e_Mod_isSafe_21, e_Mod_isSafe_22, e_Mod_isSafe_23, e_Mod_isSafe_24, e_Mod_isSafe_25, e_Mod_isSafe_26, e_Mod_isSafe_27, e_Mod_isSafe_28, e_Mod_isSafe_29, e_Mod_isSafe_30, e_Mod_isSafe_31, e_Mod_isSafe_32, e_Mod_isSafe_33, e_Mod_isSafe_34, e_Mod_isSafe_35, e_Mod_isSafe_36, e_Mod_isSafe_37, e_Mod_isSafe_38, e_Mod_isSafe_39, e_Mod_isSafe_40, e_Mod_isSafe_41, e_Mod_isSafe_42, e_Mod_isSafe_43, e_Mod_isSafe_44, e_Mod_isSafe_45, e_Mod_isSafe_46, e_Mod_isSafe_47, e_Mod_isSafe_48, e_Mod_isSafe_49, e_Mod_isSafe_50, e_Mod_isSafe_51, e_Mod_isSafe_52, jm_ia, jm_na, jm_qa, jm_aa, jm_asg, jm_l4, jm_Kr, jm_okv, jm_rc, jm_bo, true_and, and_true, Nat.add_zero, Nat.le_refl, j_lt, j_le, j_eq, j_lt0, j_0lt, j_le0, j_0le, j_eq0, j_add, j_sub, j_mul, j_neg, j_0sub, j_nat, j_in, j_div, j_rem, Sum.inl.injEq, exists_eq', true_or, or_true, if_true, if_false, not_true_eq_false, not_false_eq_true, implies_true, j_eq1, reduceIte, Nat.reduceEqDiff, Int.reduceEq, Int.reduceToNat, Nat.reduceAdd, Int.reduceAdd, Int.reduceSub, Int.reduceMul, Int.reduceNeg, and_false, false_and, and_self, u2r, j_b0, j_b1, Classical.not_not, eq_self, true_implies, false_implies, not_true_eq_false, not_false_eq_true, Int.reduceLT, Int.reduceLE, rk H, mi0, ms0, rs2 H, rs3 H, rr1 H, ra1 H, rr2 H, ra2 H, rr3 H, ra3 H, rr4 H, ra4 H, rr5 H, ra5 H, rr6 H, ra6 H, rr7 H, ra7 H, rr8 H, ra8 H, rr9 H, ra9 H, rr10 H, ra10 H, rr11 H, ra11 H, rr12 H, ra12 H, rr13 H, ra13 H, rr14 H, ra14 H, rr15 H, ra15 H, rr16 H, ra16 H, rr17 H, ra17 H, rr18 H, ra18 H, rr19 H, ra19 H, rr20 H, ra20 H, rr21 H, ra21 H, rr22 H, ra22 H, rr23 H, ra23 H, rr24 H, ra24 H, rr25 H, ra25 H, rr26 H, ra26 H, rr27 H, ra27 H, rr28 H, ra28 H, rr29 H, ra29 H, rr30 H, ra30 H, mia, msa, ri2 H, ri3 H, emd]
      repeat' first
        | apply And.intro
        | (intro _)
        | (refine ⟨_, m_ahW B l _ _ _ H hB hm hf c hc0 hc1 ((a + 3599) % 3600) (by omega) (by omega) hw5, ?_⟩; rintro y h' ⟨rfl, hy⟩; cases hy; try simp (disch := omega) only [e_Mod_isSafe_0, e_Mod_isSafe_1, e_Mod_isSafe_2, e_Mod_isSafe_3, e_Mod_isSafe_4, e_Mod_isSafe_5, e_Mod_isSafe_6, c_Mod_isSafe_7, e_Mod_isSafe_7, e_Mod_isSafe_8, e_Mod_isSafe_9, e_Mod_isSafe_10, e_Mod_isSafe_11, e_Mod_isSafe_12, e_Mod_isSafe_13, e_Mod_isSafe_14, e_Mod_isSafe_15, e_Mod_isSafe_16, e_Mod_isSafe_17, c_Mod_isSafe_18, e_Mod_isSafe_18, e_Mod_isSafe_19, e_Mod_isSafe_20, e_Mod_isSafe_21, e_Mod_isSafe_22, e_Mod_isSafe_23, e_Mod_isSafe_24, e_Mod_isSafe_25, e_Mod_isSafe_26, e_Mod_isSafe_27, e_Mod_isSafe_28, e_Mod_isSafe_29, e_Mod_isSafe_30, e_Mod_isSafe_31, e_Mod_isSafe_32, e_Mod_isSafe_33, e_Mod_isSafe_34, e_Mod_isSafe_35, e_Mod_isSafe_36, e_Mod_isSafe_37, e_Mod_isSafe_38, e_Mod_isSafe_39, e_Mod_isSafe_40, e_Mod_isSafe_41, e_Mod_isSafe_42, e_Mod_isSafe_43, e_Mod_isSafe_44, e_Mod_isSafe_45, e_Mod_isSafe_46, e_Mod_isSafe_47, e_Mod_isSafe_48, e_Mod_isSafe_49, e_Mod_isSafe_50, e_Mod_isSafe_51, e_Mod_isSafe_52, jm_ia, jm_na, jm_qa, jm_aa, jm_asg, jm_l4, jm_Kr, jm_okv, jm_rc, jm_bo, true_and, and_true, Nat.add_zero, Nat.le_refl, j_lt, j_le, j_eq, j_lt0, j_0lt, j_le0, j_0le, j_eq0, j_add, j_sub, j_mul, j_neg, j_0sub, j_nat, j_in, j_div, j_rem, Sum.inl.injEq, exists_eq', true_or, or_true, if_true, if_false, not_true_eq_false, not_false_eq_true, implies_true, j_eq1, reduceIte, Nat.reduceEqDiff, Int.reduceEq, Int.reduceToNat, Nat.reduceAdd, Int.reduceAdd, Int.reduceSub, Int.reduceMul, Int.reduceNeg, and_false, false_and, and_self, u2r, j_b0, j_b1, Classical.not_not, eq_self, true_implies, false_implies, not_true_eq_false, not_false_eq_true, Int.reduceLT, Int.reduceLE, rk H, mi0, ms0, rs2 H, rs3 H, rr1 H, ra1 H, rr2 H, ra2 H, rr3 H, ra3 H, rr4 H, ra4 H, rr5 H, ra5 H, rr6 H, ra6 H, rr7 H, ra7 H, rr8 H, ra8 H, rr9 H, ra9 H, rr10 H, ra10 H, rr11 H, ra11 H, rr12 H, ra12 H, rr13 H, ra13 H, rr14 H, ra14 H, rr15 H, ra15 H, rr16 H, ra16 H, rr17 H, ra17 H, rr18 H, ra18 H, rr19 H, ra19 H, rr20 H, ra20 H, rr21 H, ra21 H, rr22 H, ra22 H, rr23 H, ra23 H, rr24 H, ra24 H, rr25 H, ra25 H, rr26 H, ra26 H, rr27 H, ra27 H, rr28 H, ra28 H, rr29 H, ra29 H, rr30 H, ra30 H, mia, msa, ri2 H, ri3 H, emd])
      all_goals first
        | (refine ⟨_, ?_, Or.inl (⟨rfl, _, _, _, _, (-v), 0, rfl, rfl, rfl, rfl, rfl, rfl, ?_⟩)⟩ <;> first | omega | exact ⟨by omega, hp⟩ | exact ⟨by omega, nP (by omega)⟩)
        | (refine ⟨_, Or.inl (⟨rfl, _, _, _, _, (-v), 0, rfl, rfl, rfl, rfl, rfl, rfl, ?_⟩) ⟩ <;> first | omega | exact ⟨by omega, hp⟩ | exact ⟨by omega, nP (by omega)⟩)
        | (refine ⟨_, ?_, Or.inl (⟨rfl, _, _, _, _, u - 1, D, rfl, rfl, rfl, rfl, rfl, rfl, ?_⟩)⟩ <;> first | omega | exact ⟨by omega, hp⟩ | exact ⟨by omega, nP (by omega)⟩)
        | (refine ⟨_, Or.inl (⟨rfl, _, _, _, _, u - 1, D, rfl, rfl, rfl, rfl, rfl, rfl, ?_⟩) ⟩ <;> first | omega | exact ⟨by omega, hp⟩ | exact ⟨by omega, nP (by omega)⟩)
        | (refine ⟨_, ?_, Or.inr (⟨rfl, _, _, _, _, u, D, rfl, rfl, rfl, rfl, rfl, rfl, ?_⟩)⟩ <;> first | omega | exact ⟨by omega, hp⟩ | exact ⟨by omega, nP (by omega)⟩)
        | (refine ⟨_, Or.inr (⟨rfl, _, _, _, _, u, D, rfl, rfl, rfl, rfl, rfl, rfl, ?_⟩) ⟩ <;> first | omega | exact ⟨by omega, hp⟩ | exact ⟨by omega, nP (by omega)⟩)
        | (refine ⟨_, ?_, Or.inr (⟨rfl, _, _, _, _, u, D + 1, rfl, rfl, rfl, rfl, rfl, rfl, ?_⟩)⟩ <;> first | omega | exact ⟨by omega, hp⟩ | exact ⟨by omega, nP (by omega)⟩)
        | (refine ⟨_, Or.inr (⟨rfl, _, _, _, _, u, D + 1, rfl, rfl, rfl, rfl, rfl, rfl, ?_⟩) ⟩ <;> first | omega | exact ⟨by omega, hp⟩ | exact ⟨by omega, nP (by omega)⟩)
        | contradiction
        | exact trivial
        | rfl
        | omega
        | exact (bi1 (by omega)).symm
        | exact (bi0 (by omega)).symm
        | exact (bi1 (by assumption)).symm
        | exact (bi0 (by assumption)).symm
        | (congr 1; omega)
        | ((try unfold IN_); (repeat (first | rw [if_pos (by omega)] | rw [if_neg (by omega)])); done)
        | ((try unfold IN_); (repeat (first | rw [if_pos (by omega)] | rw [if_neg (by omega)])); rfl)
        | ((try unfold IN_); (repeat (first | rw [if_pos (by omega)] | rw [if_neg (by omega)] | rw [if_pos (by assumption)] | rw [if_neg (by assumption)])); rfl)
  · have b1 : 0 ≤ σ 1 c.toNat ∧ σ 1 c.toNat < 3600 := hB 1 _
    have hs1 := flg1 hs
    have hs0 := flg01 hs
    have W1 : wayS v = tri (-v) := if_pos hv
    have W2 := tri_b (u := (-v)) (by omega) (by omega)
    have hp := PR_0 hB hS hc0 hc1 v
    simp (disch := omega) only [e_Mod_isSafe_0, e_Mod_isSafe_1, e_Mod_isSafe_2, e_Mod_isSafe_3, e_Mod_isSafe_4, e_Mod_isSafe_5, e_Mod_isSafe_6, c_Mod_isSafe_7, e_Mod_isSafe_7, e_Mod_isSafe_8, e_Mod_isSafe_9, e_Mod_isSafe_10, e_Mod_isSafe_11, e_Mod_isSafe_12, e_Mod_isSafe_13, e_Mod_isSafe_14, e_Mod_isSafe_15, e_Mod_isSafe_16, e_Mod_isSafe_17, c_Mod_isSafe_18, e_Mod_isSafe_18, e_Mod_isSafe_19, e_Mod_isSafe_20, e_Mod_isSafe_21, e_Mod_isSafe_22, e_Mod_isSafe_23, e_Mod_isSafe_24, e_Mod_isSafe_25, e_Mod_isSafe_26, e_Mod_isSafe_27, e_Mod_isSafe_28, e_Mod_isSafe_29, e_Mod_isSafe_30, e_Mod_isSafe_31, e_Mod_isSafe_32, e_Mod_isSafe_33, e_Mod_isSafe_34, e_Mod_isSafe_35, e_Mod_isSafe_36, e_Mod_isSafe_37, e_Mod_isSafe_38, e_Mod_isSafe_39, e_Mod_isSafe_40, e_Mod_isSafe_41, e_Mod_isSafe_42, e_Mod_isSafe_43, e_Mod_isSafe_44, e_Mod_isSafe_45, e_Mod_isSafe_46, e_Mod_isSafe_47, e_Mod_isSafe_48, e_Mod_isSafe_49, e_Mod_isSafe_50, e_Mod_isSafe_51, e_Mod_isSafe_52, jm_ia, jm_na, jm_qa, jm_aa, jm_asg, jm_l4, jm_Kr, jm_okv, jm_rc, jm_bo, true_and, and_true, Nat.add_zero, Nat.le_refl, j_lt, j_le, j_eq, j_lt0, j_0lt, j_le0, j_0le, j_eq0, j_add, j_sub, j_mul, j_neg, j_0sub, j_nat, j_in, j_div, j_rem, Sum.inl.injEq, exists_eq', true_or, or_true, if_true, if_false, not_true_eq_false, not_false_eq_true, implies_true, j_eq1, reduceIte, Nat.reduceEqDiff, Int.reduceEq, Int.reduceToNat, Nat.reduceAdd, Int.reduceAdd, Int.reduceSub, Int.reduceMul, Int.reduceNeg, and_false, false_and, and_self, u2r, j_b0, j_b1, Classical.not_not, eq_self, true_implies, false_implies, not_true_eq_false, not_false_eq_true, Int.reduceLT, Int.reduceLE, rk H, mi0, ms0, rs2 H, rs3 H, rr1 H, ra1 H, rr2 H, ra2 H, rr3 H, ra3 H, rr4 H, ra4 H, rr5 H, ra5 H, rr6 H, ra6 H, rr7 H, ra7 H, rr8 H, ra8 H, rr9 H, ra9 H, rr10 H, ra10 H, rr11 H, ra11 H, rr12 H, ra12 H, rr13 H, ra13 H, rr14 H, ra14 H, rr15 H, ra15 H, rr16 H, ra16 H, rr17 H, ra17 H, rr18 H, ra18 H, rr19 H, ra19 H, rr20 H, ra20 H, rr21 H, ra21 H, rr22 H, ra22 H, rr23 H, ra23 H, rr24 H, ra24 H, rr25 H, ra25 H, rr26 H, ra26 H, rr27 H, ra27 H, rr28 H, ra28 H, rr29 H, ra29 H, rr30 H, ra30 H, mia, msa, ri2 H, ri3 H, emd]
    repeat' first
      | apply And.intro
      | (intro _)
      | (refine ⟨_, m_ahW B l _ _ _ H hB hm hf c hc0 hc1 ((a + 3599) % 3600) (by omega) (by omega) hw5, ?_⟩; rintro y h' ⟨rfl, hy⟩; cases hy; try simp (disch := omega) only [e_Mod_isSafe_0, e_Mod_isSafe_1, e_Mod_isSafe_2, e_Mod_isSafe_3, e_Mod_isSafe_4, e_Mod_isSafe_5, e_Mod_isSafe_6, c_Mod_isSafe_7, e_Mod_isSafe_7, e_Mod_isSafe_8, e_Mod_isSafe_9, e_Mod_isSafe_10, e_Mod_isSafe_11, e_Mod_isSafe_12, e_Mod_isSafe_13, e_Mod_isSafe_14, e_Mod_isSafe_15, e_Mod_isSafe_16, e_Mod_isSafe_17, c_Mod_isSafe_18, e_Mod_isSafe_18, e_Mod_isSafe_19, e_Mod_isSafe_20, e_Mod_isSafe_21, e_Mod_isSafe_22, e_Mod_isSafe_23, e_Mod_isSafe_24, e_Mod_isSafe_25, e_Mod_isSafe_26, e_Mod_isSafe_27, e_Mod_isSafe_28, e_Mod_isSafe_29, e_Mod_isSafe_30, e_Mod_isSafe_31, e_Mod_isSafe_32, e_Mod_isSafe_33, e_Mod_isSafe_34, e_Mod_isSafe_35, e_Mod_isSafe_36, e_Mod_isSafe_37, e_Mod_isSafe_38, e_Mod_isSafe_39, e_Mod_isSafe_40, e_Mod_isSafe_41, e_Mod_isSafe_42, e_Mod_isSafe_43, e_Mod_isSafe_44, e_Mod_isSafe_45, e_Mod_isSafe_46, e_Mod_isSafe_47, e_Mod_isSafe_48, e_Mod_isSafe_49, e_Mod_isSafe_50, e_Mod_isSafe_51, e_Mod_isSafe_52, jm_ia, jm_na, jm_qa, jm_aa, jm_asg, jm_l4, jm_Kr, jm_okv, jm_rc, jm_bo, true_and, and_true, Nat.add_zero, Nat.le_refl, j_lt, j_le, j_eq, j_lt0, j_0lt, j_le0, j_0le, j_eq0, j_add, j_sub, j_mul, j_neg, j_0sub, j_nat, j_in, j_div, j_rem, Sum.inl.injEq, exists_eq', true_or, or_true, if_true, if_false, not_true_eq_false, not_false_eq_true, implies_true, j_eq1, reduceIte, Nat.reduceEqDiff, Int.reduceEq, Int.reduceToNat, Nat.reduceAdd, Int.reduceAdd, Int.reduceSub, Int.reduceMul, Int.reduceNeg, and_false, false_and, and_self, u2r, j_b0, j_b1, Classical.not_not, eq_self, true_implies, false_implies, not_true_eq_false, not_false_eq_true, Int.reduceLT, Int.reduceLE, rk H, mi0, ms0, rs2 H, rs3 H, rr1 H, ra1 H, rr2 H, ra2 H, rr3 H, ra3 H, rr4 H, ra4 H, rr5 H, ra5 H, rr6 H, ra6 H, rr7 H, ra7 H, rr8 H, ra8 H, rr9 H, ra9 H, rr10 H, ra10 H, rr11 H, ra11 H, rr12 H, ra12 H, rr13 H, ra13 H, rr14 H, ra14 H, rr15 H, ra15 H, rr16 H, ra16 H, rr17 H, ra17 H, rr18 H, ra18 H, rr19 H, ra19 H, rr20 H, ra20 H, rr21 H, ra21 H, rr22 H, ra22 H, rr23 H, ra23 H, rr24 H, ra24 H, rr25 H, ra25 H, rr26 H, ra26 H, rr27 H, ra27 H, rr28 H, ra28 H, rr29 H, ra29 H, rr30 H, ra30 H, mia, msa, ri2 H, ri3 H, emd])
    all_goals first
      | (refine ⟨_, ?_, Or.inl (⟨rfl, _, _, _, _, (-v), 0, rfl, rfl, rfl, rfl, rfl, rfl, ?_⟩)⟩ <;> first | omega | exact ⟨by omega, hp⟩ | exact ⟨by omega, nP (by omega)⟩)
      | (refine ⟨_, Or.inl (⟨rfl, _, _, _, _, (-v), 0, rfl, rfl, rfl, rfl, rfl, rfl, ?_⟩) ⟩ <;> first | omega | exact ⟨by omega, hp⟩ | exact ⟨by omega, nP (by omega)⟩)
      | (refine ⟨_, ?_, Or.inl (⟨rfl, _, _, _, _, u - 1, D, rfl, rfl, rfl, rfl, rfl, rfl, ?_⟩)⟩ <;> first | omega | exact ⟨by omega, hp⟩ | exact ⟨by omega, nP (by omega)⟩)
      | (refine ⟨_, Or.inl (⟨rfl, _, _, _, _, u - 1, D, rfl, rfl, rfl, rfl, rfl, rfl, ?_⟩) ⟩ <;> first | omega | exact ⟨by omega, hp⟩ | exact ⟨by omega, nP (by omega)⟩)
      | (refine ⟨_, ?_, Or.inr (⟨rfl, _, _, _, _, u, D, rfl, rfl, rfl, rfl, rfl, rfl, ?_⟩)⟩ <;> first | omega | exact ⟨by omega, hp⟩ | exact ⟨by omega, nP (by omega)⟩)
      | (refine ⟨_, Or.inr (⟨rfl, _, _, _, _, u, D, rfl, rfl, rfl, rfl, rfl, rfl, ?_⟩) ⟩ <;> first | omega | exact ⟨by omega, hp⟩ | exact ⟨by omega, nP (by omega)⟩)
      | (refine ⟨_, ?_, Or.inr (⟨rfl, _, _, _, _, u, D + 1, rfl, rfl, rfl, rfl, rfl, rfl, ?_⟩)⟩ <;> first | omega | exact ⟨by omega, hp⟩ | exact ⟨by omega, nP (by omega)⟩)
      | (refine ⟨_, Or.inr (⟨rfl, _, _, _, _, u, D + 1, rfl, rfl, rfl, rfl, rfl, rfl, ?_⟩) ⟩ <;> first | omega | exact ⟨by omega, hp⟩ | exact ⟨by omega, nP (by omega)⟩)
      | contradiction
      | exact trivial
      | rfl
      | omega
      | exact (bi1 (by omega)).symm
      | exact (bi0 (by omega)).symm
      | exact (bi1 (by assumption)).symm
      | exact (bi0 (by assumption)).symm
      | (congr 1; omega)
      | ((try unfold IN_); (repeat (first | rw [if_pos (by omega)] | rw [if_neg (by omega)])); done)
      | ((try unfold IN_); (repeat (first | rw [if_pos (by omega)] | rw [if_neg (by omega)])); rfl)
      | ((try unfold IN_); (repeat (first | rw [if_pos (by omega)] | rw [if_neg (by omega)] | rw [if_pos (by assumption)] | rw [if_neg (by assumption)])); rfl)
theorem m_isSafe (B : jm_B) (l : Launch) (h : jm_H) (am : Nat) (σ : S_) (H : RM B am h) {m f : Int} (hB : BB m f σ) (hm : m ≤ 6000000) (hf : f ≤ 95) (c : Int) (hc0 : 0 ≤ c) (hc1 : c ≤ 2) (hS : SS σ) (v : Int) (hv0 : -10 ≤ v) (hv1 : v ≤ 10) (hv : ¬ v = 0) {ws : Int} (hs : Flg (safeS σ c v) ws) : jm_Ct gG B l (gm 89) [.inr (.inl (some am)), .inl (Int32.ofInt c), .inl (Int32.ofInt v)] (mo h am σ) (fun v h' => h' = mo h am σ ∧ v = .inl (Int32.ofInt ws)) := by
  rcases (show 0 < v ∨ v < 0 by omega) with q | q
  · exact m_isSafeP B l h am σ H hB hm hf c hc0 hc1 hS v hv0 hv1 q hs
  · exact m_isSafeN B l h am σ H hB hm hf c hc0 hc1 hS v hv0 hv1 q hs
