/-! the bus of the class: messages under way -/
def XU (ac : Nat) (μ : M_) (u : Nat → Nat) : Prop := (∀ j, u j < 12) ∧ (∀ i j, i < 12 → j < 12 → u i = u j → i = j) ∧ (∀ j, j < 12 → μ 5 j = some (ac + (8 + u j)))
def shM (μ : M_) (k i : Nat) : M_ := fun o j => if o = 5 ∧ k ≤ j ∧ j < i then μ 5 (j + 1) else μ o j
def rotM (μ : M_) (k e : Nat) : M_ := fun o j => if o = 5 ∧ k ≤ j ∧ j < e then μ 5 (j + 1) else if o = 5 ∧ j = e then μ 5 k else μ o j
theorem shM_0 (μ : M_) (k : Nat) : shM μ k k = μ := by
  funext o j
  show (if _ then _ else _) = _
  rw [if_neg (by omega)]
theorem shM_s (μ : M_) {k i : Nat} (h : k ≤ i) {v : Option Nat} (hv : μ 5 (i + 1) = v) : jm_u2 (shM μ k i) 5 i v = shM μ k (i + 1) := by
  funext o j
  show (if o = 5 ∧ j = i then v else if o = 5 ∧ k ≤ j ∧ j < i then μ 5 (j + 1) else μ o j) = (if o = 5 ∧ k ≤ j ∧ j < i + 1 then μ 5 (j + 1) else μ o j)
  by_cases q : o = 5 ∧ j = i
  · rw [if_pos q, if_pos (by omega), q.2, hv]
  · rw [if_neg q]
    by_cases q2 : o = 5 ∧ k ≤ j ∧ j < i
    · rw [if_pos q2, if_pos (by omega)]
    · rw [if_neg q2, if_neg (by omega)]
theorem shM_e (μ : M_) {k e : Nat} {v : Option Nat} (hv : μ 5 k = v) : jm_u2 (shM μ k e) 5 e v = rotM μ k e := by
  funext o j
  show (if o = 5 ∧ j = e then v else if o = 5 ∧ k ≤ j ∧ j < e then μ 5 (j + 1) else μ o j) = (if o = 5 ∧ k ≤ j ∧ j < e then μ 5 (j + 1) else if o = 5 ∧ j = e then μ 5 k else μ o j)
  by_cases q : o = 5 ∧ j = e
  · rw [if_pos q, if_neg (by omega), if_pos q, hv]
  · rw [if_neg q]
    by_cases q2 : o = 5 ∧ k ≤ j ∧ j < e
    · rw [if_pos q2, if_pos q2]
    · rw [if_neg q2, if_neg q2, if_neg q]
theorem rotM_r (μ : M_) (k e : Nat) {o : Nat} (h : ¬ o = 5) (j : Nat) : rotM μ k e o j = μ o j := by
  show (if _ then _ else if _ then _ else _) = _
  rw [if_neg (fun q => h q.1), if_neg (fun q => h q.1)]
def rotU (u : Nat → Nat) (k e : Nat) : Nat → Nat := fun j => if k ≤ j ∧ j < e then u (j + 1) else if j = e then u k else u j
theorem XU_rot {ac : Nat} {μ : M_} {u : Nat → Nat} (h : XU ac μ u) {k e : Nat} (h1 : k ≤ e) (h2 : e < 12) : XU ac (rotM μ k e) (rotU u k e) := by
  refine ⟨fun j => ?_, fun i j hi hj q => ?_, fun j hj => ?_⟩
  · unfold rotU
    split
    · exact h.1 _
    · split
      · exact h.1 _
      · exact h.1 _
  · unfold rotU at q
    split at q
    · split at q
      · have := h.2.1 _ _ (by omega) (by omega) q; omega
      · split at q
        · have := h.2.1 _ _ (by omega) (by omega) q; omega
        · have := h.2.1 _ _ (by omega) (by omega) q; omega
    · split at q
      · split at q
        · have := h.2.1 _ _ (by omega) (by omega) q; omega
        · split at q
          · omega
          · have := h.2.1 _ _ (by omega) (by omega) q; omega
      · split at q
        · have := h.2.1 _ _ (by omega) (by omega) q; omega
        · split at q
          · have := h.2.1 _ _ (by omega) (by omega) q; omega
          · exact h.2.1 _ _ (by omega) (by omega) q
  · show (if 5 = 5 ∧ k ≤ j ∧ j < e then μ 5 (j + 1) else if 5 = 5 ∧ j = e then μ 5 k else μ 5 j) = _
    unfold rotU
    by_cases q : k ≤ j ∧ j < e
    · rw [if_pos ⟨rfl, q⟩, if_pos q]; exact h.2.2 _ (by omega)
    · rw [if_neg (fun x => q x.2), if_neg q]
      by_cases q2 : j = e
      · rw [if_pos ⟨rfl, q2⟩, if_pos q2]; exact h.2.2 _ (by omega)
      · rw [if_neg (fun x => q2 x.2), if_neg q2]; exact h.2.2 _ hj
theorem rowT {m f : Int} {o j : Nat} {x : Int} (h : 30 < o) : rowOK m f o j x := by
  obtain ⟨k, rfl⟩ : ∃ k, o = k + 31 := ⟨o - 31, by omega⟩
  exact trivial
def RFt (κ : S_) : Prop := (0 ≤ κ 44 0 ∧ κ 44 0 < 100) ∧ ∀ j, 0 ≤ κ 31 j ∧ κ 31 j ≤ 30
section
variable {κ : S_} {m f t g : Int} {i : Nat} {U : Nat}
theorem kTk0_BB (h : BB m f κ) : BB m f (kTk0 κ i U g t) := by
  have b : 0 ≤ κ 0 24 ∧ κ 0 24 ≤ 12 := h 0 24
  unfold kTk0
  split
  · exact BB_u h trivial
  · exact BB_u (BB_u (BB_u (BB_u (BB_u h (rowT (by omega))) (rowT (by omega))) (rowT (by omega))) (rowT (by omega))) ⟨by omega, by omega⟩
theorem kTk_BB (h : BB m f κ) : BB m f (kTk κ i U t) := by
  have b : 0 ≤ κ 0 33 ∧ κ 0 33 ≤ 100 := h 0 33
  have h1 : BB m f (jm_u2 κ 0 35 (κ 0 35 + 1)) := BB_u h trivial
  unfold kTk
  split
  · exact kTk0_BB h1
  · refine kTk0_BB ?_
    unfold kFt
    exact BB_u (BB_u h1 (rowT (by omega))) (show 0 ≤ κ 0 33 - 1 ∧ κ 0 33 - 1 ≤ 100 by omega)
theorem kTk0_r {o j : Nat} (hU : U < 12) (h1 : ¬ o = 0) (h3 : o < 32 ∨ 43 < o) : kTk0 κ i U g t o j = κ o j := by
  unfold kTk0
  split
  · rw [u2r, if_neg (by omega)]
  · rw [u2r, if_neg (by omega), u2r, if_neg (by omega), u2r, if_neg (by omega), u2r, if_neg (by omega), u2r, if_neg (by omega)]
theorem kTk_r {o j : Nat} (hU : U < 12) (h1 : ¬ o = 0) (h2 : ¬ o = 44) (h3 : o < 32 ∨ 43 < o) : kTk κ i U t o j = κ o j := by
  unfold kTk
  split
  · rw [kTk0_r hU h1 h3, u2r, if_neg (by omega)]
  · rw [kTk0_r hU h1 h3]
    unfold kFt
    rw [u2r, if_neg (by omega), u2r, if_neg (by omega), u2r, if_neg (by omega)]
theorem kTk0_0 {j : Nat} (h1 : ¬ j = 24) (h2 : ¬ j = 36) : kTk0 κ i U g t 0 j = κ 0 j := by
  unfold kTk0
  split
  · rw [u2r, if_neg (by omega)]
  · rw [u2r, if_neg (by omega), u2r, if_neg (by omega), u2r, if_neg (by omega), u2r, if_neg (by omega), u2r, if_neg (by omega)]
theorem kTk_0 {j : Nat} (h1 : ¬ j = 24) (h2 : ¬ j = 33) (h3 : ¬ j = 35) (h4 : ¬ j = 36) : kTk κ i U t 0 j = κ 0 j := by
  unfold kTk
  split
  · rw [kTk0_0 h1 h4, u2r, if_neg (by omega)]
  · rw [kTk0_0 h1 h4]
    unfold kFt
    rw [u2r, if_neg (by omega), u2r, if_neg (by omega), u2r, if_neg (by omega)]
theorem kTk_44 (h : RFt κ) (hU : U < 12) : RFt (kTk κ i U t) := by
  have e := h.1
  refine ⟨?_, fun j => ?_⟩
  · unfold kTk
    split
    · rw [kTk0_r hU (by omega) (by omega), u2r, if_neg (by omega)]; exact e
    · rw [kTk0_r hU (by omega) (by omega)]
      unfold kFt
      rw [u2r, if_neg (by omega), u2r, if_pos (by omega), u2r, if_neg (by omega)]
      omega
  · rw [kTk_r hU (by omega) (by omega) (by omega)]
    exact h.2 j
theorem kTkN_ok {u : Nat → Nat} (hu : ∀ j, u j < 12) (hB : BB m f κ) (hR : RFt κ) : ∀ n, BB m f (kTkN κ u t n) ∧ RFt (kTkN κ u t n) ∧ (∀ o j, ¬ o = 0 → ¬ o = 44 → (o < 32 ∨ 43 < o) → kTkN κ u t n o j = κ o j) ∧ (∀ j, ¬ j = 24 → ¬ j = 33 → ¬ j = 35 → ¬ j = 36 → kTkN κ u t n 0 j = κ 0 j) := by
  intro n
  induction n with
  | zero => exact ⟨hB, hR, fun _ _ _ _ _ => rfl, fun _ _ _ _ _ => rfl⟩
  | succ n ih =>
    obtain ⟨i1, i2, i3, i4⟩ := ih
    exact ⟨kTk_BB i1, kTk_44 i2 (hu _), fun o j h1 h2 h3 => (kTk_r (hu _) h1 h2 h3).trans (i3 o j h1 h2 h3), fun j h1 h2 h3 h4 => (kTk_0 h1 h2 h3 h4).trans (i4 j h1 h2 h3 h4)⟩
end
def Iv_k_takeOut (h : jm_H) (ac : Nat) (κ : S_) (μ : M_) (u : Nat → Nat) (k : Int) : Nat → Nat → List (Option jm_V) → List jm_V → jm_H → Nat → Nat → Prop := fun kq pc L st h' ce sl =>
  (pc = 19 ∧ ∃ (i : Int) (ν : M_), L = [some (.inr (.inl (some ((ac + 4))))), some (.inl (Int32.ofInt (k))), some (.inr (.inl (some (ac + (8 + u k.toNat))))), some (.inl (Int32.ofInt (i)))] ∧ st = [] ∧ h' = cs h ac (jm_u2 κ 0 24 (κ 0 24 - 1)) ν ∧ ce = 0 ∧ sl = 0 ∧ kq = (20 - i).toNat ∧ (k ≤ i ∧ i ≤ κ 0 24 - 1 ∧ ν = shM μ k.toNat i.toNat))
set_option maxRecDepth 100000 in
set_option maxHeartbeats 4000000 in
theorem k_takeOut (B : jm_B) (l : Launch) (h : jm_H) (ac : Nat) (κ : S_) (μ : M_) (H : RC B ac h) {m f : Int} (hB : BB m f κ) (u : Nat → Nat) (hU : XU ac μ u) (k : Int) (hk0 : 0 ≤ k) (hk1 : k < κ 0 24) : jm_Ct gG B l (gm 18) [.inr (.inl (some ((ac + 4)))), .inl (Int32.ofInt (k))] (cs h ac κ μ) (fun v h' => h' = cs h ac (jm_u2 κ 0 24 (κ 0 24 - 1)) (rotM μ k.toNat (κ 0 24 - 1).toNat) ∧ v = .inr (.inl (some (ac + (8 + u k.toNat))))) := by
  show jm_Ct gG B l M_Bus_takeOut _ _ _
  refine jm_CL (code := k_Bus_takeOut) (Or.inl (by decide)) (by decide) v_Bus_takeOut rfl (Nat.le_of_ble_eq_true rfl) [some (.inr (.inl (some ((ac + 4))))), some (.inl (Int32.ofInt (k))), none, none] rfl rfl (Iv_k_takeOut h ac κ μ u k) ?_ ⟨41, ?_⟩
  · intro k pc L st h' ce sl hI
    rcases hI with ⟨rfl, i, ν, rfl, rfl, rfl, rfl, rfl, rfl, hc⟩
    · refine ⟨41, 13, ⟨_, _, rfl, rfl⟩, ?_⟩
      have b24 : 0 ≤ κ 0 24 ∧ κ 0 24 ≤ 12 := hB 0 24
      have b29 : 0 ≤ κ 0 29 ∧ κ 0 29 ≤ f := hB 0 29
      obtain ⟨k1, k2, rfl⟩ := hc
      have ku := hU.1 k.toNat
      have km := hU.2.2 k.toNat (by omega)
      rcases (show i < κ 0 24 - 1 ∨ i = κ 0 24 - 1 by omega) with hi | hi
      · have iu := hU.1 (i + 1).toNat
        have im := hU.2.2 (i + 1).toNat (by omega)
        have hr : shM μ k.toNat i.toNat 5 (i + 1).toNat = some (ac + (8 + u (i + 1).toNat)) := by
          show (if _ then _ else _) = _
          rw [if_neg (by omega), im]
        have hw : jm_u2 (shM μ k.toNat i.toNat) 5 i.toNat (some (ac + (8 + u (i + 1).toNat))) = shM μ k.toNat (i + 1).toNat := by
          rw [show (i + 1).toNat = i.toNat + 1 by omega] at im ⊢
          exact shM_s μ (by omega) im
        have e0 : shM μ k.toNat (i + 1).toNat = shM μ k.toNat (i + 1).toNat := rfl
        simp (disch := omega) only [e_Bus_takeOut_0, e_Bus_takeOut_1, e_Bus_takeOut_2, e_Bus_takeOut_3, e_Bus_takeOut_4, e_Bus_takeOut_5, e_Bus_takeOut_6a, e_Bus_takeOut_6b, e_Bus_takeOut_7, e_Bus_takeOut_8, e_Bus_takeOut_9, e_Bus_takeOut_10, e_Bus_takeOut_11, e_Bus_takeOut_12, c_Bus_takeOut_13, e_Bus_takeOut_13, e_Bus_takeOut_14, e_Bus_takeOut_15, e_Bus_takeOut_16, e_Bus_takeOut_17, e_Bus_takeOut_18, e_Bus_takeOut_19, e_Bus_takeOut_20, e_Bus_takeOut_21, e_Bus_takeOut_22, e_Bus_takeOut_23, e_Bus_takeOut_24, e_Bus_takeOut_25, e_Bus_takeOut_26, e_Bus_takeOut_27, e_Bus_takeOut_28, e_Bus_takeOut_29, e_Bus_takeOut_30, e_Bus_takeOut_31, e_Bus_takeOut_32, e_Bus_takeOut_33, e_Bus_takeOut_34, e_Bus_takeOut_35, e_Bus_takeOut_36, jm_ia, jm_na, jm_qa, jm_aa, jm_asg, jm_l4, jm_Kr, jm_okv, jm_rc, jm_bo, true_and, and_true, Nat.add_zero, Nat.le_refl, j_lt, j_le, j_eq, j_lt0, j_0lt, j_le0, j_0le, j_eq0, j_add, j_sub, j_mul, j_neg, j_0sub, j_nat, j_in, j_div, j_rem, Sum.inl.injEq, exists_eq', true_or, or_true, if_true, if_false, not_true_eq_false, not_false_eq_true, implies_true, j_eq1, reduceIte, Nat.reduceEqDiff, Int.reduceEq, Int.reduceToNat, Nat.reduceAdd, Int.reduceAdd, Int.reduceSub, Int.reduceMul, Int.reduceNeg, and_false, false_and, and_self, u2r, j_b0, j_b1, Classical.not_not, eq_self, true_implies, false_implies, not_true_eq_false, not_false_eq_true, Int.reduceLT, Int.reduceLE, ck, cn, ck0 H, ck1 H, ck2 H, ck3 H, ck4 H, ck5 H, ck6 H, ck7 H, ck8 H, ck9 H, ck10 H, ck11 H, ck12 H, ck13 H, ck14 H, ck15 H, ck16 H, ck17 H, ck18 H, cr0 H, cr1 H, cr2 H, cr3 H, cr4 H, cr5 H, cr6 H, cr7 H, cr8 H, cr9 H, cr10 H, cr11 H, cr12 H, cr13 H, cr14 H, cr15 H, cr16 H, i_s4, i_b3, i_b4, i_b5, i_b6, i_b7, i_b8, i_b9, i_c2, i_c3, i_c4, i_c5, i_c6, i_c7, i_c8, i_c9, i_c10, i_c11, i_t2, i_k0, i_k2, i_k3, i_k4, i_k5, i_ka0, i_ka1, i_ka2, i_a0, i_a2, i_a3, i_a4, i_aa0, i_aa1, i_aa2, i_o0, i_o1, i_o2, i_f, i_u, i_rd, i_ld, w_s4, w_b3, w_b4, w_b5, w_b6, w_b7, w_b8, w_b9, w_c2, w_c3, w_c4, w_c5, w_c6, w_c7, w_c8, w_c9, w_c10, w_c11, w_t2, w_k0, w_k2, w_k3, w_k4, w_k5, w_ka0, w_ka1, w_ka2, w_a0, w_a2, w_a3, w_a4, w_aa0, w_aa1, w_aa2, w_o0, w_o1, w_o2, w_f, w_u, w_rd, w_ld, csk0 H, csk1 H, csi0 H, csi1 H, cr, wr, km, hr, hw]
        repeat' first
          | apply And.intro
          | (intro _)
        all_goals first
          | (refine ⟨_, ?_, ⟨rfl, _, _, rfl, rfl, rfl, rfl, rfl, rfl, ?_⟩⟩ <;> first | omega | exact ⟨by omega, by omega, e0.symm⟩ | exact ⟨by omega, by omega, rfl⟩)
          | (refine ⟨_, ⟨rfl, _, _, rfl, rfl, rfl, rfl, rfl, rfl, ?_⟩ ⟩ <;> first | omega | exact ⟨by omega, by omega, e0.symm⟩ | exact ⟨by omega, by omega, rfl⟩)
          | contradiction
          | exact trivial
          | rfl
          | omega
          | exact (bi1 (by omega)).symm
          | exact (bi0 (by omega)).symm
          | exact (bi1 (by assumption)).symm
          | exact (bi0 (by assumption)).symm
          | exact ⟨_, rfl⟩
          | ((try unfold IN_); (repeat (first | rw [if_pos (by omega)] | rw [if_neg (by omega)])); done)
          | ((try unfold IN_); (repeat (first | rw [if_pos (by omega)] | rw [if_neg (by omega)])); rfl)
          | ((try unfold IN_); (repeat (first | rw [if_pos (by omega)] | rw [if_neg (by omega)] | rw [if_pos (by assumption)] | rw [if_neg (by assumption)])); rfl)
      · obtain rfl : i = κ 0 24 - 1 := by omega
        have hr : True := trivial
        have e0 : True := trivial
        have hw : jm_u2 (shM μ k.toNat (κ 0 24 - 1).toNat) 5 (κ 0 24 - 1).toNat (some (ac + (8 + u k.toNat))) = rotM μ k.toNat (κ 0 24 - 1).toNat := shM_e μ km
        simp (disch := omega) only [e_Bus_takeOut_0, e_Bus_takeOut_1, e_Bus_takeOut_2, e_Bus_takeOut_3, e_Bus_takeOut_4, e_Bus_takeOut_5, e_Bus_takeOut_6a, e_Bus_takeOut_6b, e_Bus_takeOut_7, e_Bus_takeOut_8, e_Bus_takeOut_9, e_Bus_takeOut_10, e_Bus_takeOut_11, e_Bus_takeOut_12, c_Bus_takeOut_13, e_Bus_takeOut_13, e_Bus_takeOut_14, e_Bus_takeOut_15, e_Bus_takeOut_16, e_Bus_takeOut_17, e_Bus_takeOut_18, e_Bus_takeOut_19, e_Bus_takeOut_20, e_Bus_takeOut_21, e_Bus_takeOut_22, e_Bus_takeOut_23, e_Bus_takeOut_24, e_Bus_takeOut_25, e_Bus_takeOut_26, e_Bus_takeOut_27, e_Bus_takeOut_28, e_Bus_takeOut_29, e_Bus_takeOut_30, e_Bus_takeOut_31, e_Bus_takeOut_32, e_Bus_takeOut_33, e_Bus_takeOut_34, e_Bus_takeOut_35, e_Bus_takeOut_36, jm_ia, jm_na, jm_qa, jm_aa, jm_asg, jm_l4, jm_Kr, jm_okv, jm_rc, jm_bo, true_and, and_true, Nat.add_zero, Nat.le_refl, j_lt, j_le, j_eq, j_lt0, j_0lt, j_le0, j_0le, j_eq0, j_add, j_sub, j_mul, j_neg, j_0sub, j_nat, j_in, j_div, j_rem, Sum.inl.injEq, exists_eq', true_or, or_true, if_true, if_false, not_true_eq_false, not_false_eq_true, implies_true, j_eq1, reduceIte, Nat.reduceEqDiff, Int.reduceEq, Int.reduceToNat, Nat.reduceAdd, Int.reduceAdd, Int.reduceSub, Int.reduceMul, Int.reduceNeg, and_false, false_and, and_self, u2r, j_b0, j_b1, Classical.not_not, eq_self, true_implies, false_implies, not_true_eq_false, not_false_eq_true, Int.reduceLT, Int.reduceLE, ck, cn, ck0 H, ck1 H, ck2 H, ck3 H, ck4 H, ck5 H, ck6 H, ck7 H, ck8 H, ck9 H, ck10 H, ck11 H, ck12 H, ck13 H, ck14 H, ck15 H, ck16 H, ck17 H, ck18 H, cr0 H, cr1 H, cr2 H, cr3 H, cr4 H, cr5 H, cr6 H, cr7 H, cr8 H, cr9 H, cr10 H, cr11 H, cr12 H, cr13 H, cr14 H, cr15 H, cr16 H, i_s4, i_b3, i_b4, i_b5, i_b6, i_b7, i_b8, i_b9, i_c2, i_c3, i_c4, i_c5, i_c6, i_c7, i_c8, i_c9, i_c10, i_c11, i_t2, i_k0, i_k2, i_k3, i_k4, i_k5, i_ka0, i_ka1, i_ka2, i_a0, i_a2, i_a3, i_a4, i_aa0, i_aa1, i_aa2, i_o0, i_o1, i_o2, i_f, i_u, i_rd, i_ld, w_s4, w_b3, w_b4, w_b5, w_b6, w_b7, w_b8, w_b9, w_c2, w_c3, w_c4, w_c5, w_c6, w_c7, w_c8, w_c9, w_c10, w_c11, w_t2, w_k0, w_k2, w_k3, w_k4, w_k5, w_ka0, w_ka1, w_ka2, w_a0, w_a2, w_a3, w_a4, w_aa0, w_aa1, w_aa2, w_o0, w_o1, w_o2, w_f, w_u, w_rd, w_ld, csk0 H, csk1 H, csi0 H, csi1 H, cr, wr, km, hr, hw]
        repeat' first
          | apply And.intro
          | (intro _)
        all_goals first
          | (refine ⟨_, ?_, ⟨rfl, _, _, rfl, rfl, rfl, rfl, rfl, rfl, ?_⟩⟩ <;> first | omega | exact ⟨by omega, by omega, e0.symm⟩ | exact ⟨by omega, by omega, rfl⟩)
          | (refine ⟨_, ⟨rfl, _, _, rfl, rfl, rfl, rfl, rfl, rfl, ?_⟩ ⟩ <;> first | omega | exact ⟨by omega, by omega, e0.symm⟩ | exact ⟨by omega, by omega, rfl⟩)
          | contradiction
          | exact trivial
          | rfl
          | omega
          | exact (bi1 (by omega)).symm
          | exact (bi0 (by omega)).symm
          | exact (bi1 (by assumption)).symm
          | exact (bi0 (by assumption)).symm
          | exact ⟨_, rfl⟩
          | ((try unfold IN_); (repeat (first | rw [if_pos (by omega)] | rw [if_neg (by omega)])); done)
          | ((try unfold IN_); (repeat (first | rw [if_pos (by omega)] | rw [if_neg (by omega)])); rfl)
          | ((try unfold IN_); (repeat (first | rw [if_pos (by omega)] | rw [if_neg (by omega)] | rw [if_pos (by assumption)] | rw [if_neg (by assumption)])); rfl)
  · have b24 : 0 ≤ κ 0 24 ∧ κ 0 24 ≤ 12 := hB 0 24
    have b29 : 0 ≤ κ 0 29 ∧ κ 0 29 ≤ f := hB 0 29
    have ku := hU.1 k.toNat
    have km := hU.2.2 k.toNat (by omega)
    have e0 := shM_0 μ k.toNat
    have hr : True := trivial
    have hw : True := trivial
    simp (disch := omega) only [e_Bus_takeOut_0, e_Bus_takeOut_1, e_Bus_takeOut_2, e_Bus_takeOut_3, e_Bus_takeOut_4, e_Bus_takeOut_5, e_Bus_takeOut_6a, e_Bus_takeOut_6b, e_Bus_takeOut_7, e_Bus_takeOut_8, e_Bus_takeOut_9, e_Bus_takeOut_10, e_Bus_takeOut_11, e_Bus_takeOut_12, c_Bus_takeOut_13, e_Bus_takeOut_13, e_Bus_takeOut_14, e_Bus_takeOut_15, e_Bus_takeOut_16, e_Bus_takeOut_17, e_Bus_takeOut_18, e_Bus_takeOut_19, e_Bus_takeOut_20, e_Bus_takeOut_21, e_Bus_takeOut_22, e_Bus_takeOut_23, e_Bus_takeOut_24, e_Bus_takeOut_25, e_Bus_takeOut_26, e_Bus_takeOut_27, e_Bus_takeOut_28, e_Bus_takeOut_29, e_Bus_takeOut_30, e_Bus_takeOut_31, e_Bus_takeOut_32, e_Bus_takeOut_33, e_Bus_takeOut_34, e_Bus_takeOut_35, e_Bus_takeOut_36, jm_ia, jm_na, jm_qa, jm_aa, jm_asg, jm_l4, jm_Kr, jm_okv, jm_rc, jm_bo, true_and, and_true, Nat.add_zero, Nat.le_refl, j_lt, j_le, j_eq, j_lt0, j_0lt, j_le0, j_0le, j_eq0, j_add, j_sub, j_mul, j_neg, j_0sub, j_nat, j_in, j_div, j_rem, Sum.inl.injEq, exists_eq', true_or, or_true, if_true, if_false, not_true_eq_false, not_false_eq_true, implies_true, j_eq1, reduceIte, Nat.reduceEqDiff, Int.reduceEq, Int.reduceToNat, Nat.reduceAdd, Int.reduceAdd, Int.reduceSub, Int.reduceMul, Int.reduceNeg, and_false, false_and, and_self, u2r, j_b0, j_b1, Classical.not_not, eq_self, true_implies, false_implies, not_true_eq_false, not_false_eq_true, Int.reduceLT, Int.reduceLE, ck, cn, ck0 H, ck1 H, ck2 H, ck3 H, ck4 H, ck5 H, ck6 H, ck7 H, ck8 H, ck9 H, ck10 H, ck11 H, ck12 H, ck13 H, ck14 H, ck15 H, ck16 H, ck17 H, ck18 H, cr0 H, cr1 H, cr2 H, cr3 H, cr4 H, cr5 H, cr6 H, cr7 H, cr8 H, cr9 H, cr10 H, cr11 H, cr12 H, cr13 H, cr14 H, cr15 H, cr16 H, i_s4, i_b3, i_b4, i_b5, i_b6, i_b7, i_b8, i_b9, i_c2, i_c3, i_c4, i_c5, i_c6, i_c7, i_c8, i_c9, i_c10, i_c11, i_t2, i_k0, i_k2, i_k3, i_k4, i_k5, i_ka0, i_ka1, i_ka2, i_a0, i_a2, i_a3, i_a4, i_aa0, i_aa1, i_aa2, i_o0, i_o1, i_o2, i_f, i_u, i_rd, i_ld, w_s4, w_b3, w_b4, w_b5, w_b6, w_b7, w_b8, w_b9, w_c2, w_c3, w_c4, w_c5, w_c6, w_c7, w_c8, w_c9, w_c10, w_c11, w_t2, w_k0, w_k2, w_k3, w_k4, w_k5, w_ka0, w_ka1, w_ka2, w_a0, w_a2, w_a3, w_a4, w_aa0, w_aa1, w_aa2, w_o0, w_o1, w_o2, w_f, w_u, w_rd, w_ld, csk0 H, csk1 H, csi0 H, csi1 H, cr, wr, km]
    repeat' first
      | apply And.intro
      | (intro _)
    all_goals first
      | (refine ⟨_, ?_, ⟨rfl, _, _, rfl, rfl, rfl, rfl, rfl, rfl, ?_⟩⟩ <;> first | omega | exact ⟨by omega, by omega, e0.symm⟩ | exact ⟨by omega, by omega, rfl⟩)
      | (refine ⟨_, ⟨rfl, _, _, rfl, rfl, rfl, rfl, rfl, rfl, ?_⟩ ⟩ <;> first | omega | exact ⟨by omega, by omega, e0.symm⟩ | exact ⟨by omega, by omega, rfl⟩)
      | contradiction
      | exact trivial
      | rfl
      | omega
      | exact (bi1 (by omega)).symm
      | exact (bi0 (by omega)).symm
      | exact (bi1 (by assumption)).symm
      | exact (bi0 (by assumption)).symm
      | exact ⟨_, rfl⟩
      | ((try unfold IN_); (repeat (first | rw [if_pos (by omega)] | rw [if_neg (by omega)])); done)
      | ((try unfold IN_); (repeat (first | rw [if_pos (by omega)] | rw [if_neg (by omega)])); rfl)
      | ((try unfold IN_); (repeat (first | rw [if_pos (by omega)] | rw [if_neg (by omega)] | rw [if_pos (by assumption)] | rw [if_neg (by assumption)])); rfl)
def Iv_k_due1 (h : jm_H) (ac : Nat) (κ : S_) (μ : M_) (t k : Int) : Nat → Nat → List (Option jm_V) → List jm_V → jm_H → Nat → Nat → Prop := fun kq pc L st h' ce sl =>
  (pc = 2 ∧ ∃ (i : Int), L = [some (.inr (.inl (some ((ac + 4))))), some (.inl (Int32.ofInt (t))), some (.inl (Int32.ofInt (i)))] ∧ st = [] ∧ h' = cs h ac κ μ ∧ ce = 0 ∧ sl = 0 ∧ kq = (k - i).toNat ∧ (0 ≤ i ∧ i ≤ k))
set_option maxRecDepth 100000 in
set_option maxHeartbeats 4000000 in
theorem k_due1 (B : jm_B) (l : Launch) (h : jm_H) (ac : Nat) (κ : S_) (μ : M_) (H : RC B ac h) {m f : Int} (hB : BB m f κ) (u : Nat → Nat) (hU : XU ac μ u) (t : Int) (ht0 : 0 ≤ t) (ht1 : t ≤ 600000) (hdb : ∀ j : Nat, (j : Int) < κ 0 24 → 0 ≤ κ (32 + u j) 3 ∧ κ (32 + u j) 3 ≤ 700000) (k : Int) (hk0 : 0 ≤ k) (hk1 : k < κ 0 24) (hd : κ (32 + u k.toNat) 3 = t) (hn : ∀ j : Nat, (j : Int) < k → ¬ κ (32 + u j) 3 = t) : jm_Ct gG B l (gm 17) [.inr (.inl (some ((ac + 4)))), .inl (Int32.ofInt (t))] (cs h ac κ μ) (fun v h' => h' = cs h ac (jm_u2 (jm_u2 κ 0 37 (κ 0 37 + 1)) 0 24 (κ 0 24 - 1)) (rotM μ k.toNat (κ 0 24 - 1).toNat) ∧ v = .inr (.inl (some (ac + (8 + u k.toNat))))) := by
  show jm_Ct gG B l M_Bus_takeNextDue _ _ _
  refine jm_CL (code := k_Bus_takeNextDue) (Or.inl (by decide)) (by decide) v_Bus_takeNextDue rfl (Nat.le_of_ble_eq_true rfl) [some (.inr (.inl (some ((ac + 4))))), some (.inl (Int32.ofInt (t))), none] rfl rfl (Iv_k_due1 h ac κ μ t k) ?_ ⟨31, ?_⟩
  · intro k pc L st h' ce sl hI
    rcases hI with ⟨rfl, i, rfl, rfl, rfl, rfl, rfl, rfl, hc⟩
    · refine ⟨31, 2, ⟨_, _, rfl, rfl⟩, ?_⟩
      have b24 : 0 ≤ κ 0 24 ∧ κ 0 24 ≤ 12 := hB 0 24
      have b29 : 0 ≤ κ 0 29 ∧ κ 0 29 ≤ f := hB 0 29
      have hB1 : BB m f (jm_u2 κ 0 37 (κ 0 37 + 1)) := BB_u hB (show rowOK m f 0 37 (κ 0 37 + 1) from trivial)
      have iu := hU.1 i.toNat
      rcases (show i < k ∨ i = k by omega) with hi | hi
      · have im := hU.2.2 i.toNat (by omega)
        have db := hdb i.toNat (by omega)
        have dn := hn i.toNat (by omega)
        simp (disch := omega) only [e_Bus_takeNextDue_0, e_Bus_takeNextDue_1, c_Bus_takeNextDue_2, e_Bus_takeNextDue_2, e_Bus_takeNextDue_3, e_Bus_takeNextDue_4, e_Bus_takeNextDue_5, e_Bus_takeNextDue_6, e_Bus_takeNextDue_7, e_Bus_takeNextDue_8, e_Bus_takeNextDue_9, e_Bus_takeNextDue_10, e_Bus_takeNextDue_11, e_Bus_takeNextDue_12, e_Bus_takeNextDue_13, e_Bus_takeNextDue_14a, e_Bus_takeNextDue_14b, e_Bus_takeNextDue_15, e_Bus_takeNextDue_16, e_Bus_takeNextDue_17, e_Bus_takeNextDue_18, e_Bus_takeNextDue_19, e_Bus_takeNextDue_20, e_Bus_takeNextDue_21, e_Bus_takeNextDue_22, e_Bus_takeNextDue_23, e_Bus_takeNextDue_24, e_Bus_takeNextDue_25, e_Bus_takeNextDue_26, jm_ia, jm_na, jm_qa, jm_aa, jm_asg, jm_l4, jm_Kr, jm_okv, jm_rc, jm_bo, true_and, and_true, Nat.add_zero, Nat.le_refl, j_lt, j_le, j_eq, j_lt0, j_0lt, j_le0, j_0le, j_eq0, j_add, j_sub, j_mul, j_neg, j_0sub, j_nat, j_in, j_div, j_rem, Sum.inl.injEq, exists_eq', true_or, or_true, if_true, if_false, not_true_eq_false, not_false_eq_true, implies_true, j_eq1, reduceIte, Nat.reduceEqDiff, Int.reduceEq, Int.reduceToNat, Nat.reduceAdd, Int.reduceAdd, Int.reduceSub, Int.reduceMul, Int.reduceNeg, and_false, false_and, and_self, u2r, j_b0, j_b1, Classical.not_not, eq_self, true_implies, false_implies, not_true_eq_false, not_false_eq_true, Int.reduceLT, Int.reduceLE, ck, cn, ck0 H, ck1 H, ck2 H, ck3 H, ck4 H, ck5 H, ck6 H, ck7 H, ck8 H, ck9 H, ck10 H, ck11 H, ck12 H, ck13 H, ck14 H, ck15 H, ck16 H, ck17 H, ck18 H, cr0 H, cr1 H, cr2 H, cr3 H, cr4 H, cr5 H, cr6 H, cr7 H, cr8 H, cr9 H, cr10 H, cr11 H, cr12 H, cr13 H, cr14 H, cr15 H, cr16 H, i_s4, i_b3, i_b4, i_b5, i_b6, i_b7, i_b8, i_b9, i_c2, i_c3, i_c4, i_c5, i_c6, i_c7, i_c8, i_c9, i_c10, i_c11, i_t2, i_k0, i_k2, i_k3, i_k4, i_k5, i_ka0, i_ka1, i_ka2, i_a0, i_a2, i_a3, i_a4, i_aa0, i_aa1, i_aa2, i_o0, i_o1, i_o2, i_f, i_u, i_rd, i_ld, w_s4, w_b3, w_b4, w_b5, w_b6, w_b7, w_b8, w_b9, w_c2, w_c3, w_c4, w_c5, w_c6, w_c7, w_c8, w_c9, w_c10, w_c11, w_t2, w_k0, w_k2, w_k3, w_k4, w_k5, w_ka0, w_ka1, w_ka2, w_a0, w_a2, w_a3, w_a4, w_aa0, w_aa1, w_aa2, w_o0, w_o1, w_o2, w_f, w_u, w_rd, w_ld, csk0 H, csk1 H, csi0 H, csi1 H, cr, wr, dn, im]
        repeat' first
          | apply And.intro
          | (intro _)
          | (refine ⟨_, k_takeOut B l h ac (jm_u2 κ 0 37 (κ 0 37 + 1)) μ H hB1 u hU i (by omega) (show i < (jm_u2 κ 0 37 (κ 0 37 + 1)) 0 24 from (by show i < κ 0 24; omega)), ?_⟩; rintro y h' ⟨rfl, hy⟩; cases hy; try simp (disch := omega) only [e_Bus_takeNextDue_0, e_Bus_takeNextDue_1, c_Bus_takeNextDue_2, e_Bus_takeNextDue_2, e_Bus_takeNextDue_3, e_Bus_takeNextDue_4, e_Bus_takeNextDue_5, e_Bus_takeNextDue_6, e_Bus_takeNextDue_7, e_Bus_takeNextDue_8, e_Bus_takeNextDue_9, e_Bus_takeNextDue_10, e_Bus_takeNextDue_11, e_Bus_takeNextDue_12, e_Bus_takeNextDue_13, e_Bus_takeNextDue_14a, e_Bus_takeNextDue_14b, e_Bus_takeNextDue_15, e_Bus_takeNextDue_16, e_Bus_takeNextDue_17, e_Bus_takeNextDue_18, e_Bus_takeNextDue_19, e_Bus_takeNextDue_20, e_Bus_takeNextDue_21, e_Bus_takeNextDue_22, e_Bus_takeNextDue_23, e_Bus_takeNextDue_24, e_Bus_takeNextDue_25, e_Bus_takeNextDue_26, jm_ia, jm_na, jm_qa, jm_aa, jm_asg, jm_l4, jm_Kr, jm_okv, jm_rc, jm_bo, true_and, and_true, Nat.add_zero, Nat.le_refl, j_lt, j_le, j_eq, j_lt0, j_0lt, j_le0, j_0le, j_eq0, j_add, j_sub, j_mul, j_neg, j_0sub, j_nat, j_in, j_div, j_rem, Sum.inl.injEq, exists_eq', true_or, or_true, if_true, if_false, not_true_eq_false, not_false_eq_true, implies_true, j_eq1, reduceIte, Nat.reduceEqDiff, Int.reduceEq, Int.reduceToNat, Nat.reduceAdd, Int.reduceAdd, Int.reduceSub, Int.reduceMul, Int.reduceNeg, and_false, false_and, and_self, u2r, j_b0, j_b1, Classical.not_not, eq_self, true_implies, false_implies, not_true_eq_false, not_false_eq_true, Int.reduceLT, Int.reduceLE, ck, cn, ck0 H, ck1 H, ck2 H, ck3 H, ck4 H, ck5 H, ck6 H, ck7 H, ck8 H, ck9 H, ck10 H, ck11 H, ck12 H, ck13 H, ck14 H, ck15 H, ck16 H, ck17 H, ck18 H, cr0 H, cr1 H, cr2 H, cr3 H, cr4 H, cr5 H, cr6 H, cr7 H, cr8 H, cr9 H, cr10 H, cr11 H, cr12 H, cr13 H, cr14 H, cr15 H, cr16 H, i_s4, i_b3, i_b4, i_b5, i_b6, i_b7, i_b8, i_b9, i_c2, i_c3, i_c4, i_c5, i_c6, i_c7, i_c8, i_c9, i_c10, i_c11, i_t2, i_k0, i_k2, i_k3, i_k4, i_k5, i_ka0, i_ka1, i_ka2, i_a0, i_a2, i_a3, i_a4, i_aa0, i_aa1, i_aa2, i_o0, i_o1, i_o2, i_f, i_u, i_rd, i_ld, w_s4, w_b3, w_b4, w_b5, w_b6, w_b7, w_b8, w_b9, w_c2, w_c3, w_c4, w_c5, w_c6, w_c7, w_c8, w_c9, w_c10, w_c11, w_t2, w_k0, w_k2, w_k3, w_k4, w_k5, w_ka0, w_ka1, w_ka2, w_a0, w_a2, w_a3, w_a4, w_aa0, w_aa1, w_aa2, w_o0, w_o1, w_o2, w_f, w_u, w_rd, w_ld, csk0 H, csk1 H, csi0 H, csi1 H, cr, wr, dn, im])
        all_goals first
          | (refine ⟨_, ?_, ⟨rfl, _, rfl, rfl, rfl, rfl, rfl, rfl, ?_⟩⟩ <;> omega)
          | (refine ⟨_, ⟨rfl, _, rfl, rfl, rfl, rfl, rfl, rfl, ?_⟩ ⟩ <;> omega)
          | contradiction
          | exact trivial
          | rfl
          | omega
          | exact (bi1 (by omega)).symm
          | exact (bi0 (by omega)).symm
          | exact (bi1 (by assumption)).symm
          | exact (bi0 (by assumption)).symm
          | exact ⟨_, rfl⟩
          | ((try unfold IN_); (repeat (first | rw [if_pos (by omega)] | rw [if_neg (by omega)])); done)
          | ((try unfold IN_); (repeat (first | rw [if_pos (by omega)] | rw [if_neg (by omega)])); rfl)
          | ((try unfold IN_); (repeat (first | rw [if_pos (by omega)] | rw [if_neg (by omega)] | rw [if_pos (by assumption)] | rw [if_neg (by assumption)])); rfl)
      · obtain rfl : i = k := by omega
        have im := hU.2.2 i.toNat (by omega)
        have db := hdb i.toNat (by omega)
        have dn := hd
        simp (disch := omega) only [e_Bus_takeNextDue_0, e_Bus_takeNextDue_1, c_Bus_takeNextDue_2, e_Bus_takeNextDue_2, e_Bus_takeNextDue_3, e_Bus_takeNextDue_4, e_Bus_takeNextDue_5, e_Bus_takeNextDue_6, e_Bus_takeNextDue_7, e_Bus_takeNextDue_8, e_Bus_takeNextDue_9, e_Bus_takeNextDue_10, e_Bus_takeNextDue_11, e_Bus_takeNextDue_12, e_Bus_takeNextDue_13, e_Bus_takeNextDue_14a, e_Bus_takeNextDue_14b, e_Bus_takeNextDue_15, e_Bus_takeNextDue_16, e_Bus_takeNextDue_17, e_Bus_takeNextDue_18, e_Bus_takeNextDue_19, e_Bus_takeNextDue_20, e_Bus_takeNextDue_21, e_Bus_takeNextDue_22, e_Bus_takeNextDue_23, e_Bus_takeNextDue_24, e_Bus_takeNextDue_25, e_Bus_takeNextDue_26, jm_ia, jm_na, jm_qa, jm_aa, jm_asg, jm_l4, jm_Kr, jm_okv, jm_rc, jm_bo, true_and, and_true, Nat.add_zero, Nat.le_refl, j_lt, j_le, j_eq, j_lt0, j_0lt, j_le0, j_0le, j_eq0, j_add, j_sub, j_mul, j_neg, j_0sub, j_nat, j_in, j_div, j_rem, Sum.inl.injEq, exists_eq', true_or, or_true, if_true, if_false, not_true_eq_false, not_false_eq_true, implies_true, j_eq1, reduceIte, Nat.reduceEqDiff, Int.reduceEq, Int.reduceToNat, Nat.reduceAdd, Int.reduceAdd, Int.reduceSub, Int.reduceMul, Int.reduceNeg, and_false, false_and, and_self, u2r, j_b0, j_b1, Classical.not_not, eq_self, true_implies, false_implies, not_true_eq_false, not_false_eq_true, Int.reduceLT, Int.reduceLE, ck, cn, ck0 H, ck1 H, ck2 H, ck3 H, ck4 H, ck5 H, ck6 H, ck7 H, ck8 H, ck9 H, ck10 H, ck11 H, ck12 H, ck13 H, ck14 H, ck15 H, ck16 H, ck17 H, ck18 H, cr0 H, cr1 H, cr2 H, cr3 H, cr4 H, cr5 H, cr6 H, cr7 H, cr8 H, cr9 H, cr10 H, cr11 H, cr12 H, cr13 H, cr14 H, cr15 H, cr16 H, i_s4, i_b3, i_b4, i_b5, i_b6, i_b7, i_b8, i_b9, i_c2, i_c3, i_c4, i_c5, i_c6, i_c7, i_c8, i_c9, i_c10, i_c11, i_t2, i_k0, i_k2, i_k3, i_k4, i_k5, i_ka0, i_ka1, i_ka2, i_a0, i_a2, i_a3, i_a4, i_aa0, i_aa1, i_aa2, i_o0, i_o1, i_o2, i_f, i_u, i_rd, i_ld, w_s4, w_b3, w_b4, w_b5, w_b6, w_b7, w_b8, w_b9, w_c2, w_c3, w_c4, w_c5, w_c6, w_c7, w_c8, w_c9, w_c10, w_c11, w_t2, w_k0, w_k2, w_k3, w_k4, w_k5, w_ka0, w_ka1, w_ka2, w_a0, w_a2, w_a3, w_a4, w_aa0, w_aa1, w_aa2, w_o0, w_o1, w_o2, w_f, w_u, w_rd, w_ld, csk0 H, csk1 H, csi0 H, csi1 H, cr, wr, dn, im]
        repeat' first
          | apply And.intro
          | (intro _)
          | (refine ⟨_, k_takeOut B l h ac (jm_u2 κ 0 37 (κ 0 37 + 1)) μ H hB1 u hU i (by omega) (show i < (jm_u2 κ 0 37 (κ 0 37 + 1)) 0 24 from (by show i < κ 0 24; omega)), ?_⟩; rintro y h' ⟨rfl, hy⟩; cases hy; try simp (disch := omega) only [e_Bus_takeNextDue_0, e_Bus_takeNextDue_1, c_Bus_takeNextDue_2, e_Bus_takeNextDue_2, e_Bus_takeNextDue_3, e_Bus_takeNextDue_4, e_Bus_takeNextDue_5, e_Bus_takeNextDue_6, e_Bus_takeNextDue_7, e_Bus_takeNextDue_8, e_Bus_takeNextDue_9, e_Bus_takeNextDue_10, e_Bus_takeNextDue_11, e_Bus_takeNextDue_12, e_Bus_takeNextDue_13, e_Bus_takeNextDue_14a, e_Bus_takeNextDue_14b, e_Bus_takeNextDue_15, e_Bus_takeNextDue_16, e_Bus_takeNextDue_17, e_Bus_takeNextDue_18, e_Bus_takeNextDue_19, e_Bus_takeNextDue_20, e_Bus_takeNextDue_21, e_Bus_takeNextDue_22, e_Bus_takeNextDue_23, e_Bus_takeNextDue_24, e_Bus_takeNextDue_25, e_Bus_takeNextDue_26, jm_ia, jm_na, jm_qa, jm_aa, jm_asg, jm_l4, jm_Kr, jm_okv, jm_rc, jm_bo, true_and, and_true, Nat.add_zero, Nat.le_refl, j_lt, j_le, j_eq, j_lt0, j_0lt, j_le0, j_0le, j_eq0, j_add, j_sub, j_mul, j_neg, j_0sub, j_nat, j_in, j_div, j_rem, Sum.inl.injEq, exists_eq', true_or, or_true, if_true, if_false, not_true_eq_false, not_false_eq_true, implies_true, j_eq1, reduceIte, Nat.reduceEqDiff, Int.reduceEq, Int.reduceToNat, Nat.reduceAdd, Int.reduceAdd, Int.reduceSub, Int.reduceMul, Int.reduceNeg, and_false, false_and, and_self, u2r, j_b0, j_b1, Classical.not_not, eq_self, true_implies, false_implies, not_true_eq_false, not_false_eq_true, Int.reduceLT, Int.reduceLE, ck, cn, ck0 H, ck1 H, ck2 H, ck3 H, ck4 H, ck5 H, ck6 H, ck7 H, ck8 H, ck9 H, ck10 H, ck11 H, ck12 H, ck13 H, ck14 H, ck15 H, ck16 H, ck17 H, ck18 H, cr0 H, cr1 H, cr2 H, cr3 H, cr4 H, cr5 H, cr6 H, cr7 H, cr8 H, cr9 H, cr10 H, cr11 H, cr12 H, cr13 H, cr14 H, cr15 H, cr16 H, i_s4, i_b3, i_b4, i_b5, i_b6, i_b7, i_b8, i_b9, i_c2, i_c3, i_c4, i_c5, i_c6, i_c7, i_c8, i_c9, i_c10, i_c11, i_t2, i_k0, i_k2, i_k3, i_k4, i_k5, i_ka0, i_ka1, i_ka2, i_a0, i_a2, i_a3, i_a4, i_aa0, i_aa1, i_aa2, i_o0, i_o1, i_o2, i_f, i_u, i_rd, i_ld, w_s4, w_b3, w_b4, w_b5, w_b6, w_b7, w_b8, w_b9, w_c2, w_c3, w_c4, w_c5, w_c6, w_c7, w_c8, w_c9, w_c10, w_c11, w_t2, w_k0, w_k2, w_k3, w_k4, w_k5, w_ka0, w_ka1, w_ka2, w_a0, w_a2, w_a3, w_a4, w_aa0, w_aa1, w_aa2, w_o0, w_o1, w_o2, w_f, w_u, w_rd, w_ld, csk0 H, csk1 H, csi0 H, csi1 H, cr, wr, dn, im])
        all_goals first
          | (refine ⟨_, ?_, ⟨rfl, _, rfl, rfl, rfl, rfl, rfl, rfl, ?_⟩⟩ <;> omega)
          | (refine ⟨_, ⟨rfl, _, rfl, rfl, rfl, rfl, rfl, rfl, ?_⟩ ⟩ <;> omega)
          | contradiction
          | exact trivial
          | rfl
          | omega
          | exact (bi1 (by omega)).symm
          | exact (bi0 (by omega)).symm
          | exact (bi1 (by assumption)).symm
          | exact (bi0 (by assumption)).symm
          | exact ⟨_, rfl⟩
          | ((try unfold IN_); (repeat (first | rw [if_pos (by omega)] | rw [if_neg (by omega)])); done)
          | ((try unfold IN_); (repeat (first | rw [if_pos (by omega)] | rw [if_neg (by omega)])); rfl)
          | ((try unfold IN_); (repeat (first | rw [if_pos (by omega)] | rw [if_neg (by omega)] | rw [if_pos (by assumption)] | rw [if_neg (by assumption)])); rfl)
  · have b24 : 0 ≤ κ 0 24 ∧ κ 0 24 ≤ 12 := hB 0 24
    have b29 : 0 ≤ κ 0 29 ∧ κ 0 29 ≤ f := hB 0 29
    have hB1 : BB m f (jm_u2 κ 0 37 (κ 0 37 + 1)) := BB_u hB (show rowOK m f 0 37 (κ 0 37 + 1) from trivial)
    have im : True := trivial
    have dn : True := trivial
    simp (disch := omega) only [e_Bus_takeNextDue_0, e_Bus_takeNextDue_1, c_Bus_takeNextDue_2, e_Bus_takeNextDue_2, e_Bus_takeNextDue_3, e_Bus_takeNextDue_4, e_Bus_takeNextDue_5, e_Bus_takeNextDue_6, e_Bus_takeNextDue_7, e_Bus_takeNextDue_8, e_Bus_takeNextDue_9, e_Bus_takeNextDue_10, e_Bus_takeNextDue_11, e_Bus_takeNextDue_12, e_Bus_takeNextDue_13, e_Bus_takeNextDue_14a, e_Bus_takeNextDue_14b, e_Bus_takeNextDue_15, e_Bus_takeNextDue_16, e_Bus_takeNextDue_17, e_Bus_takeNextDue_18, e_Bus_takeNextDue_19, e_Bus_takeNextDue_20, e_Bus_takeNextDue_21, e_Bus_takeNextDue_22, e_Bus_takeNextDue_23, e_Bus_takeNextDue_24, e_Bus_takeNextDue_25, e_Bus_takeNextDue_26, jm_ia, jm_na, jm_qa, jm_aa, jm_asg, jm_l4, jm_Kr, jm_okv, jm_rc, jm_bo, true_and, and_true, Nat.add_zero, Nat.le_refl, j_lt, j_le, j_eq, j_lt0, j_0lt, j_le0, j_0le, j_eq0, j_add, j_sub, j_mul, j_neg, j_0sub, j_nat, j_in, j_div, j_rem, Sum.inl.injEq, exists_eq', true_or, or_true, if_true, if_false, not_true_eq_false, not_false_eq_true, implies_true, j_eq1, reduceIte, Nat.reduceEqDiff, Int.reduceEq, Int.reduceToNat, Nat.reduceAdd, Int.reduceAdd, Int.reduceSub, Int.reduceMul, Int.reduceNeg, and_false, false_and, and_self, u2r, j_b0, j_b1, Classical.not_not, eq_self, true_implies, false_implies, not_true_eq_false, not_false_eq_true, Int.reduceLT, Int.reduceLE, ck, cn, ck0 H, ck1 H, ck2 H, ck3 H, ck4 H, ck5 H, ck6 H, ck7 H, ck8 H, ck9 H, ck10 H, ck11 H, ck12 H, ck13 H, ck14 H, ck15 H, ck16 H, ck17 H, ck18 H, cr0 H, cr1 H, cr2 H, cr3 H, cr4 H, cr5 H, cr6 H, cr7 H, cr8 H, cr9 H, cr10 H, cr11 H, cr12 H, cr13 H, cr14 H, cr15 H, cr16 H, i_s4, i_b3, i_b4, i_b5, i_b6, i_b7, i_b8, i_b9, i_c2, i_c3, i_c4, i_c5, i_c6, i_c7, i_c8, i_c9, i_c10, i_c11, i_t2, i_k0, i_k2, i_k3, i_k4, i_k5, i_ka0, i_ka1, i_ka2, i_a0, i_a2, i_a3, i_a4, i_aa0, i_aa1, i_aa2, i_o0, i_o1, i_o2, i_f, i_u, i_rd, i_ld, w_s4, w_b3, w_b4, w_b5, w_b6, w_b7, w_b8, w_b9, w_c2, w_c3, w_c4, w_c5, w_c6, w_c7, w_c8, w_c9, w_c10, w_c11, w_t2, w_k0, w_k2, w_k3, w_k4, w_k5, w_ka0, w_ka1, w_ka2, w_a0, w_a2, w_a3, w_a4, w_aa0, w_aa1, w_aa2, w_o0, w_o1, w_o2, w_f, w_u, w_rd, w_ld, csk0 H, csk1 H, csi0 H, csi1 H, cr, wr, dn, im]
    repeat' first
      | apply And.intro
      | (intro _)
      | (refine ⟨_, k_takeOut B l h ac (jm_u2 κ 0 37 (κ 0 37 + 1)) μ H hB1 u hU i (by omega) (show i < (jm_u2 κ 0 37 (κ 0 37 + 1)) 0 24 from (by show i < κ 0 24; omega)), ?_⟩; rintro y h' ⟨rfl, hy⟩; cases hy; try simp (disch := omega) only [e_Bus_takeNextDue_0, e_Bus_takeNextDue_1, c_Bus_takeNextDue_2, e_Bus_takeNextDue_2, e_Bus_takeNextDue_3, e_Bus_takeNextDue_4, e_Bus_takeNextDue_5, e_Bus_takeNextDue_6, e_Bus_takeNextDue_7, e_Bus_takeNextDue_8, e_Bus_takeNextDue_9, e_Bus_takeNextDue_10, e_Bus_takeNextDue_11, e_Bus_takeNextDue_12, e_Bus_takeNextDue_13, e_Bus_takeNextDue_14a, e_Bus_takeNextDue_14b, e_Bus_takeNextDue_15, e_Bus_takeNextDue_16, e_Bus_takeNextDue_17, e_Bus_takeNextDue_18, e_Bus_takeNextDue_19, e_Bus_takeNextDue_20, e_Bus_takeNextDue_21, e_Bus_takeNextDue_22, e_Bus_takeNextDue_23, e_Bus_takeNextDue_24, e_Bus_takeNextDue_25, e_Bus_takeNextDue_26, jm_ia, jm_na, jm_qa, jm_aa, jm_asg, jm_l4, jm_Kr, jm_okv, jm_rc, jm_bo, true_and, and_true, Nat.add_zero, Nat.le_refl, j_lt, j_le, j_eq, j_lt0, j_0lt, j_le0, j_0le, j_eq0, j_add, j_sub, j_mul, j_neg, j_0sub, j_nat, j_in, j_div, j_rem, Sum.inl.injEq, exists_eq', true_or, or_true, if_true, if_false, not_true_eq_false, not_false_eq_true, implies_true, j_eq1, reduceIte, Nat.reduceEqDiff, Int.reduceEq, Int.reduceToNat, Nat.reduceAdd, Int.reduceAdd, Int.reduceSub, Int.reduceMul, Int.reduceNeg, and_false, false_and, and_self, u2r, j_b0, j_b1, Classical.not_not, eq_self, true_implies, false_implies, not_true_eq_false, not_false_eq_true, Int.reduceLT, Int.reduceLE, ck, cn, ck0 H, ck1 H, ck2 H, ck3 H, ck4 H, ck5 H, ck6 H, ck7 H, ck8 H, ck9 H, ck10 H, ck11 H, ck12 H, ck13 H, ck14 H, ck15 H, ck16 H, ck17 H, ck18 H, cr0 H, cr1 H, cr2 H, cr3 H, cr4 H, cr5 H, cr6 H, cr7 H, cr8 H, cr9 H, cr10 H, cr11 H, cr12 H, cr13 H, cr14 H, cr15 H, cr16 H, i_s4, i_b3, i_b4, i_b5, i_b6, i_b7, i_b8, i_b9, i_c2, i_c3, i_c4, i_c5, i_c6, i_c7, i_c8, i_c9, i_c10, i_c11, i_t2, i_k0, i_k2, i_k3, i_k4, i_k5, i_ka0, i_ka1, i_ka2, i_a0, i_a2, i_a3, i_a4, i_aa0, i_aa1, i_aa2, i_o0, i_o1, i_o2, i_f, i_u, i_rd, i_ld, w_s4, w_b3, w_b4, w_b5, w_b6, w_b7, w_b8, w_b9, w_c2, w_c3, w_c4, w_c5, w_c6, w_c7, w_c8, w_c9, w_c10, w_c11, w_t2, w_k0, w_k2, w_k3, w_k4, w_k5, w_ka0, w_ka1, w_ka2, w_a0, w_a2, w_a3, w_a4, w_aa0, w_aa1, w_aa2, w_o0, w_o1, w_o2, w_f, w_u, w_rd, w_ld, csk0 H, csk1 H, csi0 H, csi1 H, cr, wr, dn, im])
    all_goals first
      | (refine ⟨_, ?_, ⟨rfl, _, rfl, rfl, rfl, rfl, rfl, rfl, ?_⟩⟩ <;> omega)
      | (refine ⟨_, ⟨rfl, _, rfl, rfl, rfl, rfl, rfl, rfl, ?_⟩ ⟩ <;> omega)
      | contradiction
      | exact trivial
      | rfl
      | omega
      | exact (bi1 (by omega)).symm
      | exact (bi0 (by omega)).symm
      | exact (bi1 (by assumption)).symm
      | exact (bi0 (by assumption)).symm
      | exact ⟨_, rfl⟩
      | ((try unfold IN_); (repeat (first | rw [if_pos (by omega)] | rw [if_neg (by omega)])); done)
      | ((try unfold IN_); (repeat (first | rw [if_pos (by omega)] | rw [if_neg (by omega)])); rfl)
      | ((try unfold IN_); (repeat (first | rw [if_pos (by omega)] | rw [if_neg (by omega)] | rw [if_pos (by assumption)] | rw [if_neg (by assumption)])); rfl)
def Iv_k_due0 (h : jm_H) (ac : Nat) (κ : S_) (μ : M_) (t k : Int) : Nat → Nat → List (Option jm_V) → List jm_V → jm_H → Nat → Nat → Prop := fun kq pc L st h' ce sl =>
  (pc = 2 ∧ ∃ (i : Int), L = [some (.inr (.inl (some ((ac + 4))))), some (.inl (Int32.ofInt (t))), some (.inl (Int32.ofInt (i)))] ∧ st = [] ∧ h' = cs h ac κ μ ∧ ce = 0 ∧ sl = 0 ∧ kq = (k - i).toNat ∧ (0 ≤ i ∧ i ≤ κ 0 24))
set_option maxRecDepth 100000 in
set_option maxHeartbeats 4000000 in
theorem k_due0 (B : jm_B) (l : Launch) (h : jm_H) (ac : Nat) (κ : S_) (μ : M_) (H : RC B ac h) {m f : Int} (hB : BB m f κ) (u : Nat → Nat) (hU : XU ac μ u) (t : Int) (ht0 : 0 ≤ t) (ht1 : t ≤ 600000) (hdb : ∀ j : Nat, (j : Int) < κ 0 24 → 0 ≤ κ (32 + u j) 3 ∧ κ (32 + u j) 3 ≤ 700000) (hn : ∀ j : Nat, (j : Int) < κ 0 24 → ¬ κ (32 + u j) 3 = t) : jm_Ct gG B l (gm 17) [.inr (.inl (some ((ac + 4)))), .inl (Int32.ofInt (t))] (cs h ac κ μ) (fun v h' => h' = cs h ac κ μ ∧ v = .inr (.inl none)) := by
  show jm_Ct gG B l M_Bus_takeNextDue _ _ _
  refine jm_CL (code := k_Bus_takeNextDue) (Or.inl (by decide)) (by decide) v_Bus_takeNextDue rfl (Nat.le_of_ble_eq_true rfl) [some (.inr (.inl (some ((ac + 4))))), some (.inl (Int32.ofInt (t))), none] rfl rfl (Iv_k_due0 h ac κ μ t 20) ?_ ⟨31, ?_⟩
  · intro k pc L st h' ce sl hI
    rcases hI with ⟨rfl, i, rfl, rfl, rfl, rfl, rfl, rfl, hc⟩
    · refine ⟨31, 2, ⟨_, _, rfl, rfl⟩, ?_⟩
      have b24 : 0 ≤ κ 0 24 ∧ κ 0 24 ≤ 12 := hB 0 24
      have b29 : 0 ≤ κ 0 29 ∧ κ 0 29 ≤ f := hB 0 29
      have hB1 : BB m f (jm_u2 κ 0 37 (κ 0 37 + 1)) := BB_u hB (show rowOK m f 0 37 (κ 0 37 + 1) from trivial)
      have iu := hU.1 i.toNat
      rcases (show i < κ 0 24 ∨ i = κ 0 24 by omega) with hi | hi
      · have im := hU.2.2 i.toNat (by omega)
        have db := hdb i.toNat (by omega)
        have dn := hn i.toNat (by omega)
        simp (disch := omega) only [e_Bus_takeNextDue_0, e_Bus_takeNextDue_1, c_Bus_takeNextDue_2, e_Bus_takeNextDue_2, e_Bus_takeNextDue_3, e_Bus_takeNextDue_4, e_Bus_takeNextDue_5, e_Bus_takeNextDue_6, e_Bus_takeNextDue_7, e_Bus_takeNextDue_8, e_Bus_takeNextDue_9, e_Bus_takeNextDue_10, e_Bus_takeNextDue_11, e_Bus_takeNextDue_12, e_Bus_takeNextDue_13, e_Bus_takeNextDue_14a, e_Bus_takeNextDue_14b, e_Bus_takeNextDue_15, e_Bus_takeNextDue_16, e_Bus_takeNextDue_17, e_Bus_takeNextDue_18, e_Bus_takeNextDue_19, e_Bus_takeNextDue_20, e_Bus_takeNextDue_21, e_Bus_takeNextDue_22, e_Bus_takeNextDue_23, e_Bus_takeNextDue_24, e_Bus_takeNextDue_25, e_Bus_takeNextDue_26, jm_ia, jm_na, jm_qa, jm_aa, jm_asg, jm_l4, jm_Kr, jm_okv, jm_rc, jm_bo, true_and, and_true, Nat.add_zero, Nat.le_refl, j_lt, j_le, j_eq, j_lt0, j_0lt, j_le0, j_0le, j_eq0, j_add, j_sub, j_mul, j_neg, j_0sub, j_nat, j_in, j_div, j_rem, Sum.inl.injEq, exists_eq', true_or, or_true, if_true, if_false, not_true_eq_false, not_false_eq_true, implies_true, j_eq1, reduceIte, Nat.reduceEqDiff, Int.reduceEq, Int.reduceToNat, Nat.reduceAdd, Int.reduceAdd, Int.reduceSub, Int.reduceMul, Int.reduceNeg, and_false, false_and, and_self, u2r, j_b0, j_b1, Classical.not_not, eq_self, true_implies, false_implies, not_true_eq_false, not_false_eq_true, Int.reduceLT, Int.reduceLE, ck, cn, ck0 H, ck1 H, ck2 H, ck3 H, ck4 H, ck5 H, ck6 H, ck7 H, ck8 H, ck9 H, ck10 H, ck11 H, ck12 H, ck13 H, ck14 H, ck15 H, ck16 H, ck17 H, ck18 H, cr0 H, cr1 H, cr2 H, cr3 H, cr4 H, cr5 H, cr6 H, cr7 H, cr8 H, cr9 H, cr10 H, cr11 H, cr12 H, cr13 H, cr14 H, cr15 H, cr16 H, i_s4, i_b3, i_b4, i_b5, i_b6, i_b7, i_b8, i_b9, i_c2, i_c3, i_c4, i_c5, i_c6, i_c7, i_c8, i_c9, i_c10, i_c11, i_t2, i_k0, i_k2, i_k3, i_k4, i_k5, i_ka0, i_ka1, i_ka2, i_a0, i_a2, i_a3, i_a4, i_aa0, i_aa1, i_aa2, i_o0, i_o1, i_o2, i_f, i_u, i_rd, i_ld, w_s4, w_b3, w_b4, w_b5, w_b6, w_b7, w_b8, w_b9, w_c2, w_c3, w_c4, w_c5, w_c6, w_c7, w_c8, w_c9, w_c10, w_c11, w_t2, w_k0, w_k2, w_k3, w_k4, w_k5, w_ka0, w_ka1, w_ka2, w_a0, w_a2, w_a3, w_a4, w_aa0, w_aa1, w_aa2, w_o0, w_o1, w_o2, w_f, w_u, w_rd, w_ld, csk0 H, csk1 H, csi0 H, csi1 H, cr, wr, dn, im]
        repeat' first
          | apply And.intro
          | (intro _)
        all_goals first
          | (refine ⟨_, ?_, ⟨rfl, _, rfl, rfl, rfl, rfl, rfl, rfl, ?_⟩⟩ <;> omega)
          | (refine ⟨_, ⟨rfl, _, rfl, rfl, rfl, rfl, rfl, rfl, ?_⟩ ⟩ <;> omega)
          | contradiction
          | exact trivial
          | rfl
          | omega
          | exact (bi1 (by omega)).symm
          | exact (bi0 (by omega)).symm
          | exact (bi1 (by assumption)).symm
          | exact (bi0 (by assumption)).symm
          | exact ⟨_, rfl⟩
          | ((try unfold IN_); (repeat (first | rw [if_pos (by omega)] | rw [if_neg (by omega)])); done)
          | ((try unfold IN_); (repeat (first | rw [if_pos (by omega)] | rw [if_neg (by omega)])); rfl)
          | ((try unfold IN_); (repeat (first | rw [if_pos (by omega)] | rw [if_neg (by omega)] | rw [if_pos (by assumption)] | rw [if_neg (by assumption)])); rfl)
      · have im : True := trivial
        have dn : True := trivial
        simp (disch := omega) only [e_Bus_takeNextDue_0, e_Bus_takeNextDue_1, c_Bus_takeNextDue_2, e_Bus_takeNextDue_2, e_Bus_takeNextDue_3, e_Bus_takeNextDue_4, e_Bus_takeNextDue_5, e_Bus_takeNextDue_6, e_Bus_takeNextDue_7, e_Bus_takeNextDue_8, e_Bus_takeNextDue_9, e_Bus_takeNextDue_10, e_Bus_takeNextDue_11, e_Bus_takeNextDue_12, e_Bus_takeNextDue_13, e_Bus_takeNextDue_14a, e_Bus_takeNextDue_14b, e_Bus_takeNextDue_15, e_Bus_takeNextDue_16, e_Bus_takeNextDue_17, e_Bus_takeNextDue_18, e_Bus_takeNextDue_19, e_Bus_takeNextDue_20, e_Bus_takeNextDue_21, e_Bus_takeNextDue_22, e_Bus_takeNextDue_23, e_Bus_takeNextDue_24, e_Bus_takeNextDue_25, e_Bus_takeNextDue_26, jm_ia, jm_na, jm_qa, jm_aa, jm_asg, jm_l4, jm_Kr, jm_okv, jm_rc, jm_bo, true_and, and_true, Nat.add_zero, Nat.le_refl, j_lt, j_le, j_eq, j_lt0, j_0lt, j_le0, j_0le, j_eq0, j_add, j_sub, j_mul, j_neg, j_0sub, j_nat, j_in, j_div, j_rem, Sum.inl.injEq, exists_eq', true_or, or_true, if_true, if_false, not_true_eq_false, not_false_eq_true, implies_true, j_eq1, reduceIte, Nat.reduceEqDiff, Int.reduceEq, Int.reduceToNat, Nat.reduceAdd, Int.reduceAdd, Int.reduceSub, Int.reduceMul, Int.reduceNeg, and_false, false_and, and_self, u2r, j_b0, j_b1, Classical.not_not, eq_self, true_implies, false_implies, not_true_eq_false, not_false_eq_true, Int.reduceLT, Int.reduceLE, ck, cn, ck0 H, ck1 H, ck2 H, ck3 H, ck4 H, ck5 H, ck6 H, ck7 H, ck8 H, ck9 H, ck10 H, ck11 H, ck12 H, ck13 H, ck14 H, ck15 H, ck16 H, ck17 H, ck18 H, cr0 H, cr1 H, cr2 H, cr3 H, cr4 H, cr5 H, cr6 H, cr7 H, cr8 H, cr9 H, cr10 H, cr11 H, cr12 H, cr13 H, cr14 H, cr15 H, cr16 H, i_s4, i_b3, i_b4, i_b5, i_b6, i_b7, i_b8, i_b9, i_c2, i_c3, i_c4, i_c5, i_c6, i_c7, i_c8, i_c9, i_c10, i_c11, i_t2, i_k0, i_k2, i_k3, i_k4, i_k5, i_ka0, i_ka1, i_ka2, i_a0, i_a2, i_a3, i_a4, i_aa0, i_aa1, i_aa2, i_o0, i_o1, i_o2, i_f, i_u, i_rd, i_ld, w_s4, w_b3, w_b4, w_b5, w_b6, w_b7, w_b8, w_b9, w_c2, w_c3, w_c4, w_c5, w_c6, w_c7, w_c8, w_c9, w_c10, w_c11, w_t2, w_k0, w_k2, w_k3, w_k4, w_k5, w_ka0, w_ka1, w_ka2, w_a0, w_a2, w_a3, w_a4, w_aa0, w_aa1, w_aa2, w_o0, w_o1, w_o2, w_f, w_u, w_rd, w_ld, csk0 H, csk1 H, csi0 H, csi1 H, cr, wr, dn, im]
        repeat' first
          | apply And.intro
          | (intro _)
        all_goals first
          | (refine ⟨_, ?_, ⟨rfl, _, rfl, rfl, rfl, rfl, rfl, rfl, ?_⟩⟩ <;> omega)
          | (refine ⟨_, ⟨rfl, _, rfl, rfl, rfl, rfl, rfl, rfl, ?_⟩ ⟩ <;> omega)
          | contradiction
          | exact trivial
          | rfl
          | omega
          | exact (bi1 (by omega)).symm
          | exact (bi0 (by omega)).symm
          | exact (bi1 (by assumption)).symm
          | exact (bi0 (by assumption)).symm
          | exact ⟨_, rfl⟩
          | ((try unfold IN_); (repeat (first | rw [if_pos (by omega)] | rw [if_neg (by omega)])); done)
          | ((try unfold IN_); (repeat (first | rw [if_pos (by omega)] | rw [if_neg (by omega)])); rfl)
          | ((try unfold IN_); (repeat (first | rw [if_pos (by omega)] | rw [if_neg (by omega)] | rw [if_pos (by assumption)] | rw [if_neg (by assumption)])); rfl)
  · have b24 : 0 ≤ κ 0 24 ∧ κ 0 24 ≤ 12 := hB 0 24
    have b29 : 0 ≤ κ 0 29 ∧ κ 0 29 ≤ f := hB 0 29
    have hB1 : BB m f (jm_u2 κ 0 37 (κ 0 37 + 1)) := BB_u hB (show rowOK m f 0 37 (κ 0 37 + 1) from trivial)
    have im : True := trivial
    have dn : True := trivial
    simp (disch := omega) only [e_Bus_takeNextDue_0, e_Bus_takeNextDue_1, c_Bus_takeNextDue_2, e_Bus_takeNextDue_2, e_Bus_takeNextDue_3, e_Bus_takeNextDue_4, e_Bus_takeNextDue_5, e_Bus_takeNextDue_6, e_Bus_takeNextDue_7, e_Bus_takeNextDue_8, e_Bus_takeNextDue_9, e_Bus_takeNextDue_10, e_Bus_takeNextDue_11, e_Bus_takeNextDue_12, e_Bus_takeNextDue_13, e_Bus_takeNextDue_14a, e_Bus_takeNextDue_14b, e_Bus_takeNextDue_15, e_Bus_takeNextDue_16, e_Bus_takeNextDue_17, e_Bus_takeNextDue_18, e_Bus_takeNextDue_19, e_Bus_takeNextDue_20, e_Bus_takeNextDue_21, e_Bus_takeNextDue_22, e_Bus_takeNextDue_23, e_Bus_takeNextDue_24, e_Bus_takeNextDue_25, e_Bus_takeNextDue_26, jm_ia, jm_na, jm_qa, jm_aa, jm_asg, jm_l4, jm_Kr, jm_okv, jm_rc, jm_bo, true_and, and_true, Nat.add_zero, Nat.le_refl, j_lt, j_le, j_eq, j_lt0, j_0lt, j_le0, j_0le, j_eq0, j_add, j_sub, j_mul, j_neg, j_0sub, j_nat, j_in, j_div, j_rem, Sum.inl.injEq, exists_eq', true_or, or_true, if_true, if_false, not_true_eq_false, not_false_eq_true, implies_true, j_eq1, reduceIte, Nat.reduceEqDiff, Int.reduceEq, Int.reduceToNat, Nat.reduceAdd, Int.reduceAdd, Int.reduceSub, Int.reduceMul, Int.reduceNeg, and_false, false_and, and_self, u2r, j_b0, j_b1, Classical.not_not, eq_self, true_implies, false_implies, not_true_eq_false, not_false_eq_true, Int.reduceLT, Int.reduceLE, ck, cn, ck0 H, ck1 H, ck2 H, ck3 H, ck4 H, ck5 H, ck6 H, ck7 H, ck8 H, ck9 H, ck10 H, ck11 H, ck12 H, ck13 H, ck14 H, ck15 H, ck16 H, ck17 H, ck18 H, cr0 H, cr1 H, cr2 H, cr3 H, cr4 H, cr5 H, cr6 H, cr7 H, cr8 H, cr9 H, cr10 H, cr11 H, cr12 H, cr13 H, cr14 H, cr15 H, cr16 H, i_s4, i_b3, i_b4, i_b5, i_b6, i_b7, i_b8, i_b9, i_c2, i_c3, i_c4, i_c5, i_c6, i_c7, i_c8, i_c9, i_c10, i_c11, i_t2, i_k0, i_k2, i_k3, i_k4, i_k5, i_ka0, i_ka1, i_ka2, i_a0, i_a2, i_a3, i_a4, i_aa0, i_aa1, i_aa2, i_o0, i_o1, i_o2, i_f, i_u, i_rd, i_ld, w_s4, w_b3, w_b4, w_b5, w_b6, w_b7, w_b8, w_b9, w_c2, w_c3, w_c4, w_c5, w_c6, w_c7, w_c8, w_c9, w_c10, w_c11, w_t2, w_k0, w_k2, w_k3, w_k4, w_k5, w_ka0, w_ka1, w_ka2, w_a0, w_a2, w_a3, w_a4, w_aa0, w_aa1, w_aa2, w_o0, w_o1, w_o2, w_f, w_u, w_rd, w_ld, csk0 H, csk1 H, csi0 H, csi1 H, cr, wr, dn, im]
    repeat' first
      | apply And.intro
      | (intro _)
    all_goals first
      | (refine ⟨_, ?_, ⟨rfl, _, rfl, rfl, rfl, rfl, rfl, rfl, ?_⟩⟩ <;> omega)
      | (refine ⟨_, ⟨rfl, _, rfl, rfl, rfl, rfl, rfl, rfl, ?_⟩ ⟩ <;> omega)
      | contradiction
      | exact trivial
      | rfl
      | omega
      | exact (bi1 (by omega)).symm
      | exact (bi0 (by omega)).symm
      | exact (bi1 (by assumption)).symm
      | exact (bi0 (by assumption)).symm
      | exact ⟨_, rfl⟩
      | ((try unfold IN_); (repeat (first | rw [if_pos (by omega)] | rw [if_neg (by omega)])); done)
      | ((try unfold IN_); (repeat (first | rw [if_pos (by omega)] | rw [if_neg (by omega)])); rfl)
      | ((try unfold IN_); (repeat (first | rw [if_pos (by omega)] | rw [if_neg (by omega)] | rw [if_pos (by assumption)] | rw [if_neg (by assumption)])); rfl)
def Iv_k_takeOutbox (h : jm_H) (ac : Nat) (κ : S_) (μ : M_) (u : Nat → Nat) (t : Int) : Nat → Nat → List (Option jm_V) → List jm_V → jm_H → Nat → Nat → Prop := fun kq pc L st h' ce sl =>
  (pc = 2 ∧ ∃ (i : Int) (τ : S_), L = [some (.inr (.inl (some ((ac + 4))))), some (.inl (Int32.ofInt (t))), some (.inl (Int32.ofInt (i)))] ∧ st = [] ∧ h' = cs h ac τ μ ∧ ce = 0 ∧ sl = 0 ∧ kq = (20 - i).toNat ∧ (0 ≤ i ∧ i ≤ κ 0 29 ∧ τ = kTkN κ u t i.toNat))
set_option maxRecDepth 100000 in
set_option maxHeartbeats 4000000 in
theorem k_takeOutbox (B : jm_B) (l : Launch) (h : jm_H) (ac : Nat) (κ : S_) (μ : M_) (H : RC B ac h) {m f : Int} (hB : BB m f κ) (u : Nat → Nat) (hU : XU ac μ u) (hR : RFt κ) (t : Int) (hf : f ≤ 18) : jm_Ct gG B l (gm 15) [.inr (.inl (some ((ac + 4)))), .inl (Int32.ofInt (t))] (cs h ac κ μ) (fun v h' => h' = cs h ac (jm_u2 (kTkN κ u t (κ 0 29).toNat) 0 29 0) μ) := by
  show jm_Ct gG B l M_Bus_takeOutbox _ _ _
  refine jm_CL (code := k_Bus_takeOutbox) (Or.inl (by decide)) (by decide) v_Bus_takeOutbox rfl (Nat.le_of_ble_eq_true rfl) [some (.inr (.inl (some ((ac + 4))))), some (.inl (Int32.ofInt (t))), none] rfl rfl (Iv_k_takeOutbox h ac κ μ u t) ?_ ⟨23, ?_⟩
  · intro k pc L st h' ce sl hI
    rcases hI with ⟨rfl, i, τ, rfl, rfl, rfl, rfl, rfl, rfl, hc⟩
    · refine ⟨23, 2, ⟨_, _, rfl, rfl⟩, ?_⟩
      have b24 : 0 ≤ κ 0 24 ∧ κ 0 24 ≤ 12 := hB 0 24
      have b29 : 0 ≤ κ 0 29 ∧ κ 0 29 ≤ f := hB 0 29
      obtain ⟨k1, k2, rfl⟩ := hc
      obtain ⟨n1, n2, n3, n4⟩ := kTkN_ok (t := t) hU.1 hB hR i.toNat
      have h29 : (kTkN κ u t i.toNat) 0 29 = κ 0 29 := n4 29 (by decide) (by decide) (by decide) (by decide)
      have h24 : 0 ≤ (kTkN κ u t i.toNat) 0 24 ∧ (kTkN κ u t i.toNat) 0 24 ≤ 12 := n1 0 24
      have hs : kTkN κ u t (i + 1).toNat = kTk (kTkN κ u t i.toNat) i.toNat (u ((kTkN κ u t i.toNat) 0 24).toNat) t := by rw [show (i + 1).toNat = i.toNat + 1 by omega]; rfl
      have hq : ((kTkN κ u t i.toNat) 0 24 < 12 → μ 5 ((kTkN κ u t i.toNat) 0 24).toNat = some (ac + (8 + u ((kTkN κ u t i.toNat) 0 24).toNat))) := fun q => hU.2.2 _ (by omega)
      rcases (show i < κ 0 29 ∨ i = κ 0 29 by omega) with hi | hi
      · skip
        simp (disch := omega) only [e_Bus_takeOutbox_0, e_Bus_takeOutbox_1, c_Bus_takeOutbox_2, e_Bus_takeOutbox_2, e_Bus_takeOutbox_3, e_Bus_takeOutbox_4, e_Bus_takeOutbox_5, e_Bus_takeOutbox_6, e_Bus_takeOutbox_7, e_Bus_takeOutbox_8, e_Bus_takeOutbox_9, e_Bus_takeOutbox_10, e_Bus_takeOutbox_11, e_Bus_takeOutbox_12, e_Bus_takeOutbox_13, e_Bus_takeOutbox_14, e_Bus_takeOutbox_15, e_Bus_takeOutbox_16, e_Bus_takeOutbox_17, e_Bus_takeOutbox_18, jm_ia, jm_na, jm_qa, jm_aa, jm_asg, jm_l4, jm_Kr, jm_okv, jm_rc, jm_bo, true_and, and_true, Nat.add_zero, Nat.le_refl, j_lt, j_le, j_eq, j_lt0, j_0lt, j_le0, j_0le, j_eq0, j_add, j_sub, j_mul, j_neg, j_0sub, j_nat, j_in, j_div, j_rem, Sum.inl.injEq, exists_eq', true_or, or_true, if_true, if_false, not_true_eq_false, not_false_eq_true, implies_true, j_eq1, reduceIte, Nat.reduceEqDiff, Int.reduceEq, Int.reduceToNat, Nat.reduceAdd, Int.reduceAdd, Int.reduceSub, Int.reduceMul, Int.reduceNeg, and_false, false_and, and_self, u2r, j_b0, j_b1, Classical.not_not, eq_self, true_implies, false_implies, not_true_eq_false, not_false_eq_true, Int.reduceLT, Int.reduceLE, ck, cn, ck0 H, ck1 H, ck2 H, ck3 H, ck4 H, ck5 H, ck6 H, ck7 H, ck8 H, ck9 H, ck10 H, ck11 H, ck12 H, ck13 H, ck14 H, ck15 H, ck16 H, ck17 H, ck18 H, cr0 H, cr1 H, cr2 H, cr3 H, cr4 H, cr5 H, cr6 H, cr7 H, cr8 H, cr9 H, cr10 H, cr11 H, cr12 H, cr13 H, cr14 H, cr15 H, cr16 H, i_s4, i_b3, i_b4, i_b5, i_b6, i_b7, i_b8, i_b9, i_c2, i_c3, i_c4, i_c5, i_c6, i_c7, i_c8, i_c9, i_c10, i_c11, i_t2, i_k0, i_k2, i_k3, i_k4, i_k5, i_ka0, i_ka1, i_ka2, i_a0, i_a2, i_a3, i_a4, i_aa0, i_aa1, i_aa2, i_o0, i_o1, i_o2, i_f, i_u, i_rd, i_ld, w_s4, w_b3, w_b4, w_b5, w_b6, w_b7, w_b8, w_b9, w_c2, w_c3, w_c4, w_c5, w_c6, w_c7, w_c8, w_c9, w_c10, w_c11, w_t2, w_k0, w_k2, w_k3, w_k4, w_k5, w_ka0, w_ka1, w_ka2, w_a0, w_a2, w_a3, w_a4, w_aa0, w_aa1, w_aa2, w_o0, w_o1, w_o2, w_f, w_u, w_rd, w_ld, csk0 H, csk1 H, csi0 H, csi1 H, cr, wr, h29]
        repeat' first
          | apply And.intro
          | (intro _)
          | (refine ⟨_, k_takeOne B l h ac (kTkN κ u t i.toNat) μ H n1 i.toNat (by omega) (u ((kTkN κ u t i.toNat) 0 24).toNat) (hU.1 _) t n2.1.1 n2.1.2 (fun _ => n2.2 _) hq, ?_⟩; rintro h' rfl; try simp (disch := omega) only [e_Bus_takeOutbox_0, e_Bus_takeOutbox_1, c_Bus_takeOutbox_2, e_Bus_takeOutbox_2, e_Bus_takeOutbox_3, e_Bus_takeOutbox_4, e_Bus_takeOutbox_5, e_Bus_takeOutbox_6, e_Bus_takeOutbox_7, e_Bus_takeOutbox_8, e_Bus_takeOutbox_9, e_Bus_takeOutbox_10, e_Bus_takeOutbox_11, e_Bus_takeOutbox_12, e_Bus_takeOutbox_13, e_Bus_takeOutbox_14, e_Bus_takeOutbox_15, e_Bus_takeOutbox_16, e_Bus_takeOutbox_17, e_Bus_takeOutbox_18, jm_ia, jm_na, jm_qa, jm_aa, jm_asg, jm_l4, jm_Kr, jm_okv, jm_rc, jm_bo, true_and, and_true, Nat.add_zero, Nat.le_refl, j_lt, j_le, j_eq, j_lt0, j_0lt, j_le0, j_0le, j_eq0, j_add, j_sub, j_mul, j_neg, j_0sub, j_nat, j_in, j_div, j_rem, Sum.inl.injEq, exists_eq', true_or, or_true, if_true, if_false, not_true_eq_false, not_false_eq_true, implies_true, j_eq1, reduceIte, Nat.reduceEqDiff, Int.reduceEq, Int.reduceToNat, Nat.reduceAdd, Int.reduceAdd, Int.reduceSub, Int.reduceMul, Int.reduceNeg, and_false, false_and, and_self, u2r, j_b0, j_b1, Classical.not_not, eq_self, true_implies, false_implies, not_true_eq_false, not_false_eq_true, Int.reduceLT, Int.reduceLE, ck, cn, ck0 H, ck1 H, ck2 H, ck3 H, ck4 H, ck5 H, ck6 H, ck7 H, ck8 H, ck9 H, ck10 H, ck11 H, ck12 H, ck13 H, ck14 H, ck15 H, ck16 H, ck17 H, ck18 H, cr0 H, cr1 H, cr2 H, cr3 H, cr4 H, cr5 H, cr6 H, cr7 H, cr8 H, cr9 H, cr10 H, cr11 H, cr12 H, cr13 H, cr14 H, cr15 H, cr16 H, i_s4, i_b3, i_b4, i_b5, i_b6, i_b7, i_b8, i_b9, i_c2, i_c3, i_c4, i_c5, i_c6, i_c7, i_c8, i_c9, i_c10, i_c11, i_t2, i_k0, i_k2, i_k3, i_k4, i_k5, i_ka0, i_ka1, i_ka2, i_a0, i_a2, i_a3, i_a4, i_aa0, i_aa1, i_aa2, i_o0, i_o1, i_o2, i_f, i_u, i_rd, i_ld, w_s4, w_b3, w_b4, w_b5, w_b6, w_b7, w_b8, w_b9, w_c2, w_c3, w_c4, w_c5, w_c6, w_c7, w_c8, w_c9, w_c10, w_c11, w_t2, w_k0, w_k2, w_k3, w_k4, w_k5, w_ka0, w_ka1, w_ka2, w_a0, w_a2, w_a3, w_a4, w_aa0, w_aa1, w_aa2, w_o0, w_o1, w_o2, w_f, w_u, w_rd, w_ld, csk0 H, csk1 H, csi0 H, csi1 H, cr, wr, h29])
        all_goals first
          | (refine ⟨_, ?_, ⟨rfl, _, _, rfl, rfl, rfl, rfl, rfl, rfl, ?_⟩⟩ <;> first | omega | exact ⟨by omega, by omega, rfl⟩ | exact ⟨by omega, by omega, hs.symm⟩)
          | (refine ⟨_, ⟨rfl, _, _, rfl, rfl, rfl, rfl, rfl, rfl, ?_⟩ ⟩ <;> first | omega | exact ⟨by omega, by omega, rfl⟩ | exact ⟨by omega, by omega, hs.symm⟩)
          | contradiction
          | exact trivial
          | rfl
          | omega
          | exact (bi1 (by omega)).symm
          | exact (bi0 (by omega)).symm
          | exact (bi1 (by assumption)).symm
          | exact (bi0 (by assumption)).symm
          | exact ⟨_, rfl⟩
          | ((try unfold IN_); (repeat (first | rw [if_pos (by omega)] | rw [if_neg (by omega)])); done)
          | ((try unfold IN_); (repeat (first | rw [if_pos (by omega)] | rw [if_neg (by omega)])); rfl)
          | ((try unfold IN_); (repeat (first | rw [if_pos (by omega)] | rw [if_neg (by omega)] | rw [if_pos (by assumption)] | rw [if_neg (by assumption)])); rfl)
      · obtain rfl : i = κ 0 29 := by omega
        simp (disch := omega) only [e_Bus_takeOutbox_0, e_Bus_takeOutbox_1, c_Bus_takeOutbox_2, e_Bus_takeOutbox_2, e_Bus_takeOutbox_3, e_Bus_takeOutbox_4, e_Bus_takeOutbox_5, e_Bus_takeOutbox_6, e_Bus_takeOutbox_7, e_Bus_takeOutbox_8, e_Bus_takeOutbox_9, e_Bus_takeOutbox_10, e_Bus_takeOutbox_11, e_Bus_takeOutbox_12, e_Bus_takeOutbox_13, e_Bus_takeOutbox_14, e_Bus_takeOutbox_15, e_Bus_takeOutbox_16, e_Bus_takeOutbox_17, e_Bus_takeOutbox_18, jm_ia, jm_na, jm_qa, jm_aa, jm_asg, jm_l4, jm_Kr, jm_okv, jm_rc, jm_bo, true_and, and_true, Nat.add_zero, Nat.le_refl, j_lt, j_le, j_eq, j_lt0, j_0lt, j_le0, j_0le, j_eq0, j_add, j_sub, j_mul, j_neg, j_0sub, j_nat, j_in, j_div, j_rem, Sum.inl.injEq, exists_eq', true_or, or_true, if_true, if_false, not_true_eq_false, not_false_eq_true, implies_true, j_eq1, reduceIte, Nat.reduceEqDiff, Int.reduceEq, Int.reduceToNat, Nat.reduceAdd, Int.reduceAdd, Int.reduceSub, Int.reduceMul, Int.reduceNeg, and_false, false_and, and_self, u2r, j_b0, j_b1, Classical.not_not, eq_self, true_implies, false_implies, not_true_eq_false, not_false_eq_true, Int.reduceLT, Int.reduceLE, ck, cn, ck0 H, ck1 H, ck2 H, ck3 H, ck4 H, ck5 H, ck6 H, ck7 H, ck8 H, ck9 H, ck10 H, ck11 H, ck12 H, ck13 H, ck14 H, ck15 H, ck16 H, ck17 H, ck18 H, cr0 H, cr1 H, cr2 H, cr3 H, cr4 H, cr5 H, cr6 H, cr7 H, cr8 H, cr9 H, cr10 H, cr11 H, cr12 H, cr13 H, cr14 H, cr15 H, cr16 H, i_s4, i_b3, i_b4, i_b5, i_b6, i_b7, i_b8, i_b9, i_c2, i_c3, i_c4, i_c5, i_c6, i_c7, i_c8, i_c9, i_c10, i_c11, i_t2, i_k0, i_k2, i_k3, i_k4, i_k5, i_ka0, i_ka1, i_ka2, i_a0, i_a2, i_a3, i_a4, i_aa0, i_aa1, i_aa2, i_o0, i_o1, i_o2, i_f, i_u, i_rd, i_ld, w_s4, w_b3, w_b4, w_b5, w_b6, w_b7, w_b8, w_b9, w_c2, w_c3, w_c4, w_c5, w_c6, w_c7, w_c8, w_c9, w_c10, w_c11, w_t2, w_k0, w_k2, w_k3, w_k4, w_k5, w_ka0, w_ka1, w_ka2, w_a0, w_a2, w_a3, w_a4, w_aa0, w_aa1, w_aa2, w_o0, w_o1, w_o2, w_f, w_u, w_rd, w_ld, csk0 H, csk1 H, csi0 H, csi1 H, cr, wr, h29]
        repeat' first
          | apply And.intro
          | (intro _)
          | (refine ⟨_, k_takeOne B l h ac (kTkN κ u t i.toNat) μ H n1 i.toNat (by omega) (u ((kTkN κ u t i.toNat) 0 24).toNat) (hU.1 _) t n2.1.1 n2.1.2 (fun _ => n2.2 _) hq, ?_⟩; rintro h' rfl; try simp (disch := omega) only [e_Bus_takeOutbox_0, e_Bus_takeOutbox_1, c_Bus_takeOutbox_2, e_Bus_takeOutbox_2, e_Bus_takeOutbox_3, e_Bus_takeOutbox_4, e_Bus_takeOutbox_5, e_Bus_takeOutbox_6, e_Bus_takeOutbox_7, e_Bus_takeOutbox_8, e_Bus_takeOutbox_9, e_Bus_takeOutbox_10, e_Bus_takeOutbox_11, e_Bus_takeOutbox_12, e_Bus_takeOutbox_13, e_Bus_takeOutbox_14, e_Bus_takeOutbox_15, e_Bus_takeOutbox_16, e_Bus_takeOutbox_17, e_Bus_takeOutbox_18, jm_ia, jm_na, jm_qa, jm_aa, jm_asg, jm_l4, jm_Kr, jm_okv, jm_rc, jm_bo, true_and, and_true, Nat.add_zero, Nat.le_refl, j_lt, j_le, j_eq, j_lt0, j_0lt, j_le0, j_0le, j_eq0, j_add, j_sub, j_mul, j_neg, j_0sub, j_nat, j_in, j_div, j_rem, Sum.inl.injEq, exists_eq', true_or, or_true, if_true, if_false, not_true_eq_false, not_false_eq_true, implies_true, j_eq1, reduceIte, Nat.reduceEqDiff, Int.reduceEq, Int.reduceToNat, Nat.reduceAdd, Int.reduceAdd, Int.reduceSub, Int.reduceMul, Int.reduceNeg, and_false, false_and, and_self, u2r, j_b0, j_b1, Classical.not_not, eq_self, true_implies, false_implies, not_true_eq_false, not_false_eq_true, Int.reduceLT, Int.reduceLE, ck, cn, ck0 H, ck1 H, ck2 H, ck3 H, ck4 H, ck5 H, ck6 H, ck7 H, ck8 H, ck9 H, ck10 H, ck11 H, ck12 H, ck13 H, ck14 H, ck15 H, ck16 H, ck17 H, ck18 H, cr0 H, cr1 H, cr2 H, cr3 H, cr4 H, cr5 H, cr6 H, cr7 H, cr8 H, cr9 H, cr10 H, cr11 H, cr12 H, cr13 H, cr14 H, cr15 H, cr16 H, i_s4, i_b3, i_b4, i_b5, i_b6, i_b7, i_b8, i_b9, i_c2, i_c3, i_c4, i_c5, i_c6, i_c7, i_c8, i_c9, i_c10, i_c11, i_t2, i_k0, i_k2, i_k3, i_k4, i_k5, i_ka0, i_ka1, i_ka2, i_a0, i_a2, i_a3, i_a4, i_aa0, i_aa1, i_aa2, i_o0, i_o1, i_o2, i_f, i_u, i_rd, i_ld, w_s4, w_b3, w_b4, w_b5, w_b6, w_b7, w_b8, w_b9, w_c2, w_c3, w_c4, w_c5, w_c6, w_c7, w_c8, w_c9, w_c10, w_c11, w_t2, w_k0, w_k2, w_k3, w_k4, w_k5, w_ka0, w_ka1, w_ka2, w_a0, w_a2, w_a3, w_a4, w_aa0, w_aa1, w_aa2, w_o0, w_o1, w_o2, w_f, w_u, w_rd, w_ld, csk0 H, csk1 H, csi0 H, csi1 H, cr, wr, h29])
        all_goals first
          | (refine ⟨_, ?_, ⟨rfl, _, _, rfl, rfl, rfl, rfl, rfl, rfl, ?_⟩⟩ <;> first | omega | exact ⟨by omega, by omega, rfl⟩ | exact ⟨by omega, by omega, hs.symm⟩)
          | (refine ⟨_, ⟨rfl, _, _, rfl, rfl, rfl, rfl, rfl, rfl, ?_⟩ ⟩ <;> first | omega | exact ⟨by omega, by omega, rfl⟩ | exact ⟨by omega, by omega, hs.symm⟩)
          | contradiction
          | exact trivial
          | rfl
          | omega
          | exact (bi1 (by omega)).symm
          | exact (bi0 (by omega)).symm
          | exact (bi1 (by assumption)).symm
          | exact (bi0 (by assumption)).symm
          | exact ⟨_, rfl⟩
          | ((try unfold IN_); (repeat (first | rw [if_pos (by omega)] | rw [if_neg (by omega)])); done)
          | ((try unfold IN_); (repeat (first | rw [if_pos (by omega)] | rw [if_neg (by omega)])); rfl)
          | ((try unfold IN_); (repeat (first | rw [if_pos (by omega)] | rw [if_neg (by omega)] | rw [if_pos (by assumption)] | rw [if_neg (by assumption)])); rfl)
  · have b24 : 0 ≤ κ 0 24 ∧ κ 0 24 ≤ 12 := hB 0 24
    have b29 : 0 ≤ κ 0 29 ∧ κ 0 29 ≤ f := hB 0 29
    have h29 : True := trivial
    have hs : True := trivial
    simp (disch := omega) only [e_Bus_takeOutbox_0, e_Bus_takeOutbox_1, c_Bus_takeOutbox_2, e_Bus_takeOutbox_2, e_Bus_takeOutbox_3, e_Bus_takeOutbox_4, e_Bus_takeOutbox_5, e_Bus_takeOutbox_6, e_Bus_takeOutbox_7, e_Bus_takeOutbox_8, e_Bus_takeOutbox_9, e_Bus_takeOutbox_10, e_Bus_takeOutbox_11, e_Bus_takeOutbox_12, e_Bus_takeOutbox_13, e_Bus_takeOutbox_14, e_Bus_takeOutbox_15, e_Bus_takeOutbox_16, e_Bus_takeOutbox_17, e_Bus_takeOutbox_18, jm_ia, jm_na, jm_qa, jm_aa, jm_asg, jm_l4, jm_Kr, jm_okv, jm_rc, jm_bo, true_and, and_true, Nat.add_zero, Nat.le_refl, j_lt, j_le, j_eq, j_lt0, j_0lt, j_le0, j_0le, j_eq0, j_add, j_sub, j_mul, j_neg, j_0sub, j_nat, j_in, j_div, j_rem, Sum.inl.injEq, exists_eq', true_or, or_true, if_true, if_false, not_true_eq_false, not_false_eq_true, implies_true, j_eq1, reduceIte, Nat.reduceEqDiff, Int.reduceEq, Int.reduceToNat, Nat.reduceAdd, Int.reduceAdd, Int.reduceSub, Int.reduceMul, Int.reduceNeg, and_false, false_and, and_self, u2r, j_b0, j_b1, Classical.not_not, eq_self, true_implies, false_implies, not_true_eq_false, not_false_eq_true, Int.reduceLT, Int.reduceLE, ck, cn, ck0 H, ck1 H, ck2 H, ck3 H, ck4 H, ck5 H, ck6 H, ck7 H, ck8 H, ck9 H, ck10 H, ck11 H, ck12 H, ck13 H, ck14 H, ck15 H, ck16 H, ck17 H, ck18 H, cr0 H, cr1 H, cr2 H, cr3 H, cr4 H, cr5 H, cr6 H, cr7 H, cr8 H, cr9 H, cr10 H, cr11 H, cr12 H, cr13 H, cr14 H, cr15 H, cr16 H, i_s4, i_b3, i_b4, i_b5, i_b6, i_b7, i_b8, i_b9, i_c2, i_c3, i_c4, i_c5, i_c6, i_c7, i_c8, i_c9, i_c10, i_c11, i_t2, i_k0, i_k2, i_k3, i_k4, i_k5, i_ka0, i_ka1, i_ka2, i_a0, i_a2, i_a3, i_a4, i_aa0, i_aa1, i_aa2, i_o0, i_o1, i_o2, i_f, i_u, i_rd, i_ld, w_s4, w_b3, w_b4, w_b5, w_b6, w_b7, w_b8, w_b9, w_c2, w_c3, w_c4, w_c5, w_c6, w_c7, w_c8, w_c9, w_c10, w_c11, w_t2, w_k0, w_k2, w_k3, w_k4, w_k5, w_ka0, w_ka1, w_ka2, w_a0, w_a2, w_a3, w_a4, w_aa0, w_aa1, w_aa2, w_o0, w_o1, w_o2, w_f, w_u, w_rd, w_ld, csk0 H, csk1 H, csi0 H, csi1 H, cr, wr]
    repeat' first
      | apply And.intro
      | (intro _)
      | (refine ⟨_, k_takeOne B l h ac (kTkN κ u t i.toNat) μ H n1 i.toNat (by omega) (u ((kTkN κ u t i.toNat) 0 24).toNat) (hU.1 _) t n2.1.1 n2.1.2 (fun _ => n2.2 _) hq, ?_⟩; rintro h' rfl; try simp (disch := omega) only [e_Bus_takeOutbox_0, e_Bus_takeOutbox_1, c_Bus_takeOutbox_2, e_Bus_takeOutbox_2, e_Bus_takeOutbox_3, e_Bus_takeOutbox_4, e_Bus_takeOutbox_5, e_Bus_takeOutbox_6, e_Bus_takeOutbox_7, e_Bus_takeOutbox_8, e_Bus_takeOutbox_9, e_Bus_takeOutbox_10, e_Bus_takeOutbox_11, e_Bus_takeOutbox_12, e_Bus_takeOutbox_13, e_Bus_takeOutbox_14, e_Bus_takeOutbox_15, e_Bus_takeOutbox_16, e_Bus_takeOutbox_17, e_Bus_takeOutbox_18, jm_ia, jm_na, jm_qa, jm_aa, jm_asg, jm_l4, jm_Kr, jm_okv, jm_rc, jm_bo, true_and, and_true, Nat.add_zero, Nat.le_refl, j_lt, j_le, j_eq, j_lt0, j_0lt, j_le0, j_0le, j_eq0, j_add, j_sub, j_mul, j_neg, j_0sub, j_nat, j_in, j_div, j_rem, Sum.inl.injEq, exists_eq', true_or, or_true, if_true, if_false, not_true_eq_false, not_false_eq_true, implies_true, j_eq1, reduceIte, Nat.reduceEqDiff, Int.reduceEq, Int.reduceToNat, Nat.reduceAdd, Int.reduceAdd, Int.reduceSub, Int.reduceMul, Int.reduceNeg, and_false, false_and, and_self, u2r, j_b0, j_b1, Classical.not_not, eq_self, true_implies, false_implies, not_true_eq_false, not_false_eq_true, Int.reduceLT, Int.reduceLE, ck, cn, ck0 H, ck1 H, ck2 H, ck3 H, ck4 H, ck5 H, ck6 H, ck7 H, ck8 H, ck9 H, ck10 H, ck11 H, ck12 H, ck13 H, ck14 H, ck15 H, ck16 H, ck17 H, ck18 H, cr0 H, cr1 H, cr2 H, cr3 H, cr4 H, cr5 H, cr6 H, cr7 H, cr8 H, cr9 H, cr10 H, cr11 H, cr12 H, cr13 H, cr14 H, cr15 H, cr16 H, i_s4, i_b3, i_b4, i_b5, i_b6, i_b7, i_b8, i_b9, i_c2, i_c3, i_c4, i_c5, i_c6, i_c7, i_c8, i_c9, i_c10, i_c11, i_t2, i_k0, i_k2, i_k3, i_k4, i_k5, i_ka0, i_ka1, i_ka2, i_a0, i_a2, i_a3, i_a4, i_aa0, i_aa1, i_aa2, i_o0, i_o1, i_o2, i_f, i_u, i_rd, i_ld, w_s4, w_b3, w_b4, w_b5, w_b6, w_b7, w_b8, w_b9, w_c2, w_c3, w_c4, w_c5, w_c6, w_c7, w_c8, w_c9, w_c10, w_c11, w_t2, w_k0, w_k2, w_k3, w_k4, w_k5, w_ka0, w_ka1, w_ka2, w_a0, w_a2, w_a3, w_a4, w_aa0, w_aa1, w_aa2, w_o0, w_o1, w_o2, w_f, w_u, w_rd, w_ld, csk0 H, csk1 H, csi0 H, csi1 H, cr, wr])
    all_goals first
      | (refine ⟨_, ?_, ⟨rfl, _, _, rfl, rfl, rfl, rfl, rfl, rfl, ?_⟩⟩ <;> first | omega | exact ⟨by omega, by omega, rfl⟩ | exact ⟨by omega, by omega, hs.symm⟩)
      | (refine ⟨_, ⟨rfl, _, _, rfl, rfl, rfl, rfl, rfl, rfl, ?_⟩ ⟩ <;> first | omega | exact ⟨by omega, by omega, rfl⟩ | exact ⟨by omega, by omega, hs.symm⟩)
      | contradiction
      | exact trivial
      | rfl
      | omega
      | exact (bi1 (by omega)).symm
      | exact (bi0 (by omega)).symm
      | exact (bi1 (by assumption)).symm
      | exact (bi0 (by assumption)).symm
      | exact ⟨_, rfl⟩
      | ((try unfold IN_); (repeat (first | rw [if_pos (by omega)] | rw [if_neg (by omega)])); done)
      | ((try unfold IN_); (repeat (first | rw [if_pos (by omega)] | rw [if_neg (by omega)])); rfl)
      | ((try unfold IN_); (repeat (first | rw [if_pos (by omega)] | rw [if_neg (by omega)] | rw [if_pos (by assumption)] | rw [if_neg (by assumption)])); rfl)
