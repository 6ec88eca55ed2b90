/-! the bus takes the fresh messages -/
def shF (τ : S_) (n : Nat) : S_ := fun o j => if o = 30 ∧ j < n then τ 30 (j + 1) else τ o j
def tkB (σ : S_) (i f : Int) : S_ :=
  if f = 0 ∨ σ 0 24 = 12 then jm_u2 (jm_u2 σ 0 35 (σ 0 35 + 1)) 0 36 (σ 0 36 + 1)
  else jm_u2 (jm_u2 (jm_u2 (jm_u2 (jm_u2 (jm_u2 σ 0 35 (σ 0 35 + 1)) 23 (σ 0 24).toNat (σ 27 i.toNat)) 24 (σ 0 24).toNat (σ 28 i.toNat)) 25 (σ 0 24).toNat (σ 29 i.toNat)) 26 (σ 0 24).toNat (σ 0 1 + f)) 0 24 (σ 0 24 + 1)
def tk1 (σ : S_) (i : Int) : S_ := if 0 < σ 0 33 then tkB (shF (jm_u2 σ 0 33 (σ 0 33 - 1)) (σ 0 33 - 1).toNat) i (σ 30 0) else tkB σ i 1
def tkN (σ : S_) : Nat → S_
  | 0 => σ
  | n + 1 => tk1 (tkN σ n) n
def sp_takes (σ : S_) : S_ := jm_u2 (tkN σ (σ 0 29).toNat) 0 29 0
theorem shF_r {τ : S_} {n o j : Nat} (h : ¬ o = 30) : shF τ n o j = τ o j := if_neg (fun q => h q.1)
theorem shF_0 (τ : S_) : shF τ 0 = τ := by
  funext o j
  exact if_neg (fun q => by omega)
theorem shF_s (τ : S_) {k : Int} (hk : 0 ≤ k) : jm_u2 (shF τ k.toNat) 30 k.toNat (shF τ k.toNat 30 (k + 1).toNat) = shF τ (k + 1).toNat := by
  funext o j
  rw [u2r]
  by_cases e : o = 30 ∧ j = k.toNat
  · obtain ⟨rfl, rfl⟩ := e
    rw [if_pos ⟨rfl, rfl⟩]
    show (if _ then _ else _) = (if _ then _ else _)
    rw [if_neg (by omega), if_pos ⟨rfl, by omega⟩, show (k + 1).toNat = k.toNat + 1 by omega]
  · rw [if_neg e]
    show (if _ then _ else _) = (if _ then _ else _)
    by_cases e2 : o = 30 ∧ j < k.toNat
    · rw [if_pos e2, if_pos ⟨e2.1, by omega⟩]
    · rw [if_neg e2, if_neg (by omega)]
theorem BB_shF {m f : Int} {τ : S_} (h : BB m f τ) (n : Nat) : BB m f (shF τ n) := by
  intro o j
  show rowOK m f o j (if _ then _ else _)
  split
  · rename_i e; rw [e.1]; exact h 30 (j + 1)
  · exact h o j
theorem tkB_0 {σ : S_} {i f : Int} {j : Nat} (h : j < 24 ∨ (24 < j ∧ j < 35) ∨ 36 < j) : tkB σ i f 0 j = σ 0 j := by
  unfold tkB
  split
  · simp only [u2r]; rw [if_neg (by omega), if_neg (by omega)]
  · simp only [u2r]; rw [if_neg (by omega), if_neg (by omega), if_neg (by omega), if_neg (by omega), if_neg (by omega), if_neg (by omega)]
theorem tkB_r {σ : S_} {i f : Int} {o j : Nat} (h : (0 < o ∧ o < 23) ∨ 26 < o) : tkB σ i f o j = σ o j := by
  unfold tkB
  split
  · simp only [u2r]; rw [if_neg (by omega), if_neg (by omega)]
  · simp only [u2r]; rw [if_neg (by omega), if_neg (by omega), if_neg (by omega), if_neg (by omega), if_neg (by omega), if_neg (by omega)]
theorem tk1_0 {σ : S_} {i : Int} {j : Nat} (h : j < 24 ∨ (24 < j ∧ j < 33) ∨ 36 < j) : tk1 σ i 0 j = σ 0 j := by
  unfold tk1
  split
  · rw [tkB_0 (by omega), shF_r (by decide), u2r, if_neg (by omega)]
  · exact tkB_0 (by omega)
theorem tk1_r {σ : S_} {i : Int} {o j : Nat} (h : (0 < o ∧ o < 23) ∨ (26 < o ∧ o < 30)) : tk1 σ i o j = σ o j := by
  unfold tk1
  split
  · rw [tkB_r (by omega), shF_r (by omega), u2r, if_neg (by omega)]
  · exact tkB_r (by omega)
theorem tkN_0 {σ : S_} {j : Nat} (h : j < 24 ∨ (24 < j ∧ j < 33) ∨ 36 < j) : ∀ n, tkN σ n 0 j = σ 0 j := by
  intro n
  induction n with
  | zero => rfl
  | succ n ih => exact (tk1_0 h).trans ih
theorem tkN_r {σ : S_} {o j : Nat} (h : (0 < o ∧ o < 23) ∨ (26 < o ∧ o < 30)) : ∀ n, tkN σ n o j = σ o j := by
  intro n
  induction n with
  | zero => rfl
  | succ n ih => exact (tk1_r h).trans ih
theorem BB_tkB {m f : Int} {σ : S_} (h : BB m f σ) (i : Int) {g : Int} (hg0 : 0 ≤ g) (hg1 : g ≤ 30) : BB m f (tkB σ i g) := by
  have b1 : 0 ≤ σ 0 1 ∧ σ 0 1 ≤ 600000 := h 0 1
  have b2 : 0 ≤ σ 0 24 ∧ σ 0 24 ≤ 12 := h 0 24
  unfold tkB
  have u1 : BB m f (jm_u2 σ 0 35 (σ 0 35 + 1)) := BB_u h trivial
  split
  · exact BB_u u1 trivial
  · have u2 : BB m f (jm_u2 (jm_u2 σ 0 35 (σ 0 35 + 1)) 23 (σ 0 24).toNat (σ 27 i.toNat)) := BB_u u1 (h 27 _)
    have u3 : BB m f (jm_u2 (jm_u2 (jm_u2 σ 0 35 (σ 0 35 + 1)) 23 (σ 0 24).toNat (σ 27 i.toNat)) 24 (σ 0 24).toNat (σ 28 i.toNat)) := BB_u u2 (h 28 _)
    have u4 : BB m f (jm_u2 (jm_u2 (jm_u2 (jm_u2 σ 0 35 (σ 0 35 + 1)) 23 (σ 0 24).toNat (σ 27 i.toNat)) 24 (σ 0 24).toNat (σ 28 i.toNat)) 25 (σ 0 24).toNat (σ 29 i.toNat)) := BB_u u3 (h 29 _)
    exact BB_u (BB_u u4 (show rowOK m f 26 _ (σ 0 1 + g) from ⟨by omega, by omega⟩)) (show rowOK m f 0 24 (σ 0 24 + 1) from ⟨by omega, by omega⟩)
theorem BB_tk1 {m f : Int} {σ : S_} (h : BB m f σ) (i : Int) : BB m f (tk1 σ i) := by
  have b1 : 0 ≤ σ 0 33 ∧ σ 0 33 ≤ 100 := h 0 33
  have b2 : 0 ≤ σ 30 0 ∧ σ 30 0 ≤ 30 := h 30 0
  unfold tk1
  split
  · exact BB_tkB (BB_shF (BB_u h (show rowOK m f 0 33 (σ 0 33 - 1) from ⟨by omega, by omega⟩)) _) i b2.1 b2.2
  · exact BB_tkB h i (by decide) (by decide)
theorem BB_tkN {m f : Int} {σ : S_} (h : BB m f σ) : ∀ n, BB m f (tkN σ n) := by
  intro n
  induction n with
  | zero => exact h
  | succ n ih => exact BB_tk1 ih _
def Iv_m_takes (h : jm_H) (am : Nat) (σ : S_) : Nat → Nat → List (Option jm_V) → List jm_V → jm_H → Nat → Nat → Prop := fun kq pc L st h' ce sl =>
  (pc = 2 ∧ ∃ (i : Int) (x2 : Option jm_V) (x3 : Option jm_V) (τ : S_), L = [some (.inr (.inl (some am))), some (.inl (Int32.ofInt (i))), x2, x3] ∧ st = [] ∧ h' = mo h am τ ∧ ce = 0 ∧ sl = 0 ∧ kq = (200 * (σ 0 29 - i)).toNat ∧ (0 ≤ i ∧ i ≤ σ 0 29 ∧ τ = tkN σ i.toNat)) ∨
  (pc = 38 ∧ ∃ (i : Int) (g : Int) (k : Int) (υ : S_) (τ : S_), L = [some (.inr (.inl (some am))), some (.inl (Int32.ofInt (i))), some (.inl (Int32.ofInt (g))), some (.inl (Int32.ofInt (k)))] ∧ st = [] ∧ h' = mo h am υ ∧ ce = 0 ∧ sl = 0 ∧ kq = (200 * (σ 0 29 - i) - 1 - k).toNat ∧ (0 ≤ i ∧ i < σ 0 29 ∧ (0 ≤ k ∧ k ≤ τ 0 33 - 1) ∧ 0 < τ 0 33 ∧ g = τ 30 0 ∧ τ = tkN σ i.toNat ∧ υ = shF (jm_u2 τ 0 33 (τ 0 33 - 1)) k.toNat))
set_option maxRecDepth 100000 in
set_option maxHeartbeats 4000000 in
theorem m_takes (B : jm_B) (l : Launch) (h : jm_H) (am : Nat) (σ : S_) (H : RM B am h) {m f : Int} (hB : BB m f σ) (hm : m ≤ 6000000) (hf : f ≤ 95) : jm_Ct gG B l (gm 78) [.inr (.inl (some am))] (mo h am σ) (fun v h' => h' = mo h am (sp_takes σ)) := by
  show jm_Ct gG B l M_Mod_takes _ _ _
  refine jm_CL (code := k_Mod_takes) (Or.inl (by decide)) (by decide) v_Mod_takes rfl (Nat.le_of_ble_eq_true rfl) [some (.inr (.inl (some am))), none, none, none] rfl rfl (Iv_m_takes h am σ) ?_ ⟨111, ?_⟩
  · intro k pc L st h' ce sl hI
    rcases hI with ⟨rfl, i, x2, x3, τ, rfl, rfl, rfl, rfl, rfl, rfl, hc⟩ | ⟨rfl, i, g, k, υ, τ, rfl, rfl, rfl, rfl, rfl, rfl, hc⟩
    · refine ⟨111, 2, ⟨_, _, rfl, rfl⟩, ?_⟩
      have a1 : 0 ≤ σ 0 29 ∧ σ 0 29 ≤ f := hB 0 29
      obtain ⟨k1, k2, k3⟩ := hc
      have rb : BB m f τ := by rw [k3]; exact BB_tkN hB _
      have c0 : τ 0 29 = σ 0 29 := by rw [k3]; exact tkN_0 (by omega) _
      have c1 : 0 ≤ τ 0 24 ∧ τ 0 24 ≤ 12 := rb 0 24
      have c2 : 0 ≤ τ 0 1 ∧ τ 0 1 ≤ 600000 := rb 0 1
      have c3 : 0 ≤ τ 0 33 ∧ τ 0 33 ≤ 100 := rb 0 33
      have c4 : 0 ≤ τ 30 0 ∧ τ 30 0 ≤ 30 := rb 30 0
      have D1 : Unit → ((1 : Int) = 0 ∨ τ 0 24 = 12) → tkB τ i 1 = jm_u2 (jm_u2 τ 0 35 (τ 0 35 + 1)) 0 36 (τ 0 36 + 1) := fun _ q => if_pos q
      have D2 : Unit → ¬ ((1 : Int) = 0 ∨ τ 0 24 = 12) → tkB τ i 1 = jm_u2 (jm_u2 (jm_u2 (jm_u2 (jm_u2 (jm_u2 τ 0 35 (τ 0 35 + 1)) 23 (τ 0 24).toNat (τ 27 i.toNat)) 24 (τ 0 24).toNat (τ 28 i.toNat)) 25 (τ 0 24).toNat (τ 29 i.toNat)) 26 (τ 0 24).toNat (τ 0 1 + 1)) 0 24 (τ 0 24 + 1) := fun _ q => if_neg q
      have NX : ∀ X, tkB τ i 1 = X → ¬ 0 < τ 0 33 → X = tkN σ (i + 1).toNat := fun X q1 q2 => by
        rw [← q1, show (i + 1).toNat = i.toNat + 1 by omega]
        show _ = tk1 (tkN σ i.toNat) ((i.toNat : Nat) : Int)
        rw [← k3, show ((i.toNat : Nat) : Int) = i by omega]
        exact (if_neg q2).symm
      have ZZ : jm_u2 τ 0 33 (τ 0 33 - 1) = shF (jm_u2 τ 0 33 (τ 0 33 - 1)) (0 : Int).toNat := (shF_0 _).symm
      have X3 : Unit → σ 0 29 ≤ i → jm_u2 τ 0 29 0 = sp_takes σ := fun _ q => by
        unfold sp_takes
        rw [k3, show i = σ 0 29 by omega]
      have k4 := k3
      clear k3
      simp (disch := omega) only [e_Mod_takes_0, e_Mod_takes_1, c_Mod_takes_2, e_Mod_takes_2, e_Mod_takes_3, e_Mod_takes_4, e_Mod_takes_5, e_Mod_takes_6, e_Mod_takes_7, e_Mod_takes_8, e_Mod_takes_9, e_Mod_takes_10, e_Mod_takes_11, e_Mod_takes_12, e_Mod_takes_13, e_Mod_takes_14, e_Mod_takes_15, e_Mod_takes_16, e_Mod_takes_17a, e_Mod_takes_17b, e_Mod_takes_18, e_Mod_takes_19, e_Mod_takes_20, e_Mod_takes_21, e_Mod_takes_22, e_Mod_takes_23, c_Mod_takes_24, e_Mod_takes_24, e_Mod_takes_25, e_Mod_takes_26, e_Mod_takes_27, e_Mod_takes_28, e_Mod_takes_29, e_Mod_takes_30, e_Mod_takes_31, e_Mod_takes_32, e_Mod_takes_33, e_Mod_takes_34, e_Mod_takes_35, e_Mod_takes_36, e_Mod_takes_37, e_Mod_takes_38, e_Mod_takes_39, e_Mod_takes_40, e_Mod_takes_41a, e_Mod_takes_41b, e_Mod_takes_42, e_Mod_takes_43, e_Mod_takes_44, e_Mod_takes_45, e_Mod_takes_46, e_Mod_takes_47, e_Mod_takes_48, e_Mod_takes_49, e_Mod_takes_50, e_Mod_takes_51, e_Mod_takes_52, e_Mod_takes_53a, e_Mod_takes_53b, e_Mod_takes_54, e_Mod_takes_55, e_Mod_takes_56, e_Mod_takes_57, e_Mod_takes_58, e_Mod_takes_59, e_Mod_takes_60, e_Mod_takes_61, e_Mod_takes_62, e_Mod_takes_63, e_Mod_takes_64, e_Mod_takes_65, e_Mod_takes_66, e_Mod_takes_67, e_Mod_takes_68, e_Mod_takes_69, e_Mod_takes_70, e_Mod_takes_71, e_Mod_takes_72, e_Mod_takes_73, e_Mod_takes_74, e_Mod_takes_75, e_Mod_takes_76, e_Mod_takes_77, e_Mod_takes_78, e_Mod_takes_79, e_Mod_takes_80, e_Mod_takes_81, e_Mod_takes_82, e_Mod_takes_83, e_Mod_takes_84, e_Mod_takes_85, e_Mod_takes_86, e_Mod_takes_87, e_Mod_takes_88, e_Mod_takes_89, e_Mod_takes_90, e_Mod_takes_91, e_Mod_takes_92, e_Mod_takes_93, e_Mod_takes_94, e_Mod_takes_95, e_Mod_takes_96a, e_Mod_takes_96b, e_Mod_takes_97, e_Mod_takes_98, e_Mod_takes_99, e_Mod_takes_100, e_Mod_takes_101, e_Mod_takes_102, e_Mod_takes_103, e_Mod_takes_104, e_Mod_takes_105, e_Mod_takes_106, jm_ia, jm_na, jm_qa, jm_aa, jm_asg, jm_l4, jm_Kr, jm_okv, jm_rc, jm_bo, true_and, and_true, Nat.add_zero, Nat.le_refl, j_lt, j_le, j_eq, j_lt0, j_0lt, j_le0, j_0le, j_eq0, j_add, j_sub, j_mul, j_neg, j_0sub, j_nat, j_in, j_div, j_rem, Sum.inl.injEq, exists_eq', true_or, or_true, if_true, if_false, not_true_eq_false, not_false_eq_true, implies_true, j_eq1, reduceIte, Nat.reduceEqDiff, Int.reduceEq, Int.reduceToNat, Nat.reduceAdd, Int.reduceAdd, Int.reduceSub, Int.reduceMul, Int.reduceNeg, and_false, false_and, and_self, u2r, j_b0, j_b1, Classical.not_not, eq_self, true_implies, false_implies, not_true_eq_false, not_false_eq_true, Int.reduceLT, Int.reduceLE, rk H, mi0, ms0, rs2 H, rs3 H, rr1 H, ra1 H, rr2 H, ra2 H, rr3 H, ra3 H, rr4 H, ra4 H, rr5 H, ra5 H, rr6 H, ra6 H, rr7 H, ra7 H, rr8 H, ra8 H, rr9 H, ra9 H, rr10 H, ra10 H, rr11 H, ra11 H, rr12 H, ra12 H, rr13 H, ra13 H, rr14 H, ra14 H, rr15 H, ra15 H, rr16 H, ra16 H, rr17 H, ra17 H, rr18 H, ra18 H, rr19 H, ra19 H, rr20 H, ra20 H, rr21 H, ra21 H, rr22 H, ra22 H, rr23 H, ra23 H, rr24 H, ra24 H, rr25 H, ra25 H, rr26 H, ra26 H, rr27 H, ra27 H, rr28 H, ra28 H, rr29 H, ra29 H, rr30 H, ra30 H, mia, msa, ri2 H, ri3 H]
      repeat' first
        | apply And.intro
        | (intro _)
      all_goals (try simp (disch := omega) only [j_nat, j_lt, j_eq, j_le, msa, Sum.inl.injEq] at *)
      all_goals first
        | (refine ⟨_, ?_, Or.inl (⟨rfl, _, _, _, _, rfl, rfl, rfl, rfl, rfl, rfl, ?_⟩)⟩ <;> first | omega | exact ⟨by omega, by omega, E5⟩ | exact ⟨by omega, by omega, NX _ (D1 () (by omega)) (by omega)⟩ | exact ⟨by omega, by omega, NX _ (D2 () (by omega)) (by omega)⟩ | exact ⟨by omega, by omega, ⟨by omega, by omega⟩, by omega, rfl, k4, ZZ⟩ | exact ⟨by omega, by omega, ⟨by omega, by omega⟩, by omega, k6, k9, SH⟩)
        | (refine ⟨_, Or.inl (⟨rfl, _, _, _, _, rfl, rfl, rfl, rfl, rfl, rfl, ?_⟩) ⟩ <;> first | omega | exact ⟨by omega, by omega, E5⟩ | exact ⟨by omega, by omega, NX _ (D1 () (by omega)) (by omega)⟩ | exact ⟨by omega, by omega, NX _ (D2 () (by omega)) (by omega)⟩ | exact ⟨by omega, by omega, ⟨by omega, by omega⟩, by omega, rfl, k4, ZZ⟩ | exact ⟨by omega, by omega, ⟨by omega, by omega⟩, by omega, k6, k9, SH⟩)
        | (refine ⟨_, ?_, Or.inr (⟨rfl, _, _, _, _, τ, rfl, rfl, rfl, rfl, rfl, rfl, ?_⟩)⟩ <;> first | omega | exact ⟨by omega, by omega, E5⟩ | exact ⟨by omega, by omega, NX _ (D1 () (by omega)) (by omega)⟩ | exact ⟨by omega, by omega, NX _ (D2 () (by omega)) (by omega)⟩ | exact ⟨by omega, by omega, ⟨by omega, by omega⟩, by omega, rfl, k4, ZZ⟩ | exact ⟨by omega, by omega, ⟨by omega, by omega⟩, by omega, k6, k9, SH⟩)
        | (refine ⟨_, Or.inr (⟨rfl, _, _, _, _, τ, rfl, rfl, rfl, rfl, rfl, rfl, ?_⟩) ⟩ <;> first | omega | exact ⟨by omega, by omega, E5⟩ | exact ⟨by omega, by omega, NX _ (D1 () (by omega)) (by omega)⟩ | exact ⟨by omega, by omega, NX _ (D2 () (by omega)) (by omega)⟩ | exact ⟨by omega, by omega, ⟨by omega, by omega⟩, by omega, rfl, k4, ZZ⟩ | exact ⟨by omega, by omega, ⟨by omega, by omega⟩, by omega, k6, k9, SH⟩)
        | contradiction
        | exact trivial
        | rfl
        | omega
        | exact (bi1 (by omega)).symm
        | exact (bi0 (by omega)).symm
        | exact (bi1 (by assumption)).symm
        | exact (bi0 (by assumption)).symm
        | (rw [X3 () (by omega)]; done)
        | ((try unfold IN_); (repeat (first | rw [if_pos (by omega)] | rw [if_neg (by omega)])); done)
        | ((try unfold IN_); (repeat (first | rw [if_pos (by omega)] | rw [if_neg (by omega)])); rfl)
        | ((try unfold IN_); (repeat (first | rw [if_pos (by omega)] | rw [if_neg (by omega)] | rw [if_pos (by assumption)] | rw [if_neg (by assumption)])); rfl)
    · refine ⟨111, 24, ⟨_, _, rfl, rfl⟩, ?_⟩
      have a1 : 0 ≤ σ 0 29 ∧ σ 0 29 ≤ f := hB 0 29
      obtain ⟨k1, k2, ⟨k3, k4⟩, k5, k6, k7, k8⟩ := hc
      have rb0 : BB m f τ := by rw [k7]; exact BB_tkN hB _
      have d3 : 0 ≤ τ 0 33 ∧ τ 0 33 ≤ 100 := rb0 0 33
      have d4 : 0 ≤ τ 30 0 ∧ τ 30 0 ≤ 30 := rb0 30 0
      have rb : BB m f υ := by rw [k8]; exact BB_shF (BB_u rb0 (show rowOK m f 0 33 (τ 0 33 - 1) from ⟨by omega, by omega⟩)) _
      have c0 : υ 0 29 = σ 0 29 := by rw [k8, shF_r (by decide), u2r, if_neg (by decide), k7]; exact tkN_0 (by omega) _
      have c5 : υ 0 33 = τ 0 33 - 1 := by rw [k8, shF_r (by decide), u2r, if_pos ⟨rfl, rfl⟩]
      have c1 : 0 ≤ υ 0 24 ∧ υ 0 24 ≤ 12 := rb 0 24
      have c2 : 0 ≤ υ 0 1 ∧ υ 0 1 ≤ 600000 := rb 0 1
      have c3 : 0 ≤ υ 0 33 ∧ υ 0 33 ≤ 100 := rb 0 33
      have c4 : 0 ≤ υ 30 0 ∧ υ 30 0 ≤ 30 := rb 30 0
      have D1 : Unit → ((g : Int) = 0 ∨ υ 0 24 = 12) → tkB υ i g = jm_u2 (jm_u2 υ 0 35 (υ 0 35 + 1)) 0 36 (υ 0 36 + 1) := fun _ q => if_pos q
      have D2 : Unit → ¬ ((g : Int) = 0 ∨ υ 0 24 = 12) → tkB υ i g = jm_u2 (jm_u2 (jm_u2 (jm_u2 (jm_u2 (jm_u2 υ 0 35 (υ 0 35 + 1)) 23 (υ 0 24).toNat (υ 27 i.toNat)) 24 (υ 0 24).toNat (υ 28 i.toNat)) 25 (υ 0 24).toNat (υ 29 i.toNat)) 26 (υ 0 24).toNat (υ 0 1 + g)) 0 24 (υ 0 24 + 1) := fun _ q => if_neg q
      have NX : ∀ X, tkB υ i g = X → τ 0 33 - 1 ≤ k → X = tkN σ (i + 1).toNat := fun X q1 q2 => by
        rw [← q1, show (i + 1).toNat = i.toNat + 1 by omega]
        show _ = tk1 (tkN σ i.toNat) ((i.toNat : Nat) : Int)
        rw [← k7, show ((i.toNat : Nat) : Int) = i by omega]
        unfold tk1
        rw [if_pos (by omega), k8, k6, show k = τ 0 33 - 1 by omega]
      have SH : jm_u2 υ 30 k.toNat (υ 30 (k + 1).toNat) = shF (jm_u2 τ 0 33 (τ 0 33 - 1)) (k + 1).toNat := by rw [k8]; exact shF_s _ k3
      have k9 := k7
      clear k7 k8
      simp (disch := omega) only [e_Mod_takes_0, e_Mod_takes_1, c_Mod_takes_2, e_Mod_takes_2, e_Mod_takes_3, e_Mod_takes_4, e_Mod_takes_5, e_Mod_takes_6, e_Mod_takes_7, e_Mod_takes_8, e_Mod_takes_9, e_Mod_takes_10, e_Mod_takes_11, e_Mod_takes_12, e_Mod_takes_13, e_Mod_takes_14, e_Mod_takes_15, e_Mod_takes_16, e_Mod_takes_17a, e_Mod_takes_17b, e_Mod_takes_18, e_Mod_takes_19, e_Mod_takes_20, e_Mod_takes_21, e_Mod_takes_22, e_Mod_takes_23, c_Mod_takes_24, e_Mod_takes_24, e_Mod_takes_25, e_Mod_takes_26, e_Mod_takes_27, e_Mod_takes_28, e_Mod_takes_29, e_Mod_takes_30, e_Mod_takes_31, e_Mod_takes_32, e_Mod_takes_33, e_Mod_takes_34, e_Mod_takes_35, e_Mod_takes_36, e_Mod_takes_37, e_Mod_takes_38, e_Mod_takes_39, e_Mod_takes_40, e_Mod_takes_41a, e_Mod_takes_41b, e_Mod_takes_42, e_Mod_takes_43, e_Mod_takes_44, e_Mod_takes_45, e_Mod_takes_46, e_Mod_takes_47, e_Mod_takes_48, e_Mod_takes_49, e_Mod_takes_50, e_Mod_takes_51, e_Mod_takes_52, e_Mod_takes_53a, e_Mod_takes_53b, e_Mod_takes_54, e_Mod_takes_55, e_Mod_takes_56, e_Mod_takes_57, e_Mod_takes_58, e_Mod_takes_59, e_Mod_takes_60, e_Mod_takes_61, e_Mod_takes_62, e_Mod_takes_63, e_Mod_takes_64, e_Mod_takes_65, e_Mod_takes_66, e_Mod_takes_67, e_Mod_takes_68, e_Mod_takes_69, e_Mod_takes_70, e_Mod_takes_71, e_Mod_takes_72, e_Mod_takes_73, e_Mod_takes_74, e_Mod_takes_75, e_Mod_takes_76, e_Mod_takes_77, e_Mod_takes_78, e_Mod_takes_79, e_Mod_takes_80, e_Mod_takes_81, e_Mod_takes_82, e_Mod_takes_83, e_Mod_takes_84, e_Mod_takes_85, e_Mod_takes_86, e_Mod_takes_87, e_Mod_takes_88, e_Mod_takes_89, e_Mod_takes_90, e_Mod_takes_91, e_Mod_takes_92, e_Mod_takes_93, e_Mod_takes_94, e_Mod_takes_95, e_Mod_takes_96a, e_Mod_takes_96b, e_Mod_takes_97, e_Mod_takes_98, e_Mod_takes_99, e_Mod_takes_100, e_Mod_takes_101, e_Mod_takes_102, e_Mod_takes_103, e_Mod_takes_104, e_Mod_takes_105, e_Mod_takes_106, jm_ia, jm_na, jm_qa, jm_aa, jm_asg, jm_l4, jm_Kr, jm_okv, jm_rc, jm_bo, true_and, and_true, Nat.add_zero, Nat.le_refl, j_lt, j_le, j_eq, j_lt0, j_0lt, j_le0, j_0le, j_eq0, j_add, j_sub, j_mul, j_neg, j_0sub, j_nat, j_in, j_div, j_rem, Sum.inl.injEq, exists_eq', true_or, or_true, if_true, if_false, not_true_eq_false, not_false_eq_true, implies_true, j_eq1, reduceIte, Nat.reduceEqDiff, Int.reduceEq, Int.reduceToNat, Nat.reduceAdd, Int.reduceAdd, Int.reduceSub, Int.reduceMul, Int.reduceNeg, and_false, false_and, and_self, u2r, j_b0, j_b1, Classical.not_not, eq_self, true_implies, false_implies, not_true_eq_false, not_false_eq_true, Int.reduceLT, Int.reduceLE, rk H, mi0, ms0, rs2 H, rs3 H, rr1 H, ra1 H, rr2 H, ra2 H, rr3 H, ra3 H, rr4 H, ra4 H, rr5 H, ra5 H, rr6 H, ra6 H, rr7 H, ra7 H, rr8 H, ra8 H, rr9 H, ra9 H, rr10 H, ra10 H, rr11 H, ra11 H, rr12 H, ra12 H, rr13 H, ra13 H, rr14 H, ra14 H, rr15 H, ra15 H, rr16 H, ra16 H, rr17 H, ra17 H, rr18 H, ra18 H, rr19 H, ra19 H, rr20 H, ra20 H, rr21 H, ra21 H, rr22 H, ra22 H, rr23 H, ra23 H, rr24 H, ra24 H, rr25 H, ra25 H, rr26 H, ra26 H, rr27 H, ra27 H, rr28 H, ra28 H, rr29 H, ra29 H, rr30 H, ra30 H, mia, msa, ri2 H, ri3 H]
      repeat' first
        | apply And.intro
        | (intro _)
      all_goals (try simp (disch := omega) only [j_nat, j_lt, j_eq, j_le, msa, Sum.inl.injEq] at *)
      all_goals first
        | (refine ⟨_, ?_, Or.inl (⟨rfl, _, _, _, _, rfl, rfl, rfl, rfl, rfl, rfl, ?_⟩)⟩ <;> first | omega | exact ⟨by omega, by omega, E5⟩ | exact ⟨by omega, by omega, NX _ (D1 () (by omega)) (by omega)⟩ | exact ⟨by omega, by omega, NX _ (D2 () (by omega)) (by omega)⟩ | exact ⟨by omega, by omega, ⟨by omega, by omega⟩, by omega, rfl, k4, ZZ⟩ | exact ⟨by omega, by omega, ⟨by omega, by omega⟩, by omega, k6, k9, SH⟩)
        | (refine ⟨_, Or.inl (⟨rfl, _, _, _, _, rfl, rfl, rfl, rfl, rfl, rfl, ?_⟩) ⟩ <;> first | omega | exact ⟨by omega, by omega, E5⟩ | exact ⟨by omega, by omega, NX _ (D1 () (by omega)) (by omega)⟩ | exact ⟨by omega, by omega, NX _ (D2 () (by omega)) (by omega)⟩ | exact ⟨by omega, by omega, ⟨by omega, by omega⟩, by omega, rfl, k4, ZZ⟩ | exact ⟨by omega, by omega, ⟨by omega, by omega⟩, by omega, k6, k9, SH⟩)
        | (refine ⟨_, ?_, Or.inr (⟨rfl, _, _, _, _, τ, rfl, rfl, rfl, rfl, rfl, rfl, ?_⟩)⟩ <;> first | omega | exact ⟨by omega, by omega, E5⟩ | exact ⟨by omega, by omega, NX _ (D1 () (by omega)) (by omega)⟩ | exact ⟨by omega, by omega, NX _ (D2 () (by omega)) (by omega)⟩ | exact ⟨by omega, by omega, ⟨by omega, by omega⟩, by omega, rfl, k4, ZZ⟩ | exact ⟨by omega, by omega, ⟨by omega, by omega⟩, by omega, k6, k9, SH⟩)
        | (refine ⟨_, Or.inr (⟨rfl, _, _, _, _, τ, rfl, rfl, rfl, rfl, rfl, rfl, ?_⟩) ⟩ <;> first | omega | exact ⟨by omega, by omega, E5⟩ | exact ⟨by omega, by omega, NX _ (D1 () (by omega)) (by omega)⟩ | exact ⟨by omega, by omega, NX _ (D2 () (by omega)) (by omega)⟩ | exact ⟨by omega, by omega, ⟨by omega, by omega⟩, by omega, rfl, k4, ZZ⟩ | exact ⟨by omega, by omega, ⟨by omega, by omega⟩, by omega, k6, k9, SH⟩)
        | contradiction
        | exact trivial
        | rfl
        | omega
        | exact (bi1 (by omega)).symm
        | exact (bi0 (by omega)).symm
        | exact (bi1 (by assumption)).symm
        | exact (bi0 (by assumption)).symm
        | (rw [X3 () (by omega)]; done)
        | ((try unfold IN_); (repeat (first | rw [if_pos (by omega)] | rw [if_neg (by omega)])); done)
        | ((try unfold IN_); (repeat (first | rw [if_pos (by omega)] | rw [if_neg (by omega)])); rfl)
        | ((try unfold IN_); (repeat (first | rw [if_pos (by omega)] | rw [if_neg (by omega)] | rw [if_pos (by assumption)] | rw [if_neg (by assumption)])); rfl)
  · have a1 : 0 ≤ σ 0 29 ∧ σ 0 29 ≤ f := hB 0 29
    have E5 : σ = tkN σ (0 : Int).toNat := rfl
    simp (disch := omega) only [e_Mod_takes_0, e_Mod_takes_1, c_Mod_takes_2, e_Mod_takes_2, e_Mod_takes_3, e_Mod_takes_4, e_Mod_takes_5, e_Mod_takes_6, e_Mod_takes_7, e_Mod_takes_8, e_Mod_takes_9, e_Mod_takes_10, e_Mod_takes_11, e_Mod_takes_12, e_Mod_takes_13, e_Mod_takes_14, e_Mod_takes_15, e_Mod_takes_16, e_Mod_takes_17a, e_Mod_takes_17b, e_Mod_takes_18, e_Mod_takes_19, e_Mod_takes_20, e_Mod_takes_21, e_Mod_takes_22, e_Mod_takes_23, c_Mod_takes_24, e_Mod_takes_24, e_Mod_takes_25, e_Mod_takes_26, e_Mod_takes_27, e_Mod_takes_28, e_Mod_takes_29, e_Mod_takes_30, e_Mod_takes_31, e_Mod_takes_32, e_Mod_takes_33, e_Mod_takes_34, e_Mod_takes_35, e_Mod_takes_36, e_Mod_takes_37, e_Mod_takes_38, e_Mod_takes_39, e_Mod_takes_40, e_Mod_takes_41a, e_Mod_takes_41b, e_Mod_takes_42, e_Mod_takes_43, e_Mod_takes_44, e_Mod_takes_45, e_Mod_takes_46, e_Mod_takes_47, e_Mod_takes_48, e_Mod_takes_49, e_Mod_takes_50, e_Mod_takes_51, e_Mod_takes_52, e_Mod_takes_53a, e_Mod_takes_53b, e_Mod_takes_54, e_Mod_takes_55, e_Mod_takes_56, e_Mod_takes_57, e_Mod_takes_58, e_Mod_takes_59, e_Mod_takes_60, e_Mod_takes_61, e_Mod_takes_62, e_Mod_takes_63, e_Mod_takes_64, e_Mod_takes_65, e_Mod_takes_66, e_Mod_takes_67, e_Mod_takes_68, e_Mod_takes_69, e_Mod_takes_70, e_Mod_takes_71, e_Mod_takes_72, e_Mod_takes_73, e_Mod_takes_74, e_Mod_takes_75, e_Mod_takes_76, e_Mod_takes_77, e_Mod_takes_78, e_Mod_takes_79, e_Mod_takes_80, e_Mod_takes_81, e_Mod_takes_82, e_Mod_takes_83, e_Mod_takes_84, e_Mod_takes_85, e_Mod_takes_86, e_Mod_takes_87, e_Mod_takes_88, e_Mod_takes_89, e_Mod_takes_90, e_Mod_takes_91, e_Mod_takes_92, e_Mod_takes_93, e_Mod_takes_94, e_Mod_takes_95, e_Mod_takes_96a, e_Mod_takes_96b, e_Mod_takes_97, e_Mod_takes_98, e_Mod_takes_99, e_Mod_takes_100, e_Mod_takes_101, e_Mod_takes_102, e_Mod_takes_103, e_Mod_takes_104, e_Mod_takes_105, e_Mod_takes_106, jm_ia, jm_na, jm_qa, jm_aa, jm_asg, jm_l4, jm_Kr, jm_okv, jm_rc, jm_bo, true_and, and_true, Nat.add_zero, Nat.le_refl, j_lt, j_le, j_eq, j_lt0, j_0lt, j_le0, j_0le, j_eq0, j_add, j_sub, j_mul, j_neg, j_0sub, j_nat, j_in, j_div, j_rem, Sum.inl.injEq, exists_eq', true_or, or_true, if_true, if_false, not_true_eq_false, not_false_eq_true, implies_true, j_eq1, reduceIte, Nat.reduceEqDiff, Int.reduceEq, Int.reduceToNat, Nat.reduceAdd, Int.reduceAdd, Int.reduceSub, Int.reduceMul, Int.reduceNeg, and_false, false_and, and_self, u2r, j_b0, j_b1, Classical.not_not, eq_self, true_implies, false_implies, not_true_eq_false, not_false_eq_true, Int.reduceLT, Int.reduceLE, rk H, mi0, ms0, rs2 H, rs3 H, rr1 H, ra1 H, rr2 H, ra2 H, rr3 H, ra3 H, rr4 H, ra4 H, rr5 H, ra5 H, rr6 H, ra6 H, rr7 H, ra7 H, rr8 H, ra8 H, rr9 H, ra9 H, rr10 H, ra10 H, rr11 H, ra11 H, rr12 H, ra12 H, rr13 H, ra13 H, rr14 H, ra14 H, rr15 H, ra15 H, rr16 H, ra16 H, rr17 H, ra17 H, rr18 H, ra18 H, rr19 H, ra19 H, rr20 H, ra20 H, rr21 H, ra21 H, rr22 H, ra22 H, rr23 H, ra23 H, rr24 H, ra24 H, rr25 H, ra25 H, rr26 H, ra26 H, rr27 H, ra27 H, rr28 H, ra28 H, rr29 H, ra29 H, rr30 H, ra30 H, mia, msa, ri2 H, ri3 H]
    repeat' first
      | apply And.intro
      | (intro _)
    all_goals (try simp (disch := omega) only [j_nat, j_lt, j_eq, j_le, msa, Sum.inl.injEq] at *)
    all_goals first
      | (refine ⟨_, ?_, Or.inl (⟨rfl, _, _, _, _, rfl, rfl, rfl, rfl, rfl, rfl, ?_⟩)⟩ <;> first | omega | exact ⟨by omega, by omega, E5⟩ | exact ⟨by omega, by omega, NX _ (D1 () (by omega)) (by omega)⟩ | exact ⟨by omega, by omega, NX _ (D2 () (by omega)) (by omega)⟩ | exact ⟨by omega, by omega, ⟨by omega, by omega⟩, by omega, rfl, k4, ZZ⟩ | exact ⟨by omega, by omega, ⟨by omega, by omega⟩, by omega, k6, k9, SH⟩)
      | (refine ⟨_, Or.inl (⟨rfl, _, _, _, _, rfl, rfl, rfl, rfl, rfl, rfl, ?_⟩) ⟩ <;> first | omega | exact ⟨by omega, by omega, E5⟩ | exact ⟨by omega, by omega, NX _ (D1 () (by omega)) (by omega)⟩ | exact ⟨by omega, by omega, NX _ (D2 () (by omega)) (by omega)⟩ | exact ⟨by omega, by omega, ⟨by omega, by omega⟩, by omega, rfl, k4, ZZ⟩ | exact ⟨by omega, by omega, ⟨by omega, by omega⟩, by omega, k6, k9, SH⟩)
      | (refine ⟨_, ?_, Or.inr (⟨rfl, _, _, _, _, τ, rfl, rfl, rfl, rfl, rfl, rfl, ?_⟩)⟩ <;> first | omega | exact ⟨by omega, by omega, E5⟩ | exact ⟨by omega, by omega, NX _ (D1 () (by omega)) (by omega)⟩ | exact ⟨by omega, by omega, NX _ (D2 () (by omega)) (by omega)⟩ | exact ⟨by omega, by omega, ⟨by omega, by omega⟩, by omega, rfl, k4, ZZ⟩ | exact ⟨by omega, by omega, ⟨by omega, by omega⟩, by omega, k6, k9, SH⟩)
      | (refine ⟨_, Or.inr (⟨rfl, _, _, _, _, τ, rfl, rfl, rfl, rfl, rfl, rfl, ?_⟩) ⟩ <;> first | omega | exact ⟨by omega, by omega, E5⟩ | exact ⟨by omega, by omega, NX _ (D1 () (by omega)) (by omega)⟩ | exact ⟨by omega, by omega, NX _ (D2 () (by omega)) (by omega)⟩ | exact ⟨by omega, by omega, ⟨by omega, by omega⟩, by omega, rfl, k4, ZZ⟩ | exact ⟨by omega, by omega, ⟨by omega, by omega⟩, by omega, k6, k9, SH⟩)
      | contradiction
      | exact trivial
      | rfl
      | omega
      | exact (bi1 (by omega)).symm
      | exact (bi0 (by omega)).symm
      | exact (bi1 (by assumption)).symm
      | exact (bi0 (by assumption)).symm
      | (rw [X3 () (by omega)]; done)
      | ((try unfold IN_); (repeat (first | rw [if_pos (by omega)] | rw [if_neg (by omega)])); done)
      | ((try unfold IN_); (repeat (first | rw [if_pos (by omega)] | rw [if_neg (by omega)])); rfl)
      | ((try unfold IN_); (repeat (first | rw [if_pos (by omega)] | rw [if_neg (by omega)] | rw [if_pos (by assumption)] | rw [if_neg (by assumption)])); rfl)
