/-- bounds: m of the serials, f of the fresh messages -/
def rowOK (m f : Int) (o j : Nat) (x : Int) : Prop := match o with
  | 0 => (match j with
    | 1 => 0 ≤ x ∧ x ≤ 600000
    | 24 => 0 ≤ x ∧ x ≤ 12
    | 29 => 0 ≤ x ∧ x ≤ f
    | 33 => 0 ≤ x ∧ x ≤ 100
    | _ => True)
  | 1 => 0 ≤ x ∧ x < 3600
  | 2 => -10 ≤ x ∧ x ≤ 10
  | 3 => 0 ≤ x ∧ x ≤ 6000
  | 4 => 0 ≤ x ∧ x ≤ 8000
  | 5 => 0 ≤ x ∧ x ≤ 1000
  | 6 => -20 ≤ x ∧ x ≤ 20
  | 7 => 0 ≤ x ∧ x ≤ 8
  | 8 => 0 ≤ x ∧ x ≤ 6000
  | 9 => 0 ≤ x ∧ x ≤ 1000
  | 10 => 0 ≤ x ∧ x ≤ 4
  | 11 => 0 ≤ x ∧ x < 3600
  | 12 => 0 ≤ x ∧ x < 3600
  | 13 => 0 ≤ x ∧ x ≤ 1
  | 14 => 0 ≤ x ∧ x < 3600
  | 15 => 0 ≤ x ∧ x < 3600
  | 16 => 0 ≤ x ∧ x ≤ 2
  | 17 => 0 ≤ x ∧ x ≤ m
  | 18 => 0 ≤ x ∧ x ≤ m
  | 19 => 0 ≤ x ∧ x ≤ 600000
  | 20 => 0 ≤ x ∧ x ≤ 3
  | 21 => 0 ≤ x ∧ x ≤ m
  | 22 => 0 ≤ x ∧ x ≤ 600000
  | 23 => 0 ≤ x ∧ x < 3
  | 24 => 0 ≤ x ∧ x ≤ 4
  | 25 => 0 ≤ x ∧ x ≤ m
  | 26 => 0 ≤ x ∧ x ≤ 600030
  | 27 => 0 ≤ x ∧ x < 3
  | 28 => 0 ≤ x ∧ x ≤ 4
  | 29 => 0 ≤ x ∧ x ≤ m
  | 30 => 0 ≤ x ∧ x ≤ 30
  | _ => True
def BB (m f : Int) (σ : S_) : Prop := ∀ o j, rowOK m f o j (σ o j)
theorem BB_u {m f : Int} {σ : S_} {o j : Nat} {v : Int} (h : BB m f σ) (hv : rowOK m f o j v) : BB m f (jm_u2 σ o j v) := by
  intro a b
  rw [u2r]
  split
  · rename_i e; obtain ⟨rfl, rfl⟩ := e; exact hv
  · exact h a b
theorem rowOK_le {m f m' f' : Int} (h1 : m ≤ m') (h2 : f ≤ f') {o j : Nat} {x : Int} (h : rowOK m f o j x) : rowOK m' f' o j x := by
  unfold rowOK at h ⊢
  split at h
  · split at h <;> first | exact trivial | exact h | exact ⟨h.1, Int.le_trans h.2 h2⟩
  all_goals first | exact trivial | exact h | exact ⟨h.1, Int.le_trans h.2 h1⟩
theorem BB_le {m f m' f' : Int} (h1 : m ≤ m') (h2 : f ≤ f') {σ : S_} (h : BB m f σ) : BB m' f' σ := fun o j => rowOK_le h1 h2 (h o j)
theorem BB_send {m f : Int} {σ : S_} (h : BB m f σ) {p k n : Int} (h1 : 0 ≤ p) (h2 : p < 3) (h3 : 0 ≤ k) (h4 : k ≤ 4) (h5 : 0 ≤ n) (h6 : n ≤ m) : BB m (f + 1) (sp_send σ p k n) := by
  have e : 0 ≤ σ 0 29 ∧ σ 0 29 ≤ f := h 0 29
  unfold sp_send
  refine BB_u (BB_u (BB_u (BB_u (BB_le (Int.le_refl m) (by omega) h) ?_) ?_) ?_) ?_
  · exact ⟨h1, h2⟩
  · exact ⟨h3, h4⟩
  · exact ⟨h5, h6⟩
  · exact ⟨by omega, by omega⟩
theorem Bq_of {m f : Int} {σ : S_} (h : BB m f σ) : Bq σ := ⟨fun j => h 1 j, fun j => h 13 j, fun j => h 14 j, fun j => h 15 j, fun j => h 16 j, fun j => h 20 j⟩
theorem snd_r {σ : S_} {p k n : Int} {o j : Nat} (h : (0 < o ∧ o < 27) ∨ 29 < o) : sp_send σ p k n o j = σ o j := by
  unfold sp_send
  simp (disch := omega) only [u2r]
  repeat rw [if_neg (by omega)]
theorem snd_0 {σ : S_} {p k n : Int} {j : Nat} (h : ¬ j = 29) : sp_send σ p k n 0 j = σ 0 j := by
  unfold sp_send
  simp (disch := omega) only [u2r]
  repeat rw [if_neg (by omega)]
theorem snd_f {σ : S_} {p k n : Int} : sp_send σ p k n 0 29 = σ 0 29 + 1 := by
  unfold sp_send
  rw [u2r, if_pos ⟨rfl, rfl⟩]
theorem fl01 {P : Prop} [Decidable P] {w : Int} (h : (if P then (1:Int) else 0) = w) : 0 ≤ w ∧ w ≤ 1 := by
  subst h; split <;> omega
theorem fl1 {P : Prop} [Decidable P] {w : Int} (h : (if P then (1:Int) else 0) = w) : w = 1 ↔ P := by
  subst h; split <;> rename_i e <;> simp [e]
/-- what the setting up leaves: sizes of arcs, radii that rise -/
def SS (σ : S_) : Prop := (∀ p, σ 13 p = 0 ∨ (1 ≤ σ 15 (2 * p) ∧ 1 ≤ σ 15 (2 * p + 1))) ∧ (∀ c k : Nat, c < 3 → (k : Int) < σ 10 c → 1 ≤ σ 12 (4 * c + k)) ∧ (∀ c i j : Nat, c < 3 → i < j → (j : Int) < σ 7 c → σ 8 (8 * c + i) < σ 8 (8 * c + j))
theorem SS1 {σ : S_} (h : SS σ) {p s : Int} (hp0 : 0 ≤ p) (hs0 : 0 ≤ s) (hs1 : s ≤ 1) (hsh : ¬ σ 13 p.toNat = 0) : 1 ≤ σ 15 (2 * p + s).toNat := by
  rcases h.1 p.toNat with e | e
  · exact absurd e hsh
  · rcases (show s = 0 ∨ s = 1 by omega) with rfl | rfl
    · rw [show (2 * p + 0).toNat = 2 * p.toNat by omega]; exact e.1
    · rw [show (2 * p + 1).toNat = 2 * p.toNat + 1 by omega]; exact e.2
theorem m_wW0 (B : jm_B) (l : Launch) (h : jm_H) (am : Nat) (σ : S_) (H : RM B am h) {m f : Int} (hB : BB m f σ) (hm : m ≤ 6000000) (hf : f ≤ 95) (p : Int) (hp0 : 0 ≤ p) (hp1 : p ≤ 2) (hS : SS σ) (hsh : ¬ σ 13 p.toNat = 0) {w : Int} (hw : (if wantX σ p (KP p.toNat) 0 then (1:Int) else 0) = w) : jm_Ct gG B l (gm 83) [.inr (.inl (some am)), .inl (Int32.ofInt p), .inl (Int32.ofInt (0))] (mo h am σ) (fun v h' => h' = mo h am σ ∧ v = .inl (Int32.ofInt w)) := by
  subst hw
  exact m_wants0 B l h am σ H (Bq_of hB) p hp0 hp1 (fun j => hB 6 j) (SS1 hS hp0 (by decide) (by decide) hsh) hsh
theorem m_iW0 (B : jm_B) (l : Launch) (h : jm_H) (am : Nat) (σ : S_) (H : RM B am h) {m f : Int} (hB : BB m f σ) (hm : m ≤ 6000000) (hf : f ≤ 95) (p : Int) (hp0 : 0 ≤ p) (hp1 : p ≤ 2) {w : Int} (hw : (if ¬ σ 13 p.toNat = 0 ∧ IN_ (σ 1 (KP p.toNat).toNat) (σ 14 (2 * p + 0).toNat) (σ 15 (2 * p + 0).toNat) then (1:Int) else 0) = w) : jm_Ct gG B l (gm 82) [.inr (.inl (some am)), .inl (Int32.ofInt p), .inl (Int32.ofInt (0))] (mo h am σ) (fun v h' => h' = mo h am σ ∧ v = .inl (Int32.ofInt w)) := by
  subst hw
  exact m_inShared0 B l h am σ H (Bq_of hB) p hp0 hp1
set_option maxRecDepth 100000 in
set_option maxHeartbeats 4000000 in
theorem m_gives0 (B : jm_B) (l : Launch) (h : jm_H) (am : Nat) (σ : S_) (H : RM B am h) {m f : Int} (hB : BB m f σ) (hm : m ≤ 6000000) (hf : f ≤ 95) (p : Int) (hp0 : 0 ≤ p) (hp1 : p ≤ 2) (hS : SS σ) (hsh : ¬ σ 13 p.toNat = 0) {w : Int} (hw : (if wantX σ p (KP p.toNat) 0 then (1:Int) else 0) = w) : jm_Ct gG B l (gm 84) [.inr (.inl (some am)), .inl (Int32.ofInt (p)), .inl (Int32.ofInt (0))] (mo h am σ) (fun v h' => h' = mo h am σ ∧ v = .inl (Int32.ofInt (if σ 2 (KP p.toNat).toNat = 0 ∧ w = 0 then 1 else 0))) := by
  show jm_Ct gG B l M_Mod_givesBack _ _ _
  refine jm_C0 (code := k_Mod_givesBack) (Or.inl (by decide)) (by decide) v_Mod_givesBack rfl (Nat.le_of_ble_eq_true rfl) [some (.inr (.inl (some am))), some (.inl (Int32.ofInt (p))), some (.inl (Int32.ofInt (0)))] rfl rfl ⟨31, ?_⟩
  have kb := KPb p.toNat
  have b1 : -10 ≤ σ 2 (KP p.toNat).toNat ∧ σ 2 (KP p.toNat).toNat ≤ 10 := hB 2 (KP p.toNat).toNat
  obtain ⟨i, hi⟩ : ∃ i : Int, (if ¬ σ 13 p.toNat = 0 ∧ IN_ (σ 1 (KP p.toNat).toNat) (σ 14 (2 * p + 0).toNat) (σ 15 (2 * p + 0).toNat) then (1:Int) else 0) = i := ⟨_, rfl⟩
  have f1 := fl01 hw
  have f2 := fl01 hi
  have f3 : i = 1 → w = 1 := fun e => (fl1 hw).mpr (Or.inl ((fl1 hi).mp e))
  simp (disch := omega) only [e_Mod_givesBack_0, e_Mod_givesBack_1, e_Mod_givesBack_2, e_Mod_givesBack_3, e_Mod_givesBack_4, e_Mod_givesBack_5, e_Mod_givesBack_6, e_Mod_givesBack_7, e_Mod_givesBack_8, e_Mod_givesBack_9, e_Mod_givesBack_10, e_Mod_givesBack_11, e_Mod_givesBack_12, e_Mod_givesBack_13, e_Mod_givesBack_14, e_Mod_givesBack_15, e_Mod_givesBack_16, e_Mod_givesBack_17, e_Mod_givesBack_18, e_Mod_givesBack_19, e_Mod_givesBack_20, e_Mod_givesBack_21, e_Mod_givesBack_22, e_Mod_givesBack_23, e_Mod_givesBack_24, e_Mod_givesBack_25, e_Mod_givesBack_26, jm_ia, jm_na, jm_qa, jm_aa, jm_asg, jm_l4, jm_Kr, jm_okv, jm_rc, jm_bo, true_and, and_true, Nat.add_zero, Nat.le_refl, j_lt, j_le, j_eq, j_lt0, j_0lt, j_le0, j_0le, j_eq0, j_add, j_sub, j_mul, j_neg, j_0sub, j_nat, j_in, j_div, j_rem, Sum.inl.injEq, exists_eq', true_or, or_true, if_true, if_false, not_true_eq_false, not_false_eq_true, implies_true, j_eq1, reduceIte, Nat.reduceEqDiff, Int.reduceEq, Int.reduceToNat, Nat.reduceAdd, Int.reduceAdd, Int.reduceSub, Int.reduceMul, Int.reduceNeg, and_false, false_and, and_self, u2r, j_b0, j_b1, Classical.not_not, eq_self, true_implies, false_implies, not_true_eq_false, not_false_eq_true, Int.reduceLT, Int.reduceLE, rk H, mi0, ms0, rs2 H, rs3 H, rr1 H, ra1 H, rr2 H, ra2 H, rr3 H, ra3 H, rr4 H, ra4 H, rr5 H, ra5 H, rr6 H, ra6 H, rr7 H, ra7 H, rr8 H, ra8 H, rr9 H, ra9 H, rr10 H, ra10 H, rr11 H, ra11 H, rr12 H, ra12 H, rr13 H, ra13 H, rr14 H, ra14 H, rr15 H, ra15 H, rr16 H, ra16 H, rr17 H, ra17 H, rr18 H, ra18 H, rr19 H, ra19 H, rr20 H, ra20 H, rr21 H, ra21 H, rr22 H, ra22 H, rr23 H, ra23 H, rr24 H, ra24 H, rr25 H, ra25 H, rr26 H, ra26 H, rr27 H, ra27 H, rr28 H, ra28 H, rr29 H, ra29 H, rr30 H, ra30 H, mia, msa, ri2 H, ri3 H]
  repeat' first
    | apply And.intro
    | (intro _)
    | (refine ⟨_, m_iW0 B l _ _ _ H hB hm hf p hp0 hp1 hi, ?_⟩; rintro y h' ⟨rfl, hy⟩; cases hy; try simp (disch := omega) only [e_Mod_givesBack_0, e_Mod_givesBack_1, e_Mod_givesBack_2, e_Mod_givesBack_3, e_Mod_givesBack_4, e_Mod_givesBack_5, e_Mod_givesBack_6, e_Mod_givesBack_7, e_Mod_givesBack_8, e_Mod_givesBack_9, e_Mod_givesBack_10, e_Mod_givesBack_11, e_Mod_givesBack_12, e_Mod_givesBack_13, e_Mod_givesBack_14, e_Mod_givesBack_15, e_Mod_givesBack_16, e_Mod_givesBack_17, e_Mod_givesBack_18, e_Mod_givesBack_19, e_Mod_givesBack_20, e_Mod_givesBack_21, e_Mod_givesBack_22, e_Mod_givesBack_23, e_Mod_givesBack_24, e_Mod_givesBack_25, e_Mod_givesBack_26, jm_ia, jm_na, jm_qa, jm_aa, jm_asg, jm_l4, jm_Kr, jm_okv, jm_rc, jm_bo, true_and, and_true, Nat.add_zero, Nat.le_refl, j_lt, j_le, j_eq, j_lt0, j_0lt, j_le0, j_0le, j_eq0, j_add, j_sub, j_mul, j_neg, j_0sub, j_nat, j_in, j_div, j_rem, Sum.inl.injEq, exists_eq', true_or, or_true, if_true, if_false, not_true_eq_false, not_false_eq_true, implies_true, j_eq1, reduceIte, Nat.reduceEqDiff, Int.reduceEq, Int.reduceToNat, Nat.reduceAdd, Int.reduceAdd, Int.reduceSub, Int.reduceMul, Int.reduceNeg, and_false, false_and, and_self, u2r, j_b0, j_b1, Classical.not_not, eq_self, true_implies, false_implies, not_true_eq_false, not_false_eq_true, Int.reduceLT, Int.reduceLE, rk H, mi0, ms0, rs2 H, rs3 H, rr1 H, ra1 H, rr2 H, ra2 H, rr3 H, ra3 H, rr4 H, ra4 H, rr5 H, ra5 H, rr6 H, ra6 H, rr7 H, ra7 H, rr8 H, ra8 H, rr9 H, ra9 H, rr10 H, ra10 H, rr11 H, ra11 H, rr12 H, ra12 H, rr13 H, ra13 H, rr14 H, ra14 H, rr15 H, ra15 H, rr16 H, ra16 H, rr17 H, ra17 H, rr18 H, ra18 H, rr19 H, ra19 H, rr20 H, ra20 H, rr21 H, ra21 H, rr22 H, ra22 H, rr23 H, ra23 H, rr24 H, ra24 H, rr25 H, ra25 H, rr26 H, ra26 H, rr27 H, ra27 H, rr28 H, ra28 H, rr29 H, ra29 H, rr30 H, ra30 H, mia, msa, ri2 H, ri3 H])
    | (refine ⟨_, m_wW0 B l _ _ _ H hB hm hf p hp0 hp1 hS hsh hw, ?_⟩; rintro y h' ⟨rfl, hy⟩; cases hy; try simp (disch := omega) only [e_Mod_givesBack_0, e_Mod_givesBack_1, e_Mod_givesBack_2, e_Mod_givesBack_3, e_Mod_givesBack_4, e_Mod_givesBack_5, e_Mod_givesBack_6, e_Mod_givesBack_7, e_Mod_givesBack_8, e_Mod_givesBack_9, e_Mod_givesBack_10, e_Mod_givesBack_11, e_Mod_givesBack_12, e_Mod_givesBack_13, e_Mod_givesBack_14, e_Mod_givesBack_15, e_Mod_givesBack_16, e_Mod_givesBack_17, e_Mod_givesBack_18, e_Mod_givesBack_19, e_Mod_givesBack_20, e_Mod_givesBack_21, e_Mod_givesBack_22, e_Mod_givesBack_23, e_Mod_givesBack_24, e_Mod_givesBack_25, e_Mod_givesBack_26, jm_ia, jm_na, jm_qa, jm_aa, jm_asg, jm_l4, jm_Kr, jm_okv, jm_rc, jm_bo, true_and, and_true, Nat.add_zero, Nat.le_refl, j_lt, j_le, j_eq, j_lt0, j_0lt, j_le0, j_0le, j_eq0, j_add, j_sub, j_mul, j_neg, j_0sub, j_nat, j_in, j_div, j_rem, Sum.inl.injEq, exists_eq', true_or, or_true, if_true, if_false, not_true_eq_false, not_false_eq_true, implies_true, j_eq1, reduceIte, Nat.reduceEqDiff, Int.reduceEq, Int.reduceToNat, Nat.reduceAdd, Int.reduceAdd, Int.reduceSub, Int.reduceMul, Int.reduceNeg, and_false, false_and, and_self, u2r, j_b0, j_b1, Classical.not_not, eq_self, true_implies, false_implies, not_true_eq_false, not_false_eq_true, Int.reduceLT, Int.reduceLE, rk H, mi0, ms0, rs2 H, rs3 H, rr1 H, ra1 H, rr2 H, ra2 H, rr3 H, ra3 H, rr4 H, ra4 H, rr5 H, ra5 H, rr6 H, ra6 H, rr7 H, ra7 H, rr8 H, ra8 H, rr9 H, ra9 H, rr10 H, ra10 H, rr11 H, ra11 H, rr12 H, ra12 H, rr13 H, ra13 H, rr14 H, ra14 H, rr15 H, ra15 H, rr16 H, ra16 H, rr17 H, ra17 H, rr18 H, ra18 H, rr19 H, ra19 H, rr20 H, ra20 H, rr21 H, ra21 H, rr22 H, ra22 H, rr23 H, ra23 H, rr24 H, ra24 H, rr25 H, ra25 H, rr26 H, ra26 H, rr27 H, ra27 H, rr28 H, ra28 H, rr29 H, ra29 H, rr30 H, ra30 H, mia, msa, ri2 H, ri3 H])
  all_goals first
    | contradiction
    | exact trivial
    | rfl
    | omega
    | exact (bi1 (by omega)).symm
    | exact (bi0 (by omega)).symm
    | exact (bi1 (by assumption)).symm
    | exact (bi0 (by assumption)).symm
    | ((try unfold IN_); (repeat (first | rw [if_pos (by omega)] | rw [if_neg (by omega)])); done)
    | ((try unfold IN_); (repeat (first | rw [if_pos (by omega)] | rw [if_neg (by omega)])); rfl)
    | ((try unfold IN_); (repeat (first | rw [if_pos (by omega)] | rw [if_neg (by omega)] | rw [if_pos (by assumption)] | rw [if_neg (by assumption)])); rfl)
theorem m_wW1 (B : jm_B) (l : Launch) (h : jm_H) (am : Nat) (σ : S_) (H : RM B am h) {m f : Int} (hB : BB m f σ) (hm : m ≤ 6000000) (hf : f ≤ 95) (p : Int) (hp0 : 0 ≤ p) (hp1 : p ≤ 2) (hS : SS σ) (hsh : ¬ σ 13 p.toNat = 0) {w : Int} (hw : (if wantX σ p (AS p.toNat) 1 then (1:Int) else 0) = w) : jm_Ct gG B l (gm 83) [.inr (.inl (some am)), .inl (Int32.ofInt p), .inl (Int32.ofInt (1))] (mo h am σ) (fun v h' => h' = mo h am σ ∧ v = .inl (Int32.ofInt w)) := by
  subst hw
  exact m_wants1 B l h am σ H (Bq_of hB) p hp0 hp1 (fun j => hB 6 j) (SS1 hS hp0 (by decide) (by decide) hsh) hsh
theorem m_iW1 (B : jm_B) (l : Launch) (h : jm_H) (am : Nat) (σ : S_) (H : RM B am h) {m f : Int} (hB : BB m f σ) (hm : m ≤ 6000000) (hf : f ≤ 95) (p : Int) (hp0 : 0 ≤ p) (hp1 : p ≤ 2) {w : Int} (hw : (if ¬ σ 13 p.toNat = 0 ∧ IN_ (σ 1 (AS p.toNat).toNat) (σ 14 (2 * p + 1).toNat) (σ 15 (2 * p + 1).toNat) then (1:Int) else 0) = w) : jm_Ct gG B l (gm 82) [.inr (.inl (some am)), .inl (Int32.ofInt p), .inl (Int32.ofInt (1))] (mo h am σ) (fun v h' => h' = mo h am σ ∧ v = .inl (Int32.ofInt w)) := by
  subst hw
  exact m_inShared1 B l h am σ H (Bq_of hB) p hp0 hp1
set_option maxRecDepth 100000 in
set_option maxHeartbeats 4000000 in
theorem m_gives1 (B : jm_B) (l : Launch) (h : jm_H) (am : Nat) (σ : S_) (H : RM B am h) {m f : Int} (hB : BB m f σ) (hm : m ≤ 6000000) (hf : f ≤ 95) (p : Int) (hp0 : 0 ≤ p) (hp1 : p ≤ 2) (hS : SS σ) (hsh : ¬ σ 13 p.toNat = 0) {w : Int} (hw : (if wantX σ p (AS p.toNat) 1 then (1:Int) else 0) = w) : jm_Ct gG B l (gm 84) [.inr (.inl (some am)), .inl (Int32.ofInt (p)), .inl (Int32.ofInt (1))] (mo h am σ) (fun v h' => h' = mo h am σ ∧ v = .inl (Int32.ofInt (if σ 2 (AS p.toNat).toNat = 0 ∧ w = 0 then 1 else 0))) := by
  show jm_Ct gG B l M_Mod_givesBack _ _ _
  refine jm_C0 (code := k_Mod_givesBack) (Or.inl (by decide)) (by decide) v_Mod_givesBack rfl (Nat.le_of_ble_eq_true rfl) [some (.inr (.inl (some am))), some (.inl (Int32.ofInt (p))), some (.inl (Int32.ofInt (1)))] rfl rfl ⟨31, ?_⟩
  have kb := ASb p.toNat
  have b1 : -10 ≤ σ 2 (AS p.toNat).toNat ∧ σ 2 (AS p.toNat).toNat ≤ 10 := hB 2 (AS p.toNat).toNat
  obtain ⟨i, hi⟩ : ∃ i : Int, (if ¬ σ 13 p.toNat = 0 ∧ IN_ (σ 1 (AS p.toNat).toNat) (σ 14 (2 * p + 1).toNat) (σ 15 (2 * p + 1).toNat) then (1:Int) else 0) = i := ⟨_, rfl⟩
  have f1 := fl01 hw
  have f2 := fl01 hi
  have f3 : i = 1 → w = 1 := fun e => (fl1 hw).mpr (Or.inl ((fl1 hi).mp e))
  simp (disch := omega) only [e_Mod_givesBack_0, e_Mod_givesBack_1, e_Mod_givesBack_2, e_Mod_givesBack_3, e_Mod_givesBack_4, e_Mod_givesBack_5, e_Mod_givesBack_6, e_Mod_givesBack_7, e_Mod_givesBack_8, e_Mod_givesBack_9, e_Mod_givesBack_10, e_Mod_givesBack_11, e_Mod_givesBack_12, e_Mod_givesBack_13, e_Mod_givesBack_14, e_Mod_givesBack_15, e_Mod_givesBack_16, e_Mod_givesBack_17, e_Mod_givesBack_18, e_Mod_givesBack_19, e_Mod_givesBack_20, e_Mod_givesBack_21, e_Mod_givesBack_22, e_Mod_givesBack_23, e_Mod_givesBack_24, e_Mod_givesBack_25, e_Mod_givesBack_26, jm_ia, jm_na, jm_qa, jm_aa, jm_asg, jm_l4, jm_Kr, jm_okv, jm_rc, jm_bo, true_and, and_true, Nat.add_zero, Nat.le_refl, j_lt, j_le, j_eq, j_lt0, j_0lt, j_le0, j_0le, j_eq0, j_add, j_sub, j_mul, j_neg, j_0sub, j_nat, j_in, j_div, j_rem, Sum.inl.injEq, exists_eq', true_or, or_true, if_true, if_false, not_true_eq_false, not_false_eq_true, implies_true, j_eq1, reduceIte, Nat.reduceEqDiff, Int.reduceEq, Int.reduceToNat, Nat.reduceAdd, Int.reduceAdd, Int.reduceSub, Int.reduceMul, Int.reduceNeg, and_false, false_and, and_self, u2r, j_b0, j_b1, Classical.not_not, eq_self, true_implies, false_implies, not_true_eq_false, not_false_eq_true, Int.reduceLT, Int.reduceLE, rk H, mi0, ms0, rs2 H, rs3 H, rr1 H, ra1 H, rr2 H, ra2 H, rr3 H, ra3 H, rr4 H, ra4 H, rr5 H, ra5 H, rr6 H, ra6 H, rr7 H, ra7 H, rr8 H, ra8 H, rr9 H, ra9 H, rr10 H, ra10 H, rr11 H, ra11 H, rr12 H, ra12 H, rr13 H, ra13 H, rr14 H, ra14 H, rr15 H, ra15 H, rr16 H, ra16 H, rr17 H, ra17 H, rr18 H, ra18 H, rr19 H, ra19 H, rr20 H, ra20 H, rr21 H, ra21 H, rr22 H, ra22 H, rr23 H, ra23 H, rr24 H, ra24 H, rr25 H, ra25 H, rr26 H, ra26 H, rr27 H, ra27 H, rr28 H, ra28 H, rr29 H, ra29 H, rr30 H, ra30 H, mia, msa, ri2 H, ri3 H]
  repeat' first
    | apply And.intro
    | (intro _)
    | (refine ⟨_, m_iW1 B l _ _ _ H hB hm hf p hp0 hp1 hi, ?_⟩; rintro y h' ⟨rfl, hy⟩; cases hy; try simp (disch := omega) only [e_Mod_givesBack_0, e_Mod_givesBack_1, e_Mod_givesBack_2, e_Mod_givesBack_3, e_Mod_givesBack_4, e_Mod_givesBack_5, e_Mod_givesBack_6, e_Mod_givesBack_7, e_Mod_givesBack_8, e_Mod_givesBack_9, e_Mod_givesBack_10, e_Mod_givesBack_11, e_Mod_givesBack_12, e_Mod_givesBack_13, e_Mod_givesBack_14, e_Mod_givesBack_15, e_Mod_givesBack_16, e_Mod_givesBack_17, e_Mod_givesBack_18, e_Mod_givesBack_19, e_Mod_givesBack_20, e_Mod_givesBack_21, e_Mod_givesBack_22, e_Mod_givesBack_23, e_Mod_givesBack_24, e_Mod_givesBack_25, e_Mod_givesBack_26, jm_ia, jm_na, jm_qa, jm_aa, jm_asg, jm_l4, jm_Kr, jm_okv, jm_rc, jm_bo, true_and, and_true, Nat.add_zero, Nat.le_refl, j_lt, j_le, j_eq, j_lt0, j_0lt, j_le0, j_0le, j_eq0, j_add, j_sub, j_mul, j_neg, j_0sub, j_nat, j_in, j_div, j_rem, Sum.inl.injEq, exists_eq', true_or, or_true, if_true, if_false, not_true_eq_false, not_false_eq_true, implies_true, j_eq1, reduceIte, Nat.reduceEqDiff, Int.reduceEq, Int.reduceToNat, Nat.reduceAdd, Int.reduceAdd, Int.reduceSub, Int.reduceMul, Int.reduceNeg, and_false, false_and, and_self, u2r, j_b0, j_b1, Classical.not_not, eq_self, true_implies, false_implies, not_true_eq_false, not_false_eq_true, Int.reduceLT, Int.reduceLE, rk H, mi0, ms0, rs2 H, rs3 H, rr1 H, ra1 H, rr2 H, ra2 H, rr3 H, ra3 H, rr4 H, ra4 H, rr5 H, ra5 H, rr6 H, ra6 H, rr7 H, ra7 H, rr8 H, ra8 H, rr9 H, ra9 H, rr10 H, ra10 H, rr11 H, ra11 H, rr12 H, ra12 H, rr13 H, ra13 H, rr14 H, ra14 H, rr15 H, ra15 H, rr16 H, ra16 H, rr17 H, ra17 H, rr18 H, ra18 H, rr19 H, ra19 H, rr20 H, ra20 H, rr21 H, ra21 H, rr22 H, ra22 H, rr23 H, ra23 H, rr24 H, ra24 H, rr25 H, ra25 H, rr26 H, ra26 H, rr27 H, ra27 H, rr28 H, ra28 H, rr29 H, ra29 H, rr30 H, ra30 H, mia, msa, ri2 H, ri3 H])
    | (refine ⟨_, m_wW1 B l _ _ _ H hB hm hf p hp0 hp1 hS hsh hw, ?_⟩; rintro y h' ⟨rfl, hy⟩; cases hy; try simp (disch := omega) only [e_Mod_givesBack_0, e_Mod_givesBack_1, e_Mod_givesBack_2, e_Mod_givesBack_3, e_Mod_givesBack_4, e_Mod_givesBack_5, e_Mod_givesBack_6, e_Mod_givesBack_7, e_Mod_givesBack_8, e_Mod_givesBack_9, e_Mod_givesBack_10, e_Mod_givesBack_11, e_Mod_givesBack_12, e_Mod_givesBack_13, e_Mod_givesBack_14, e_Mod_givesBack_15, e_Mod_givesBack_16, e_Mod_givesBack_17, e_Mod_givesBack_18, e_Mod_givesBack_19, e_Mod_givesBack_20, e_Mod_givesBack_21, e_Mod_givesBack_22, e_Mod_givesBack_23, e_Mod_givesBack_24, e_Mod_givesBack_25, e_Mod_givesBack_26, jm_ia, jm_na, jm_qa, jm_aa, jm_asg, jm_l4, jm_Kr, jm_okv, jm_rc, jm_bo, true_and, and_true, Nat.add_zero, Nat.le_refl, j_lt, j_le, j_eq, j_lt0, j_0lt, j_le0, j_0le, j_eq0, j_add, j_sub, j_mul, j_neg, j_0sub, j_nat, j_in, j_div, j_rem, Sum.inl.injEq, exists_eq', true_or, or_true, if_true, if_false, not_true_eq_false, not_false_eq_true, implies_true, j_eq1, reduceIte, Nat.reduceEqDiff, Int.reduceEq, Int.reduceToNat, Nat.reduceAdd, Int.reduceAdd, Int.reduceSub, Int.reduceMul, Int.reduceNeg, and_false, false_and, and_self, u2r, j_b0, j_b1, Classical.not_not, eq_self, true_implies, false_implies, not_true_eq_false, not_false_eq_true, Int.reduceLT, Int.reduceLE, rk H, mi0, ms0, rs2 H, rs3 H, rr1 H, ra1 H, rr2 H, ra2 H, rr3 H, ra3 H, rr4 H, ra4 H, rr5 H, ra5 H, rr6 H, ra6 H, rr7 H, ra7 H, rr8 H, ra8 H, rr9 H, ra9 H, rr10 H, ra10 H, rr11 H, ra11 H, rr12 H, ra12 H, rr13 H, ra13 H, rr14 H, ra14 H, rr15 H, ra15 H, rr16 H, ra16 H, rr17 H, ra17 H, rr18 H, ra18 H, rr19 H, ra19 H, rr20 H, ra20 H, rr21 H, ra21 H, rr22 H, ra22 H, rr23 H, ra23 H, rr24 H, ra24 H, rr25 H, ra25 H, rr26 H, ra26 H, rr27 H, ra27 H, rr28 H, ra28 H, rr29 H, ra29 H, rr30 H, ra30 H, mia, msa, ri2 H, ri3 H])
  all_goals first
    | contradiction
    | exact trivial
    | rfl
    | omega
    | exact (bi1 (by omega)).symm
    | exact (bi0 (by omega)).symm
    | exact (bi1 (by assumption)).symm
    | exact (bi0 (by assumption)).symm
    | ((try unfold IN_); (repeat (first | rw [if_pos (by omega)] | rw [if_neg (by omega)])); done)
    | ((try unfold IN_); (repeat (first | rw [if_pos (by omega)] | rw [if_neg (by omega)])); rfl)
    | ((try unfold IN_); (repeat (first | rw [if_pos (by omega)] | rw [if_neg (by omega)] | rw [if_pos (by assumption)] | rw [if_neg (by assumption)])); rfl)
def sp_beat (σ : S_) (p : Int) : S_ := if σ 0 1 % 10 = 0 then sp_send σ p 2 (σ 21 p.toNat) else σ
def sp_say (σ : S_) (p k n : Int) : S_ := sp_send (jm_u2 σ 22 p.toNat (σ 0 1)) p k n
def sp_act (σ : S_) (p w : Int) : S_ :=
  if σ 20 p.toNat = 0 ∧ w = 1 then sp_say (jm_u2 (jm_u2 σ 21 p.toNat (σ 21 p.toNat + 1)) 20 p.toNat 1) p 0 (σ 21 p.toNat + 1)
  else if (σ 20 p.toNat = 1 ∧ w = 0) ∨ (σ 20 p.toNat = 2 ∧ σ 2 (AS p.toNat).toNat = 0 ∧ w = 0) then sp_say (jm_u2 σ 20 p.toNat 3) p 1 (σ 21 p.toNat)
  else if σ 20 p.toNat = 1 ∧ 20 ≤ σ 0 1 - σ 22 p.toNat then sp_say σ p 0 (σ 21 p.toNat)
  else if σ 20 p.toNat = 3 ∧ 20 ≤ σ 0 1 - σ 22 p.toNat then sp_say σ p 1 (σ 21 p.toNat)
  else σ
