/-! the bus brings what is due -/
def shB (τ : S_) (a b : Nat) : S_ := fun o j => if (23 ≤ o ∧ o ≤ 26) ∧ a ≤ j ∧ j < b then τ o (j + 1) else τ o j
def br1 (σ : S_) (k : Int) : S_ := sp_comes (jm_u2 (shB (jm_u2 σ 0 24 (σ 0 24 - 1)) k.toNat (σ 0 24 - 1).toNat) 0 37 (σ 0 37 + 1)) (σ 23 k.toNat) (σ 24 k.toNat) (σ 25 k.toNat)
def brF : Nat → Int → S_ → S_
  | 0, _, σ => σ
  | n + 1, k, σ => if k < σ 0 24 then (if σ 0 1 < σ 26 k.toNat then brF n (k + 1) σ else brF n k (br1 σ k)) else σ
def sp_brings (σ : S_) : S_ := brF 13 0 σ
theorem shB_r {τ : S_} {a b o j : Nat} (h : o < 23 ∨ 26 < o) : shB τ a b o j = τ o j := if_neg (fun q => by omega)
theorem shB_0 (τ : S_) (a : Nat) : shB τ a a = τ := by
  funext o j
  exact if_neg (fun q => by omega)
theorem shB_s (τ : S_) {a : Nat} {i : Int} (hi : 0 ≤ i) (ha : a ≤ i.toNat) : jm_u2 (jm_u2 (jm_u2 (jm_u2 (shB τ a i.toNat) 23 i.toNat (shB τ a i.toNat 23 (i + 1).toNat)) 24 i.toNat (shB τ a i.toNat 24 (i + 1).toNat)) 25 i.toNat (shB τ a i.toNat 25 (i + 1).toNat)) 26 i.toNat (shB τ a i.toNat 26 (i + 1).toNat) = shB τ a (i + 1).toNat := by
  have e : ∀ o, shB τ a i.toNat o (i + 1).toNat = τ o (i.toNat + 1) := fun o => by
    unfold shB
    rw [if_neg (fun q => by omega), show (i + 1).toNat = i.toNat + 1 by omega]
  rw [e, e, e, e]
  funext o j
  simp only [u2r]
  unfold shB
  by_cases h : (23 ≤ o ∧ o ≤ 26) ∧ j = i.toNat
  · obtain ⟨h1, rfl⟩ := h
    rw [if_pos (show (23 ≤ o ∧ o ≤ 26) ∧ a ≤ i.toNat ∧ i.toNat < (i + 1).toNat from ⟨h1, ha, by omega⟩)]
    rcases (show o = 23 ∨ o = 24 ∨ o = 25 ∨ o = 26 by omega) with rfl | rfl | rfl | rfl <;> simp
  · rw [if_neg (by omega), if_neg (by omega), if_neg (by omega), if_neg (by omega)]
    by_cases h2 : (23 ≤ o ∧ o ≤ 26) ∧ a ≤ j ∧ j < i.toNat
    · rw [if_pos h2, if_pos ⟨h2.1, h2.2.1, by omega⟩]
    · rw [if_neg h2, if_neg (by omega)]
theorem BB_shB {m f : Int} {τ : S_} (h : BB m f τ) (a b : Nat) : BB m f (shB τ a b) := by
  intro o j
  show rowOK m f o j (if _ then _ else _)
  split
  · rename_i e
    have q := h o (j + 1)
    rcases (show o = 23 ∨ o = 24 ∨ o = 25 ∨ o = 26 by omega) with rfl | rfl | rfl | rfl <;> exact q
  · exact h o j
theorem BB_comes {m f : Int} {σ : S_} (h : BB m f σ) {p w n : Int} (h1 : 0 ≤ p) (h2 : p ≤ 2) (h5 : 0 ≤ n) (h6 : n ≤ m) : BB m (f + 1) (sp_comes σ p w n) := by
  have b1 : 0 ≤ σ 0 1 ∧ σ 0 1 ≤ 600000 := h 0 1
  have b2 : 0 ≤ σ 18 p.toNat ∧ σ 18 p.toNat ≤ m := h 18 _
  have u1 : BB m f (jm_u2 σ 19 p.toNat (σ 0 1)) := BB_u h b1
  have h' : BB m (f + 1) σ := BB_le (Int.le_refl m) (by omega) h
  unfold sp_comes
  split
  · have u2 : BB m f (jm_u2 (jm_u2 σ 19 p.toNat (σ 0 1)) 16 p.toNat 2) := BB_u u1 ⟨by decide, by decide⟩
    have u3 : BB m f (jm_u2 (jm_u2 (jm_u2 σ 19 p.toNat (σ 0 1)) 16 p.toNat 2) 17 p.toNat n) := BB_u u2 ⟨h5, h6⟩
    exact BB_send u3 h1 (by omega) (by decide) (by decide) h5 h6
  · split
    · have u2 : BB m f (jm_u2 (jm_u2 σ 19 p.toNat (σ 0 1)) 18 p.toNat (if σ 18 p.toNat < n then n else σ 18 p.toNat)) := BB_u u1 (show 0 ≤ _ ∧ _ ≤ _ by split <;> omega)
      split
      · have u3 : BB m f (jm_u2 (jm_u2 (jm_u2 σ 19 p.toNat (σ 0 1)) 18 p.toNat (if σ 18 p.toNat < n then n else σ 18 p.toNat)) 16 p.toNat 0) := BB_u u2 ⟨by decide, by decide⟩
        exact BB_send u3 h1 (by omega) (by decide) (by decide) h5 h6
      · exact BB_send u2 h1 (by omega) (by decide) (by decide) h5 h6
    · split
      · exact BB_le (Int.le_refl m) (by omega) u1
      · split
        · exact BB_u h' (show rowOK m (f + 1) 20 _ 2 from ⟨by decide, by decide⟩)
        · split
          · exact BB_u h' (show rowOK m (f + 1) 20 _ 0 from ⟨by decide, by decide⟩)
          · exact h'
theorem comes_0 {σ : S_} {p w n : Int} {j : Nat} (h : ¬ j = 29) : sp_comes σ p w n 0 j = σ 0 j := by
  unfold sp_comes
  split
  · rw [snd_0 h]; simp only [u2r]; rw [if_neg (by omega), if_neg (by omega), if_neg (by omega)]
  · split
    · split
      · rw [snd_0 h]; simp only [u2r]; rw [if_neg (by omega), if_neg (by omega), if_neg (by omega)]
      · rw [snd_0 h]; simp only [u2r]; rw [if_neg (by omega), if_neg (by omega)]
    · split
      · rw [u2r, if_neg (by omega)]
      · split
        · rw [u2r, if_neg (by omega)]
        · split
          · rw [u2r, if_neg (by omega)]
          · rfl
theorem comes_r {σ : S_} {p w n : Int} {o j : Nat} (h : (0 < o ∧ o < 16) ∨ (20 < o ∧ o < 27) ∨ 29 < o) : sp_comes σ p w n o j = σ o j := by
  unfold sp_comes
  split
  · rw [snd_r (by omega)]; simp only [u2r]; rw [if_neg (by omega), if_neg (by omega), if_neg (by omega)]
  · split
    · split
      · rw [snd_r (by omega)]; simp only [u2r]; rw [if_neg (by omega), if_neg (by omega), if_neg (by omega)]
      · rw [snd_r (by omega)]; simp only [u2r]; rw [if_neg (by omega), if_neg (by omega)]
    · split
      · rw [u2r, if_neg (by omega)]
      · split
        · rw [u2r, if_neg (by omega)]
        · split
          · rw [u2r, if_neg (by omega)]
          · rfl
theorem br1_m (σ : S_) (k : Int) : br1 σ k 0 24 = σ 0 24 - 1 := by
  unfold br1
  rw [comes_0 (by decide), u2r, if_neg (by decide), shB_r (by omega), u2r, if_pos ⟨rfl, rfl⟩]
theorem BB_br1 {m g : Int} {σ : S_} (h : BB m g σ) {k : Int} (hm : 0 < σ 0 24) : BB m (g + 1) (br1 σ k) := by
  have b1 : 0 ≤ σ 0 24 ∧ σ 0 24 ≤ 12 := h 0 24
  have b2 : 0 ≤ σ 23 k.toNat ∧ σ 23 k.toNat < 3 := h 23 _
  have b3 : 0 ≤ σ 25 k.toNat ∧ σ 25 k.toNat ≤ m := h 25 _
  exact BB_comes (BB_u (BB_shB (BB_u h (show rowOK m g 0 24 (σ 0 24 - 1) from ⟨by omega, by omega⟩)) _ _) (show rowOK m g 0 37 (σ 0 37 + 1) from trivial)) b2.1 (by omega) b3.1 b3.2
theorem m_comesW (B : jm_B) (l : Launch) (h : jm_H) (am : Nat) (σ : S_) (H : RM B am h) {m f : Int} (hB : BB m f σ) (hm : m ≤ 6000000) (hf : f ≤ 95) (p w n : Int) (hp0 : 0 ≤ p) (hp1 : p ≤ 2) (hw0 : 0 ≤ w) (hw1 : w ≤ 4) (hn0 : 0 ≤ n) (hn1 : n ≤ m) : jm_Ct gG B l (gm 80) [.inr (.inl (some am)), .inl (Int32.ofInt p), .inl (Int32.ofInt w), .inl (Int32.ofInt n)] (mo h am σ) (fun v h' => h' = mo h am (sp_comes σ p w n)) := by
  have b1 : 0 ≤ σ 0 1 ∧ σ 0 1 ≤ 600000 := hB 0 1
  have b2 : 0 ≤ σ 0 29 ∧ σ 0 29 ≤ f := hB 0 29
  have b3 : ∀ j, 0 ≤ σ 17 j ∧ σ 17 j ≤ m := fun j => hB 17 j
  have b4 : ∀ j, 0 ≤ σ 18 j ∧ σ 18 j ≤ m := fun j => hB 18 j
  have b5 : ∀ j, 0 ≤ σ 21 j ∧ σ 21 j ≤ m := fun j => hB 21 j
  exact m_comes B l h am σ H (Bq_of hB) p hp0 hp1 w n hw0 hw1 (by omega) (by omega) b1.1 b1.2 b2.1 (by omega) (fun j => ⟨(b3 j).1, by have := (b3 j).2; omega⟩) (fun j => ⟨(b4 j).1, by have := (b4 j).2; omega⟩) (fun j => ⟨(b5 j).1, by have := (b5 j).2; omega⟩)
def Iv_m_brings (m f : Int) (h : jm_H) (am : Nat) (σ : S_) : Nat → Nat → List (Option jm_V) → List jm_V → jm_H → Nat → Nat → Prop := fun kq pc L st h' ce sl =>
  (pc = 2 ∧ ∃ (k : Int) (x2 : Option jm_V) (x3 : Option jm_V) (x4 : Option jm_V) (x5 : Option jm_V) (τ : S_) (n : Nat), L = [some (.inr (.inl (some am))), some (.inl (Int32.ofInt (k))), x2, x3, x4, x5] ∧ st = [] ∧ h' = mo h am τ ∧ ce = 0 ∧ sl = 0 ∧ kq = (100 * (τ 0 24 - k)).toNat ∧ ((0 ≤ k ∧ k ≤ τ 0 24) ∧ brF n k τ = sp_brings σ ∧ τ 0 24 - k < (n : Int) ∧ BB m (f + 12 - τ 0 24) τ)) ∨
  (pc = 64 ∧ ∃ (k : Int) (p : Int) (w : Int) (n : Int) (i : Int) (υ : S_) (τ : S_) (N : Nat), L = [some (.inr (.inl (some am))), some (.inl (Int32.ofInt (k))), some (.inl (Int32.ofInt (p))), some (.inl (Int32.ofInt (w))), some (.inl (Int32.ofInt (n))), some (.inl (Int32.ofInt (i)))] ∧ st = [] ∧ h' = mo h am υ ∧ ce = 0 ∧ sl = 0 ∧ kq = (100 * (τ 0 24 - k) - 1 - (i - k)).toNat ∧ ((0 ≤ k ∧ k ≤ τ 0 24) ∧ brF N k τ = sp_brings σ ∧ τ 0 24 - k < (N : Int) ∧ BB m (f + 12 - τ 0 24) τ ∧ (k ≤ i ∧ i ≤ τ 0 24 - 1 ∧ τ 26 k.toNat ≤ τ 0 1) ∧ (p = τ 23 k.toNat ∧ w = τ 24 k.toNat ∧ n = τ 25 k.toNat) ∧ υ = shB (jm_u2 τ 0 24 (τ 0 24 - 1)) k.toNat i.toNat))
set_option maxRecDepth 100000 in
set_option maxHeartbeats 4000000 in
theorem m_brings (B : jm_B) (l : Launch) (h : jm_H) (am : Nat) (σ : S_) (H : RM B am h) {m f : Int} (hB : BB m f σ) (hm : m ≤ 6000000) (hf : f ≤ 60) : jm_Ct gG B l (gm 79) [.inr (.inl (some am))] (mo h am σ) (fun v h' => h' = mo h am (sp_brings σ)) := by
  show jm_Ct gG B l M_Mod_brings _ _ _
  refine jm_CL (code := k_Mod_brings) (Or.inl (by decide)) (by decide) v_Mod_brings rfl (Nat.le_of_ble_eq_true rfl) [some (.inr (.inl (some am))), none, none, none, none, none] rfl rfl (Iv_m_brings m f h am σ) ?_ ⟨101, ?_⟩
  · intro k pc L st h' ce sl hI
    rcases hI with ⟨rfl, k, x2, x3, x4, x5, τ, n, rfl, rfl, rfl, rfl, rfl, rfl, hc⟩ | ⟨rfl, k, p, w, n, i, υ, τ, N, rfl, rfl, rfl, rfl, rfl, rfl, hc⟩
    · refine ⟨101, 2, ⟨_, _, rfl, rfl⟩, ?_⟩
      obtain ⟨k1, k2, k3, rb⟩ := hc
      have c1 : 0 ≤ τ 0 24 ∧ τ 0 24 ≤ 12 := rb 0 24
      have c2 : 0 ≤ τ 0 1 ∧ τ 0 1 ≤ 600000 := rb 0 1
      have c3 : 0 ≤ τ 26 k.toNat ∧ τ 26 k.toNat ≤ 600030 := rb 26 _
      have c4 : 0 ≤ τ 23 k.toNat ∧ τ 23 k.toNat < 3 := rb 23 _
      have c5 : 0 ≤ τ 24 k.toNat ∧ τ 24 k.toNat ≤ 4 := rb 24 _
      have c6 : 0 ≤ τ 25 k.toNat ∧ τ 25 k.toNat ≤ m := rb 25 _
      have X3 : Unit → τ 0 24 ≤ k → τ = sp_brings σ := fun _ q => by
        rw [← k2]
        cases n with
        | zero => rfl
        | succ n => unfold brF; rw [if_neg (by omega)]
      have E1 : Unit → k < τ 0 24 → τ 0 1 < τ 26 k.toNat → brF (n - 1) (k + 1) τ = sp_brings σ := fun _ q1 q2 => by
        rw [← k2]
        obtain ⟨N, rfl⟩ : ∃ N, n = N + 1 := ⟨n - 1, by omega⟩
        rw [Nat.add_sub_cancel]
        conv => rhs; unfold brF
        rw [if_pos q1, if_pos q2]
      have SH0 : jm_u2 τ 0 24 (τ 0 24 - 1) = shB (jm_u2 τ 0 24 (τ 0 24 - 1)) k.toNat k.toNat := (shB_0 _ _).symm
      simp (disch := omega) only [e_Mod_brings_0, e_Mod_brings_1, c_Mod_brings_2, e_Mod_brings_2, e_Mod_brings_3, e_Mod_brings_4, e_Mod_brings_5, e_Mod_brings_6, e_Mod_brings_7, e_Mod_brings_8, e_Mod_brings_9, e_Mod_brings_10, e_Mod_brings_11, e_Mod_brings_12, e_Mod_brings_13, e_Mod_brings_14, e_Mod_brings_15, e_Mod_brings_16, e_Mod_brings_17, e_Mod_brings_18, e_Mod_brings_19, e_Mod_brings_20, e_Mod_brings_21, e_Mod_brings_22, e_Mod_brings_23, e_Mod_brings_24, e_Mod_brings_25, e_Mod_brings_26, e_Mod_brings_27, e_Mod_brings_28, e_Mod_brings_29, e_Mod_brings_30, e_Mod_brings_31a, e_Mod_brings_31b, e_Mod_brings_32, e_Mod_brings_33, e_Mod_brings_34, e_Mod_brings_35, e_Mod_brings_36, e_Mod_brings_37, c_Mod_brings_38, e_Mod_brings_38, e_Mod_brings_39, e_Mod_brings_40, e_Mod_brings_41, e_Mod_brings_42, e_Mod_brings_43, e_Mod_brings_44, e_Mod_brings_45, e_Mod_brings_46, e_Mod_brings_47, e_Mod_brings_48, e_Mod_brings_49, e_Mod_brings_50, e_Mod_brings_51, e_Mod_brings_52, e_Mod_brings_53, e_Mod_brings_54, e_Mod_brings_55, e_Mod_brings_56, e_Mod_brings_57, e_Mod_brings_58, e_Mod_brings_59, e_Mod_brings_60, e_Mod_brings_61, e_Mod_brings_62, e_Mod_brings_63, e_Mod_brings_64, e_Mod_brings_65, e_Mod_brings_66, e_Mod_brings_67, e_Mod_brings_68, e_Mod_brings_69, e_Mod_brings_70, e_Mod_brings_71, e_Mod_brings_72, e_Mod_brings_73, e_Mod_brings_74, e_Mod_brings_75, e_Mod_brings_76, e_Mod_brings_77, e_Mod_brings_78, e_Mod_brings_79, e_Mod_brings_80, e_Mod_brings_81, e_Mod_brings_82, e_Mod_brings_83, e_Mod_brings_84, e_Mod_brings_85a, e_Mod_brings_85b, e_Mod_brings_86, e_Mod_brings_87, e_Mod_brings_88, e_Mod_brings_89, e_Mod_brings_90, e_Mod_brings_91, e_Mod_brings_92, e_Mod_brings_93, e_Mod_brings_94, e_Mod_brings_95, e_Mod_brings_96, jm_ia, jm_na, jm_qa, jm_aa, jm_asg, jm_l4, jm_Kr, jm_okv, jm_rc, jm_bo, true_and, and_true, Nat.add_zero, Nat.le_refl, j_lt, j_le, j_eq, j_lt0, j_0lt, j_le0, j_0le, j_eq0, j_add, j_sub, j_mul, j_neg, j_0sub, j_nat, j_in, j_div, j_rem, Sum.inl.injEq, exists_eq', true_or, or_true, if_true, if_false, not_true_eq_false, not_false_eq_true, implies_true, j_eq1, reduceIte, Nat.reduceEqDiff, Int.reduceEq, Int.reduceToNat, Nat.reduceAdd, Int.reduceAdd, Int.reduceSub, Int.reduceMul, Int.reduceNeg, and_false, false_and, and_self, u2r, j_b0, j_b1, Classical.not_not, eq_self, true_implies, false_implies, not_true_eq_false, not_false_eq_true, Int.reduceLT, Int.reduceLE, rk H, mi0, ms0, rs2 H, rs3 H, rr1 H, ra1 H, rr2 H, ra2 H, rr3 H, ra3 H, rr4 H, ra4 H, rr5 H, ra5 H, rr6 H, ra6 H, rr7 H, ra7 H, rr8 H, ra8 H, rr9 H, ra9 H, rr10 H, ra10 H, rr11 H, ra11 H, rr12 H, ra12 H, rr13 H, ra13 H, rr14 H, ra14 H, rr15 H, ra15 H, rr16 H, ra16 H, rr17 H, ra17 H, rr18 H, ra18 H, rr19 H, ra19 H, rr20 H, ra20 H, rr21 H, ra21 H, rr22 H, ra22 H, rr23 H, ra23 H, rr24 H, ra24 H, rr25 H, ra25 H, rr26 H, ra26 H, rr27 H, ra27 H, rr28 H, ra28 H, rr29 H, ra29 H, rr30 H, ra30 H, mia, msa, ri2 H, ri3 H]
      repeat' first
        | apply And.intro
        | (intro _)
        | (refine ⟨_, m_comesW B l _ _ _ H rb1 hm (by omega) p w n (by omega) (by omega) (by omega) (by omega) (by omega) (by omega), ?_⟩; rintro h' rfl; try simp (disch := omega) only [e_Mod_brings_0, e_Mod_brings_1, c_Mod_brings_2, e_Mod_brings_2, e_Mod_brings_3, e_Mod_brings_4, e_Mod_brings_5, e_Mod_brings_6, e_Mod_brings_7, e_Mod_brings_8, e_Mod_brings_9, e_Mod_brings_10, e_Mod_brings_11, e_Mod_brings_12, e_Mod_brings_13, e_Mod_brings_14, e_Mod_brings_15, e_Mod_brings_16, e_Mod_brings_17, e_Mod_brings_18, e_Mod_brings_19, e_Mod_brings_20, e_Mod_brings_21, e_Mod_brings_22, e_Mod_brings_23, e_Mod_brings_24, e_Mod_brings_25, e_Mod_brings_26, e_Mod_brings_27, e_Mod_brings_28, e_Mod_brings_29, e_Mod_brings_30, e_Mod_brings_31a, e_Mod_brings_31b, e_Mod_brings_32, e_Mod_brings_33, e_Mod_brings_34, e_Mod_brings_35, e_Mod_brings_36, e_Mod_brings_37, c_Mod_brings_38, e_Mod_brings_38, e_Mod_brings_39, e_Mod_brings_40, e_Mod_brings_41, e_Mod_brings_42, e_Mod_brings_43, e_Mod_brings_44, e_Mod_brings_45, e_Mod_brings_46, e_Mod_brings_47, e_Mod_brings_48, e_Mod_brings_49, e_Mod_brings_50, e_Mod_brings_51, e_Mod_brings_52, e_Mod_brings_53, e_Mod_brings_54, e_Mod_brings_55, e_Mod_brings_56, e_Mod_brings_57, e_Mod_brings_58, e_Mod_brings_59, e_Mod_brings_60, e_Mod_brings_61, e_Mod_brings_62, e_Mod_brings_63, e_Mod_brings_64, e_Mod_brings_65, e_Mod_brings_66, e_Mod_brings_67, e_Mod_brings_68, e_Mod_brings_69, e_Mod_brings_70, e_Mod_brings_71, e_Mod_brings_72, e_Mod_brings_73, e_Mod_brings_74, e_Mod_brings_75, e_Mod_brings_76, e_Mod_brings_77, e_Mod_brings_78, e_Mod_brings_79, e_Mod_brings_80, e_Mod_brings_81, e_Mod_brings_82, e_Mod_brings_83, e_Mod_brings_84, e_Mod_brings_85a, e_Mod_brings_85b, e_Mod_brings_86, e_Mod_brings_87, e_Mod_brings_88, e_Mod_brings_89, e_Mod_brings_90, e_Mod_brings_91, e_Mod_brings_92, e_Mod_brings_93, e_Mod_brings_94, e_Mod_brings_95, e_Mod_brings_96, jm_ia, jm_na, jm_qa, jm_aa, jm_asg, jm_l4, jm_Kr, jm_okv, jm_rc, jm_bo, true_and, and_true, Nat.add_zero, Nat.le_refl, j_lt, j_le, j_eq, j_lt0, j_0lt, j_le0, j_0le, j_eq0, j_add, j_sub, j_mul, j_neg, j_0sub, j_nat, j_in, j_div, j_rem, Sum.inl.injEq, exists_eq', true_or, or_true, if_true, if_false, not_true_eq_false, not_false_eq_true, implies_true, j_eq1, reduceIte, Nat.reduceEqDiff, Int.reduceEq, Int.reduceToNat, Nat.reduceAdd, Int.reduceAdd, Int.reduceSub, Int.reduceMul, Int.reduceNeg, and_false, false_and, and_self, u2r, j_b0, j_b1, Classical.not_not, eq_self, true_implies, false_implies, not_true_eq_false, not_false_eq_true, Int.reduceLT, Int.reduceLE, rk H, mi0, ms0, rs2 H, rs3 H, rr1 H, ra1 H, rr2 H, ra2 H, rr3 H, ra3 H, rr4 H, ra4 H, rr5 H, ra5 H, rr6 H, ra6 H, rr7 H, ra7 H, rr8 H, ra8 H, rr9 H, ra9 H, rr10 H, ra10 H, rr11 H, ra11 H, rr12 H, ra12 H, rr13 H, ra13 H, rr14 H, ra14 H, rr15 H, ra15 H, rr16 H, ra16 H, rr17 H, ra17 H, rr18 H, ra18 H, rr19 H, ra19 H, rr20 H, ra20 H, rr21 H, ra21 H, rr22 H, ra22 H, rr23 H, ra23 H, rr24 H, ra24 H, rr25 H, ra25 H, rr26 H, ra26 H, rr27 H, ra27 H, rr28 H, ra28 H, rr29 H, ra29 H, rr30 H, ra30 H, mia, msa, ri2 H, ri3 H])
      all_goals (try simp (disch := omega) only [j_nat, j_lt, j_eq, j_le, msa, Sum.inl.injEq] at *)
      all_goals first
        | (refine ⟨_, ?_, Or.inl (⟨rfl, _, _, _, _, _, _, 13, rfl, rfl, rfl, rfl, rfl, rfl, ?_⟩)⟩ <;> first | omega | exact ⟨by omega, E6, by omega, E7⟩ | exact ⟨by omega, E1 () (by omega) (by omega), by omega, rb⟩ | exact ⟨by omega, k2, k3, rb, ⟨by omega, by omega, by omega⟩, ⟨rfl, rfl, rfl⟩, SH0⟩ | exact ⟨by omega, k2, k3, rb0, ⟨by omega, by omega, by omega⟩, ⟨k7, k8, k9⟩, SH⟩ | exact NX () _ (E2 () (by omega)) | (have := MX () _ (E2 () (by omega)); omega))
        | (refine ⟨_, Or.inl (⟨rfl, _, _, _, _, _, _, 13, rfl, rfl, rfl, rfl, rfl, rfl, ?_⟩) ⟩ <;> first | omega | exact ⟨by omega, E6, by omega, E7⟩ | exact ⟨by omega, E1 () (by omega) (by omega), by omega, rb⟩ | exact ⟨by omega, k2, k3, rb, ⟨by omega, by omega, by omega⟩, ⟨rfl, rfl, rfl⟩, SH0⟩ | exact ⟨by omega, k2, k3, rb0, ⟨by omega, by omega, by omega⟩, ⟨k7, k8, k9⟩, SH⟩ | exact NX () _ (E2 () (by omega)) | (have := MX () _ (E2 () (by omega)); omega))
        | (refine ⟨_, ?_, Or.inl (⟨rfl, _, _, _, _, _, _, n - 1, rfl, rfl, rfl, rfl, rfl, rfl, ?_⟩)⟩ <;> first | omega | exact ⟨by omega, E6, by omega, E7⟩ | exact ⟨by omega, E1 () (by omega) (by omega), by omega, rb⟩ | exact ⟨by omega, k2, k3, rb, ⟨by omega, by omega, by omega⟩, ⟨rfl, rfl, rfl⟩, SH0⟩ | exact ⟨by omega, k2, k3, rb0, ⟨by omega, by omega, by omega⟩, ⟨k7, k8, k9⟩, SH⟩ | exact NX () _ (E2 () (by omega)) | (have := MX () _ (E2 () (by omega)); omega))
        | (refine ⟨_, Or.inl (⟨rfl, _, _, _, _, _, _, n - 1, rfl, rfl, rfl, rfl, rfl, rfl, ?_⟩) ⟩ <;> first | omega | exact ⟨by omega, E6, by omega, E7⟩ | exact ⟨by omega, E1 () (by omega) (by omega), by omega, rb⟩ | exact ⟨by omega, k2, k3, rb, ⟨by omega, by omega, by omega⟩, ⟨rfl, rfl, rfl⟩, SH0⟩ | exact ⟨by omega, k2, k3, rb0, ⟨by omega, by omega, by omega⟩, ⟨k7, k8, k9⟩, SH⟩ | exact NX () _ (E2 () (by omega)) | (have := MX () _ (E2 () (by omega)); omega))
        | (refine ⟨_, ?_, Or.inl (⟨rfl, _, _, _, _, _, _, N - 1, rfl, rfl, rfl, rfl, rfl, rfl, ?_⟩)⟩ <;> first | omega | exact ⟨by omega, E6, by omega, E7⟩ | exact ⟨by omega, E1 () (by omega) (by omega), by omega, rb⟩ | exact ⟨by omega, k2, k3, rb, ⟨by omega, by omega, by omega⟩, ⟨rfl, rfl, rfl⟩, SH0⟩ | exact ⟨by omega, k2, k3, rb0, ⟨by omega, by omega, by omega⟩, ⟨k7, k8, k9⟩, SH⟩ | exact NX () _ (E2 () (by omega)) | (have := MX () _ (E2 () (by omega)); omega))
        | (refine ⟨_, Or.inl (⟨rfl, _, _, _, _, _, _, N - 1, rfl, rfl, rfl, rfl, rfl, rfl, ?_⟩) ⟩ <;> first | omega | exact ⟨by omega, E6, by omega, E7⟩ | exact ⟨by omega, E1 () (by omega) (by omega), by omega, rb⟩ | exact ⟨by omega, k2, k3, rb, ⟨by omega, by omega, by omega⟩, ⟨rfl, rfl, rfl⟩, SH0⟩ | exact ⟨by omega, k2, k3, rb0, ⟨by omega, by omega, by omega⟩, ⟨k7, k8, k9⟩, SH⟩ | exact NX () _ (E2 () (by omega)) | (have := MX () _ (E2 () (by omega)); omega))
        | (refine ⟨_, ?_, Or.inr (⟨rfl, _, _, _, _, _, _, τ, n, rfl, rfl, rfl, rfl, rfl, rfl, ?_⟩)⟩ <;> first | omega | exact ⟨by omega, E6, by omega, E7⟩ | exact ⟨by omega, E1 () (by omega) (by omega), by omega, rb⟩ | exact ⟨by omega, k2, k3, rb, ⟨by omega, by omega, by omega⟩, ⟨rfl, rfl, rfl⟩, SH0⟩ | exact ⟨by omega, k2, k3, rb0, ⟨by omega, by omega, by omega⟩, ⟨k7, k8, k9⟩, SH⟩ | exact NX () _ (E2 () (by omega)) | (have := MX () _ (E2 () (by omega)); omega))
        | (refine ⟨_, Or.inr (⟨rfl, _, _, _, _, _, _, τ, n, rfl, rfl, rfl, rfl, rfl, rfl, ?_⟩) ⟩ <;> first | omega | exact ⟨by omega, E6, by omega, E7⟩ | exact ⟨by omega, E1 () (by omega) (by omega), by omega, rb⟩ | exact ⟨by omega, k2, k3, rb, ⟨by omega, by omega, by omega⟩, ⟨rfl, rfl, rfl⟩, SH0⟩ | exact ⟨by omega, k2, k3, rb0, ⟨by omega, by omega, by omega⟩, ⟨k7, k8, k9⟩, SH⟩ | exact NX () _ (E2 () (by omega)) | (have := MX () _ (E2 () (by omega)); omega))
        | (refine ⟨_, ?_, Or.inr (⟨rfl, _, _, _, _, _, _, τ, N, rfl, rfl, rfl, rfl, rfl, rfl, ?_⟩)⟩ <;> first | omega | exact ⟨by omega, E6, by omega, E7⟩ | exact ⟨by omega, E1 () (by omega) (by omega), by omega, rb⟩ | exact ⟨by omega, k2, k3, rb, ⟨by omega, by omega, by omega⟩, ⟨rfl, rfl, rfl⟩, SH0⟩ | exact ⟨by omega, k2, k3, rb0, ⟨by omega, by omega, by omega⟩, ⟨k7, k8, k9⟩, SH⟩ | exact NX () _ (E2 () (by omega)) | (have := MX () _ (E2 () (by omega)); omega))
        | (refine ⟨_, Or.inr (⟨rfl, _, _, _, _, _, _, τ, N, rfl, rfl, rfl, rfl, rfl, rfl, ?_⟩) ⟩ <;> first | omega | exact ⟨by omega, E6, by omega, E7⟩ | exact ⟨by omega, E1 () (by omega) (by omega), by omega, rb⟩ | exact ⟨by omega, k2, k3, rb, ⟨by omega, by omega, by omega⟩, ⟨rfl, rfl, rfl⟩, SH0⟩ | exact ⟨by omega, k2, k3, rb0, ⟨by omega, by omega, by omega⟩, ⟨k7, k8, k9⟩, SH⟩ | exact NX () _ (E2 () (by omega)) | (have := MX () _ (E2 () (by omega)); omega))
        | contradiction
        | exact trivial
        | rfl
        | omega
        | exact (bi1 (by omega)).symm
        | exact (bi0 (by omega)).symm
        | exact (bi1 (by assumption)).symm
        | exact (bi0 (by assumption)).symm
        | (rw [X3 () (by omega)]; done)
        | (exact congrArg _ (X3 () (by omega)))
        | ((try unfold IN_); (repeat (first | rw [if_pos (by omega)] | rw [if_neg (by omega)])); done)
        | ((try unfold IN_); (repeat (first | rw [if_pos (by omega)] | rw [if_neg (by omega)])); rfl)
        | ((try unfold IN_); (repeat (first | rw [if_pos (by omega)] | rw [if_neg (by omega)] | rw [if_pos (by assumption)] | rw [if_neg (by assumption)])); rfl)
    · refine ⟨101, 38, ⟨_, _, rfl, rfl⟩, ?_⟩
      obtain ⟨k1, k2, k3, rb0, ⟨k4, k5, k6⟩, ⟨k7, k8, k9⟩, hυ⟩ := hc
      have d1 : 0 ≤ τ 0 24 ∧ τ 0 24 ≤ 12 := rb0 0 24
      have d2 : 0 ≤ τ 0 29 ∧ τ 0 29 ≤ f + 12 - τ 0 24 := rb0 0 29
      have d4 : 0 ≤ τ 23 k.toNat ∧ τ 23 k.toNat < 3 := rb0 23 _
      have d5 : 0 ≤ τ 24 k.toNat ∧ τ 24 k.toNat ≤ 4 := rb0 24 _
      have d6 : 0 ≤ τ 25 k.toNat ∧ τ 25 k.toNat ≤ m := rb0 25 _
      have rb : BB m (f + 12 - τ 0 24) υ := by rw [hυ]; exact BB_shB (BB_u rb0 (show rowOK m (f + 12 - τ 0 24) 0 24 (τ 0 24 - 1) from ⟨by omega, by omega⟩)) _ _
      have rb1 : BB m (f + 12 - τ 0 24) (jm_u2 υ 0 37 (υ 0 37 + 1)) := BB_u rb (show rowOK m (f + 12 - τ 0 24) 0 37 (υ 0 37 + 1) from trivial)
      have c1 : υ 0 24 = τ 0 24 - 1 := by rw [hυ, shB_r (by omega), u2r, if_pos ⟨rfl, rfl⟩]
      have c7 : υ 0 37 = τ 0 37 := by rw [hυ, shB_r (by omega), u2r, if_neg (by omega)]
      have SH : jm_u2 (jm_u2 (jm_u2 (jm_u2 υ 23 i.toNat (υ 23 (i + 1).toNat)) 24 i.toNat (υ 24 (i + 1).toNat)) 25 i.toNat (υ 25 (i + 1).toNat)) 26 i.toNat (υ 26 (i + 1).toNat) = shB (jm_u2 τ 0 24 (τ 0 24 - 1)) k.toNat (i + 1).toNat := by
        rw [hυ]; exact shB_s _ (by omega) (by omega)
      have E2 : Unit → τ 0 24 - 1 ≤ i → sp_comes (jm_u2 υ 0 37 (υ 0 37 + 1)) p w n = br1 τ k := fun _ q => by
        unfold br1
        rw [c7, hυ, k7, k8, k9, show i = τ 0 24 - 1 by omega]
      have E3 : Unit → brF (N - 1) k (br1 τ k) = sp_brings σ := fun _ => by
        rw [← k2]
        obtain ⟨M, rfl⟩ : ∃ M, N = M + 1 := ⟨N - 1, by omega⟩
        rw [Nat.add_sub_cancel]
        conv => rhs; unfold brF
        rw [if_pos (by omega), if_neg (by omega)]
      have E4 : Unit → BB m (f + 12 - (br1 τ k) 0 24) (br1 τ k) := fun _ => by
        rw [br1_m, show f + 12 - (τ 0 24 - 1) = f + 12 - τ 0 24 + 1 by omega]
        exact BB_br1 rb0 (by omega)
      have E5 := br1_m τ k
      have NX : Unit → ∀ X, X = br1 τ k → (0 ≤ k ∧ k ≤ X 0 24) ∧ brF (N - 1) k X = sp_brings σ ∧ X 0 24 - k < ((N - 1 : Nat) : Int) ∧ BB m (f + 12 - X 0 24) X := fun _ X q => by
        subst q
        exact ⟨by omega, E3 (), by omega, E4 ()⟩
      have MX : Unit → ∀ X, X = br1 τ k → X 0 24 = τ 0 24 - 1 := fun _ X q => by subst q; exact E5
      clear hυ
      simp (disch := omega) only [e_Mod_brings_0, e_Mod_brings_1, c_Mod_brings_2, e_Mod_brings_2, e_Mod_brings_3, e_Mod_brings_4, e_Mod_brings_5, e_Mod_brings_6, e_Mod_brings_7, e_Mod_brings_8, e_Mod_brings_9, e_Mod_brings_10, e_Mod_brings_11, e_Mod_brings_12, e_Mod_brings_13, e_Mod_brings_14, e_Mod_brings_15, e_Mod_brings_16, e_Mod_brings_17, e_Mod_brings_18, e_Mod_brings_19, e_Mod_brings_20, e_Mod_brings_21, e_Mod_brings_22, e_Mod_brings_23, e_Mod_brings_24, e_Mod_brings_25, e_Mod_brings_26, e_Mod_brings_27, e_Mod_brings_28, e_Mod_brings_29, e_Mod_brings_30, e_Mod_brings_31a, e_Mod_brings_31b, e_Mod_brings_32, e_Mod_brings_33, e_Mod_brings_34, e_Mod_brings_35, e_Mod_brings_36, e_Mod_brings_37, c_Mod_brings_38, e_Mod_brings_38, e_Mod_brings_39, e_Mod_brings_40, e_Mod_brings_41, e_Mod_brings_42, e_Mod_brings_43, e_Mod_brings_44, e_Mod_brings_45, e_Mod_brings_46, e_Mod_brings_47, e_Mod_brings_48, e_Mod_brings_49, e_Mod_brings_50, e_Mod_brings_51, e_Mod_brings_52, e_Mod_brings_53, e_Mod_brings_54, e_Mod_brings_55, e_Mod_brings_56, e_Mod_brings_57, e_Mod_brings_58, e_Mod_brings_59, e_Mod_brings_60, e_Mod_brings_61, e_Mod_brings_62, e_Mod_brings_63, e_Mod_brings_64, e_Mod_brings_65, e_Mod_brings_66, e_Mod_brings_67, e_Mod_brings_68, e_Mod_brings_69, e_Mod_brings_70, e_Mod_brings_71, e_Mod_brings_72, e_Mod_brings_73, e_Mod_brings_74, e_Mod_brings_75, e_Mod_brings_76, e_Mod_brings_77, e_Mod_brings_78, e_Mod_brings_79, e_Mod_brings_80, e_Mod_brings_81, e_Mod_brings_82, e_Mod_brings_83, e_Mod_brings_84, e_Mod_brings_85a, e_Mod_brings_85b, e_Mod_brings_86, e_Mod_brings_87, e_Mod_brings_88, e_Mod_brings_89, e_Mod_brings_90, e_Mod_brings_91, e_Mod_brings_92, e_Mod_brings_93, e_Mod_brings_94, e_Mod_brings_95, e_Mod_brings_96, jm_ia, jm_na, jm_qa, jm_aa, jm_asg, jm_l4, jm_Kr, jm_okv, jm_rc, jm_bo, true_and, and_true, Nat.add_zero, Nat.le_refl, j_lt, j_le, j_eq, j_lt0, j_0lt, j_le0, j_0le, j_eq0, j_add, j_sub, j_mul, j_neg, j_0sub, j_nat, j_in, j_div, j_rem, Sum.inl.injEq, exists_eq', true_or, or_true, if_true, if_false, not_true_eq_false, not_false_eq_true, implies_true, j_eq1, reduceIte, Nat.reduceEqDiff, Int.reduceEq, Int.reduceToNat, Nat.reduceAdd, Int.reduceAdd, Int.reduceSub, Int.reduceMul, Int.reduceNeg, and_false, false_and, and_self, u2r, j_b0, j_b1, Classical.not_not, eq_self, true_implies, false_implies, not_true_eq_false, not_false_eq_true, Int.reduceLT, Int.reduceLE, rk H, mi0, ms0, rs2 H, rs3 H, rr1 H, ra1 H, rr2 H, ra2 H, rr3 H, ra3 H, rr4 H, ra4 H, rr5 H, ra5 H, rr6 H, ra6 H, rr7 H, ra7 H, rr8 H, ra8 H, rr9 H, ra9 H, rr10 H, ra10 H, rr11 H, ra11 H, rr12 H, ra12 H, rr13 H, ra13 H, rr14 H, ra14 H, rr15 H, ra15 H, rr16 H, ra16 H, rr17 H, ra17 H, rr18 H, ra18 H, rr19 H, ra19 H, rr20 H, ra20 H, rr21 H, ra21 H, rr22 H, ra22 H, rr23 H, ra23 H, rr24 H, ra24 H, rr25 H, ra25 H, rr26 H, ra26 H, rr27 H, ra27 H, rr28 H, ra28 H, rr29 H, ra29 H, rr30 H, ra30 H, mia, msa, ri2 H, ri3 H]
      repeat' first
        | apply And.intro
        | (intro _)
        | (refine ⟨_, m_comesW B l _ _ _ H rb1 hm (by omega) p w n (by omega) (by omega) (by omega) (by omega) (by omega) (by omega), ?_⟩; rintro h' rfl; try simp (disch := omega) only [e_Mod_brings_0, e_Mod_brings_1, c_Mod_brings_2, e_Mod_brings_2, e_Mod_brings_3, e_Mod_brings_4, e_Mod_brings_5, e_Mod_brings_6, e_Mod_brings_7, e_Mod_brings_8, e_Mod_brings_9, e_Mod_brings_10, e_Mod_brings_11, e_Mod_brings_12, e_Mod_brings_13, e_Mod_brings_14, e_Mod_brings_15, e_Mod_brings_16, e_Mod_brings_17, e_Mod_brings_18, e_Mod_brings_19, e_Mod_brings_20, e_Mod_brings_21, e_Mod_brings_22, e_Mod_brings_23, e_Mod_brings_24, e_Mod_brings_25, e_Mod_brings_26, e_Mod_brings_27, e_Mod_brings_28, e_Mod_brings_29, e_Mod_brings_30, e_Mod_brings_31a, e_Mod_brings_31b, e_Mod_brings_32, e_Mod_brings_33, e_Mod_brings_34, e_Mod_brings_35, e_Mod_brings_36, e_Mod_brings_37, c_Mod_brings_38, e_Mod_brings_38, e_Mod_brings_39, e_Mod_brings_40, e_Mod_brings_41, e_Mod_brings_42, e_Mod_brings_43, e_Mod_brings_44, e_Mod_brings_45, e_Mod_brings_46, e_Mod_brings_47, e_Mod_brings_48, e_Mod_brings_49, e_Mod_brings_50, e_Mod_brings_51, e_Mod_brings_52, e_Mod_brings_53, e_Mod_brings_54, e_Mod_brings_55, e_Mod_brings_56, e_Mod_brings_57, e_Mod_brings_58, e_Mod_brings_59, e_Mod_brings_60, e_Mod_brings_61, e_Mod_brings_62, e_Mod_brings_63, e_Mod_brings_64, e_Mod_brings_65, e_Mod_brings_66, e_Mod_brings_67, e_Mod_brings_68, e_Mod_brings_69, e_Mod_brings_70, e_Mod_brings_71, e_Mod_brings_72, e_Mod_brings_73, e_Mod_brings_74, e_Mod_brings_75, e_Mod_brings_76, e_Mod_brings_77, e_Mod_brings_78, e_Mod_brings_79, e_Mod_brings_80, e_Mod_brings_81, e_Mod_brings_82, e_Mod_brings_83, e_Mod_brings_84, e_Mod_brings_85a, e_Mod_brings_85b, e_Mod_brings_86, e_Mod_brings_87, e_Mod_brings_88, e_Mod_brings_89, e_Mod_brings_90, e_Mod_brings_91, e_Mod_brings_92, e_Mod_brings_93, e_Mod_brings_94, e_Mod_brings_95, e_Mod_brings_96, jm_ia, jm_na, jm_qa, jm_aa, jm_asg, jm_l4, jm_Kr, jm_okv, jm_rc, jm_bo, true_and, and_true, Nat.add_zero, Nat.le_refl, j_lt, j_le, j_eq, j_lt0, j_0lt, j_le0, j_0le, j_eq0, j_add, j_sub, j_mul, j_neg, j_0sub, j_nat, j_in, j_div, j_rem, Sum.inl.injEq, exists_eq', true_or, or_true, if_true, if_false, not_true_eq_false, not_false_eq_true, implies_true, j_eq1, reduceIte, Nat.reduceEqDiff, Int.reduceEq, Int.reduceToNat, Nat.reduceAdd, Int.reduceAdd, Int.reduceSub, Int.reduceMul, Int.reduceNeg, and_false, false_and, and_self, u2r, j_b0, j_b1, Classical.not_not, eq_self, true_implies, false_implies, not_true_eq_false, not_false_eq_true, Int.reduceLT, Int.reduceLE, rk H, mi0, ms0, rs2 H, rs3 H, rr1 H, ra1 H, rr2 H, ra2 H, rr3 H, ra3 H, rr4 H, ra4 H, rr5 H, ra5 H, rr6 H, ra6 H, rr7 H, ra7 H, rr8 H, ra8 H, rr9 H, ra9 H, rr10 H, ra10 H, rr11 H, ra11 H, rr12 H, ra12 H, rr13 H, ra13 H, rr14 H, ra14 H, rr15 H, ra15 H, rr16 H, ra16 H, rr17 H, ra17 H, rr18 H, ra18 H, rr19 H, ra19 H, rr20 H, ra20 H, rr21 H, ra21 H, rr22 H, ra22 H, rr23 H, ra23 H, rr24 H, ra24 H, rr25 H, ra25 H, rr26 H, ra26 H, rr27 H, ra27 H, rr28 H, ra28 H, rr29 H, ra29 H, rr30 H, ra30 H, mia, msa, ri2 H, ri3 H])
      all_goals (try simp (disch := omega) only [j_nat, j_lt, j_eq, j_le, msa, Sum.inl.injEq] at *)
      all_goals first
        | (refine ⟨_, ?_, Or.inl (⟨rfl, _, _, _, _, _, _, 13, rfl, rfl, rfl, rfl, rfl, rfl, ?_⟩)⟩ <;> first | omega | exact ⟨by omega, E6, by omega, E7⟩ | exact ⟨by omega, E1 () (by omega) (by omega), by omega, rb⟩ | exact ⟨by omega, k2, k3, rb, ⟨by omega, by omega, by omega⟩, ⟨rfl, rfl, rfl⟩, SH0⟩ | exact ⟨by omega, k2, k3, rb0, ⟨by omega, by omega, by omega⟩, ⟨k7, k8, k9⟩, SH⟩ | exact NX () _ (E2 () (by omega)) | (have := MX () _ (E2 () (by omega)); omega))
        | (refine ⟨_, Or.inl (⟨rfl, _, _, _, _, _, _, 13, rfl, rfl, rfl, rfl, rfl, rfl, ?_⟩) ⟩ <;> first | omega | exact ⟨by omega, E6, by omega, E7⟩ | exact ⟨by omega, E1 () (by omega) (by omega), by omega, rb⟩ | exact ⟨by omega, k2, k3, rb, ⟨by omega, by omega, by omega⟩, ⟨rfl, rfl, rfl⟩, SH0⟩ | exact ⟨by omega, k2, k3, rb0, ⟨by omega, by omega, by omega⟩, ⟨k7, k8, k9⟩, SH⟩ | exact NX () _ (E2 () (by omega)) | (have := MX () _ (E2 () (by omega)); omega))
        | (refine ⟨_, ?_, Or.inl (⟨rfl, _, _, _, _, _, _, n - 1, rfl, rfl, rfl, rfl, rfl, rfl, ?_⟩)⟩ <;> first | omega | exact ⟨by omega, E6, by omega, E7⟩ | exact ⟨by omega, E1 () (by omega) (by omega), by omega, rb⟩ | exact ⟨by omega, k2, k3, rb, ⟨by omega, by omega, by omega⟩, ⟨rfl, rfl, rfl⟩, SH0⟩ | exact ⟨by omega, k2, k3, rb0, ⟨by omega, by omega, by omega⟩, ⟨k7, k8, k9⟩, SH⟩ | exact NX () _ (E2 () (by omega)) | (have := MX () _ (E2 () (by omega)); omega))
        | (refine ⟨_, Or.inl (⟨rfl, _, _, _, _, _, _, n - 1, rfl, rfl, rfl, rfl, rfl, rfl, ?_⟩) ⟩ <;> first | omega | exact ⟨by omega, E6, by omega, E7⟩ | exact ⟨by omega, E1 () (by omega) (by omega), by omega, rb⟩ | exact ⟨by omega, k2, k3, rb, ⟨by omega, by omega, by omega⟩, ⟨rfl, rfl, rfl⟩, SH0⟩ | exact ⟨by omega, k2, k3, rb0, ⟨by omega, by omega, by omega⟩, ⟨k7, k8, k9⟩, SH⟩ | exact NX () _ (E2 () (by omega)) | (have := MX () _ (E2 () (by omega)); omega))
        | (refine ⟨_, ?_, Or.inl (⟨rfl, _, _, _, _, _, _, N - 1, rfl, rfl, rfl, rfl, rfl, rfl, ?_⟩)⟩ <;> first | omega | exact ⟨by omega, E6, by omega, E7⟩ | exact ⟨by omega, E1 () (by omega) (by omega), by omega, rb⟩ | exact ⟨by omega, k2, k3, rb, ⟨by omega, by omega, by omega⟩, ⟨rfl, rfl, rfl⟩, SH0⟩ | exact ⟨by omega, k2, k3, rb0, ⟨by omega, by omega, by omega⟩, ⟨k7, k8, k9⟩, SH⟩ | exact NX () _ (E2 () (by omega)) | (have := MX () _ (E2 () (by omega)); omega))
        | (refine ⟨_, Or.inl (⟨rfl, _, _, _, _, _, _, N - 1, rfl, rfl, rfl, rfl, rfl, rfl, ?_⟩) ⟩ <;> first | omega | exact ⟨by omega, E6, by omega, E7⟩ | exact ⟨by omega, E1 () (by omega) (by omega), by omega, rb⟩ | exact ⟨by omega, k2, k3, rb, ⟨by omega, by omega, by omega⟩, ⟨rfl, rfl, rfl⟩, SH0⟩ | exact ⟨by omega, k2, k3, rb0, ⟨by omega, by omega, by omega⟩, ⟨k7, k8, k9⟩, SH⟩ | exact NX () _ (E2 () (by omega)) | (have := MX () _ (E2 () (by omega)); omega))
        | (refine ⟨_, ?_, Or.inr (⟨rfl, _, _, _, _, _, _, τ, n, rfl, rfl, rfl, rfl, rfl, rfl, ?_⟩)⟩ <;> first | omega | exact ⟨by omega, E6, by omega, E7⟩ | exact ⟨by omega, E1 () (by omega) (by omega), by omega, rb⟩ | exact ⟨by omega, k2, k3, rb, ⟨by omega, by omega, by omega⟩, ⟨rfl, rfl, rfl⟩, SH0⟩ | exact ⟨by omega, k2, k3, rb0, ⟨by omega, by omega, by omega⟩, ⟨k7, k8, k9⟩, SH⟩ | exact NX () _ (E2 () (by omega)) | (have := MX () _ (E2 () (by omega)); omega))
        | (refine ⟨_, Or.inr (⟨rfl, _, _, _, _, _, _, τ, n, rfl, rfl, rfl, rfl, rfl, rfl, ?_⟩) ⟩ <;> first | omega | exact ⟨by omega, E6, by omega, E7⟩ | exact ⟨by omega, E1 () (by omega) (by omega), by omega, rb⟩ | exact ⟨by omega, k2, k3, rb, ⟨by omega, by omega, by omega⟩, ⟨rfl, rfl, rfl⟩, SH0⟩ | exact ⟨by omega, k2, k3, rb0, ⟨by omega, by omega, by omega⟩, ⟨k7, k8, k9⟩, SH⟩ | exact NX () _ (E2 () (by omega)) | (have := MX () _ (E2 () (by omega)); omega))
        | (refine ⟨_, ?_, Or.inr (⟨rfl, _, _, _, _, _, _, τ, N, rfl, rfl, rfl, rfl, rfl, rfl, ?_⟩)⟩ <;> first | omega | exact ⟨by omega, E6, by omega, E7⟩ | exact ⟨by omega, E1 () (by omega) (by omega), by omega, rb⟩ | exact ⟨by omega, k2, k3, rb, ⟨by omega, by omega, by omega⟩, ⟨rfl, rfl, rfl⟩, SH0⟩ | exact ⟨by omega, k2, k3, rb0, ⟨by omega, by omega, by omega⟩, ⟨k7, k8, k9⟩, SH⟩ | exact NX () _ (E2 () (by omega)) | (have := MX () _ (E2 () (by omega)); omega))
        | (refine ⟨_, Or.inr (⟨rfl, _, _, _, _, _, _, τ, N, rfl, rfl, rfl, rfl, rfl, rfl, ?_⟩) ⟩ <;> first | omega | exact ⟨by omega, E6, by omega, E7⟩ | exact ⟨by omega, E1 () (by omega) (by omega), by omega, rb⟩ | exact ⟨by omega, k2, k3, rb, ⟨by omega, by omega, by omega⟩, ⟨rfl, rfl, rfl⟩, SH0⟩ | exact ⟨by omega, k2, k3, rb0, ⟨by omega, by omega, by omega⟩, ⟨k7, k8, k9⟩, SH⟩ | exact NX () _ (E2 () (by omega)) | (have := MX () _ (E2 () (by omega)); omega))
        | contradiction
        | exact trivial
        | rfl
        | omega
        | exact (bi1 (by omega)).symm
        | exact (bi0 (by omega)).symm
        | exact (bi1 (by assumption)).symm
        | exact (bi0 (by assumption)).symm
        | (rw [X3 () (by omega)]; done)
        | (exact congrArg _ (X3 () (by omega)))
        | ((try unfold IN_); (repeat (first | rw [if_pos (by omega)] | rw [if_neg (by omega)])); done)
        | ((try unfold IN_); (repeat (first | rw [if_pos (by omega)] | rw [if_neg (by omega)])); rfl)
        | ((try unfold IN_); (repeat (first | rw [if_pos (by omega)] | rw [if_neg (by omega)] | rw [if_pos (by assumption)] | rw [if_neg (by assumption)])); rfl)
  · have E8 : 0 ≤ σ 0 24 ∧ σ 0 24 ≤ 12 := hB 0 24
    have E6 : brF 13 0 σ = sp_brings σ := rfl
    have E7 : BB m (f + 12 - σ 0 24) σ := BB_le (Int.le_refl m) (by omega) hB
    simp (disch := omega) only [e_Mod_brings_0, e_Mod_brings_1, c_Mod_brings_2, e_Mod_brings_2, e_Mod_brings_3, e_Mod_brings_4, e_Mod_brings_5, e_Mod_brings_6, e_Mod_brings_7, e_Mod_brings_8, e_Mod_brings_9, e_Mod_brings_10, e_Mod_brings_11, e_Mod_brings_12, e_Mod_brings_13, e_Mod_brings_14, e_Mod_brings_15, e_Mod_brings_16, e_Mod_brings_17, e_Mod_brings_18, e_Mod_brings_19, e_Mod_brings_20, e_Mod_brings_21, e_Mod_brings_22, e_Mod_brings_23, e_Mod_brings_24, e_Mod_brings_25, e_Mod_brings_26, e_Mod_brings_27, e_Mod_brings_28, e_Mod_brings_29, e_Mod_brings_30, e_Mod_brings_31a, e_Mod_brings_31b, e_Mod_brings_32, e_Mod_brings_33, e_Mod_brings_34, e_Mod_brings_35, e_Mod_brings_36, e_Mod_brings_37, c_Mod_brings_38, e_Mod_brings_38, e_Mod_brings_39, e_Mod_brings_40, e_Mod_brings_41, e_Mod_brings_42, e_Mod_brings_43, e_Mod_brings_44, e_Mod_brings_45, e_Mod_brings_46, e_Mod_brings_47, e_Mod_brings_48, e_Mod_brings_49, e_Mod_brings_50, e_Mod_brings_51, e_Mod_brings_52, e_Mod_brings_53, e_Mod_brings_54, e_Mod_brings_55, e_Mod_brings_56, e_Mod_brings_57, e_Mod_brings_58, e_Mod_brings_59, e_Mod_brings_60, e_Mod_brings_61, e_Mod_brings_62, e_Mod_brings_63, e_Mod_brings_64, e_Mod_brings_65, e_Mod_brings_66, e_Mod_brings_67, e_Mod_brings_68, e_Mod_brings_69, e_Mod_brings_70, e_Mod_brings_71, e_Mod_brings_72, e_Mod_brings_73, e_Mod_brings_74, e_Mod_brings_75, e_Mod_brings_76, e_Mod_brings_77, e_Mod_brings_78, e_Mod_brings_79, e_Mod_brings_80, e_Mod_brings_81, e_Mod_brings_82, e_Mod_brings_83, e_Mod_brings_84, e_Mod_brings_85a, e_Mod_brings_85b, e_Mod_brings_86, e_Mod_brings_87, e_Mod_brings_88, e_Mod_brings_89, e_Mod_brings_90, e_Mod_brings_91, e_Mod_brings_92, e_Mod_brings_93, e_Mod_brings_94, e_Mod_brings_95, e_Mod_brings_96, jm_ia, jm_na, jm_qa, jm_aa, jm_asg, jm_l4, jm_Kr, jm_okv, jm_rc, jm_bo, true_and, and_true, Nat.add_zero, Nat.le_refl, j_lt, j_le, j_eq, j_lt0, j_0lt, j_le0, j_0le, j_eq0, j_add, j_sub, j_mul, j_neg, j_0sub, j_nat, j_in, j_div, j_rem, Sum.inl.injEq, exists_eq', true_or, or_true, if_true, if_false, not_true_eq_false, not_false_eq_true, implies_true, j_eq1, reduceIte, Nat.reduceEqDiff, Int.reduceEq, Int.reduceToNat, Nat.reduceAdd, Int.reduceAdd, Int.reduceSub, Int.reduceMul, Int.reduceNeg, and_false, false_and, and_self, u2r, j_b0, j_b1, Classical.not_not, eq_self, true_implies, false_implies, not_true_eq_false, not_false_eq_true, Int.reduceLT, Int.reduceLE, rk H, mi0, ms0, rs2 H, rs3 H, rr1 H, ra1 H, rr2 H, ra2 H, rr3 H, ra3 H, rr4 H, ra4 H, rr5 H, ra5 H, rr6 H, ra6 H, rr7 H, ra7 H, rr8 H, ra8 H, rr9 H, ra9 H, rr10 H, ra10 H, rr11 H, ra11 H, rr12 H, ra12 H, rr13 H, ra13 H, rr14 H, ra14 H, rr15 H, ra15 H, rr16 H, ra16 H, rr17 H, ra17 H, rr18 H, ra18 H, rr19 H, ra19 H, rr20 H, ra20 H, rr21 H, ra21 H, rr22 H, ra22 H, rr23 H, ra23 H, rr24 H, ra24 H, rr25 H, ra25 H, rr26 H, ra26 H, rr27 H, ra27 H, rr28 H, ra28 H, rr29 H, ra29 H, rr30 H, ra30 H, mia, msa, ri2 H, ri3 H]
    repeat' first
      | apply And.intro
      | (intro _)
      | (refine ⟨_, m_comesW B l _ _ _ H rb1 hm (by omega) p w n (by omega) (by omega) (by omega) (by omega) (by omega) (by omega), ?_⟩; rintro h' rfl; try simp (disch := omega) only [e_Mod_brings_0, e_Mod_brings_1, c_Mod_brings_2, e_Mod_brings_2, e_Mod_brings_3, e_Mod_brings_4, e_Mod_brings_5, e_Mod_brings_6, e_Mod_brings_7, e_Mod_brings_8, e_Mod_brings_9, e_Mod_brings_10, e_Mod_brings_11, e_Mod_brings_12, e_Mod_brings_13, e_Mod_brings_14, e_Mod_brings_15, e_Mod_brings_16, e_Mod_brings_17, e_Mod_brings_18, e_Mod_brings_19, e_Mod_brings_20, e_Mod_brings_21, e_Mod_brings_22, e_Mod_brings_23, e_Mod_brings_24, e_Mod_brings_25, e_Mod_brings_26, e_Mod_brings_27, e_Mod_brings_28, e_Mod_brings_29, e_Mod_brings_30, e_Mod_brings_31a, e_Mod_brings_31b, e_Mod_brings_32, e_Mod_brings_33, e_Mod_brings_34, e_Mod_brings_35, e_Mod_brings_36, e_Mod_brings_37, c_Mod_brings_38, e_Mod_brings_38, e_Mod_brings_39, e_Mod_brings_40, e_Mod_brings_41, e_Mod_brings_42, e_Mod_brings_43, e_Mod_brings_44, e_Mod_brings_45, e_Mod_brings_46, e_Mod_brings_47, e_Mod_brings_48, e_Mod_brings_49, e_Mod_brings_50, e_Mod_brings_51, e_Mod_brings_52, e_Mod_brings_53, e_Mod_brings_54, e_Mod_brings_55, e_Mod_brings_56, e_Mod_brings_57, e_Mod_brings_58, e_Mod_brings_59, e_Mod_brings_60, e_Mod_brings_61, e_Mod_brings_62, e_Mod_brings_63, e_Mod_brings_64, e_Mod_brings_65, e_Mod_brings_66, e_Mod_brings_67, e_Mod_brings_68, e_Mod_brings_69, e_Mod_brings_70, e_Mod_brings_71, e_Mod_brings_72, e_Mod_brings_73, e_Mod_brings_74, e_Mod_brings_75, e_Mod_brings_76, e_Mod_brings_77, e_Mod_brings_78, e_Mod_brings_79, e_Mod_brings_80, e_Mod_brings_81, e_Mod_brings_82, e_Mod_brings_83, e_Mod_brings_84, e_Mod_brings_85a, e_Mod_brings_85b, e_Mod_brings_86, e_Mod_brings_87, e_Mod_brings_88, e_Mod_brings_89, e_Mod_brings_90, e_Mod_brings_91, e_Mod_brings_92, e_Mod_brings_93, e_Mod_brings_94, e_Mod_brings_95, e_Mod_brings_96, jm_ia, jm_na, jm_qa, jm_aa, jm_asg, jm_l4, jm_Kr, jm_okv, jm_rc, jm_bo, true_and, and_true, Nat.add_zero, Nat.le_refl, j_lt, j_le, j_eq, j_lt0, j_0lt, j_le0, j_0le, j_eq0, j_add, j_sub, j_mul, j_neg, j_0sub, j_nat, j_in, j_div, j_rem, Sum.inl.injEq, exists_eq', true_or, or_true, if_true, if_false, not_true_eq_false, not_false_eq_true, implies_true, j_eq1, reduceIte, Nat.reduceEqDiff, Int.reduceEq, Int.reduceToNat, Nat.reduceAdd, Int.reduceAdd, Int.reduceSub, Int.reduceMul, Int.reduceNeg, and_false, false_and, and_self, u2r, j_b0, j_b1, Classical.not_not, eq_self, true_implies, false_implies, not_true_eq_false, not_false_eq_true, Int.reduceLT, Int.reduceLE, rk H, mi0, ms0, rs2 H, rs3 H, rr1 H, ra1 H, rr2 H, ra2 H, rr3 H, ra3 H, rr4 H, ra4 H, rr5 H, ra5 H, rr6 H, ra6 H, rr7 H, ra7 H, rr8 H, ra8 H, rr9 H, ra9 H, rr10 H, ra10 H, rr11 H, ra11 H, rr12 H, ra12 H, rr13 H, ra13 H, rr14 H, ra14 H, rr15 H, ra15 H, rr16 H, ra16 H, rr17 H, ra17 H, rr18 H, ra18 H, rr19 H, ra19 H, rr20 H, ra20 H, rr21 H, ra21 H, rr22 H, ra22 H, rr23 H, ra23 H, rr24 H, ra24 H, rr25 H, ra25 H, rr26 H, ra26 H, rr27 H, ra27 H, rr28 H, ra28 H, rr29 H, ra29 H, rr30 H, ra30 H, mia, msa, ri2 H, ri3 H])
    all_goals (try simp (disch := omega) only [j_nat, j_lt, j_eq, j_le, msa, Sum.inl.injEq] at *)
    all_goals first
      | (refine ⟨_, ?_, Or.inl (⟨rfl, _, _, _, _, _, _, 13, rfl, rfl, rfl, rfl, rfl, rfl, ?_⟩)⟩ <;> first | omega | exact ⟨by omega, E6, by omega, E7⟩ | exact ⟨by omega, E1 () (by omega) (by omega), by omega, rb⟩ | exact ⟨by omega, k2, k3, rb, ⟨by omega, by omega, by omega⟩, ⟨rfl, rfl, rfl⟩, SH0⟩ | exact ⟨by omega, k2, k3, rb0, ⟨by omega, by omega, by omega⟩, ⟨k7, k8, k9⟩, SH⟩ | exact NX () _ (E2 () (by omega)) | (have := MX () _ (E2 () (by omega)); omega))
      | (refine ⟨_, Or.inl (⟨rfl, _, _, _, _, _, _, 13, rfl, rfl, rfl, rfl, rfl, rfl, ?_⟩) ⟩ <;> first | omega | exact ⟨by omega, E6, by omega, E7⟩ | exact ⟨by omega, E1 () (by omega) (by omega), by omega, rb⟩ | exact ⟨by omega, k2, k3, rb, ⟨by omega, by omega, by omega⟩, ⟨rfl, rfl, rfl⟩, SH0⟩ | exact ⟨by omega, k2, k3, rb0, ⟨by omega, by omega, by omega⟩, ⟨k7, k8, k9⟩, SH⟩ | exact NX () _ (E2 () (by omega)) | (have := MX () _ (E2 () (by omega)); omega))
      | (refine ⟨_, ?_, Or.inl (⟨rfl, _, _, _, _, _, _, n - 1, rfl, rfl, rfl, rfl, rfl, rfl, ?_⟩)⟩ <;> first | omega | exact ⟨by omega, E6, by omega, E7⟩ | exact ⟨by omega, E1 () (by omega) (by omega), by omega, rb⟩ | exact ⟨by omega, k2, k3, rb, ⟨by omega, by omega, by omega⟩, ⟨rfl, rfl, rfl⟩, SH0⟩ | exact ⟨by omega, k2, k3, rb0, ⟨by omega, by omega, by omega⟩, ⟨k7, k8, k9⟩, SH⟩ | exact NX () _ (E2 () (by omega)) | (have := MX () _ (E2 () (by omega)); omega))
      | (refine ⟨_, Or.inl (⟨rfl, _, _, _, _, _, _, n - 1, rfl, rfl, rfl, rfl, rfl, rfl, ?_⟩) ⟩ <;> first | omega | exact ⟨by omega, E6, by omega, E7⟩ | exact ⟨by omega, E1 () (by omega) (by omega), by omega, rb⟩ | exact ⟨by omega, k2, k3, rb, ⟨by omega, by omega, by omega⟩, ⟨rfl, rfl, rfl⟩, SH0⟩ | exact ⟨by omega, k2, k3, rb0, ⟨by omega, by omega, by omega⟩, ⟨k7, k8, k9⟩, SH⟩ | exact NX () _ (E2 () (by omega)) | (have := MX () _ (E2 () (by omega)); omega))
      | (refine ⟨_, ?_, Or.inl (⟨rfl, _, _, _, _, _, _, N - 1, rfl, rfl, rfl, rfl, rfl, rfl, ?_⟩)⟩ <;> first | omega | exact ⟨by omega, E6, by omega, E7⟩ | exact ⟨by omega, E1 () (by omega) (by omega), by omega, rb⟩ | exact ⟨by omega, k2, k3, rb, ⟨by omega, by omega, by omega⟩, ⟨rfl, rfl, rfl⟩, SH0⟩ | exact ⟨by omega, k2, k3, rb0, ⟨by omega, by omega, by omega⟩, ⟨k7, k8, k9⟩, SH⟩ | exact NX () _ (E2 () (by omega)) | (have := MX () _ (E2 () (by omega)); omega))
      | (refine ⟨_, Or.inl (⟨rfl, _, _, _, _, _, _, N - 1, rfl, rfl, rfl, rfl, rfl, rfl, ?_⟩) ⟩ <;> first | omega | exact ⟨by omega, E6, by omega, E7⟩ | exact ⟨by omega, E1 () (by omega) (by omega), by omega, rb⟩ | exact ⟨by omega, k2, k3, rb, ⟨by omega, by omega, by omega⟩, ⟨rfl, rfl, rfl⟩, SH0⟩ | exact ⟨by omega, k2, k3, rb0, ⟨by omega, by omega, by omega⟩, ⟨k7, k8, k9⟩, SH⟩ | exact NX () _ (E2 () (by omega)) | (have := MX () _ (E2 () (by omega)); omega))
      | (refine ⟨_, ?_, Or.inr (⟨rfl, _, _, _, _, _, _, τ, n, rfl, rfl, rfl, rfl, rfl, rfl, ?_⟩)⟩ <;> first | omega | exact ⟨by omega, E6, by omega, E7⟩ | exact ⟨by omega, E1 () (by omega) (by omega), by omega, rb⟩ | exact ⟨by omega, k2, k3, rb, ⟨by omega, by omega, by omega⟩, ⟨rfl, rfl, rfl⟩, SH0⟩ | exact ⟨by omega, k2, k3, rb0, ⟨by omega, by omega, by omega⟩, ⟨k7, k8, k9⟩, SH⟩ | exact NX () _ (E2 () (by omega)) | (have := MX () _ (E2 () (by omega)); omega))
      | (refine ⟨_, Or.inr (⟨rfl, _, _, _, _, _, _, τ, n, rfl, rfl, rfl, rfl, rfl, rfl, ?_⟩) ⟩ <;> first | omega | exact ⟨by omega, E6, by omega, E7⟩ | exact ⟨by omega, E1 () (by omega) (by omega), by omega, rb⟩ | exact ⟨by omega, k2, k3, rb, ⟨by omega, by omega, by omega⟩, ⟨rfl, rfl, rfl⟩, SH0⟩ | exact ⟨by omega, k2, k3, rb0, ⟨by omega, by omega, by omega⟩, ⟨k7, k8, k9⟩, SH⟩ | exact NX () _ (E2 () (by omega)) | (have := MX () _ (E2 () (by omega)); omega))
      | (refine ⟨_, ?_, Or.inr (⟨rfl, _, _, _, _, _, _, τ, N, rfl, rfl, rfl, rfl, rfl, rfl, ?_⟩)⟩ <;> first | omega | exact ⟨by omega, E6, by omega, E7⟩ | exact ⟨by omega, E1 () (by omega) (by omega), by omega, rb⟩ | exact ⟨by omega, k2, k3, rb, ⟨by omega, by omega, by omega⟩, ⟨rfl, rfl, rfl⟩, SH0⟩ | exact ⟨by omega, k2, k3, rb0, ⟨by omega, by omega, by omega⟩, ⟨k7, k8, k9⟩, SH⟩ | exact NX () _ (E2 () (by omega)) | (have := MX () _ (E2 () (by omega)); omega))
      | (refine ⟨_, Or.inr (⟨rfl, _, _, _, _, _, _, τ, N, rfl, rfl, rfl, rfl, rfl, rfl, ?_⟩) ⟩ <;> first | omega | exact ⟨by omega, E6, by omega, E7⟩ | exact ⟨by omega, E1 () (by omega) (by omega), by omega, rb⟩ | exact ⟨by omega, k2, k3, rb, ⟨by omega, by omega, by omega⟩, ⟨rfl, rfl, rfl⟩, SH0⟩ | exact ⟨by omega, k2, k3, rb0, ⟨by omega, by omega, by omega⟩, ⟨k7, k8, k9⟩, SH⟩ | exact NX () _ (E2 () (by omega)) | (have := MX () _ (E2 () (by omega)); omega))
      | contradiction
      | exact trivial
      | rfl
      | omega
      | exact (bi1 (by omega)).symm
      | exact (bi0 (by omega)).symm
      | exact (bi1 (by assumption)).symm
      | exact (bi0 (by assumption)).symm
      | (rw [X3 () (by omega)]; done)
      | (exact congrArg _ (X3 () (by omega)))
      | ((try unfold IN_); (repeat (first | rw [if_pos (by omega)] | rw [if_neg (by omega)])); done)
      | ((try unfold IN_); (repeat (first | rw [if_pos (by omega)] | rw [if_neg (by omega)])); rfl)
      | ((try unfold IN_); (repeat (first | rw [if_pos (by omega)] | rw [if_neg (by omega)] | rw [if_pos (by assumption)] | rw [if_neg (by assumption)])); rfl)
