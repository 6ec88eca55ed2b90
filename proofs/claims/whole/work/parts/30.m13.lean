/-! the rights of a crane -/
def wfl (σ : S_) (p c s : Int) : Int := if wantX σ p c s then 1 else 0
def kpS (σ : S_) (p w : Int) : S_ := if σ 16 p.toNat = 1 ∧ σ 2 (KP p.toNat).toNat = 0 ∧ w = 0 then jm_u2 σ 16 p.toNat 0 else if σ 16 p.toNat = 0 ∧ w = 1 ∧ σ 0 1 - σ 19 p.toNat ≤ 40 then jm_u2 σ 16 p.toNat 1 else σ
def stepR (σ : S_) (c p : Int) : S_ := if σ 13 p.toNat = 0 then σ else if KP p.toNat = c then kpS σ p (wfl σ p (KP p.toNat) 0) else if AS p.toNat = c then sp_asks σ p (wfl σ p (AS p.toNat) 1) else σ
def rgt (σ : S_) (c : Int) : Nat → S_
  | 0 => σ
  | n + 1 => stepR (rgt σ c n) c n
def sp_rights (σ : S_) (c : Int) : S_ := rgt σ c 3
def ak (c : Int) (n : Nat) : Int := if AS n = c then 2 else 0
def akN (c : Int) : Nat → Int
  | 0 => 0
  | n + 1 => akN c n + ak c n
theorem BB_say {m f : Int} {σ : S_} (h : BB m f σ) {p k n : Int} (h1 : 0 ≤ p) (h2 : p < 3) (h3 : 0 ≤ k) (h4 : k ≤ 4) (h5 : 0 ≤ n) (h6 : n ≤ m) : BB m (f + 1) (sp_say σ p k n) := by
  have u : BB m f (jm_u2 σ 22 p.toNat (σ 0 1)) := BB_u h (h 0 1)
  exact BB_send u h1 h2 h3 h4 h5 h6
theorem BB_beat {m f : Int} {σ : S_} (h : BB m f σ) {p : Int} (h1 : 0 ≤ p) (h2 : p ≤ 2) : BB m (f + 1) (sp_beat σ p) := by
  have b4 : 0 ≤ σ 21 p.toNat ∧ σ 21 p.toNat ≤ m := h 21 _
  unfold sp_beat
  split
  · exact BB_send h h1 (by omega) (by decide) (by decide) b4.1 b4.2
  · exact BB_le (Int.le_refl m) (by omega) h
theorem BB_act {m f : Int} {σ : S_} (h : BB m f σ) {p w : Int} (h1 : 0 ≤ p) (h2 : p ≤ 2) : BB (m + 1) (f + 1) (sp_act σ p w) := by
  have b4 : 0 ≤ σ 21 p.toNat ∧ σ 21 p.toNat ≤ m := h 21 _
  have h' : BB (m + 1) f σ := BB_le (by omega) (Int.le_refl f) h
  unfold sp_act
  split
  · have u : BB (m + 1) f (jm_u2 (jm_u2 σ 21 p.toNat (σ 21 p.toNat + 1)) 20 p.toNat 1) := BB_u (BB_u h' ⟨by omega, by omega⟩) ⟨by decide, by decide⟩
    exact BB_say u h1 (by omega) (by decide) (by decide) (by omega) (by omega)
  · split
    · have u : BB (m + 1) f (jm_u2 σ 20 p.toNat 3) := BB_u h' ⟨by decide, by decide⟩
      exact BB_say u h1 (by omega) (by decide) (by decide) (by omega) (by omega)
    · split
      · exact BB_say h' h1 (by omega) (by decide) (by decide) (by omega) (by omega)
      · split
        · exact BB_say h' h1 (by omega) (by decide) (by decide) (by omega) (by omega)
        · exact BB_le (Int.le_refl _) (by omega) h'
theorem BB_asks {m f : Int} {σ : S_} (h : BB m f σ) {p w : Int} (h1 : 0 ≤ p) (h2 : p ≤ 2) : BB (m + 1) (f + 2) (sp_asks σ p w) := by
  have := BB_act (w := w) (BB_beat h h1 h2) h1 h2
  rw [show f + 2 = f + 1 + 1 by omega]
  exact this
theorem BB_kp {m f : Int} {σ : S_} (h : BB m f σ) {p w : Int} : BB m f (kpS σ p w) := by
  unfold kpS
  split
  · exact BB_u h ⟨by decide, by decide⟩
  · split
    · exact BB_u h ⟨by decide, by decide⟩
    · exact h
theorem BB_stepR {m f : Int} {σ : S_} (h : BB m f σ) {c p : Int} (h1 : 0 ≤ p) (h2 : p ≤ 2) : BB (m + 1) (f + ak c p.toNat) (stepR σ c p) := by
  have a0 : 0 ≤ ak c p.toNat := by unfold ak; split <;> decide
  unfold stepR
  split
  · exact BB_le (by omega) (by omega) h
  · split
    · exact BB_le (by omega) (by omega) (BB_kp h)
    · split
      · rename_i e
        rw [show ak c p.toNat = 2 from if_pos e]
        exact BB_asks h h1 h2
      · exact BB_le (by omega) (by omega) h
theorem say_r {σ : S_} {p k n : Int} {o j : Nat} (h : (0 < o ∧ o < 27 ∧ ¬ o = 22) ∨ 29 < o) : sp_say σ p k n o j = σ o j := by
  unfold sp_say
  rw [snd_r (by omega), u2r, if_neg (by omega)]
theorem say_0 {σ : S_} {p k n : Int} {j : Nat} (h : ¬ j = 29) : sp_say σ p k n 0 j = σ 0 j := by
  unfold sp_say
  rw [snd_0 h, u2r, if_neg (by omega)]
theorem beat_r {σ : S_} {p : Int} {o j : Nat} (h : (0 < o ∧ o < 27) ∨ 29 < o) : sp_beat σ p o j = σ o j := by
  unfold sp_beat
  split
  · exact snd_r h
  · rfl
theorem beat_0 {σ : S_} {p : Int} {j : Nat} (h : ¬ j = 29) : sp_beat σ p 0 j = σ 0 j := by
  unfold sp_beat
  split
  · exact snd_0 h
  · rfl
theorem act_r {σ : S_} {p w : Int} {o j : Nat} (h : (0 < o ∧ o < 20) ∨ (22 < o ∧ o < 27) ∨ 29 < o) : sp_act σ p w o j = σ o j := by
  unfold sp_act
  split
  · rw [say_r (by omega), u2r, if_neg (by omega), u2r, if_neg (by omega)]
  · split
    · rw [say_r (by omega), u2r, if_neg (by omega)]
    · split
      · rw [say_r (by omega)]
      · split
        · rw [say_r (by omega)]
        · rfl
theorem act_0 {σ : S_} {p w : Int} {j : Nat} (h : ¬ j = 29) : sp_act σ p w 0 j = σ 0 j := by
  unfold sp_act
  split
  · rw [say_0 h, u2r, if_neg (by omega), u2r, if_neg (by omega)]
  · split
    · rw [say_0 h, u2r, if_neg (by omega)]
    · split
      · rw [say_0 h]
      · split
        · rw [say_0 h]
        · rfl
theorem asks_r {σ : S_} {p w : Int} {o j : Nat} (h : (0 < o ∧ o < 20) ∨ (22 < o ∧ o < 27) ∨ 29 < o) : sp_asks σ p w o j = σ o j := by
  unfold sp_asks
  rw [act_r h, beat_r (by omega)]
theorem asks_0 {σ : S_} {p w : Int} {j : Nat} (h : ¬ j = 29) : sp_asks σ p w 0 j = σ 0 j := by
  unfold sp_asks
  rw [act_0 h, beat_0 h]
theorem kp_r {σ : S_} {p w : Int} {o j : Nat} (h : ¬ o = 16) : kpS σ p w o j = σ o j := by
  unfold kpS
  split
  · rw [u2r, if_neg (by omega)]
  · split
    · rw [u2r, if_neg (by omega)]
    · rfl
theorem stepR_r {σ : S_} {c p : Int} {o j : Nat} (h : (0 < o ∧ o < 16) ∨ (16 < o ∧ o < 20) ∨ (22 < o ∧ o < 27) ∨ 29 < o) : stepR σ c p o j = σ o j := by
  unfold stepR
  split
  · rfl
  · split
    · exact kp_r (by omega)
    · split
      · exact asks_r (by omega)
      · rfl
theorem stepR_0 {σ : S_} {c p : Int} {j : Nat} (h : ¬ j = 29) : stepR σ c p 0 j = σ 0 j := by
  unfold stepR
  split
  · rfl
  · split
    · exact kp_r (by omega)
    · split
      · exact asks_0 h
      · rfl
theorem rgt_r {σ : S_} {c : Int} {o j : Nat} (h : (0 < o ∧ o < 16) ∨ (16 < o ∧ o < 20) ∨ (22 < o ∧ o < 27) ∨ 29 < o) : ∀ n, rgt σ c n o j = σ o j := by
  intro n
  induction n with
  | zero => rfl
  | succ n ih => exact (stepR_r h).trans ih
theorem rgt_0 {σ : S_} {c : Int} {j : Nat} (h : ¬ j = 29) : ∀ n, rgt σ c n 0 j = σ 0 j := by
  intro n
  induction n with
  | zero => rfl
  | succ n ih => exact (stepR_0 h).trans ih
theorem rgt_SS {σ : S_} (hS : SS σ) (c : Int) (n : Nat) : SS (rgt σ c n) := SS_congr (fun o j h1 h2 => rgt_r (by omega) n) hS
theorem rgt_BB {m f : Int} {σ : S_} (h : BB m f σ) (c : Int) : ∀ n : Nat, n ≤ 3 → BB (m + n) (f + akN c n) (rgt σ c n) := by
  intro n
  induction n with
  | zero => intro _; exact BB_le (by omega) (by show f ≤ f + 0; omega) h
  | succ n ih =>
    intro hn
    have e := BB_stepR (c := c) (p := (n : Int)) (ih (by omega)) (by omega) (by omega)
    rw [Int.toNat_natCast] at e
    refine BB_le (by omega) ?_ e
    show f + akN c n + ak c n ≤ f + (akN c n + ak c n)
    omega
theorem akN_b (c : Int) (n : Nat) : 0 ≤ akN c n ∧ akN c n ≤ 2 * n := by
  induction n with
  | zero => exact ⟨by show (0:Int) ≤ 0; decide, by show (0:Int) ≤ 2 * 0; decide⟩
  | succ n ih =>
    have a0 : 0 ≤ ak c n ∧ ak c n ≤ 2 := by unfold ak; split <;> decide
    show 0 ≤ akN c n + ak c n ∧ akN c n + ak c n ≤ 2 * ((n + 1 : Nat) : Int)
    omega
def Iv_m_rights (h : jm_H) (am : Nat) (σ : S_) (c : Int) : Nat → Nat → List (Option jm_V) → List jm_V → jm_H → Nat → Nat → Prop := fun kq pc L st h' ce sl =>
  (pc = 2 ∧ ∃ (p : Int) (τ : S_), L = [some (.inr (.inl (some am))), some (.inl (Int32.ofInt (c))), some (.inl (Int32.ofInt (p)))] ∧ st = [] ∧ h' = mo h am τ ∧ ce = 0 ∧ sl = 0 ∧ kq = (3 - p).toNat ∧ (0 ≤ p ∧ p ≤ 3 ∧ τ = rgt σ c p.toNat))
set_option maxRecDepth 100000 in
set_option maxHeartbeats 4000000 in
theorem m_rights (B : jm_B) (l : Launch) (h : jm_H) (am : Nat) (σ : S_) (H : RM B am h) {m f : Int} (hB : BB m f σ) (hm : m ≤ 5000000) (hf : f ≤ 80) (c : Int) (hc0 : 0 ≤ c) (hc1 : c ≤ 2) (hS : SS σ) : jm_Ct gG B l (gm 85) [.inr (.inl (some am)), .inl (Int32.ofInt (c))] (mo h am σ) (fun v h' => h' = mo h am (sp_rights σ c)) := by
  show jm_Ct gG B l M_Mod_rights _ _ _
  refine jm_CL (code := k_Mod_rights) (Or.inl (by decide)) (by decide) v_Mod_rights rfl (Nat.le_of_ble_eq_true rfl) [some (.inr (.inl (some am))), some (.inl (Int32.ofInt (c))), none] rfl rfl (Iv_m_rights h am σ c) ?_ ⟨72, ?_⟩
  · intro k pc L st h' ce sl hI
    rcases hI with ⟨rfl, p, τ, rfl, rfl, rfl, rfl, rfl, rfl, hc⟩
    · refine ⟨72, 2, ⟨_, _, rfl, rfl⟩, ?_⟩
      obtain ⟨k1, k2, k3⟩ := hc
      have rb : BB (m + p) (f + akN c p.toNat) τ := by
        rw [k3]
        have := rgt_BB hB c p.toNat (by omega)
        rw [show ((p.toNat : Nat) : Int) = p by omega] at this
        exact this
      have rs : SS τ := by rw [k3]; exact rgt_SS hS c _
      have ab := akN_b c p.toNat
      have kb1 := KPb p.toNat
      have kb2 := ASb p.toNat
      have kb3 : KP p.toNat < AS p.toNat := by unfold KP AS; split <;> split <;> omega
      have c1 : 0 ≤ τ 13 p.toNat ∧ τ 13 p.toNat ≤ 1 := rb 13 _
      have c2 : 0 ≤ τ 16 p.toNat ∧ τ 16 p.toNat ≤ 2 := rb 16 _
      have c3 : 0 ≤ τ 19 p.toNat ∧ τ 19 p.toNat ≤ 600000 := rb 19 _
      have c4 : 0 ≤ τ 0 1 ∧ τ 0 1 ≤ 600000 := rb 0 1
      have c5 : -10 ≤ τ 2 (KP p.toNat).toNat ∧ τ 2 (KP p.toNat).toNat ≤ 10 := rb 2 _
      obtain ⟨w0, hw0⟩ : ∃ w, (if wantX τ p (KP p.toNat) 0 then (1:Int) else 0) = w := ⟨_, rfl⟩
      obtain ⟨w1, hw1⟩ : ∃ w, (if wantX τ p (AS p.toNat) 1 then (1:Int) else 0) = w := ⟨_, rfl⟩
      have g0 := fl01 hw0
      have g1 := fl01 hw1
      have NX : ∀ X, stepR τ c p = X → X = rgt σ c (p + 1).toNat := fun X q => by
        rw [← q, k3, show (p + 1).toNat = p.toNat + 1 by omega]
        show stepR (rgt σ c p.toNat) c p = stepR (rgt σ c p.toNat) c ((p.toNat : Nat) : Int)
        rw [show ((p.toNat : Nat) : Int) = p by omega]
      have T0 : Unit → τ 13 p.toNat = 0 → stepR τ c p = τ := fun _ q => if_pos q
      have T1 : Unit → ¬ τ 13 p.toNat = 0 → ¬ KP p.toNat = c → ¬ AS p.toNat = c → stepR τ c p = τ := fun _ q1 q2 q3 => by unfold stepR; rw [if_neg q1, if_neg q2, if_neg q3]
      have T2 : Unit → ¬ τ 13 p.toNat = 0 → ¬ KP p.toNat = c → AS p.toNat = c → stepR τ c p = sp_asks τ p w1 := fun _ q1 q2 q3 => by unfold stepR wfl; rw [if_neg q1, if_neg q2, if_pos q3, hw1]
      have T3 : Unit → ¬ τ 13 p.toNat = 0 → KP p.toNat = c → (τ 16 p.toNat = 1 ∧ τ 2 (KP p.toNat).toNat = 0 ∧ w0 = 0) → stepR τ c p = jm_u2 τ 16 p.toNat 0 := fun _ q1 q2 q3 => by unfold stepR wfl kpS; rw [if_neg q1, if_pos q2, hw0, if_pos q3]
      have T4 : Unit → ¬ τ 13 p.toNat = 0 → KP p.toNat = c → (τ 16 p.toNat = 0 ∧ w0 = 1 ∧ τ 0 1 - τ 19 p.toNat ≤ 40) → stepR τ c p = jm_u2 τ 16 p.toNat 1 := fun _ q1 q2 q3 => by unfold stepR wfl kpS; rw [if_neg q1, if_pos q2, hw0, if_neg (by omega), if_pos q3]
      have T5 : Unit → ¬ τ 13 p.toNat = 0 → KP p.toNat = c → ¬ (τ 16 p.toNat = 1 ∧ τ 2 (KP p.toNat).toNat = 0 ∧ w0 = 0) → ¬ (τ 16 p.toNat = 0 ∧ w0 = 1 ∧ τ 0 1 - τ 19 p.toNat ≤ 40) → stepR τ c p = τ := fun _ q1 q2 q3 q4 => by unfold stepR wfl kpS; rw [if_neg q1, if_pos q2, hw0, if_neg q3, if_neg q4]
      have X3 : Unit → 3 ≤ p → τ = sp_rights σ c := fun _ q => by rw [k3, show p.toNat = 3 by omega]; rfl
      obtain ⟨q, hq⟩ : ∃ q : Int, τ 2 (KP p.toNat).toNat = q := ⟨_, rfl⟩
      have hG0 : ∀ x : Int, (if τ 2 (KP p.toNat).toNat = 0 ∧ w0 = 0 then (1:Int) else 0) = x → Flg (τ 2 (KP p.toNat).toNat = 0 ∧ w0 = 0) x := fun x e => by
        by_cases e1 : τ 2 (KP p.toNat).toNat = 0 ∧ w0 = 0
        · rw [if_pos e1] at e; exact Or.inl ⟨e.symm, e1⟩
        · rw [if_neg e1] at e; exact Or.inr ⟨e.symm, e1⟩
      clear hq q hG0 k3
      simp (disch := omega) only [e_Mod_rights_0, e_Mod_rights_1, c_Mod_rights_2, e_Mod_rights_2, e_Mod_rights_3, e_Mod_rights_4, e_Mod_rights_5, e_Mod_rights_6, e_Mod_rights_7, e_Mod_rights_8, e_Mod_rights_9, e_Mod_rights_10, e_Mod_rights_11, e_Mod_rights_12, e_Mod_rights_13, e_Mod_rights_14, e_Mod_rights_15, e_Mod_rights_16, e_Mod_rights_17, e_Mod_rights_18, e_Mod_rights_19, e_Mod_rights_20, e_Mod_rights_21, e_Mod_rights_22, e_Mod_rights_23, e_Mod_rights_24, e_Mod_rights_25, e_Mod_rights_26, e_Mod_rights_27, e_Mod_rights_28, e_Mod_rights_29, e_Mod_rights_30, e_Mod_rights_31, e_Mod_rights_32, e_Mod_rights_33, e_Mod_rights_34, e_Mod_rights_35, e_Mod_rights_36, e_Mod_rights_37, e_Mod_rights_38, e_Mod_rights_39, e_Mod_rights_40, e_Mod_rights_41, e_Mod_rights_42, e_Mod_rights_43, e_Mod_rights_44, e_Mod_rights_45, e_Mod_rights_46, e_Mod_rights_47, e_Mod_rights_48, e_Mod_rights_49, e_Mod_rights_50, e_Mod_rights_51, e_Mod_rights_52, e_Mod_rights_53, e_Mod_rights_54, e_Mod_rights_55, e_Mod_rights_56, e_Mod_rights_57, e_Mod_rights_58, e_Mod_rights_59, e_Mod_rights_60, e_Mod_rights_61, e_Mod_rights_62, e_Mod_rights_63, e_Mod_rights_64, e_Mod_rights_65, e_Mod_rights_66, e_Mod_rights_67, jm_ia, jm_na, jm_qa, jm_aa, jm_asg, jm_l4, jm_Kr, jm_okv, jm_rc, jm_bo, true_and, and_true, Nat.add_zero, Nat.le_refl, j_lt, j_le, j_eq, j_lt0, j_0lt, j_le0, j_0le, j_eq0, j_add, j_sub, j_mul, j_neg, j_0sub, j_nat, j_in, j_div, j_rem, Sum.inl.injEq, exists_eq', true_or, or_true, if_true, if_false, not_true_eq_false, not_false_eq_true, implies_true, j_eq1, reduceIte, Nat.reduceEqDiff, Int.reduceEq, Int.reduceToNat, Nat.reduceAdd, Int.reduceAdd, Int.reduceSub, Int.reduceMul, Int.reduceNeg, and_false, false_and, and_self, u2r, j_b0, j_b1, Classical.not_not, eq_self, true_implies, false_implies, not_true_eq_false, not_false_eq_true, Int.reduceLT, Int.reduceLE, rk H, mi0, ms0, rs2 H, rs3 H, rr1 H, ra1 H, rr2 H, ra2 H, rr3 H, ra3 H, rr4 H, ra4 H, rr5 H, ra5 H, rr6 H, ra6 H, rr7 H, ra7 H, rr8 H, ra8 H, rr9 H, ra9 H, rr10 H, ra10 H, rr11 H, ra11 H, rr12 H, ra12 H, rr13 H, ra13 H, rr14 H, ra14 H, rr15 H, ra15 H, rr16 H, ra16 H, rr17 H, ra17 H, rr18 H, ra18 H, rr19 H, ra19 H, rr20 H, ra20 H, rr21 H, ra21 H, rr22 H, ra22 H, rr23 H, ra23 H, rr24 H, ra24 H, rr25 H, ra25 H, rr26 H, ra26 H, rr27 H, ra27 H, rr28 H, ra28 H, rr29 H, ra29 H, rr30 H, ra30 H, mia, msa, ri2 H, ri3 H]
      repeat' first
        | apply And.intro
        | (intro _)
        | (refine ⟨_, m_gives0 B l _ _ _ H rb (by omega) (by omega) p k1 (by omega) rs (by omega) hw0, ?_⟩; rintro y h' ⟨rfl, hy⟩; cases hy; try simp (disch := omega) only [e_Mod_rights_0, e_Mod_rights_1, c_Mod_rights_2, e_Mod_rights_2, e_Mod_rights_3, e_Mod_rights_4, e_Mod_rights_5, e_Mod_rights_6, e_Mod_rights_7, e_Mod_rights_8, e_Mod_rights_9, e_Mod_rights_10, e_Mod_rights_11, e_Mod_rights_12, e_Mod_rights_13, e_Mod_rights_14, e_Mod_rights_15, e_Mod_rights_16, e_Mod_rights_17, e_Mod_rights_18, e_Mod_rights_19, e_Mod_rights_20, e_Mod_rights_21, e_Mod_rights_22, e_Mod_rights_23, e_Mod_rights_24, e_Mod_rights_25, e_Mod_rights_26, e_Mod_rights_27, e_Mod_rights_28, e_Mod_rights_29, e_Mod_rights_30, e_Mod_rights_31, e_Mod_rights_32, e_Mod_rights_33, e_Mod_rights_34, e_Mod_rights_35, e_Mod_rights_36, e_Mod_rights_37, e_Mod_rights_38, e_Mod_rights_39, e_Mod_rights_40, e_Mod_rights_41, e_Mod_rights_42, e_Mod_rights_43, e_Mod_rights_44, e_Mod_rights_45, e_Mod_rights_46, e_Mod_rights_47, e_Mod_rights_48, e_Mod_rights_49, e_Mod_rights_50, e_Mod_rights_51, e_Mod_rights_52, e_Mod_rights_53, e_Mod_rights_54, e_Mod_rights_55, e_Mod_rights_56, e_Mod_rights_57, e_Mod_rights_58, e_Mod_rights_59, e_Mod_rights_60, e_Mod_rights_61, e_Mod_rights_62, e_Mod_rights_63, e_Mod_rights_64, e_Mod_rights_65, e_Mod_rights_66, e_Mod_rights_67, jm_ia, jm_na, jm_qa, jm_aa, jm_asg, jm_l4, jm_Kr, jm_okv, jm_rc, jm_bo, true_and, and_true, Nat.add_zero, Nat.le_refl, j_lt, j_le, j_eq, j_lt0, j_0lt, j_le0, j_0le, j_eq0, j_add, j_sub, j_mul, j_neg, j_0sub, j_nat, j_in, j_div, j_rem, Sum.inl.injEq, exists_eq', true_or, or_true, if_true, if_false, not_true_eq_false, not_false_eq_true, implies_true, j_eq1, reduceIte, Nat.reduceEqDiff, Int.reduceEq, Int.reduceToNat, Nat.reduceAdd, Int.reduceAdd, Int.reduceSub, Int.reduceMul, Int.reduceNeg, and_false, false_and, and_self, u2r, j_b0, j_b1, Classical.not_not, eq_self, true_implies, false_implies, not_true_eq_false, not_false_eq_true, Int.reduceLT, Int.reduceLE, rk H, mi0, ms0, rs2 H, rs3 H, rr1 H, ra1 H, rr2 H, ra2 H, rr3 H, ra3 H, rr4 H, ra4 H, rr5 H, ra5 H, rr6 H, ra6 H, rr7 H, ra7 H, rr8 H, ra8 H, rr9 H, ra9 H, rr10 H, ra10 H, rr11 H, ra11 H, rr12 H, ra12 H, rr13 H, ra13 H, rr14 H, ra14 H, rr15 H, ra15 H, rr16 H, ra16 H, rr17 H, ra17 H, rr18 H, ra18 H, rr19 H, ra19 H, rr20 H, ra20 H, rr21 H, ra21 H, rr22 H, ra22 H, rr23 H, ra23 H, rr24 H, ra24 H, rr25 H, ra25 H, rr26 H, ra26 H, rr27 H, ra27 H, rr28 H, ra28 H, rr29 H, ra29 H, rr30 H, ra30 H, mia, msa, ri2 H, ri3 H])
        | (refine ⟨_, m_wW0 B l _ _ _ H rb (by omega) (by omega) p k1 (by omega) rs (by omega) hw0, ?_⟩; rintro y h' ⟨rfl, hy⟩; cases hy; try simp (disch := omega) only [e_Mod_rights_0, e_Mod_rights_1, c_Mod_rights_2, e_Mod_rights_2, e_Mod_rights_3, e_Mod_rights_4, e_Mod_rights_5, e_Mod_rights_6, e_Mod_rights_7, e_Mod_rights_8, e_Mod_rights_9, e_Mod_rights_10, e_Mod_rights_11, e_Mod_rights_12, e_Mod_rights_13, e_Mod_rights_14, e_Mod_rights_15, e_Mod_rights_16, e_Mod_rights_17, e_Mod_rights_18, e_Mod_rights_19, e_Mod_rights_20, e_Mod_rights_21, e_Mod_rights_22, e_Mod_rights_23, e_Mod_rights_24, e_Mod_rights_25, e_Mod_rights_26, e_Mod_rights_27, e_Mod_rights_28, e_Mod_rights_29, e_Mod_rights_30, e_Mod_rights_31, e_Mod_rights_32, e_Mod_rights_33, e_Mod_rights_34, e_Mod_rights_35, e_Mod_rights_36, e_Mod_rights_37, e_Mod_rights_38, e_Mod_rights_39, e_Mod_rights_40, e_Mod_rights_41, e_Mod_rights_42, e_Mod_rights_43, e_Mod_rights_44, e_Mod_rights_45, e_Mod_rights_46, e_Mod_rights_47, e_Mod_rights_48, e_Mod_rights_49, e_Mod_rights_50, e_Mod_rights_51, e_Mod_rights_52, e_Mod_rights_53, e_Mod_rights_54, e_Mod_rights_55, e_Mod_rights_56, e_Mod_rights_57, e_Mod_rights_58, e_Mod_rights_59, e_Mod_rights_60, e_Mod_rights_61, e_Mod_rights_62, e_Mod_rights_63, e_Mod_rights_64, e_Mod_rights_65, e_Mod_rights_66, e_Mod_rights_67, jm_ia, jm_na, jm_qa, jm_aa, jm_asg, jm_l4, jm_Kr, jm_okv, jm_rc, jm_bo, true_and, and_true, Nat.add_zero, Nat.le_refl, j_lt, j_le, j_eq, j_lt0, j_0lt, j_le0, j_0le, j_eq0, j_add, j_sub, j_mul, j_neg, j_0sub, j_nat, j_in, j_div, j_rem, Sum.inl.injEq, exists_eq', true_or, or_true, if_true, if_false, not_true_eq_false, not_false_eq_true, implies_true, j_eq1, reduceIte, Nat.reduceEqDiff, Int.reduceEq, Int.reduceToNat, Nat.reduceAdd, Int.reduceAdd, Int.reduceSub, Int.reduceMul, Int.reduceNeg, and_false, false_and, and_self, u2r, j_b0, j_b1, Classical.not_not, eq_self, true_implies, false_implies, not_true_eq_false, not_false_eq_true, Int.reduceLT, Int.reduceLE, rk H, mi0, ms0, rs2 H, rs3 H, rr1 H, ra1 H, rr2 H, ra2 H, rr3 H, ra3 H, rr4 H, ra4 H, rr5 H, ra5 H, rr6 H, ra6 H, rr7 H, ra7 H, rr8 H, ra8 H, rr9 H, ra9 H, rr10 H, ra10 H, rr11 H, ra11 H, rr12 H, ra12 H, rr13 H, ra13 H, rr14 H, ra14 H, rr15 H, ra15 H, rr16 H, ra16 H, rr17 H, ra17 H, rr18 H, ra18 H, rr19 H, ra19 H, rr20 H, ra20 H, rr21 H, ra21 H, rr22 H, ra22 H, rr23 H, ra23 H, rr24 H, ra24 H, rr25 H, ra25 H, rr26 H, ra26 H, rr27 H, ra27 H, rr28 H, ra28 H, rr29 H, ra29 H, rr30 H, ra30 H, mia, msa, ri2 H, ri3 H])
        | (refine ⟨_, m_asks B l _ _ _ H rb (by omega) (by omega) p k1 (by omega) rs (by omega) hw1, ?_⟩; rintro h' rfl; try simp (disch := omega) only [e_Mod_rights_0, e_Mod_rights_1, c_Mod_rights_2, e_Mod_rights_2, e_Mod_rights_3, e_Mod_rights_4, e_Mod_rights_5, e_Mod_rights_6, e_Mod_rights_7, e_Mod_rights_8, e_Mod_rights_9, e_Mod_rights_10, e_Mod_rights_11, e_Mod_rights_12, e_Mod_rights_13, e_Mod_rights_14, e_Mod_rights_15, e_Mod_rights_16, e_Mod_rights_17, e_Mod_rights_18, e_Mod_rights_19, e_Mod_rights_20, e_Mod_rights_21, e_Mod_rights_22, e_Mod_rights_23, e_Mod_rights_24, e_Mod_rights_25, e_Mod_rights_26, e_Mod_rights_27, e_Mod_rights_28, e_Mod_rights_29, e_Mod_rights_30, e_Mod_rights_31, e_Mod_rights_32, e_Mod_rights_33, e_Mod_rights_34, e_Mod_rights_35, e_Mod_rights_36, e_Mod_rights_37, e_Mod_rights_38, e_Mod_rights_39, e_Mod_rights_40, e_Mod_rights_41, e_Mod_rights_42, e_Mod_rights_43, e_Mod_rights_44, e_Mod_rights_45, e_Mod_rights_46, e_Mod_rights_47, e_Mod_rights_48, e_Mod_rights_49, e_Mod_rights_50, e_Mod_rights_51, e_Mod_rights_52, e_Mod_rights_53, e_Mod_rights_54, e_Mod_rights_55, e_Mod_rights_56, e_Mod_rights_57, e_Mod_rights_58, e_Mod_rights_59, e_Mod_rights_60, e_Mod_rights_61, e_Mod_rights_62, e_Mod_rights_63, e_Mod_rights_64, e_Mod_rights_65, e_Mod_rights_66, e_Mod_rights_67, jm_ia, jm_na, jm_qa, jm_aa, jm_asg, jm_l4, jm_Kr, jm_okv, jm_rc, jm_bo, true_and, and_true, Nat.add_zero, Nat.le_refl, j_lt, j_le, j_eq, j_lt0, j_0lt, j_le0, j_0le, j_eq0, j_add, j_sub, j_mul, j_neg, j_0sub, j_nat, j_in, j_div, j_rem, Sum.inl.injEq, exists_eq', true_or, or_true, if_true, if_false, not_true_eq_false, not_false_eq_true, implies_true, j_eq1, reduceIte, Nat.reduceEqDiff, Int.reduceEq, Int.reduceToNat, Nat.reduceAdd, Int.reduceAdd, Int.reduceSub, Int.reduceMul, Int.reduceNeg, and_false, false_and, and_self, u2r, j_b0, j_b1, Classical.not_not, eq_self, true_implies, false_implies, not_true_eq_false, not_false_eq_true, Int.reduceLT, Int.reduceLE, rk H, mi0, ms0, rs2 H, rs3 H, rr1 H, ra1 H, rr2 H, ra2 H, rr3 H, ra3 H, rr4 H, ra4 H, rr5 H, ra5 H, rr6 H, ra6 H, rr7 H, ra7 H, rr8 H, ra8 H, rr9 H, ra9 H, rr10 H, ra10 H, rr11 H, ra11 H, rr12 H, ra12 H, rr13 H, ra13 H, rr14 H, ra14 H, rr15 H, ra15 H, rr16 H, ra16 H, rr17 H, ra17 H, rr18 H, ra18 H, rr19 H, ra19 H, rr20 H, ra20 H, rr21 H, ra21 H, rr22 H, ra22 H, rr23 H, ra23 H, rr24 H, ra24 H, rr25 H, ra25 H, rr26 H, ra26 H, rr27 H, ra27 H, rr28 H, ra28 H, rr29 H, ra29 H, rr30 H, ra30 H, mia, msa, ri2 H, ri3 H])
      all_goals (try simp (disch := omega) only [ri2 H, ri3 H, j_eq] at *)
      all_goals first
        | (refine ⟨_, ?_, ⟨rfl, _, _, rfl, rfl, rfl, rfl, rfl, rfl, ?_⟩⟩ <;> first | omega | exact ⟨by omega, by omega, e5⟩ | exact ⟨by omega, by omega, NX _ (T0 () (by omega))⟩ | exact ⟨by omega, by omega, NX _ (T1 () (by omega) (by omega) (by omega))⟩ | exact ⟨by omega, by omega, NX _ (T2 () (by omega) (by omega) (by omega))⟩ | exact ⟨by omega, by omega, NX _ (T3 () (by omega) (by omega) (by omega))⟩ | exact ⟨by omega, by omega, NX _ (T4 () (by omega) (by omega) (by omega))⟩ | exact ⟨by omega, by omega, NX _ (T5 () (by omega) (by omega) (by omega) (by omega))⟩)
        | (refine ⟨_, ⟨rfl, _, _, rfl, rfl, rfl, rfl, rfl, rfl, ?_⟩ ⟩ <;> first | omega | exact ⟨by omega, by omega, e5⟩ | exact ⟨by omega, by omega, NX _ (T0 () (by omega))⟩ | exact ⟨by omega, by omega, NX _ (T1 () (by omega) (by omega) (by omega))⟩ | exact ⟨by omega, by omega, NX _ (T2 () (by omega) (by omega) (by omega))⟩ | exact ⟨by omega, by omega, NX _ (T3 () (by omega) (by omega) (by omega))⟩ | exact ⟨by omega, by omega, NX _ (T4 () (by omega) (by omega) (by omega))⟩ | exact ⟨by omega, by omega, NX _ (T5 () (by omega) (by omega) (by omega) (by omega))⟩)
        | contradiction
        | exact trivial
        | rfl
        | omega
        | exact (bi1 (by omega)).symm
        | exact (bi0 (by omega)).symm
        | exact (bi1 (by assumption)).symm
        | exact (bi0 (by assumption)).symm
        | (rw [X3 () (by omega)]; done)
        | ((try unfold IN_); (repeat (first | rw [if_pos (by omega)] | rw [if_neg (by omega)])); done)
        | ((try unfold IN_); (repeat (first | rw [if_pos (by omega)] | rw [if_neg (by omega)])); rfl)
        | ((try unfold IN_); (repeat (first | rw [if_pos (by omega)] | rw [if_neg (by omega)] | rw [if_pos (by assumption)] | rw [if_neg (by assumption)])); rfl)
  · have e5 : σ = rgt σ c (0 : Int).toNat := rfl
    simp (disch := omega) only [e_Mod_rights_0, e_Mod_rights_1, c_Mod_rights_2, e_Mod_rights_2, e_Mod_rights_3, e_Mod_rights_4, e_Mod_rights_5, e_Mod_rights_6, e_Mod_rights_7, e_Mod_rights_8, e_Mod_rights_9, e_Mod_rights_10, e_Mod_rights_11, e_Mod_rights_12, e_Mod_rights_13, e_Mod_rights_14, e_Mod_rights_15, e_Mod_rights_16, e_Mod_rights_17, e_Mod_rights_18, e_Mod_rights_19, e_Mod_rights_20, e_Mod_rights_21, e_Mod_rights_22, e_Mod_rights_23, e_Mod_rights_24, e_Mod_rights_25, e_Mod_rights_26, e_Mod_rights_27, e_Mod_rights_28, e_Mod_rights_29, e_Mod_rights_30, e_Mod_rights_31, e_Mod_rights_32, e_Mod_rights_33, e_Mod_rights_34, e_Mod_rights_35, e_Mod_rights_36, e_Mod_rights_37, e_Mod_rights_38, e_Mod_rights_39, e_Mod_rights_40, e_Mod_rights_41, e_Mod_rights_42, e_Mod_rights_43, e_Mod_rights_44, e_Mod_rights_45, e_Mod_rights_46, e_Mod_rights_47, e_Mod_rights_48, e_Mod_rights_49, e_Mod_rights_50, e_Mod_rights_51, e_Mod_rights_52, e_Mod_rights_53, e_Mod_rights_54, e_Mod_rights_55, e_Mod_rights_56, e_Mod_rights_57, e_Mod_rights_58, e_Mod_rights_59, e_Mod_rights_60, e_Mod_rights_61, e_Mod_rights_62, e_Mod_rights_63, e_Mod_rights_64, e_Mod_rights_65, e_Mod_rights_66, e_Mod_rights_67, jm_ia, jm_na, jm_qa, jm_aa, jm_asg, jm_l4, jm_Kr, jm_okv, jm_rc, jm_bo, true_and, and_true, Nat.add_zero, Nat.le_refl, j_lt, j_le, j_eq, j_lt0, j_0lt, j_le0, j_0le, j_eq0, j_add, j_sub, j_mul, j_neg, j_0sub, j_nat, j_in, j_div, j_rem, Sum.inl.injEq, exists_eq', true_or, or_true, if_true, if_false, not_true_eq_false, not_false_eq_true, implies_true, j_eq1, reduceIte, Nat.reduceEqDiff, Int.reduceEq, Int.reduceToNat, Nat.reduceAdd, Int.reduceAdd, Int.reduceSub, Int.reduceMul, Int.reduceNeg, and_false, false_and, and_self, u2r, j_b0, j_b1, Classical.not_not, eq_self, true_implies, false_implies, not_true_eq_false, not_false_eq_true, Int.reduceLT, Int.reduceLE, rk H, mi0, ms0, rs2 H, rs3 H, rr1 H, ra1 H, rr2 H, ra2 H, rr3 H, ra3 H, rr4 H, ra4 H, rr5 H, ra5 H, rr6 H, ra6 H, rr7 H, ra7 H, rr8 H, ra8 H, rr9 H, ra9 H, rr10 H, ra10 H, rr11 H, ra11 H, rr12 H, ra12 H, rr13 H, ra13 H, rr14 H, ra14 H, rr15 H, ra15 H, rr16 H, ra16 H, rr17 H, ra17 H, rr18 H, ra18 H, rr19 H, ra19 H, rr20 H, ra20 H, rr21 H, ra21 H, rr22 H, ra22 H, rr23 H, ra23 H, rr24 H, ra24 H, rr25 H, ra25 H, rr26 H, ra26 H, rr27 H, ra27 H, rr28 H, ra28 H, rr29 H, ra29 H, rr30 H, ra30 H, mia, msa, ri2 H, ri3 H]
    repeat' first
      | apply And.intro
      | (intro _)
      | (refine ⟨_, m_gives0 B l _ _ _ H rb (by omega) (by omega) p k1 (by omega) rs (by omega) hw0, ?_⟩; rintro y h' ⟨rfl, hy⟩; cases hy; try simp (disch := omega) only [e_Mod_rights_0, e_Mod_rights_1, c_Mod_rights_2, e_Mod_rights_2, e_Mod_rights_3, e_Mod_rights_4, e_Mod_rights_5, e_Mod_rights_6, e_Mod_rights_7, e_Mod_rights_8, e_Mod_rights_9, e_Mod_rights_10, e_Mod_rights_11, e_Mod_rights_12, e_Mod_rights_13, e_Mod_rights_14, e_Mod_rights_15, e_Mod_rights_16, e_Mod_rights_17, e_Mod_rights_18, e_Mod_rights_19, e_Mod_rights_20, e_Mod_rights_21, e_Mod_rights_22, e_Mod_rights_23, e_Mod_rights_24, e_Mod_rights_25, e_Mod_rights_26, e_Mod_rights_27, e_Mod_rights_28, e_Mod_rights_29, e_Mod_rights_30, e_Mod_rights_31, e_Mod_rights_32, e_Mod_rights_33, e_Mod_rights_34, e_Mod_rights_35, e_Mod_rights_36, e_Mod_rights_37, e_Mod_rights_38, e_Mod_rights_39, e_Mod_rights_40, e_Mod_rights_41, e_Mod_rights_42, e_Mod_rights_43, e_Mod_rights_44, e_Mod_rights_45, e_Mod_rights_46, e_Mod_rights_47, e_Mod_rights_48, e_Mod_rights_49, e_Mod_rights_50, e_Mod_rights_51, e_Mod_rights_52, e_Mod_rights_53, e_Mod_rights_54, e_Mod_rights_55, e_Mod_rights_56, e_Mod_rights_57, e_Mod_rights_58, e_Mod_rights_59, e_Mod_rights_60, e_Mod_rights_61, e_Mod_rights_62, e_Mod_rights_63, e_Mod_rights_64, e_Mod_rights_65, e_Mod_rights_66, e_Mod_rights_67, jm_ia, jm_na, jm_qa, jm_aa, jm_asg, jm_l4, jm_Kr, jm_okv, jm_rc, jm_bo, true_and, and_true, Nat.add_zero, Nat.le_refl, j_lt, j_le, j_eq, j_lt0, j_0lt, j_le0, j_0le, j_eq0, j_add, j_sub, j_mul, j_neg, j_0sub, j_nat, j_in, j_div, j_rem, Sum.inl.injEq, exists_eq', true_or, or_true, if_true, if_false, not_true_eq_false, not_false_eq_true, implies_true, j_eq1, reduceIte, Nat.reduceEqDiff, Int.reduceEq, Int.reduceToNat, Nat.reduceAdd, Int.reduceAdd, Int.reduceSub, Int.reduceMul, Int.reduceNeg, and_false, false_and, and_self, u2r, j_b0, j_b1, Classical.not_not, eq_self, true_implies, false_implies, not_true_eq_false, not_false_eq_true, Int.reduceLT, Int.reduceLE, rk H, mi0, ms0, rs2 H, rs3 H, rr1 H, ra1 H, rr2 H, ra2 H, rr3 H, ra3 H, rr4 H, ra4 H, rr5 H, ra5 H, rr6 H, ra6 H, rr7 H, ra7 H, rr8 H, ra8 H, rr9 H, ra9 H, rr10 H, ra10 H, rr11 H, ra11 H, rr12 H, ra12 H, rr13 H, ra13 H, rr14 H, ra14 H, rr15 H, ra15 H, rr16 H, ra16 H, rr17 H, ra17 H, rr18 H, ra18 H, rr19 H, ra19 H, rr20 H, ra20 H, rr21 H, ra21 H, rr22 H, ra22 H, rr23 H, ra23 H, rr24 H, ra24 H, rr25 H, ra25 H, rr26 H, ra26 H, rr27 H, ra27 H, rr28 H, ra28 H, rr29 H, ra29 H, rr30 H, ra30 H, mia, msa, ri2 H, ri3 H])
      | (refine ⟨_, m_wW0 B l _ _ _ H rb (by omega) (by omega) p k1 (by omega) rs (by omega) hw0, ?_⟩; rintro y h' ⟨rfl, hy⟩; cases hy; try simp (disch := omega) only [e_Mod_rights_0, e_Mod_rights_1, c_Mod_rights_2, e_Mod_rights_2, e_Mod_rights_3, e_Mod_rights_4, e_Mod_rights_5, e_Mod_rights_6, e_Mod_rights_7, e_Mod_rights_8, e_Mod_rights_9, e_Mod_rights_10, e_Mod_rights_11, e_Mod_rights_12, e_Mod_rights_13, e_Mod_rights_14, e_Mod_rights_15, e_Mod_rights_16, e_Mod_rights_17, e_Mod_rights_18, e_Mod_rights_19, e_Mod_rights_20, e_Mod_rights_21, e_Mod_rights_22, e_Mod_rights_23, e_Mod_rights_24, e_Mod_rights_25, e_Mod_rights_26, e_Mod_rights_27, e_Mod_rights_28, e_Mod_rights_29, e_Mod_rights_30, e_Mod_rights_31, e_Mod_rights_32, e_Mod_rights_33, e_Mod_rights_34, e_Mod_rights_35, e_Mod_rights_36, e_Mod_rights_37, e_Mod_rights_38, e_Mod_rights_39, e_Mod_rights_40, e_Mod_rights_41, e_Mod_rights_42, e_Mod_rights_43, e_Mod_rights_44, e_Mod_rights_45, e_Mod_rights_46, e_Mod_rights_47, e_Mod_rights_48, e_Mod_rights_49, e_Mod_rights_50, e_Mod_rights_51, e_Mod_rights_52, e_Mod_rights_53, e_Mod_rights_54, e_Mod_rights_55, e_Mod_rights_56, e_Mod_rights_57, e_Mod_rights_58, e_Mod_rights_59, e_Mod_rights_60, e_Mod_rights_61, e_Mod_rights_62, e_Mod_rights_63, e_Mod_rights_64, e_Mod_rights_65, e_Mod_rights_66, e_Mod_rights_67, jm_ia, jm_na, jm_qa, jm_aa, jm_asg, jm_l4, jm_Kr, jm_okv, jm_rc, jm_bo, true_and, and_true, Nat.add_zero, Nat.le_refl, j_lt, j_le, j_eq, j_lt0, j_0lt, j_le0, j_0le, j_eq0, j_add, j_sub, j_mul, j_neg, j_0sub, j_nat, j_in, j_div, j_rem, Sum.inl.injEq, exists_eq', true_or, or_true, if_true, if_false, not_true_eq_false, not_false_eq_true, implies_true, j_eq1, reduceIte, Nat.reduceEqDiff, Int.reduceEq, Int.reduceToNat, Nat.reduceAdd, Int.reduceAdd, Int.reduceSub, Int.reduceMul, Int.reduceNeg, and_false, false_and, and_self, u2r, j_b0, j_b1, Classical.not_not, eq_self, true_implies, false_implies, not_true_eq_false, not_false_eq_true, Int.reduceLT, Int.reduceLE, rk H, mi0, ms0, rs2 H, rs3 H, rr1 H, ra1 H, rr2 H, ra2 H, rr3 H, ra3 H, rr4 H, ra4 H, rr5 H, ra5 H, rr6 H, ra6 H, rr7 H, ra7 H, rr8 H, ra8 H, rr9 H, ra9 H, rr10 H, ra10 H, rr11 H, ra11 H, rr12 H, ra12 H, rr13 H, ra13 H, rr14 H, ra14 H, rr15 H, ra15 H, rr16 H, ra16 H, rr17 H, ra17 H, rr18 H, ra18 H, rr19 H, ra19 H, rr20 H, ra20 H, rr21 H, ra21 H, rr22 H, ra22 H, rr23 H, ra23 H, rr24 H, ra24 H, rr25 H, ra25 H, rr26 H, ra26 H, rr27 H, ra27 H, rr28 H, ra28 H, rr29 H, ra29 H, rr30 H, ra30 H, mia, msa, ri2 H, ri3 H])
      | (refine ⟨_, m_asks B l _ _ _ H rb (by omega) (by omega) p k1 (by omega) rs (by omega) hw1, ?_⟩; rintro h' rfl; try simp (disch := omega) only [e_Mod_rights_0, e_Mod_rights_1, c_Mod_rights_2, e_Mod_rights_2, e_Mod_rights_3, e_Mod_rights_4, e_Mod_rights_5, e_Mod_rights_6, e_Mod_rights_7, e_Mod_rights_8, e_Mod_rights_9, e_Mod_rights_10, e_Mod_rights_11, e_Mod_rights_12, e_Mod_rights_13, e_Mod_rights_14, e_Mod_rights_15, e_Mod_rights_16, e_Mod_rights_17, e_Mod_rights_18, e_Mod_rights_19, e_Mod_rights_20, e_Mod_rights_21, e_Mod_rights_22, e_Mod_rights_23, e_Mod_rights_24, e_Mod_rights_25, e_Mod_rights_26, e_Mod_rights_27, e_Mod_rights_28, e_Mod_rights_29, e_Mod_rights_30, e_Mod_rights_31, e_Mod_rights_32, e_Mod_rights_33, e_Mod_rights_34, e_Mod_rights_35, e_Mod_rights_36, e_Mod_rights_37, e_Mod_rights_38, e_Mod_rights_39, e_Mod_rights_40, e_Mod_rights_41, e_Mod_rights_42, e_Mod_rights_43, e_Mod_rights_44, e_Mod_rights_45, e_Mod_rights_46, e_Mod_rights_47, e_Mod_rights_48, e_Mod_rights_49, e_Mod_rights_50, e_Mod_rights_51, e_Mod_rights_52, e_Mod_rights_53, e_Mod_rights_54, e_Mod_rights_55, e_Mod_rights_56, e_Mod_rights_57, e_Mod_rights_58, e_Mod_rights_59, e_Mod_rights_60, e_Mod_rights_61, e_Mod_rights_62, e_Mod_rights_63, e_Mod_rights_64, e_Mod_rights_65, e_Mod_rights_66, e_Mod_rights_67, jm_ia, jm_na, jm_qa, jm_aa, jm_asg, jm_l4, jm_Kr, jm_okv, jm_rc, jm_bo, true_and, and_true, Nat.add_zero, Nat.le_refl, j_lt, j_le, j_eq, j_lt0, j_0lt, j_le0, j_0le, j_eq0, j_add, j_sub, j_mul, j_neg, j_0sub, j_nat, j_in, j_div, j_rem, Sum.inl.injEq, exists_eq', true_or, or_true, if_true, if_false, not_true_eq_false, not_false_eq_true, implies_true, j_eq1, reduceIte, Nat.reduceEqDiff, Int.reduceEq, Int.reduceToNat, Nat.reduceAdd, Int.reduceAdd, Int.reduceSub, Int.reduceMul, Int.reduceNeg, and_false, false_and, and_self, u2r, j_b0, j_b1, Classical.not_not, eq_self, true_implies, false_implies, not_true_eq_false, not_false_eq_true, Int.reduceLT, Int.reduceLE, rk H, mi0, ms0, rs2 H, rs3 H, rr1 H, ra1 H, rr2 H, ra2 H, rr3 H, ra3 H, rr4 H, ra4 H, rr5 H, ra5 H, rr6 H, ra6 H, rr7 H, ra7 H, rr8 H, ra8 H, rr9 H, ra9 H, rr10 H, ra10 H, rr11 H, ra11 H, rr12 H, ra12 H, rr13 H, ra13 H, rr14 H, ra14 H, rr15 H, ra15 H, rr16 H, ra16 H, rr17 H, ra17 H, rr18 H, ra18 H, rr19 H, ra19 H, rr20 H, ra20 H, rr21 H, ra21 H, rr22 H, ra22 H, rr23 H, ra23 H, rr24 H, ra24 H, rr25 H, ra25 H, rr26 H, ra26 H, rr27 H, ra27 H, rr28 H, ra28 H, rr29 H, ra29 H, rr30 H, ra30 H, mia, msa, ri2 H, ri3 H])
    all_goals (try simp (disch := omega) only [ri2 H, ri3 H, j_eq] at *)
    all_goals first
      | (refine ⟨_, ?_, ⟨rfl, _, _, rfl, rfl, rfl, rfl, rfl, rfl, ?_⟩⟩ <;> first | omega | exact ⟨by omega, by omega, e5⟩ | exact ⟨by omega, by omega, NX _ (T0 () (by omega))⟩ | exact ⟨by omega, by omega, NX _ (T1 () (by omega) (by omega) (by omega))⟩ | exact ⟨by omega, by omega, NX _ (T2 () (by omega) (by omega) (by omega))⟩ | exact ⟨by omega, by omega, NX _ (T3 () (by omega) (by omega) (by omega))⟩ | exact ⟨by omega, by omega, NX _ (T4 () (by omega) (by omega) (by omega))⟩ | exact ⟨by omega, by omega, NX _ (T5 () (by omega) (by omega) (by omega) (by omega))⟩)
      | (refine ⟨_, ⟨rfl, _, _, rfl, rfl, rfl, rfl, rfl, rfl, ?_⟩ ⟩ <;> first | omega | exact ⟨by omega, by omega, e5⟩ | exact ⟨by omega, by omega, NX _ (T0 () (by omega))⟩ | exact ⟨by omega, by omega, NX _ (T1 () (by omega) (by omega) (by omega))⟩ | exact ⟨by omega, by omega, NX _ (T2 () (by omega) (by omega) (by omega))⟩ | exact ⟨by omega, by omega, NX _ (T3 () (by omega) (by omega) (by omega))⟩ | exact ⟨by omega, by omega, NX _ (T4 () (by omega) (by omega) (by omega))⟩ | exact ⟨by omega, by omega, NX _ (T5 () (by omega) (by omega) (by omega) (by omega))⟩)
      | contradiction
      | exact trivial
      | rfl
      | omega
      | exact (bi1 (by omega)).symm
      | exact (bi0 (by omega)).symm
      | exact (bi1 (by assumption)).symm
      | exact (bi0 (by assumption)).symm
      | (rw [X3 () (by omega)]; done)
      | ((try unfold IN_); (repeat (first | rw [if_pos (by omega)] | rw [if_neg (by omega)])); done)
      | ((try unfold IN_); (repeat (first | rw [if_pos (by omega)] | rw [if_neg (by omega)])); rfl)
      | ((try unfold IN_); (repeat (first | rw [if_pos (by omega)] | rw [if_neg (by omega)] | rw [if_pos (by assumption)] | rw [if_neg (by assumption)])); rfl)
