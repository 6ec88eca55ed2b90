/-! the state of the law between two of its rows -/
def LSt (B : jm_B) (ac : Nat) (h : jm_H) (κ : S_) (μ : M_) (u : Nat → Nat) (ids adr : Nat → Nat → Nat) (T : Int) (σ : S_) : Prop :=
  (RC B ac h ∧ RM B (ac + 65) h ∧ (B.2.2 2 < ac ∧ B.2.2 3 < ac) ∧ jm_k h (ac + 96) = some (.inr (2, 1)) ∧ ac + 97 ≤ jm_n h) ∧ IV h ac (9000 * T) κ μ u ids adr ∧ EQm κ σ ∧ κ 0 1 ≤ 1000 * T ∧ 0 ≤ T
theorem EQ_u {κ σ : S_} (e : EQm κ σ) (o j : Nat) (v : Int) : EQm (jm_u2 κ o j v) (jm_u2 σ o j v) := fun a b q1 q2 => by
  rw [u2r, u2r, e a b q1 q2]
theorem EQ_l {κ σ : S_} (e : EQm κ σ) {o j : Nat} {v : Int} (ho : 30 < o) : EQm (jm_u2 κ o j v) σ := fun a b q1 q2 => by
  rw [u2n (by omega)]
  exact e a b q1 q2
theorem EQ_0 {κ σ : S_} (e : EQm κ σ) (v : Int) : EQm κ (jm_u2 σ 0 0 v) := fun a b q1 q2 => by
  rw [u2n q2]
  exact e a b q1 q2
section
variable {B : jm_B} {ac : Nat} {h h' : jm_H} {κ κ' : S_} {μ : M_} {u : Nat → Nat} {ids adr : Nat → Nat → Nat} {T : Int} {σ σ' : S_}
theorem LSt_h (hL : LSt B ac h κ μ u ids adr T σ) (en : jm_n h ≤ jm_n h') (ek : ∀ a, a < jm_n h → jm_k h' a = jm_k h a ∧ (∀ j, jm_i h' a j = jm_i h a j) ∧ ∀ j, jm_r h' a j = jm_r h a j) : LSt B ac h' κ μ u ids adr T σ := by
  obtain ⟨⟨a1, a2, a3, a4, a5⟩, a6, a7⟩ := hL
  exact ⟨⟨RC_c a1 (fun a q => (ek a (by omega)).1) (fun a j q => (ek a (by omega)).2.2 j) (fun a j q => (ek a (by omega)).2.1 j) en, RM_c a2 (fun a q => (ek a (by omega)).1) (fun a j q => (ek a (by omega)).2.2 j) (fun a j q => (ek a (by omega)).2.1 j), a3, by rw [(ek _ (by omega)).1]; exact a4, by omega⟩, IV_h a6 en (fun a q1 q2 => ⟨(ek a q2).1, (ek a q2).2.1⟩), a7⟩
theorem LSt_x (hL : LSt B ac h κ μ u ids adr T σ) {n : Nat} (hn : jm_n h ≤ n) : LSt B ac (jm_xn h n) κ μ u ids adr T σ := LSt_h hL hn (fun a q => ⟨rfl, fun j => rfl, fun j => rfl⟩)
theorem LSt_l (hL : LSt B ac h κ μ u ids adr T σ) (v : Int64) : LSt B ac (jm_sl h (ac + 96) 0 v) κ μ u ids adr T σ := LSt_h hL (Nat.le_refl _) (fun a q => ⟨rfl, fun j => rfl, fun j => rfl⟩)
theorem LSt_k (hL : LSt B ac h κ μ u ids adr T σ) (k : Int) : LSt B ac h κ μ u ids adr (T + 1) (jm_u2 σ 0 0 k) := by
  obtain ⟨a1, a6, a7, a8, a9⟩ := hL
  exact ⟨a1, IV_le (by omega) a6, EQ_0 a7 k, by omega, by omega⟩
theorem LSt_c (hL : LSt B ac h κ μ u ids adr T σ) (hI : IV h ac (9000 * T) κ' μ u ids adr) (hE : EQm κ' σ') (h1 : κ' 0 1 = κ 0 1) : LSt B ac h κ' μ u ids adr (T + 1) σ' := by
  obtain ⟨a1, a6, a7, a8, a9⟩ := hL
  exact ⟨a1, IV_le (by omega) hI, hE, by omega, by omega⟩
theorem LSt_u (hL : LSt B ac h κ μ u ids adr T σ) {o j : Nat} {v : Int} (ho : o = 1 ∨ o = 5 ∨ o = 6) (hv : rowOK (9000 * T) 0 o j v) : LSt B ac h (jm_u2 κ o j v) μ u ids adr (T + 1) (jm_u2 (jm_u2 σ 0 0 0) o j v) := by
  refine LSt_c hL (IV_c hL.2.1 (BB_u hL.2.1.1.1 hv) (SS_congr (fun a b q1 q2 => u2n (by omega)) hL.2.1.1.2.1) (fun a b q => u2n (by omega))) (EQ_u (EQ_0 hL.2.2.1 0) o j v) (u2n (by omega))
theorem LSt_point (hL : LSt B ac h κ μ u ids adr T σ) {c : Nat} (hc : c < 3) {r k : Int} (hr0 : 0 ≤ r) (hr1 : r ≤ 6000) (hk0 : 0 ≤ k) (hk1 : k ≤ 1000) (h8 : κ 7 c < 8) (hr : κ 7 c = 0 ∨ κ 8 ((c : Int) * 8 + κ 7 c - 1).toNat < r) :
    LSt B ac h (jm_u2 (jm_u2 (jm_u2 κ 8 ((c : Int) * 8 + κ 7 c).toNat r) 9 ((c : Int) * 8 + κ 7 c).toNat k) 7 c (κ 7 c + 1)) μ u ids adr (T + 1) (jm_u2 (jm_u2 (jm_u2 (jm_u2 σ 0 0 0) 8 ((c : Int) * 8 + κ 7 c).toNat r) 9 ((c : Int) * 8 + κ 7 c).toNat k) 7 c (κ 7 c + 1)) := by
  have hB := hL.2.1.1.1
  have hS := hL.2.1.1.2.1
  have b7 : 0 ≤ κ 7 c ∧ κ 7 c ≤ 8 := hB 7 c
  have e8 : ((c : Int) * 8 + κ 7 c).toNat = 8 * c + (κ 7 c).toNat := by omega
  have B1 : BB (9000 * T) 0 (jm_u2 κ 8 ((c : Int) * 8 + κ 7 c).toNat r) := BB_u hB (show 0 ≤ r ∧ r ≤ 6000 by omega)
  have B2 : BB (9000 * T) 0 (jm_u2 (jm_u2 κ 8 ((c : Int) * 8 + κ 7 c).toNat r) 9 ((c : Int) * 8 + κ 7 c).toNat k) := BB_u B1 (show 0 ≤ k ∧ k ≤ 1000 by omega)
  refine LSt_c hL (IV_c hL.2.1 (BB_u B2 (show 0 ≤ κ 7 c + 1 ∧ κ 7 c + 1 ≤ 8 by omega)) ?_ (fun a b q => by rw [u2n (by omega), u2n (by omega), u2n (by omega)])) (EQ_u (EQ_u (EQ_u (EQ_0 hL.2.2.1 0) _ _ _) _ _ _) _ _ _) (by rw [u2n (by omega), u2n (by omega), u2n (by omega)])
  refine ⟨fun p => ?_, fun d k2 q1 q2 => ?_, fun d i j q1 q2 q3 => ?_⟩
  · simp (disch := omega) only [u2n]
    exact hS.1 p
  · simp (disch := omega) only [u2n] at q2 ⊢
    exact hS.2.1 d k2 q1 q2
  · have r8 : ∀ b, (jm_u2 (jm_u2 (jm_u2 κ 8 ((c : Int) * 8 + κ 7 c).toNat r) 9 ((c : Int) * 8 + κ 7 c).toNat k) 7 c (κ 7 c + 1)) 8 b = if b = 8 * c + (κ 7 c).toNat then r else κ 8 b := fun b => by
      rw [u2n (by omega), u2n (by omega), e8]
      by_cases q : b = 8 * c + (κ 7 c).toNat
      · rw [u2p ⟨rfl, q⟩, if_pos q]
      · rw [u2n (fun x => q x.2), if_neg q]
    rw [r8, r8]
    by_cases q : d = c
    · subst q
      rw [u2p ⟨rfl, rfl⟩] at q3
      by_cases qj : j = (κ 7 d).toNat
      · rw [if_neg (by omega), if_pos (by omega)]
        rcases hr with hr | hr
        · omega
        · rw [show ((d : Int) * 8 + κ 7 d - 1).toNat = 8 * d + (j - 1) by omega] at hr
          by_cases qi : i = j - 1
          · rw [qi]; exact hr
          · have := hS.2.2 d i (j - 1) q1 (by omega) (by omega)
            omega
      · rw [if_neg (by omega), if_neg (by omega)]
        exact hS.2.2 d i j q1 q2 (by omega)
    · rw [u2n (a := 7) (fun x => q x.2), u2n (a := 7) (by omega), u2n (a := 7) (by omega)] at q3
      have bd : 0 ≤ κ 7 d ∧ κ 7 d ≤ 8 := hB 7 d
      rw [if_neg (by omega), if_neg (by omega)]
      exact hS.2.2 d i j q1 q2 q3
theorem LSt_fate (hL : LSt B ac h κ μ u ids adr T σ) {g : Int} (hg0 : 0 ≤ g) (hg1 : g ≤ 30) (h33 : κ 0 33 < 100) :
    LSt B ac h (jm_u2 (jm_u2 (jm_u2 κ 31 ((κ 44 0 + κ 0 33) % 100).toNat g) 30 (κ 0 33).toNat g) 0 33 (κ 0 33 + 1)) μ u ids adr (T + 1) (jm_u2 (jm_u2 (jm_u2 σ 0 0 0) 30 (κ 0 33).toNat g) 0 33 (κ 0 33 + 1)) := by
  obtain ⟨a1, ⟨⟨hB, hS, hR, hF, hM, hD, hU⟩, h46, hE, hA⟩, a7, a8, a9⟩ := hL
  have b33 : 0 ≤ κ 0 33 ∧ κ 0 33 ≤ 100 := hB 0 33
  have r := hR.1
  have ne : ∀ o j, ¬ o = 31 → ¬ o = 30 → ¬ (o = 0 ∧ j = 33) → (jm_u2 (jm_u2 (jm_u2 κ 31 ((κ 44 0 + κ 0 33) % 100).toNat g) 30 (κ 0 33).toNat g) 0 33 (κ 0 33 + 1)) o j = κ o j := fun o j q1 q2 q3 => by rw [u2n q3, u2n (fun x => q2 x.1), u2n (fun x => q1 x.1)]
  have B1 : BB (9000 * T) 0 (jm_u2 κ 31 ((κ 44 0 + κ 0 33) % 100).toNat g) := BB_u hB (rowT (by omega))
  have B2 : BB (9000 * T) 0 (jm_u2 (jm_u2 κ 31 ((κ 44 0 + κ 0 33) % 100).toNat g) 30 (κ 0 33).toNat g) := BB_u B1 (show 0 ≤ g ∧ g ≤ 30 by omega)
  have B3 : BB (9000 * T) 0 (jm_u2 (jm_u2 (jm_u2 κ 31 ((κ 44 0 + κ 0 33) % 100).toNat g) 30 (κ 0 33).toNat g) 0 33 (κ 0 33 + 1)) := BB_u B2 (show 0 ≤ κ 0 33 + 1 ∧ κ 0 33 + 1 ≤ 100 by omega)
  refine ⟨a1, IV_le (m := 9000 * T) (by omega) ⟨⟨B3, SS_congr (fun a b q1 q2 => ne a b (by omega) (by omega) (by omega)) hS, ⟨by rw [ne _ _ (by omega) (by omega) (by omega)]; exact hR.1, fun j => ?_⟩, fun j q => ?_, fun j q => ?_, fun j q => ?_, hU⟩, fun p q => ?_, fun p q w => ?_, fun n q => AI_c (fun o j w => ne o j (by omega) (by omega) (by omega)) (fun _ => rfl) (hA n q)⟩, EQ_u (EQ_u (EQ_0 (EQ_l a7 (by omega)) 0) _ _ _) _ _ _, by rw [ne _ _ (by omega) (by omega) (by omega)]; omega, by omega⟩
  · rw [u2n (by omega), u2n (by omega), u2r]
    split
    · omega
    · exact hR.2 j
  · rw [u2p ⟨rfl, rfl⟩] at q
    rw [ne 44 0 (by omega) (by omega) (by omega), u2n (a := 31) (by omega), u2n (a := 31) (by omega), u2n (a := 30) (by omega)]
    by_cases qj : j = (κ 0 33).toNat
    · rw [u2p (by omega), u2p (by omega)]
    · rw [u2n (by omega), u2n (a := 30) (by omega), u2n (a := 30) (by omega)]
      exact hF j (by omega)
  · rw [ne 0 24 (by omega) (by omega) (by omega)] at q
    have := hU.1 j
    rw [ne (32 + u j) 0 (by omega) (by omega) (by omega), ne (32 + u j) 1 (by omega) (by omega) (by omega), ne (32 + u j) 2 (by omega) (by omega) (by omega), ne (32 + u j) 3 (by omega) (by omega) (by omega), ne 23 _ (by omega) (by omega) (by omega), ne 24 _ (by omega) (by omega) (by omega), ne 25 _ (by omega) (by omega) (by omega), ne 26 _ (by omega) (by omega) (by omega)]
    exact hM j q
  · rw [ne 0 24 (by omega) (by omega) (by omega)] at q
    rw [ne 0 1 (by omega) (by omega) (by omega), ne 26 _ (by omega) (by omega) (by omega)]
    exact hD j q
  · rw [ne 46 _ (by omega) (by omega) (by omega), ne 48 _ (by omega) (by omega) (by omega)]; exact h46 p q
  · rw [ne 13 _ (by omega) (by omega) (by omega)] at w
    rw [ne 15 _ (by omega) (by omega) (by omega), ne 15 _ (by omega) (by omega) (by omega)]
    exact hE p q w
theorem fate_cs (κ : S_) (g : Int) : cs h ac (CN (jm_u2 (jm_u2 κ 31 ((κ 44 0 + κ 0 33) % 100).toNat g) 0 33 (κ 0 33 + 1))) μ = cs h ac (CN (jm_u2 (jm_u2 (jm_u2 κ 31 ((κ 44 0 + κ 0 33) % 100).toNat g) 30 (κ 0 33).toNat g) 0 33 (κ 0 33 + 1))) μ := by
  refine cs_ghN (fun o j q1 q2 => ?_)
  have q3 : ¬ o = 30 := fun x => q1 (Or.inr (Or.inr (Or.inr x)))
  by_cases q : o = 0 ∧ j = 33
  · rw [u2p q, u2p q]
  · rw [u2n q, u2n q, u2n (a := o) (fun x => q3 x.1)]
end
