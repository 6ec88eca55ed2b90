/-! one more pair -/
section
variable {B : jm_B} {ac : Nat} {h : jm_H} {κ : S_} {μ : M_} {u : Nat → Nat} {ids adr : Nat → Nat → Nat} {T : Int} {σ : S_}
theorem crk_i {p : Nat} (hp : p < 3) : crk ((((4 + 2 * p : Nat) : Int) - 4) / 2) ((((4 + 2 * p : Nat) : Int) - 4) % 2) = KP p ∧ crk ((((4 + 2 * p + 1 : Nat) : Int) - 4) / 2) ((((4 + 2 * p + 1 : Nat) : Int) - 4) % 2) = AS p := by
  have key : ∀ p, p < 3 → crk ((((4 + 2 * p : Nat) : Int) - 4) / 2) ((((4 + 2 * p : Nat) : Int) - 4) % 2) = KP p ∧ crk ((((4 + 2 * p + 1 : Nat) : Int) - 4) / 2) ((((4 + 2 * p + 1 : Nat) : Int) - 4) % 2) = AS p := by decide
  exact key p hp
theorem LSt_share (hL : LSt B ac h κ μ u ids adr T σ) {p : Nat} (hp : p < 3) {f z g k : Int} (hf0 : 0 ≤ f) (hf1 : f ≤ 3599) (hz0 : 1 ≤ z) (hz1 : z ≤ 3599) (hg0 : 0 ≤ g) (hg1 : g ≤ 3599) (hk0 : 1 ≤ k) (hk1 : k ≤ 3599) (h13 : κ 13 p = 0) :
    (κ 45 (KP p).toNat < 6 ∧ κ 45 (AS p).toNat < 6) ∧ ∃ ids' adr', LSt B ac h (jm_u2 (jm_u2 (jm_u2 (jm_u2 (jm_u2 (jm_u2 (jm_u2 κ 45 (KP p).toNat (κ 45 (KP p).toNat + 1)) 45 (AS p).toNat (κ 45 (AS p).toNat + 1)) 13 p 1) 14 (2 * p) f) 15 (2 * p) z) 14 (2 * p + 1) g) 15 (2 * p + 1) k) (jm_u2 (jm_u2 μ (42 + 5 * (KP p).toNat) (κ 45 (KP p).toNat).toNat (some (ac + (54 + 4 * p)))) (42 + 5 * (AS p).toNat) (κ 45 (AS p).toNat).toNat (some (ac + (56 + 4 * p)))) u ids' adr' (T + 1) (jm_u2 (jm_u2 (jm_u2 (jm_u2 (jm_u2 (jm_u2 σ 0 0 0) 13 p 1) 14 (2 * p) f) 15 (2 * p) z) 14 (2 * p + 1) g) 15 (2 * p + 1) k) := by
  obtain ⟨r0, ⟨⟨hB, hS, hR, hF, hM, hD, hU⟩, h46, hE, hA⟩, a7, a8, a9⟩ := hL
  have kb := kp_b p
  have nn := kp_ne hp
  have qa : (KP p).toNat < 3 := by omega
  have qb : (AS p).toNat < 3 := by omega
  obtain ⟨ci1, ci2⟩ := crk_i hp
  have cra : crk ((((4 + 2 * p : Nat) : Int) - 4) / 2) ((((4 + 2 * p : Nat) : Int) - 4) % 2) = ((KP p).toNat : Int) := by rw [ci1]; omega
  have crb : crk ((((4 + 2 * p + 1 : Nat) : Int) - 4) / 2) ((((4 + 2 * p + 1 : Nat) : Int) - 4) % 2) = ((AS p).toNat : Int) := by rw [ci2]; omega
  have ixa : ((((4 + 2 * p : Nat) : Int) - 4) / 2).toNat = p := by omega
  have ixb : ((((4 + 2 * p + 1 : Nat) : Int) - 4) / 2).toNat = p := by omega
  have npa : ¬ pres κ (KP p).toNat (4 + 2 * p) := by
    rintro (q | q)
    · omega
    · rw [ixa] at q; exact q.2.2 h13
  have npb : ¬ pres κ (AS p).toNat (4 + 2 * p + 1) := by
    rintro (q | q)
    · omega
    · rw [ixb] at q; exact q.2.2 h13
  have h6a : κ 45 (KP p).toNat < 6 := cnt_6 (hA _ qa) qa (k := 4 + 2 * p) (by omega) (by unfold alw; rw [if_pos (Or.inr cra)]) npa
  have h6b : κ 45 (AS p).toNat < 6 := cnt_6 (hA _ qb) qb (k := 4 + 2 * p + 1) (by omega) (by unfold alw; rw [if_pos (Or.inr crb)]) npb
  refine ⟨⟨h6a, h6b⟩, ?_⟩
  have ne : ∀ o j, ¬ (o = 45 ∧ (j = (KP p).toNat ∨ j = (AS p).toNat)) → ¬ (o = 13 ∧ j = p) → ¬ (o = 14 ∧ (j = 2 * p ∨ j = 2 * p + 1)) → ¬ (o = 15 ∧ (j = 2 * p ∨ j = 2 * p + 1)) → (jm_u2 (jm_u2 (jm_u2 (jm_u2 (jm_u2 (jm_u2 (jm_u2 κ 45 (KP p).toNat (κ 45 (KP p).toNat + 1)) 45 (AS p).toNat (κ 45 (AS p).toNat + 1)) 13 p 1) 14 (2 * p) f) 15 (2 * p) z) 14 (2 * p + 1) g) 15 (2 * p + 1) k) o j = κ o j := fun o j q1 q2 q3 q4 => by
    rw [u2n (by omega), u2n (by omega), u2n (by omega), u2n (by omega), u2n (by omega), u2n (by omega), u2n (by omega)]
  have v45a : (jm_u2 (jm_u2 (jm_u2 (jm_u2 (jm_u2 (jm_u2 (jm_u2 κ 45 (KP p).toNat (κ 45 (KP p).toNat + 1)) 45 (AS p).toNat (κ 45 (AS p).toNat + 1)) 13 p 1) 14 (2 * p) f) 15 (2 * p) z) 14 (2 * p + 1) g) 15 (2 * p + 1) k) 45 (KP p).toNat = κ 45 (KP p).toNat + 1 := by rw [u2n (by omega), u2n (by omega), u2n (by omega), u2n (by omega), u2n (by omega), u2n (by omega), u2p ⟨rfl, rfl⟩]
  have v45b : (jm_u2 (jm_u2 (jm_u2 (jm_u2 (jm_u2 (jm_u2 (jm_u2 κ 45 (KP p).toNat (κ 45 (KP p).toNat + 1)) 45 (AS p).toNat (κ 45 (AS p).toNat + 1)) 13 p 1) 14 (2 * p) f) 15 (2 * p) z) 14 (2 * p + 1) g) 15 (2 * p + 1) k) 45 (AS p).toNat = κ 45 (AS p).toNat + 1 := by rw [u2n (by omega), u2n (by omega), u2n (by omega), u2n (by omega), u2n (by omega), u2p ⟨rfl, rfl⟩]
  have v13 : (jm_u2 (jm_u2 (jm_u2 (jm_u2 (jm_u2 (jm_u2 (jm_u2 κ 45 (KP p).toNat (κ 45 (KP p).toNat + 1)) 45 (AS p).toNat (κ 45 (AS p).toNat + 1)) 13 p 1) 14 (2 * p) f) 15 (2 * p) z) 14 (2 * p + 1) g) 15 (2 * p + 1) k) 13 p = 1 := by rw [u2n (by omega), u2n (by omega), u2n (by omega), u2n (by omega), u2p ⟨rfl, rfl⟩]
  have v15a : (jm_u2 (jm_u2 (jm_u2 (jm_u2 (jm_u2 (jm_u2 (jm_u2 κ 45 (KP p).toNat (κ 45 (KP p).toNat + 1)) 45 (AS p).toNat (κ 45 (AS p).toNat + 1)) 13 p 1) 14 (2 * p) f) 15 (2 * p) z) 14 (2 * p + 1) g) 15 (2 * p + 1) k) 15 (2 * p) = z := by rw [u2n (by omega), u2n (by omega), u2p ⟨rfl, rfl⟩]
  have v15b : (jm_u2 (jm_u2 (jm_u2 (jm_u2 (jm_u2 (jm_u2 (jm_u2 κ 45 (KP p).toNat (κ 45 (KP p).toNat + 1)) 45 (AS p).toNat (κ 45 (AS p).toNat + 1)) 13 p 1) 14 (2 * p) f) 15 (2 * p) z) 14 (2 * p + 1) g) 15 (2 * p + 1) k) 15 (2 * p + 1) = k := u2p ⟨rfl, rfl⟩
  have B0 : BB (9000 * T) 0 (jm_u2 (jm_u2 κ 45 (KP p).toNat (κ 45 (KP p).toNat + 1)) 45 (AS p).toNat (κ 45 (AS p).toNat + 1)) := BB_u (BB_u hB (rowT (by omega))) (rowT (by omega))
  have B1 := BB_u B0 (o := 13) (j := p) (v := 1) (show 0 ≤ (1 : Int) ∧ (1 : Int) ≤ 1 by omega)
  have B2 := BB_u B1 (o := 14) (j := 2 * p) (v := f) (show 0 ≤ f ∧ f < 3600 by omega)
  have B3 := BB_u B2 (o := 15) (j := 2 * p) (v := z) (show 0 ≤ z ∧ z < 3600 by omega)
  have B4 := BB_u B3 (o := 14) (j := 2 * p + 1) (v := g) (show 0 ≤ g ∧ g < 3600 by omega)
  have B5 := BB_u B4 (o := 15) (j := 2 * p + 1) (v := k) (show 0 ≤ k ∧ k < 3600 by omega)
  have EQ' := EQ_u (EQ_u (EQ_u (EQ_u (EQ_u (EQ_0 (EQ_l (EQ_l a7 (o := 45) (j := (KP p).toNat) (v := κ 45 (KP p).toNat + 1) (by omega)) (o := 45) (j := (AS p).toNat) (v := κ 45 (AS p).toNat + 1) (by omega)) 0) 13 p 1) 14 (2 * p) f) 15 (2 * p) z) 14 (2 * p + 1) g) 15 (2 * p + 1) k
  generalize hK : (jm_u2 (jm_u2 (jm_u2 (jm_u2 (jm_u2 (jm_u2 (jm_u2 κ 45 (KP p).toNat (κ 45 (KP p).toNat + 1)) 45 (AS p).toNat (κ 45 (AS p).toNat + 1)) 13 p 1) 14 (2 * p) f) 15 (2 * p) z) 14 (2 * p + 1) g) 15 (2 * p + 1) k) = κ' at *
  have e10 : ∀ j, κ' 10 j = κ 10 j := fun j => ne 10 j (by omega) (by omega) (by omega) (by omega)
  have pp : ∀ (n i : Nat), ¬ ((i = 4 + 2 * p ∧ n = (KP p).toNat) ∨ (i = 4 + 2 * p + 1 ∧ n = (AS p).toNat)) → (pres κ' n i ↔ pres κ n i) := fun n i q => by
    unfold pres
    rw [nat3, e10]
    by_cases q4 : i < 4
    · constructor
      · rintro (q2 | q2)
        · exact Or.inl q2
        · omega
      · rintro (q2 | q2)
        · exact Or.inl q2
        · omega
    · by_cases q5 : (((i : Int) - 4) / 2).toNat = p
      · rcases (show i = 4 + 2 * p ∨ i = 4 + 2 * p + 1 by omega) with q6 | q6
        · subst q6
          rw [cra]
          constructor
          · rintro (q2 | q2)
            · omega
            · exact absurd q2.2.1 (fun x => q (Or.inl ⟨rfl, by omega⟩))
          · rintro (q2 | q2)
            · omega
            · exact absurd q2.2.1 (fun x => q (Or.inl ⟨rfl, by omega⟩))
        · subst q6
          rw [crb]
          constructor
          · rintro (q2 | q2)
            · omega
            · exact absurd q2.2.1 (fun x => q (Or.inr ⟨rfl, by omega⟩))
          · rintro (q2 | q2)
            · omega
            · exact absurd q2.2.1 (fun x => q (Or.inr ⟨rfl, by omega⟩))
      · rw [ne 13 _ (by omega) (by omega) (by omega) (by omega)]
  refine ⟨fun n => if n = (KP p).toNat then (fun i => if i = (κ 45 (KP p).toNat).toNat then 4 + 2 * p else ids (KP p).toNat i) else if n = (AS p).toNat then (fun i => if i = (κ 45 (AS p).toNat).toNat then 4 + 2 * p + 1 else ids (AS p).toNat i) else ids n, fun n => if n = (KP p).toNat then (fun i => if i = (κ 45 (KP p).toNat).toNat then ac + (54 + 4 * p) else adr (KP p).toNat i) else if n = (AS p).toNat then (fun i => if i = (κ 45 (AS p).toNat).toNat then ac + (56 + 4 * p) else adr (AS p).toNat i) else adr n, r0, IV_le (m := 9000 * T) (by omega) ⟨⟨B5, ⟨fun d => ?_, fun d k2 q1 q2 => ?_, fun d i j q1 q2 q3 => ?_⟩, ⟨by rw [ne 44 0 (by omega) (by omega) (by omega) (by omega)]; exact hR.1, fun j => by rw [ne 31 j (by omega) (by omega) (by omega) (by omega)]; exact hR.2 j⟩, fun j q => ?_, fun j q => ?_, fun j q => ?_, XU_m hU (fun j => by unfold jm_u2; rw [if_neg (by omega), if_neg (by omega)])⟩, fun d q => ?_, fun d q r => ?_, fun n q => ?_⟩, EQ', by rw [ne 0 1 (by omega) (by omega) (by omega) (by omega)]; omega, by omega⟩
  · by_cases q : d = p
    · subst q; rw [v15a, v15b]; exact Or.inr ⟨hz0, hk0⟩
    · rw [ne 13 d (by omega) (by omega) (by omega) (by omega), ne 15 _ (by omega) (by omega) (by omega) (by omega), ne 15 _ (by omega) (by omega) (by omega) (by omega)]; exact hS.1 d
  · rw [e10] at q2
    rw [ne 12 _ (by omega) (by omega) (by omega) (by omega)]; exact hS.2.1 d k2 q1 q2
  · rw [ne 7 _ (by omega) (by omega) (by omega) (by omega)] at q3
    rw [ne 8 _ (by omega) (by omega) (by omega) (by omega), ne 8 _ (by omega) (by omega) (by omega) (by omega)]; exact hS.2.2 d i j q1 q2 q3
  · rw [ne 0 33 (by omega) (by omega) (by omega) (by omega)] at q
    rw [ne 44 0 (by omega) (by omega) (by omega) (by omega), ne 31 _ (by omega) (by omega) (by omega) (by omega), ne 30 _ (by omega) (by omega) (by omega) (by omega)]; exact hF j q
  · rw [ne 0 24 (by omega) (by omega) (by omega) (by omega)] at q
    have := hU.1 j
    rw [ne (32 + u j) 0 (by omega) (by omega) (by omega) (by omega), ne (32 + u j) 1 (by omega) (by omega) (by omega) (by omega), ne (32 + u j) 2 (by omega) (by omega) (by omega) (by omega), ne (32 + u j) 3 (by omega) (by omega) (by omega) (by omega), ne 23 _ (by omega) (by omega) (by omega) (by omega), ne 24 _ (by omega) (by omega) (by omega) (by omega), ne 25 _ (by omega) (by omega) (by omega) (by omega), ne 26 _ (by omega) (by omega) (by omega) (by omega)]
    exact hM j q
  · rw [ne 0 24 (by omega) (by omega) (by omega) (by omega)] at q
    rw [ne 0 1 (by omega) (by omega) (by omega) (by omega), ne 26 _ (by omega) (by omega) (by omega) (by omega)]; exact hD j q
  · rw [ne 46 _ (by omega) (by omega) (by omega) (by omega), ne 48 _ (by omega) (by omega) (by omega) (by omega)]; exact h46 d q
  · by_cases q2 : d = p
    · subst q2; rw [v13] at r; omega
    · rw [ne 13 d (by omega) (by omega) (by omega) (by omega)] at r
      rw [ne 15 _ (by omega) (by omega) (by omega) (by omega), ne 15 _ (by omega) (by omega) (by omega) (by omega)]; exact hE d q r
  · dsimp only
    by_cases qn : n = (KP p).toNat
    · rw [if_pos qn, if_pos qn]
      subst qn
      refine AI_add (hA _ q) h6a (Nat.le_refl _) (fun a _ _ => ⟨rfl, fun _ => rfl⟩) v45a (by omega) npa ?_ (fun i q1 => ?_) (fun i q1 q2 => by rw [(fz_lt (κ := κ') q2).1, (fz_lt (κ := κ') q2).2, (fz_lt (κ := κ) q2).1, (fz_lt (κ := κ) q2).2, ne 11 _ (by omega) (by omega) (by omega) (by omega), ne 12 _ (by omega) (by omega) (by omega) (by omega)]; exact ⟨rfl, rfl⟩) (ids_pres (hA _ q)) (fun j => ?_) (fun q1 => by omega) (fun q1 => by omega)
      · exact Or.inr ⟨by omega, cra, by rw [ixa, v13]; decide⟩
      · refine pp _ i (fun x => ?_)
        exact q1 (by omega)
      · unfold jm_u2
        rw [if_neg (by omega)]
        by_cases qj : j = (κ 45 (KP p).toNat).toNat
        · rw [if_pos ⟨rfl, qj⟩, if_pos qj]
        · rw [if_neg (fun x => qj x.2), if_neg qj]
    · rw [if_neg qn, if_neg qn]
      by_cases qm : n = (AS p).toNat
      · rw [if_pos qm, if_pos qm]
        subst qm
        refine AI_add (hA _ q) h6b (Nat.le_refl _) (fun a _ _ => ⟨rfl, fun _ => rfl⟩) v45b (by omega) npb ?_ (fun i q1 => ?_) (fun i q1 q2 => by rw [(fz_lt (κ := κ') q2).1, (fz_lt (κ := κ') q2).2, (fz_lt (κ := κ) q2).1, (fz_lt (κ := κ) q2).2, ne 11 _ (by omega) (by omega) (by omega) (by omega), ne 12 _ (by omega) (by omega) (by omega) (by omega)]; exact ⟨rfl, rfl⟩) (ids_pres (hA _ q)) (fun j => ?_) (fun q1 => by omega) (fun q1 => by omega)
        · exact Or.inr ⟨by omega, crb, by rw [ixb, v13]; decide⟩
        · refine pp _ i (fun x => ?_)
          exact q1 (by omega)
        · unfold jm_u2
          by_cases qj : j = (κ 45 (AS p).toNat).toNat
          · rw [if_pos ⟨rfl, qj⟩, if_pos qj]
          · rw [if_neg (fun x => qj x.2), if_neg qj, if_neg (by omega)]
      · rw [if_neg qm, if_neg qm]
        refine AI_k (hA n q) (ne 45 n (by omega) (by omega) (by omega) (by omega)) (fun i => pp n i (by omega)) (fun i q1 q2 => ?_) (fun j => ?_)
        · rw [(fz_lt (κ := κ') q2).1, (fz_lt (κ := κ') q2).2, (fz_lt (κ := κ) q2).1, (fz_lt (κ := κ) q2).2, ne 11 _ (by omega) (by omega) (by omega) (by omega), ne 12 _ (by omega) (by omega) (by omega) (by omega)]
          exact ⟨rfl, rfl⟩
        · unfold jm_u2
          rw [if_neg (by omega), if_neg (by omega)]
theorem share_cs {h1 : jm_H} {μ1 : M_} (κ : S_) {p : Nat} (f z g k : Int) (hne : ¬ (KP p).toNat = (AS p).toNat) : cs h1 ac (CN (jm_u2 (jm_u2 (jm_u2 (jm_u2 (jm_u2 (jm_u2 κ 14 (2 * p) f) 15 (2 * p) z) 14 (2 * p + 1) g) 15 (2 * p + 1) k) 45 (KP p).toNat (κ 45 (KP p).toNat + 1)) 45 (AS p).toNat (κ 45 (AS p).toNat + 1))) μ1 = cs h1 ac (CN (jm_u2 (jm_u2 (jm_u2 (jm_u2 (jm_u2 (jm_u2 (jm_u2 κ 45 (KP p).toNat (κ 45 (KP p).toNat + 1)) 45 (AS p).toNat (κ 45 (AS p).toNat + 1)) 13 p 1) 14 (2 * p) f) 15 (2 * p) z) 14 (2 * p + 1) g) 15 (2 * p + 1) k)) μ1 := by
  refine cs_ghN (fun o j q1 q2 => ?_)
  have q3 : ¬ o = 13 := fun x => q1 (Or.inr (Or.inl (by omega)))
  by_cases c1 : o = 45 ∧ j = (AS p).toNat
  · simp (disch := omega) only [u2n, u2p]
  by_cases c2 : o = 45 ∧ j = (KP p).toNat
  · simp (disch := omega) only [u2n, u2p]
  by_cases c3 : o = 15 ∧ j = 2 * p + 1
  · simp (disch := omega) only [u2n, u2p]
  by_cases c4 : o = 14 ∧ j = 2 * p + 1
  · simp (disch := omega) only [u2n, u2p]
  by_cases c5 : o = 15 ∧ j = 2 * p
  · simp (disch := omega) only [u2n, u2p]
  by_cases c6 : o = 14 ∧ j = 2 * p
  · simp (disch := omega) only [u2n, u2p]
  simp (disch := omega) only [u2n]
theorem tck_00 (σ : S_) : tck σ 0 0 = σ 0 0 := by
  unfold tck tck0 sp_brings
  rw [takes_0 (by omega), crs_0 (by omega), brF_0 (by omega), u2n (by omega)]
theorem tickN_00 (σ : S_) : ∀ n, tickN σ n 0 0 = σ 0 0 := by
  intro n
  induction n with
  | zero => rfl
  | succ n ih => show tck (tickN σ n) 0 0 = σ 0 0; rw [tck_00, ih]
theorem IV_mo {m : Int} (σ : S_) : IV (mo h (ac + 65) σ) ac m κ μ u ids adr ↔ IV h ac m κ μ u ids adr :=
  ⟨fun hI => IV_h hI (Nat.le_refl _) (fun a q _ => ⟨rfl, fun j => (mo_i (Or.inr (by omega))).symm⟩), fun hI => IV_h hI (Nat.le_refl _) (fun a q _ => ⟨rfl, fun j => mo_i (Or.inr (by omega))⟩)⟩
theorem LSt_tick (hL : LSt B ac h κ μ u ids adr T σ) {n : Int} (hn0 : 1 ≤ n) (hn1 : n ≤ 1000) {κ' : S_} {ν : M_} {u' : Nat → Nat} (hE : EQm κ' (tickN κ n.toNat)) (hI : IV h ac (9000 * T + 9 * n) κ' ν u' ids adr) : LSt B ac h κ' ν u' ids adr (T + 1) (tickN (jm_u2 σ 0 0 0) n.toNat) := by
  obtain ⟨a1, a6, a7, a8, a9⟩ := hL
  refine ⟨a1, IV_le (by omega) hI, EQ_tr hE (EQ_tickN (EQ_0 a7 0) _), ?_, by omega⟩
  rw [hE 0 1 (by omega) (by omega), tickN_1]
  omega
end
