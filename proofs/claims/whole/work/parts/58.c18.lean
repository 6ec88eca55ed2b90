/-! one more forbidden arc, one more pair -/
section
variable {h h' : jm_H} {ac n : Nat} {κ κ' : S_} {μ μ' : M_} {ids adr : Nat → Nat}
theorem AI_k (hA : AI2 h ac κ μ n ids adr) (e45 : κ' 45 n = κ 45 n) (ep : ∀ i, pres κ' n i ↔ pres κ n i) (ef : ∀ i, pres κ n i → i < 4 → fI κ' n i = fI κ n i ∧ zI κ' n i = zI κ n i) (eμ : ∀ j, μ' (42 + 5 * n) j = μ (42 + 5 * n) j) : AI2 h ac κ' μ' n ids adr := by
  refine ⟨by rw [e45]; exact hA.1, fun i hi => ?_, fun g => ?_⟩
  · rw [e45] at hi
    obtain ⟨a1, a2, a3, a4⟩ := hA.2.1 i hi
    refine ⟨a1, by rw [eμ]; exact a2, fun q => ?_, a4⟩
    obtain ⟨b1, b2, b3, b4, b5, b6⟩ := a3 q
    obtain ⟨z1, z2⟩ := ef _ (ids_pres hA i hi) q
    exact ⟨b1, b2, b3, by rw [b4, z1], by rw [b5, z2], b6⟩
  · rw [e45, hA.2.2 g]
    refine sumF_ext (fun i _ => ?_)
    by_cases q : pres κ n i
    · rw [if_pos q, if_pos ((ep i).mpr q)]
    · rw [if_neg q, if_neg (fun x => q ((ep i).mp x))]
theorem sumF_lt {f a : Nat → Int} (hle : ∀ i, f i ≤ a i) {k : Nat} (hk : f k + 1 ≤ a k) : ∀ N, (sumF f N ≤ sumF a N) ∧ (k < N → sumF f N + 1 ≤ sumF a N) := by
  intro N
  induction N with
  | zero => exact ⟨Int.le_refl _, fun q => by omega⟩
  | succ N ih =>
    have e1 := hle N
    refine ⟨?_, fun q => ?_⟩
    · show sumF f N + f N ≤ sumF a N + a N
      omega
    · show sumF f N + f N + 1 ≤ sumF a N + a N
      by_cases q2 : k = N
      · subst q2; omega
      · have := ih.2 (by omega); omega
def alw (n i : Nat) : Int := if i < 4 ∨ crk (((i : Int) - 4) / 2) (((i : Int) - 4) % 2) = n then 1 else 0
theorem alw_6 : ∀ n, n < 3 → sumF (alw n) 10 = 6 := by decide
theorem cnt_6 (hA : AI2 h ac κ μ n ids adr) (hn : n < 3) {k : Nat} (hk : k < 10) (ha : alw n k = 1) (hp : ¬ pres κ n k) : κ 45 n < 6 := by
  have e := cnt_eq hA
  have le := (sumF_lt (f := fun i => if pres κ n i then 1 else 0) (a := alw n) (fun i => by
    show (if pres κ n i then (1 : Int) else 0) ≤ alw n i
    unfold alw
    by_cases q : pres κ n i
    · rw [if_pos q, if_pos (by rcases q with q | q; exact Or.inl q.1; exact Or.inr q.2.1)]
      exact Int.le_refl _
    · rw [if_neg q]
      split <;> omega) (k := k) (by show (if pres κ n k then (1 : Int) else 0) + 1 ≤ alw n k; rw [if_neg hp, ha]; omega) 10).2 hk
  rw [alw_6 n hn] at le
  omega
end
section
variable {B : jm_B} {ac : Nat} {h : jm_H} {κ : S_} {μ : M_} {u : Nat → Nat} {ids adr : Nat → Nat → Nat} {T : Int} {σ : S_}
theorem XU_m {μ' : M_} (hU : XU ac μ u) (e : ∀ j, μ' 5 j = μ 5 j) : XU ac μ' u := ⟨hU.1, hU.2.1, fun j hj => by rw [e]; exact hU.2.2 j hj⟩
theorem presF {c : Nat} : (∀ i, i < 4 → (pres κ c i ↔ (i : Int) < κ 10 c)) := fun i q => by
  unfold pres
  rw [nat3]
  constructor
  · rintro (q2 | q2)
    · exact q2.2
    · omega
  · intro q2
    exact Or.inl ⟨q, q2⟩
theorem fz_lt {c i : Nat} (hi : i < 4) : fI κ c i = κ 11 (4 * c + i) ∧ zI κ c i = κ 12 (4 * c + i) := by
  unfold fI zI
  rw [if_pos hi, if_pos hi, show ((c : Int) * 4 + i).toNat = 4 * c + i by omega]
  exact ⟨rfl, rfl⟩
theorem LSt_forbid (hL : LSt B ac h κ μ u ids adr T σ) {c : Nat} (hc : c < 3) {f z : Int} (hf0 : 0 ≤ f) (hf1 : f ≤ 3599) (hz0 : 1 ≤ z) (hz1 : z ≤ 3599) (h4 : κ 10 c < 4) :
    κ 45 c < 6 ∧ ∃ ids' adr', LSt B ac (nA h f z) (jm_u2 (jm_u2 (jm_u2 (jm_u2 κ 45 c (κ 45 c + 1)) 11 ((c : Int) * 4 + κ 10 c).toNat f) 12 ((c : Int) * 4 + κ 10 c).toNat z) 10 c (κ 10 c + 1)) (jm_u2 μ (42 + 5 * c) (κ 45 c).toNat (some (jm_n h))) u ids' adr' (T + 1) (jm_u2 (jm_u2 (jm_u2 (jm_u2 σ 0 0 0) 11 ((c : Int) * 4 + κ 10 c).toNat f) 12 ((c : Int) * 4 + κ 10 c).toNat z) 10 c (κ 10 c + 1)) := by
  obtain ⟨⟨r1, r2, r3, r4, r5⟩, ⟨⟨hB, hS, hR, hF, hM, hD, hU⟩, h46, hE, hA⟩, a7, a8, a9⟩ := hL
  have b10 : 0 ≤ κ 10 c ∧ κ 10 c ≤ 4 := hB 10 c
  have eX : ((c : Int) * 4 + κ 10 c).toNat = 4 * c + (κ 10 c).toNat := by omega
  rw [eX]
  have np : ¬ pres κ c (κ 10 c).toNat := fun q => by rw [presF _ (by omega)] at q; omega
  have h6 : κ 45 c < 6 := cnt_6 (hA c hc) hc (k := (κ 10 c).toNat) (by omega) (by unfold alw; rw [if_pos (Or.inl (by omega))]) np
  refine ⟨h6, ?_⟩
  have ne : ∀ o j, ¬ (o = 45 ∧ j = c) → ¬ (o = 11 ∧ j = 4 * c + (κ 10 c).toNat) → ¬ (o = 12 ∧ j = 4 * c + (κ 10 c).toNat) → ¬ (o = 10 ∧ j = c) → (jm_u2 (jm_u2 (jm_u2 (jm_u2 κ 45 c (κ 45 c + 1)) 11 (4 * c + (κ 10 c).toNat) f) 12 (4 * c + (κ 10 c).toNat) z) 10 c (κ 10 c + 1)) o j = κ o j := fun o j q1 q2 q3 q4 => by rw [u2n q4, u2n q3, u2n q2, u2n q1]
  have v45 : (jm_u2 (jm_u2 (jm_u2 (jm_u2 κ 45 c (κ 45 c + 1)) 11 (4 * c + (κ 10 c).toNat) f) 12 (4 * c + (κ 10 c).toNat) z) 10 c (κ 10 c + 1)) 45 c = κ 45 c + 1 := by rw [u2n (by omega), u2n (by omega), u2n (by omega), u2p ⟨rfl, rfl⟩]
  have v11 : (jm_u2 (jm_u2 (jm_u2 (jm_u2 κ 45 c (κ 45 c + 1)) 11 (4 * c + (κ 10 c).toNat) f) 12 (4 * c + (κ 10 c).toNat) z) 10 c (κ 10 c + 1)) 11 (4 * c + (κ 10 c).toNat) = f := by rw [u2n (by omega), u2n (by omega), u2p ⟨rfl, rfl⟩]
  have v12 : (jm_u2 (jm_u2 (jm_u2 (jm_u2 κ 45 c (κ 45 c + 1)) 11 (4 * c + (κ 10 c).toNat) f) 12 (4 * c + (κ 10 c).toNat) z) 10 c (κ 10 c + 1)) 12 (4 * c + (κ 10 c).toNat) = z := by rw [u2n (by omega), u2p ⟨rfl, rfl⟩]
  have v10 : (jm_u2 (jm_u2 (jm_u2 (jm_u2 κ 45 c (κ 45 c + 1)) 11 (4 * c + (κ 10 c).toNat) f) 12 (4 * c + (κ 10 c).toNat) z) 10 c (κ 10 c + 1)) 10 c = κ 10 c + 1 := u2p ⟨rfl, rfl⟩
  have B1 : BB (9000 * T) 0 (jm_u2 κ 45 c (κ 45 c + 1)) := BB_u hB (rowT (by omega))
  have B2 : BB (9000 * T) 0 (jm_u2 (jm_u2 κ 45 c (κ 45 c + 1)) 11 (4 * c + (κ 10 c).toNat) f) := BB_u B1 (show 0 ≤ f ∧ f < 3600 by omega)
  have B3 : BB (9000 * T) 0 (jm_u2 (jm_u2 (jm_u2 κ 45 c (κ 45 c + 1)) 11 (4 * c + (κ 10 c).toNat) f) 12 (4 * c + (κ 10 c).toNat) z) := BB_u B2 (show 0 ≤ z ∧ z < 3600 by omega)
  have B4 : BB (9000 * T) 0 (jm_u2 (jm_u2 (jm_u2 (jm_u2 κ 45 c (κ 45 c + 1)) 11 (4 * c + (κ 10 c).toNat) f) 12 (4 * c + (κ 10 c).toNat) z) 10 c (κ 10 c + 1)) := BB_u B3 (show 0 ≤ κ 10 c + 1 ∧ κ 10 c + 1 ≤ 4 by omega)
  have EQ' := EQ_u (EQ_u (EQ_u (EQ_0 (EQ_l a7 (o := 45) (j := c) (v := κ 45 c + 1) (by omega)) 0) 11 (4 * c + (κ 10 c).toNat) f) 12 (4 * c + (κ 10 c).toNat) z) 10 c (κ 10 c + 1)
  generalize hK : (jm_u2 (jm_u2 (jm_u2 (jm_u2 κ 45 c (κ 45 c + 1)) 11 (4 * c + (κ 10 c).toNat) f) 12 (4 * c + (κ 10 c).toNat) z) 10 c (κ 10 c + 1)) = κ' at *
  have e13 : ∀ j, κ' 13 j = κ 13 j := fun j => ne 13 j (by omega) (by omega) (by omega) (by omega)
  have ek : ∀ a, ac + 96 ≤ a → a < jm_n h → jm_k (nA h f z) a = jm_k h a ∧ ∀ j, jm_i (nA h f z) a j = jm_i h a j := fun a _ q => ⟨nA_k (by omega), fun j => nA_i (by omega)⟩
  have pc : ∀ i, ¬ i = (κ 10 c).toNat → (pres κ' c i ↔ pres κ c i) := fun i q => by
    unfold pres
    rw [nat3, v10, e13]
    constructor
    · rintro (q2 | q2)
      · exact Or.inl ⟨q2.1, by omega⟩
      · exact Or.inr q2
    · rintro (q2 | q2)
      · exact Or.inl ⟨q2.1, by omega⟩
      · exact Or.inr q2
  refine ⟨fun n => if n = c then (fun i => if i = (κ 45 c).toNat then (κ 10 c).toNat else ids c i) else ids n, fun n => if n = c then (fun i => if i = (κ 45 c).toNat then jm_n h else adr c i) else adr n, ⟨RC_nA r1 f z, RM_c r2 (fun a q => nA_k (by omega)) (fun a j q => nA_r (by omega)) (fun a j q => nA_i (by omega)), r3, by rw [nA_k (by omega)]; exact r4, by rw [nA_n]; omega⟩, IV_le (m := 9000 * T) (by omega) ⟨⟨B4, ⟨fun p => ?_, fun d k q1 q2 => ?_, fun d i j q1 q2 q3 => ?_⟩, ⟨by rw [ne 44 0 (by omega) (by omega) (by omega) (by omega)]; exact hR.1, fun j => by rw [ne 31 j (by omega) (by omega) (by omega) (by omega)]; exact hR.2 j⟩, fun j q => ?_, fun j q => ?_, fun j q => ?_, XU_m hU (fun j => by show jm_u2 μ _ _ _ 5 j = _; unfold jm_u2; exact if_neg (by omega))⟩, fun p q => ?_, fun p q r => ?_, fun n q => ?_⟩, EQ', by rw [ne 0 1 (by omega) (by omega) (by omega) (by omega)]; omega, by omega⟩
  · rw [e13, ne 15 _ (by omega) (by omega) (by omega) (by omega), ne 15 _ (by omega) (by omega) (by omega) (by omega)]; exact hS.1 p
  · by_cases q : d = c
    · subst q
      rw [v10] at q2
      by_cases qk : k = (κ 10 d).toNat
      · rw [qk, v12]; exact hz0
      · rw [ne 12 _ (by omega) (by omega) (by omega) (by omega)]; exact hS.2.1 d k q1 (by omega)
    · have bd : 0 ≤ κ 10 d ∧ κ 10 d ≤ 4 := hB 10 d
      rw [ne 10 d (by omega) (by omega) (by omega) (by omega)] at q2
      rw [ne 12 _ (by omega) (by omega) (by omega) (by omega)]; exact hS.2.1 d k q1 q2
  · rw [ne 7 _ (by omega) (by omega) (by omega) (by omega)] at q3
    rw [ne 8 _ (by omega) (by omega) (by omega) (by omega), ne 8 _ (by omega) (by omega) (by omega) (by omega)]; exact hS.2.2 d i j q1 q2 q3
  · rw [ne 0 33 (by omega) (by omega) (by omega) (by omega)] at q
    rw [ne 44 0 (by omega) (by omega) (by omega) (by omega), ne 31 _ (by omega) (by omega) (by omega) (by omega), ne 30 _ (by omega) (by omega) (by omega) (by omega)]; exact hF j q
  · rw [ne 0 24 (by omega) (by omega) (by omega) (by omega)] at q
    have := hU.1 j
    rw [ne (32 + u j) 0 (by omega) (by omega) (by omega) (by omega), ne (32 + u j) 1 (by omega) (by omega) (by omega) (by omega), ne (32 + u j) 2 (by omega) (by omega) (by omega) (by omega), ne (32 + u j) 3 (by omega) (by omega) (by omega) (by omega), ne 23 _ (by omega) (by omega) (by omega) (by omega), ne 24 _ (by omega) (by omega) (by omega) (by omega), ne 25 _ (by omega) (by omega) (by omega) (by omega), ne 26 _ (by omega) (by omega) (by omega) (by omega)]
    exact hM j q
  · rw [ne 0 24 (by omega) (by omega) (by omega) (by omega)] at q
    rw [ne 0 1 (by omega) (by omega) (by omega) (by omega), ne 26 _ (by omega) (by omega) (by omega) (by omega)]; exact hD j q
  · rw [ne 46 _ (by omega) (by omega) (by omega) (by omega), ne 48 _ (by omega) (by omega) (by omega) (by omega)]; exact h46 p q
  · rw [e13] at r
    rw [ne 15 _ (by omega) (by omega) (by omega) (by omega), ne 15 _ (by omega) (by omega) (by omega) (by omega)]; exact hE p q r
  · by_cases qn : n = c
    · subst qn
      dsimp only
      rw [if_pos rfl, if_pos rfl]
      refine AI_add (hA n q) h6 (by rw [nA_n]; omega) ek v45 (by omega) np ?_ pc (fun i q1 q2 => ?_) (ids_pres (hA n q)) (fun j => ?_) (fun q1 => ?_) (fun q1 => by omega)
      · exact (presF _ (by omega)).mpr (by rw [v10]; omega)
      · rw [(fz_lt (κ := κ') q2).1, (fz_lt (κ := κ') q2).2, (fz_lt (κ := κ) q2).1, (fz_lt (κ := κ) q2).2]
        have q3 := (presF _ q2).mp q1
        rw [ne 11 _ (by omega) (by omega) (by omega) (by omega), ne 12 _ (by omega) (by omega) (by omega) (by omega)]
        exact ⟨rfl, rfl⟩
      · show jm_u2 μ _ _ _ (42 + 5 * n) j = _
        unfold jm_u2
        by_cases qj : j = (κ 45 n).toNat
        · rw [if_pos ⟨rfl, qj⟩, if_pos qj]
        · rw [if_neg (fun x => qj x.2), if_neg qj]
      · have g := nA_is h f z
        rw [(fz_lt (κ := κ') q1).1, (fz_lt (κ := κ') q1).2, v11, v12]
        exact ⟨by omega, by rw [nA_n]; omega, nA_ks h f z, g.1, g.2.1, g.2.2⟩
    · dsimp only
      rw [if_neg qn, if_neg qn]
      refine AI_k (AI_h (hA n q) (by rw [nA_n]; omega) ek) (ne 45 n (by omega) (by omega) (by omega) (by omega)) (fun i => ?_) (fun i q1 q2 => ?_) (fun j => ?_)
      · unfold pres
        rw [nat3, ne 10 n (by omega) (by omega) (by omega) (by omega), e13]
      · have bn : 0 ≤ κ 10 n ∧ κ 10 n ≤ 4 := hB 10 n
        rw [(fz_lt (κ := κ') q2).1, (fz_lt (κ := κ') q2).2, (fz_lt (κ := κ) q2).1, (fz_lt (κ := κ) q2).2, ne 11 _ (by omega) (by omega) (by omega) (by omega), ne 12 _ (by omega) (by omega) (by omega) (by omega)]
        exact ⟨rfl, rfl⟩
      · show jm_u2 μ _ _ _ (42 + 5 * n) j = _
        unfold jm_u2
        exact if_neg (by omega)
theorem forbid_cs {h1 : jm_H} {μ1 : M_} (κ : S_) {c : Nat} (f z : Int) (x : Nat) : cs h1 ac (CN (jm_u2 (jm_u2 κ 45 c (κ 45 c + 1)) 10 c (κ 10 c + 1))) μ1 = cs h1 ac (CN (jm_u2 (jm_u2 (jm_u2 (jm_u2 κ 45 c (κ 45 c + 1)) 11 x f) 12 x z) 10 c (κ 10 c + 1))) μ1 := by
  refine cs_ghN (fun o j q1 q2 => ?_)
  have q3 : ¬ (11 ≤ o ∧ o ≤ 13) := fun x => q1 (Or.inr (Or.inl x))
  by_cases q : o = 10 ∧ j = c
  · rw [u2p q, u2p q]
  · rw [u2n q, u2n q, u2n (a := o) (o := 12) (by omega), u2n (a := o) (o := 11) (by omega)]
end
