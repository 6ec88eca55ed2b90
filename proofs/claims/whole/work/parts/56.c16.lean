/-! both objects in one heap -/
theorem cs_mo {h : jm_H} {ac : Nat} {κ σ : S_} {μ : M_} : cs (mo h (ac + 65) σ) ac κ μ = mo (cs h ac κ μ) (ac + 65) σ := by
  unfold cs mo
  refine Prod.ext rfl (Prod.ext ?_ rfl)
  funext a j
  show (if ac ≤ a ∧ a < ac + 65 then _ else if ac + 65 ≤ a ∧ a < ac + 65 + 31 then _ else _) = (if ac + 65 ≤ a ∧ a < ac + 65 + 31 then _ else if ac ≤ a ∧ a < ac + 65 then _ else _)
  by_cases q : ac ≤ a ∧ a < ac + 65
  · rw [if_pos q, if_neg (by omega), if_pos q]
  · rw [if_neg q, if_neg q]
theorem mo_i {h : jm_H} {am : Nat} {σ : S_} {a j : Nat} (ha : a < am ∨ am + 31 ≤ a) : jm_i (mo h am σ) a j = jm_i h a j := by
  show (if am ≤ a ∧ a < am + 31 then _ else jm_i h a j) = _
  rw [if_neg (by omega)]
theorem mo_EQ {h : jm_H} {am : Nat} {σ τ : S_} (e : ∀ o j, o < 31 → σ o j = τ o j) : mo h am σ = mo h am τ := by
  unfold mo
  refine Prod.ext rfl (Prod.ext ?_ rfl)
  funext a j
  show (if am ≤ a ∧ a < am + 31 then _ else _) = (if am ≤ a ∧ a < am + 31 then _ else _)
  by_cases q : am ≤ a ∧ a < am + 31
  · rw [if_pos q, if_pos q, e _ _ (by omega)]
  · rw [if_neg q, if_neg q]
theorem RC_mo {B : jm_B} {ac : Nat} {h : jm_H} (H : RC B ac h) (σ : S_) : RC B ac (mo h (ac + 65) σ) := RC_c H (fun a q => rfl) (fun a j q => rfl) (fun a j q => mo_i (Or.inl (by omega))) (Nat.le_refl _)
theorem RM_cs {B : jm_B} {ac : Nat} {h : jm_H} {κ : S_} {μ : M_} (H : RM B (ac + 65) h) (h2 : B.2.2 2 < ac) (h3 : B.2.2 3 < ac) : RM B (ac + 65) (cs h ac κ μ) := by
  obtain ⟨a1, a2, a3, a4⟩ := H
  refine ⟨a1, fun q hq => ⟨?_, (a2 q hq).2⟩, ⟨a3.1, a3.2.1, fun j hj => ?_⟩, ⟨a4.1, a4.2.1, fun j hj => ?_⟩⟩
  · rw [cr_o (Or.inr (fun x => by unfold dyn at x; omega))]; exact (a2 q hq).1
  · rw [ci_o (Or.inl h2)]; exact a3.2.2 j hj
  · rw [ci_o (Or.inl h3)]; exact a4.2.2 j hj
theorem RM_c {B : jm_B} {am : Nat} {h h' : jm_H} (H : RM B am h) (ek : ∀ a, a < am + 31 → jm_k h' a = jm_k h a) (er : ∀ a j, a < am + 31 → jm_r h' a j = jm_r h a j) (ei : ∀ a j, a < am → jm_i h' a j = jm_i h a j) : RM B am h' := by
  obtain ⟨a1, a2, a3, a4⟩ := H
  have hb : ∀ q ∈ mTab, q.2.1 ≤ 30 := by decide
  refine ⟨by rw [ek _ (by omega)]; exact a1, fun q hq => ⟨by rw [er _ _ (by omega)]; exact (a2 q hq).1, by rw [ek _ (by have := hb q hq; omega)]; exact (a2 q hq).2⟩, ⟨a3.1, by rw [ek _ (by omega)]; exact a3.2.1, fun j hj => by rw [ei _ _ a3.1]; exact a3.2.2 j hj⟩, ⟨a4.1, by rw [ek _ (by omega)]; exact a4.2.1, fun j hj => by rw [ei _ _ a4.1]; exact a4.2.2 j hj⟩⟩
/-! what is kept: moves -/
section
variable {h h' : jm_H} {ac n : Nat} {κ κ' : S_} {μ μ' : M_} {ids adr : Nat → Nat} {m : Int}
theorem AI_h (hA : AI2 h ac κ μ n ids adr) (en : jm_n h ≤ jm_n h') (ek : ∀ a, ac + 96 ≤ a → a < jm_n h → jm_k h' a = jm_k h a ∧ ∀ j, jm_i h' a j = jm_i h a j) : AI2 h' ac κ μ n ids adr := by
  refine ⟨hA.1, fun i hi => ?_, hA.2.2⟩
  obtain ⟨a1, a2, a3, a4⟩ := hA.2.1 i hi
  refine ⟨a1, a2, fun q => ?_, a4⟩
  obtain ⟨b1, b2, b3, b4, b5, b6⟩ := a3 q
  obtain ⟨e1, e2⟩ := ek _ b1 b2
  exact ⟨b1, by omega, by rw [e1]; exact b3, by rw [e2]; exact b4, by rw [e2]; exact b5, by rw [e2]; exact b6⟩
theorem sumF_1 {f f' : Nat → Int} {k : Nat} (e : ∀ i, ¬ i = k → f' i = f i) : ∀ n, k < n → sumF f' n = sumF f n + (f' k - f k) := by
  intro n
  induction n with
  | zero => intro q; omega
  | succ n ih =>
    intro q
    show sumF f' n + f' n = sumF f n + f n + (f' k - f k)
    by_cases q2 : k = n
    · subst q2
      rw [sumF_ext (fun i hi => e i (by omega))]
      omega
    · rw [ih (by omega), e n (fun x => q2 x.symm)]
      omega
theorem AI_add {id0 ad0 : Nat} (hA : AI2 h ac κ μ n ids adr) (h6 : κ 45 n < 6) (en : jm_n h ≤ jm_n h') (ek : ∀ a, ac + 96 ≤ a → a < jm_n h → jm_k h' a = jm_k h a ∧ ∀ j, jm_i h' a j = jm_i h a j) (e45 : κ' 45 n = κ 45 n + 1)
    (hid : id0 < 10) (hp0 : ¬ pres κ n id0) (hp1 : pres κ' n id0) (hp : ∀ i, ¬ i = id0 → (pres κ' n i ↔ pres κ n i)) (hfz : ∀ i, pres κ n i → i < 4 → fI κ' n i = fI κ n i ∧ zI κ' n i = zI κ n i)
    (hids : ∀ i : Nat, (i : Int) < κ 45 n → pres κ n (ids i)) (hμ : ∀ j, μ' (42 + 5 * n) j = if j = (κ 45 n).toNat then some ad0 else μ (42 + 5 * n) j)
    (hf : id0 < 4 → ac + 96 ≤ ad0 ∧ ad0 < jm_n h' ∧ jm_k h' ad0 = some (.inl 0) ∧ jm_i h' ad0 0 = Int32.ofInt (fI κ' n id0) ∧ jm_i h' ad0 1 = Int32.ofInt (zI κ' n id0) ∧ jm_i h' ad0 2 = Int32.ofInt 1) (hs : 4 ≤ id0 → ad0 = ac + (54 + 2 * (id0 - 4))) :
    AI2 h' ac κ' μ' n (fun i => if i = (κ 45 n).toNat then id0 else ids i) (fun i => if i = (κ 45 n).toNat then ad0 else adr i) := by
  have b0 := hA.1
  refine ⟨by omega, fun i hi => ?_, fun g => ?_⟩
  · show (if i = (κ 45 n).toNat then id0 else ids i) < 10 ∧ μ' (42 + 5 * n) i = some (if i = (κ 45 n).toNat then ad0 else adr i) ∧ ((if i = (κ 45 n).toNat then id0 else ids i) < 4 → _) ∧ (4 ≤ (if i = (κ 45 n).toNat then id0 else ids i) → (if i = (κ 45 n).toNat then ad0 else adr i) = ac + (54 + 2 * ((if i = (κ 45 n).toNat then id0 else ids i) - 4)))
    rw [hμ]
    by_cases q : i = (κ 45 n).toNat
    · simp only [if_pos q]
      exact ⟨hid, trivial, hf, hs⟩
    · simp only [if_neg q]
      obtain ⟨a1, a2, a3, a4⟩ := hA.2.1 i (by omega)
      refine ⟨a1, a2, fun q2 => ?_, a4⟩
      obtain ⟨b1, b2, b3, b4, b5, b6⟩ := a3 q2
      obtain ⟨e1, e2⟩ := ek _ b1 b2
      obtain ⟨z1, z2⟩ := hfz _ (hids i (by omega)) q2
      exact ⟨b1, by omega, by rw [e1]; exact b3, by rw [e2, z1]; exact b4, by rw [e2, z2]; exact b5, by rw [e2]; exact b6⟩
  · rw [e45, show (κ 45 n + 1).toNat = (κ 45 n).toNat + 1 by omega]
    show sumF (fun i => g (if i = (κ 45 n).toNat then id0 else ids i)) (κ 45 n).toNat + g (if (κ 45 n).toNat = (κ 45 n).toNat then id0 else ids (κ 45 n).toNat) = _
    rw [if_pos rfl, sumF_ext (g' := fun i => g (ids i)) (fun i hi => by show g (if i = (κ 45 n).toNat then id0 else ids i) = g (ids i); rw [if_neg (by omega)]), hA.2.2 g]
    rw [sumF_1 (f := fun i => if pres κ n i then g i else 0) (f' := fun i => if pres κ' n i then g i else 0) (k := id0) (fun i q => by
      show (if pres κ' n i then g i else 0) = (if pres κ n i then g i else 0)
      by_cases q2 : pres κ n i
      · rw [if_pos q2, if_pos ((hp i q).mpr q2)]
      · rw [if_neg q2, if_neg (fun x => q2 ((hp i q).mp x))]) 10 hid]
    show _ = _ + ((if pres κ' n id0 then g id0 else 0) - (if pres κ n id0 then g id0 else 0))
    rw [if_pos hp1, if_neg hp0]
    omega
end
theorem IV_le {h : jm_H} {ac : Nat} {m m' : Int} {κ : S_} {μ : M_} {u : Nat → Nat} {ids adr : Nat → Nat → Nat} (hm : m ≤ m') (hI : IV h ac m κ μ u ids adr) : IV h ac m' κ μ u ids adr :=
  ⟨⟨BB_le hm (Int.le_refl _) hI.1.1, hI.1.2⟩, hI.2⟩
theorem IV_h {h h' : jm_H} {ac : Nat} {m : Int} {κ : S_} {μ : M_} {u : Nat → Nat} {ids adr : Nat → Nat → Nat} (hI : IV h ac m κ μ u ids adr) (en : jm_n h ≤ jm_n h') (ek : ∀ a, ac + 96 ≤ a → a < jm_n h → jm_k h' a = jm_k h a ∧ ∀ j, jm_i h' a j = jm_i h a j) : IV h' ac m κ μ u ids adr :=
  ⟨hI.1, hI.2.1, hI.2.2.1, fun n hn => AI_h (hI.2.2.2 n hn) en ek⟩
/-- rows that nothing else speaks of -/
theorem IV_c {h : jm_H} {ac : Nat} {m : Int} {κ κ' : S_} {μ : M_} {u : Nat → Nat} {ids adr : Nat → Nat → Nat} (hI : IV h ac m κ μ u ids adr) (hB : BB m 0 κ') (hS : SS κ') (e : ∀ o j, (o = 0 ∧ ¬ j = 0) ∨ (10 ≤ o ∧ o ≤ 15) ∨ (23 ≤ o ∧ o ≤ 26) ∨ 29 < o → κ' o j = κ o j) : IV h ac m κ' μ u ids adr := by
  obtain ⟨⟨_, _, hR, hF, hM, hD, hU⟩, h46, hE, hA⟩ := hI
  refine ⟨⟨hB, hS, ⟨by rw [e _ _ (by omega)]; exact hR.1, fun j => by rw [e _ _ (by omega)]; exact hR.2 j⟩, fun j q => ?_, fun j q => ?_, fun j q => ?_, hU⟩, fun p q => ?_, fun p q r => ?_, fun n q => AI_c (fun o j r => e o j (by omega)) (fun _ => rfl) (hA n q)⟩
  · rw [e _ _ (by omega)] at q
    rw [e 44 _ (by omega), e 31 _ (by omega), e 30 _ (by omega)]
    exact hF j q
  · rw [e _ _ (by omega)] at q
    have := hU.1 j
    rw [e (32 + u j) 0 (by omega), e (32 + u j) 1 (by omega), e (32 + u j) 2 (by omega), e (32 + u j) 3 (by omega), e 23 _ (by omega), e 24 _ (by omega), e 25 _ (by omega), e 26 _ (by omega)]
    exact hM j q
  · rw [e _ _ (by omega)] at q
    rw [e 0 1 (by omega), e 26 _ (by omega)]
    exact hD j q
  · rw [e 46 _ (by omega), e 48 _ (by omega)]; exact h46 p q
  · rw [e 13 _ (by omega)] at r
    rw [e 15 _ (by omega), e 15 _ (by omega)]
    exact hE p q r
/-- how many arcs a crane has -/
theorem cnt_eq {h : jm_H} {ac : Nat} {κ : S_} {μ : M_} {n : Nat} {ids adr : Nat → Nat} (hA : AI2 h ac κ μ n ids adr) : κ 45 n = sumF (fun i => if pres κ n i then 1 else 0) 10 := by
  have e := hA.2.2 (fun _ => 1)
  have e2 : ∀ k : Nat, sumF (fun _ => (1 : Int)) k = k := by
    intro k
    induction k with
    | zero => rfl
    | succ k ih => show sumF (fun _ => (1 : Int)) k + 1 = ((k + 1 : Nat) : Int); rw [ih]; omega
  have e3 : sumF (fun i => (fun _ => (1 : Int)) (ids i)) (κ 45 n).toNat = ((κ 45 n).toNat : Int) := e2 _
  rw [e3] at e
  have := hA.1
  omega
/-- each id of a crane's arcs is there -/
theorem ids_pres {h : jm_H} {ac : Nat} {κ : S_} {μ : M_} {n : Nat} {ids adr : Nat → Nat} (hA : AI2 h ac κ μ n ids adr) (i : Nat) (hi : (i : Int) < κ 45 n) : pres κ n (ids i) := by
  by_cases q : pres κ n (ids i)
  · exact q
  · exfalso
    have e := hA.2.2 (fun k => if k = ids i then 1 else 0)
    have z : sumF (fun k => if pres κ n k then (if k = ids i then (1 : Int) else 0) else 0) 10 = 0 := by
      have z2 : ∀ N, sumF (fun k => if pres κ n k then (if k = ids i then (1 : Int) else 0) else 0) N = 0 := by
        intro N
        induction N with
        | zero => rfl
        | succ N ih =>
          show _ + (if pres κ n N then (if N = ids i then (1 : Int) else 0) else 0) = 0
          rw [ih]
          by_cases r : pres κ n N
          · rw [if_pos r, if_neg (fun x => q (by rw [← x]; exact r))]; rfl
          · rw [if_neg r]; rfl
      exact z2 10
    rw [z] at e
    have z3 := sumF_0 (g := fun k => if ids k = ids i then (1 : Int) else 0) (fun k => by show 0 ≤ (if ids k = ids i then (1 : Int) else 0); split <;> omega) e i (by have := hA.1; omega)
    have z4 : (if ids i = ids i then (1 : Int) else 0) = 0 := z3
    rw [if_pos rfl] at z4
    omega
