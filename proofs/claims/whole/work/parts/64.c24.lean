/-! the law's start -/
theorem rho_pk {ac n : Nat} (hn : n < 3) : rho ac (53 + 4 * n) 1 = some (ac + (54 + 4 * n)) := by rw [(rho_p (by omega) (by omega)).1]; congr 1; omega
theorem rho_pa {ac n : Nat} (hn : n < 3) : rho ac (55 + 4 * n) 1 = some (ac + (56 + 4 * n)) := by rw [(rho_p (by omega) (by omega)).1]; congr 1; omega
theorem cP_cr {a : Nat} (h : 38 ≤ a ∧ a < 53 ∧ (a - 38) % 5 ≤ 1) : cP 3 a = 2 := by
  unfold cP
  rw [if_neg (by omega), if_neg (by omega), if_neg (by omega), if_neg (by omega), if_neg (by omega), if_neg (by omega), if_neg (by omega), if_pos h]
theorem cP_cp {a : Nat} (h : 53 ≤ a ∧ a < 65 ∧ (a - 53) % 2 = 0) : cP 3 a = 2 := by
  unfold cP
  rw [if_neg (by omega), if_neg (by omega), if_neg (by omega), if_neg (by omega), if_neg (by omega), if_neg (by omega), if_neg (by omega), if_neg (by omega), if_pos (by omega)]
theorem RC_new {B : jm_B} {ac : Nat} {h0 : jm_H} (hs0 : B.2.2 0 < ac ∧ jm_k (cn_ h0 ac 65 (stage ac (cP 3)) (iP 3)) (B.2.2 0) = some (.inr (1, 3)) ∧ ∀ j, j < 3 → jm_i (cn_ h0 ac 65 (stage ac (cP 3)) (iP 3)) (B.2.2 0) j = Int32.ofInt (KP j)) (hs1 : B.2.2 1 < ac ∧ jm_k (cn_ h0 ac 65 (stage ac (cP 3)) (iP 3)) (B.2.2 1) = some (.inr (1, 3)) ∧ ∀ j, j < 3 → jm_i (cn_ h0 ac 65 (stage ac (cP 3)) (iP 3)) (B.2.2 1) j = Int32.ofInt (AS j)) : RC B ac (cn_ h0 ac 65 (stage ac (cP 3)) (iP 3)) :=
  ⟨(cn_k0 (by omega)).trans (congrArg some (by unfold KD; (repeat (first | rw [if_pos (by omega)] | rw [if_neg (by omega)])); try rfl)),
   (cn_k (by omega)).trans (congrArg some (by unfold KD; (repeat (first | rw [if_pos (by omega)] | rw [if_neg (by omega)])); try rfl)),
   (cn_k (by omega)).trans (congrArg some (by unfold KD; (repeat (first | rw [if_pos (by omega)] | rw [if_neg (by omega)])); try rfl)),
   (cn_k (by omega)).trans (congrArg some (by unfold KD; (repeat (first | rw [if_pos (by omega)] | rw [if_neg (by omega)])); try rfl)),
   (cn_k (by omega)).trans (congrArg some (by unfold KD; (repeat (first | rw [if_pos (by omega)] | rw [if_neg (by omega)])); try rfl)),
   (cn_k (by omega)).trans (congrArg some (by unfold KD; (repeat (first | rw [if_pos (by omega)] | rw [if_neg (by omega)])); try rfl)),
   (cn_k (by omega)).trans (congrArg some (by unfold KD; (repeat (first | rw [if_pos (by omega)] | rw [if_neg (by omega)])); try rfl)),
   (cn_k (by omega)).trans (congrArg some (by unfold KD; (repeat (first | rw [if_pos (by omega)] | rw [if_neg (by omega)])); try rfl)),
   fun n hn => (cn_k (by omega)).trans (congrArg some (by unfold KD; (repeat (first | rw [if_pos (by omega)] | rw [if_neg (by omega)])); try rfl)),
   fun n hn => (cn_k (by omega)).trans (congrArg some (by unfold KD; (repeat (first | rw [if_pos (by omega)] | rw [if_neg (by omega)])); try rfl)),
   fun n hn => (cn_k (by omega)).trans (congrArg some (by unfold KD; (repeat (first | rw [if_pos (by omega)] | rw [if_neg (by omega)])); try rfl)),
   fun n hn => (cn_k (by omega)).trans (congrArg some (by unfold KD; (repeat (first | rw [if_pos (by omega)] | rw [if_neg (by omega)])); try rfl)),
   fun n hn => (cn_k (by omega)).trans (congrArg some (by unfold KD; (repeat (first | rw [if_pos (by omega)] | rw [if_neg (by omega)])); try rfl)),
   fun n hn => (cn_k (by omega)).trans (congrArg some (by unfold KD; (repeat (first | rw [if_pos (by omega)] | rw [if_neg (by omega)])); try rfl)),
   fun n hn => (cn_k (by omega)).trans (congrArg some (by unfold KD; (repeat (first | rw [if_pos (by omega)] | rw [if_neg (by omega)])); try rfl)),
   fun n hn => (cn_k (by omega)).trans (congrArg some (by unfold KD; (repeat (first | rw [if_pos (by omega)] | rw [if_neg (by omega)])); try rfl)),
   fun n hn => (cn_k (by omega)).trans (congrArg some (by unfold KD; (repeat (first | rw [if_pos (by omega)] | rw [if_neg (by omega)])); try rfl)),
   fun n hn => (cn_k (by omega)).trans (congrArg some (by unfold KD; (repeat (first | rw [if_pos (by omega)] | rw [if_neg (by omega)])); try rfl)),
   fun n hn => (cn_k (by omega)).trans (congrArg some (by unfold KD; (repeat (first | rw [if_pos (by omega)] | rw [if_neg (by omega)])); try rfl)),
   (cn_r0 (by omega)).trans ((stage_r (show _ < cP 3 0 from (by show _ < 4; omega))).trans (rho_0 ac (by omega))),
   (cn_r0 (by omega)).trans ((stage_r (show _ < cP 3 0 from (by show _ < 4; omega))).trans (rho_0 ac (by omega))),
   (cn_r0 (by omega)).trans ((stage_r (show _ < cP 3 0 from (by show _ < 4; omega))).trans (rho_0 ac (by omega))),
   (cn_r0 (by omega)).trans ((stage_r (show _ < cP 3 0 from (by show _ < 4; omega))).trans (rho_0 ac (by omega))),
   (cn_r (by omega)).trans ((stage_r (show _ < cP 3 4 from (by show _ < 3; omega))).trans (rho_4 ac (by omega))),
   (cn_r (by omega)).trans ((stage_r (show _ < cP 3 4 from (by show _ < 3; omega))).trans (rho_4 ac (by omega))),
   (cn_r (by omega)).trans ((stage_r (show _ < cP 3 4 from (by show _ < 3; omega))).trans (rho_4 ac (by omega))),
   fun n hn => (cn_r (by omega)).trans ((stage_r (show _ < cP 3 1 from hn)).trans (rho_1 ac hn)),
   fun n hn => (cn_r (by omega)).trans ((stage_r (show _ < cP 3 2 from hn)).trans (rho_2 ac hn)),
   fun n hn => (cn_r (by omega)).trans ((stage_r (show _ < cP 3 3 from hn)).trans (rho_3 ac hn)),
   fun n hn => (cn_r (by omega)).trans ((stage_r (show _ < cP 3 6 from hn)).trans (rho_6 ac hn)),
   fun n hn => (cn_r (by omega)).trans ((stage_r (by rw [cP_cr (by omega)]; omega)).trans (rho_c0 hn)),
   fun n hn => (cn_r (by omega)).trans ((stage_r (by rw [cP_cr (by omega)]; omega)).trans (rho_c1 hn)),
   fun n hn => (cn_r (by omega)).trans ((stage_r (by rw [cP_cr (by omega)]; omega)).trans (rho_t0 hn)),
   fun n hn => (cn_r (by omega)).trans ((stage_r (by rw [cP_cr (by omega)]; omega)).trans (rho_t1 hn)),
   fun n hn => (cn_r (by omega)).trans ((stage_r (by rw [cP_cp (by omega)]; omega)).trans (rho_pk hn)),
   fun n hn => (cn_r (by omega)).trans ((stage_r (by rw [cP_cp (by omega)]; omega)).trans (rho_pa hn)),
   hs0,
   hs1,
   Nat.le_refl _⟩
def K0 : S_ := fun r c => if r = 46 ∨ r = 48 then (if c < 3 then (c : Int) else 0) else 0
theorem K0_z {r c : Nat} (h1 : ¬ r = 46) (h2 : ¬ r = 48) : K0 r c = 0 := if_neg (by omega)
def Z48 (x : Nat × Nat) : Prop := ¬ (46 ≤ x.1 ∧ x.1 ≤ 48)
theorem z_ite {P : Prop} [Decidable P] {a b : Nat × Nat} (ha : P → Z48 a) (hb : ¬ P → Z48 b) : Z48 (if P then a else b) := by
  split
  · exact ha (by assumption)
  · exact hb (by assumption)
theorem z_mk {a b : Nat} (h : ¬ (46 ≤ a ∧ a ≤ 48)) : Z48 (a, b) := h
theorem z_B (j : Nat) : Z48 (mpB j) := by
  unfold mpB
  repeat' (first | (refine z_ite (fun _ => ?_) (fun _ => ?_)) | exact z_mk (by omega))
theorem z_C (n j : Nat) : Z48 (mpC n j) := by
  unfold mpC
  repeat' (first | (refine z_ite (fun _ => ?_) (fun _ => ?_)) | exact z_mk (by omega))
theorem z_O (n j : Nat) : Z48 (mpO n j) := by
  unfold mpO
  repeat' (first | (refine z_ite (fun _ => ?_) (fun _ => ?_)) | exact z_mk (by omega))
theorem z_mp {o : Nat} (ho : o < 53) (j : Nat) : Z48 (mp o j) := by
  unfold mp
  repeat' (first | exact z_B _ | exact z_C _ _ | exact z_O _ _ | (refine z_ite (fun _ => ?_) (fun _ => ?_)) | exact z_mk (by omega) | (exfalso; omega))
theorem cnk_z {x : Nat × Nat} (h : Z48 x) : CN K0 x.1 x.2 = 0 := by
  rw [CN_r (fun q => h (by omega))]
  exact K0_z (fun q => h (by omega)) (fun q => h (by omega))
theorem cnk_47 (j : Nat) : CN K0 47 j = 1 := by
  show (if j % 2 = 0 then (if K0 16 (j / 2) = 1 then (0 : Int) else 1) else (if K0 20 (j / 2) = 2 then 0 else 1)) = 1
  rw [K0_z (by omega) (by omega), K0_z (by omega) (by omega)]
  split <;> rfl
theorem mp53 {o : Nat} (h : 53 ≤ o) (j : Nat) : mp o j = if (o - 53) % 4 = 0 then mpK ((o - 53) / 4) j else if (o - 53) % 4 = 1 then mpR o (2 * ((o - 53) / 4)) j else if (o - 53) % 4 = 2 then mpA ((o - 53) / 4) j else mpR o (2 * ((o - 53) / 4) + 1) j := by
  unfold mp
  rw [if_neg (show ¬ o = 0 by omega), if_neg (show ¬ o = 4 by omega), if_neg (show ¬ o = 7 by omega), if_neg (show ¬ o < 8 by omega), if_neg (show ¬ o < 20 by omega), if_neg (show ¬ o < 38 by omega), if_neg (show ¬ o < 53 by omega)]
theorem iot53 {o : Nat} (h : 53 ≤ o) (j : Nat) : iot o j = if (o - 53) % 2 = 0 then (if j = 0 then (((o - 53) / 4 : Nat) : Int) else 0) else (if j = 2 then 1 else 0) := by
  unfold iot
  rw [if_neg (show ¬ o < 53 by omega)]
theorem cnk_K {n : Nat} (hn : n < 3) (j : Nat) : CN K0 (mpK n j).1 (mpK n j).2 = if j = 0 then (n : Int) else 0 := by
  by_cases j0 : j = 0
  · rw [if_pos j0, show mpK n j = (46, n) from if_pos j0]
    show CN K0 46 n = n
    rw [CN_r (by omega)]
    show (if 46 = 46 ∨ 46 = 48 then (if n < 3 then (n : Int) else 0) else 0) = n
    rw [if_pos (Or.inl rfl), if_pos hn]
  · rw [if_neg j0]
    refine cnk_z ?_
    unfold mpK
    rw [if_neg j0]
    repeat' (first | (refine z_ite (fun _ => ?_) (fun _ => ?_)) | exact z_mk (by omega))
theorem cnk_A {n : Nat} (hn : n < 3) (j : Nat) : CN K0 (mpA n j).1 (mpA n j).2 = if j = 0 then (n : Int) else 0 := by
  by_cases j0 : j = 0
  · rw [if_pos j0, show mpA n j = (48, n) from if_pos j0]
    show CN K0 48 n = n
    rw [CN_r (by omega)]
    show (if 48 = 46 ∨ 48 = 48 then (if n < 3 then (n : Int) else 0) else 0) = n
    rw [if_pos (Or.inr rfl), if_pos hn]
  · rw [if_neg j0]
    refine cnk_z ?_
    unfold mpA
    rw [if_neg j0]
    repeat' (first | (refine z_ite (fun _ => ?_) (fun _ => ?_)) | exact z_mk (by omega))
theorem cnk_R (o q j : Nat) : CN K0 (mpR o q j).1 (mpR o q j).2 = if j = 2 then 1 else 0 := by
  by_cases j2 : j = 2
  · have e : mpR o q j = (47, q) := by
      unfold mpR
      rw [if_neg (by omega), if_neg (by omega), if_pos j2]
    rw [if_pos j2, e]
    exact cnk_47 q
  · rw [if_neg j2]
    refine cnk_z ?_
    unfold mpR
    rw [if_neg j2]
    repeat' (first | (refine z_ite (fun _ => ?_) (fun _ => ?_)) | exact z_mk (by omega))
theorem K0_mp {o : Nat} (ho : o < 65) (j : Nat) : iP 3 o j = CN K0 (mp o j).1 (mp o j).2 := by
  show (if o < 53 + 4 * 3 then iot o j else 0) = _
  rw [if_pos (by omega)]
  by_cases q : o < 53
  · rw [cnk_z (z_mp q j)]
    unfold iot
    rw [if_pos q]
  · rw [iot53 (by omega) j]
    by_cases r0 : (o - 53) % 4 = 0
    · rw [show mp o j = mpK ((o - 53) / 4) j from (mp53 (by omega) j).trans (if_pos r0), cnk_K (by omega) j, if_pos (show (o - 53) % 2 = 0 by omega)]
    · by_cases r1 : (o - 53) % 4 = 1
      · rw [show mp o j = mpR o (2 * ((o - 53) / 4)) j from (mp53 (by omega) j).trans ((if_neg r0).trans (if_pos r1)), cnk_R, if_neg (show ¬ (o - 53) % 2 = 0 by omega)]
      · by_cases r2 : (o - 53) % 4 = 2
        · rw [show mp o j = mpA ((o - 53) / 4) j from (mp53 (by omega) j).trans ((if_neg r0).trans ((if_neg r1).trans (if_pos r2))), cnk_A (by omega) j, if_pos (show (o - 53) % 2 = 0 by omega)]
        · rw [show mp o j = mpR o (2 * ((o - 53) / 4) + 1) j from (mp53 (by omega) j).trans ((if_neg r0).trans ((if_neg r1).trans (if_neg r2))), cnk_R, if_neg (show ¬ (o - 53) % 2 = 0 by omega)]
theorem K0_BB : BB 0 0 K0 := fun o j => by
  by_cases q : o < 31
  · rw [K0_z (by omega) (by omega)]
    have key : ∀ o, o < 31 → ∀ j, rowOK 0 0 o j 0 := by
      intro o ho j
      unfold rowOK
      split
      · split <;> first | omega | exact trivial
      all_goals first | omega | exact trivial
    exact key o q j
  · exact rowT (by omega)
theorem IV_0 {h : jm_H} {ac : Nat} {μ : M_} (hμ : ∀ j, j < 12 → μ 5 j = some (ac + (8 + j))) : IV h ac 0 K0 μ (fun j => if j < 12 then j else 0) (fun _ _ => 0) (fun _ _ => 0) := by
  have z : ∀ r c, ¬ r = 46 → ¬ r = 48 → K0 r c = 0 := fun r c h1 h2 => K0_z h1 h2
  refine ⟨⟨K0_BB, ⟨fun p => Or.inl (z _ _ (by omega) (by omega)), fun c k q1 q2 => ?_, fun c i j q1 q2 q3 => ?_⟩, ⟨by rw [z _ _ (by omega) (by omega)]; omega, fun j => by rw [z _ _ (by omega) (by omega)]; omega⟩, fun j q => ?_, fun j q => ?_, fun j q => ?_, ⟨fun j => ?_, fun i j q1 q2 q3 => ?_, fun j q => ?_⟩⟩, fun p q => ?_, fun p q r => ⟨z _ _ (by omega) (by omega), z _ _ (by omega) (by omega)⟩, fun n q => ⟨by rw [z _ _ (by omega) (by omega)]; omega, fun i hi => ?_, fun g => ?_⟩⟩
  · rw [z _ _ (by omega) (by omega)] at q2; omega
  · rw [z _ _ (by omega) (by omega)] at q3; omega
  · rw [z _ _ (by omega) (by omega)] at q; omega
  · rw [z _ _ (by omega) (by omega)] at q; omega
  · rw [z _ _ (by omega) (by omega)] at q; omega
  · show (if j < 12 then j else 0) < 12
    split <;> omega
  · have q4 : (if i < 12 then i else 0) = (if j < 12 then j else 0) := q3
    rw [if_pos q1, if_pos q2] at q4
    exact q4
  · show _ = some (ac + (8 + (if j < 12 then j else 0)))
    rw [if_pos q]
    exact hμ j q
  · constructor
    · show (if 46 = 46 ∨ 46 = 48 then (if p < 3 then (p : Int) else 0) else 0) = p
      rw [if_pos (Or.inl rfl), if_pos q]
    · show (if 48 = 46 ∨ 48 = 48 then (if p < 3 then (p : Int) else 0) else 0) = p
      rw [if_pos (Or.inr rfl), if_pos q]
  · rw [z _ _ (by omega) (by omega)] at hi; omega
  · rw [z _ _ (by omega) (by omega)]
    have z2 : ∀ N, sumF (fun i => if pres K0 n i then g i else 0) N = 0 := by
      intro N
      induction N with
      | zero => rfl
      | succ N ih =>
        show _ + (if pres K0 n N then g N else 0) = 0
        rw [ih, if_neg (fun x => by
          rcases x with x | x
          · rw [z _ _ (by omega) (by omega)] at x; omega
          · exact x.2.2 (z _ _ (by omega) (by omega)))]
        rfl
    exact (z2 10).symm
/-- what the three makers leave behind -/
theorem lw_init {B : jm_B} {ac b Ln : Nat} {ys : Nat → Int} {h0 h' : jm_H} (hn : jm_n h0 = ac) (hN : Nk (jm_nw (cn_ h0 ac 65 (stage ac (cP 3)) (iP 3)) (.inl 8)) (ac + 65) 30 h')
    (hs : ∀ i, i < 4 → B.2.2 i < ac ∧ jm_k h0 (B.2.2 i) = some (.inr (1, 3)) ∧ ∀ j, j < 3 → jm_i h0 (B.2.2 i) j = Int32.ofInt (if i % 2 = 0 then KP j else AS j)) (hb : b < ac ∧ jm_k h0 b = some (.inr (1, Ln)) ∧ ∀ j, j < Ln → jm_i h0 b j = Int32.ofInt (ys j)) :
    jm_nw h' (.inr (2, 1)) = mo (cs (jm_nw h' (.inr (2, 1))) ac (CN K0) (stage ac (cP 3))) (ac + 65) (fun _ _ => 0) ∧ LSt B ac (jm_nw h' (.inr (2, 1))) K0 (stage ac (cP 3)) (fun j => if j < 12 then j else 0) (fun _ _ => 0) (fun _ _ => 0) 0 (fun _ _ => 0) ∧ Scr b Ln ys ac (jm_nw h' (.inr (2, 1))) := by
  obtain ⟨n1, n2, n3, n4, n5⟩ := id hN
  have nC : jm_n (cn_ h0 ac 65 (stage ac (cP 3)) (iP 3)) = ac + 65 := cn_n
  have lo : ∀ a, a < ac + 65 → jm_k (jm_nw h' (.inr (2, 1))) a = jm_k (cn_ h0 ac 65 (stage ac (cP 3)) (iP 3)) a ∧ (∀ j, jm_i (jm_nw h' (.inr (2, 1))) a j = jm_i (cn_ h0 ac 65 (stage ac (cP 3)) (iP 3)) a j) ∧ ∀ j, jm_r (jm_nw h' (.inr (2, 1))) a j = jm_r (cn_ h0 ac 65 (stage ac (cP 3)) (iP 3)) a j := fun a ha => by
    obtain ⟨e1, e2⟩ := n5 a ha
    refine ⟨?_, fun j => ?_, fun j => ?_⟩
    · rw [kk_nw (by omega), e1, kk_nw (by omega)]
    · rw [ri_nw (by omega), (e2 j).1, ri_nw (by omega)]
    · rw [rr_nw (by omega), (e2 j).2.1, rr_nw (by omega)]
  have l0 : ∀ a, a < ac → jm_k (cn_ h0 ac 65 (stage ac (cP 3)) (iP 3)) a = jm_k h0 a ∧ ∀ j, jm_i (cn_ h0 ac 65 (stage ac (cP 3)) (iP 3)) a j = jm_i h0 a j := fun a ha => by
    refine ⟨?_, fun j => ?_⟩
    · show (if ac ≤ a ∧ a < ac + 65 then _ else _) = _
      rw [if_neg (by omega)]; rfl
    · show (if ac ≤ a ∧ a < ac + 65 then _ else _) = _
      rw [if_neg (by omega)]; rfl
  have st : ∀ i, i < 4 → B.2.2 i < ac ∧ jm_k (cn_ h0 ac 65 (stage ac (cP 3)) (iP 3)) (B.2.2 i) = some (.inr (1, 3)) ∧ ∀ j, j < 3 → jm_i (cn_ h0 ac 65 (stage ac (cP 3)) (iP 3)) (B.2.2 i) j = Int32.ofInt (if i % 2 = 0 then KP j else AS j) := fun i hi => by
    obtain ⟨a1, a2, a3⟩ := hs i hi
    exact ⟨a1, by rw [(l0 _ a1).1]; exact a2, fun j hj => by rw [(l0 _ a1).2]; exact a3 j hj⟩
  have rc := RC_new (B := B) (ac := ac) (h0 := h0) (st 0 (by omega)) (st 1 (by omega))
  have sm : ∀ i, i < 4 → B.2.2 i < ac + 65 ∧ jm_k (jm_nw (cn_ h0 ac 65 (stage ac (cP 3)) (iP 3)) (.inl 8)) (B.2.2 i) = some (.inr (1, 3)) ∧ ∀ j, j < 3 → jm_i (jm_nw (cn_ h0 ac 65 (stage ac (cP 3)) (iP 3)) (.inl 8)) (B.2.2 i) j = Int32.ofInt (if i % 2 = 0 then KP j else AS j) := fun i hi => by
    obtain ⟨a1, a2, a3⟩ := st i hi
    exact ⟨by omega, by rw [kk_nw (by omega)]; exact a2, fun j hj => by rw [ri_nw (by omega)]; exact a3 j hj⟩
  obtain ⟨rm, -⟩ := RM_of (B := B) hN (sm 2 (by omega)) (sm 3 (by omega))
  have ek : ∀ a, a < ac + 65 + 31 → jm_k (jm_nw h' (.inr (2, 1))) a = jm_k h' a := fun a ha => kk_nw (by omega)
  have RCF : RC B ac (jm_nw h' (.inr (2, 1))) := RC_c rc (fun a q => (lo a q).1) (fun a j q => (lo a q).2.2 j) (fun a j q => (lo a (by omega)).2.1 j) (by rw [nC, nn_nw]; omega)
  refine ⟨?_, ⟨⟨RCF, RM_c rm ek (fun a j q => rr_nw (by omega)) (fun a j q => ri_nw (by omega)), ⟨(st 2 (by omega)).1, (st 3 (by omega)).1⟩, kk_nws (by omega), by rw [nn_nw]; omega⟩, ?_, fun o j q1 q2 => K0_z (by omega) (by omega), by rw [K0_z (by omega) (by omega)]; omega, by omega⟩, hb.1, by rw [(lo b (by omega)).1, (l0 b hb.1).1]; exact hb.2.1, fun j hj => by rw [(lo b (by omega)).2.1, (l0 b hb.1).2]; exact hb.2.2 j hj⟩
  · unfold mo cs
    refine Prod.ext rfl (Prod.ext ?_ (Prod.ext ?_ rfl))
    · funext a j
      show jm_i (jm_nw h' (.inr (2, 1))) a j = (if ac + 65 ≤ a ∧ a < ac + 65 + 31 then Int32.ofInt 0 else if ac ≤ a ∧ a < ac + 65 then Int32.ofInt (CN K0 (mp (a - ac) j).1 (mp (a - ac) j).2) else jm_i (jm_nw h' (.inr (2, 1))) a j)
      by_cases q : ac + 65 ≤ a ∧ a < ac + 65 + 31
      · rw [if_pos q, ri_nw (by omega), show a = ac + 65 + (a - (ac + 65)) by omega, n4 _ j (by omega)]
        rfl
      · rw [if_neg q]
        by_cases q2 : ac ≤ a ∧ a < ac + 65
        · rw [if_pos q2, (lo a q2.2).2.1, ← K0_mp (by omega) j]
          show (if ac ≤ a ∧ a < ac + 65 then Int32.ofInt (iP 3 (a - ac) j) else _) = _
          rw [if_pos q2]
        · rw [if_neg q2]
    · funext a j
      show jm_r (jm_nw h' (.inr (2, 1))) a j = (if ac ≤ a ∧ dyn (a - ac) then stage ac (cP 3) (a - ac) j else jm_r (jm_nw h' (.inr (2, 1))) a j)
      by_cases q : ac ≤ a ∧ dyn (a - ac)
      · have hd : a - ac < 65 := by have := q.2; unfold dyn at this; omega
        rw [if_pos q, (lo a (by omega)).2.2]
        show (if ac ≤ a ∧ a < ac + 65 then stage ac (cP 3) (a - ac) j else _) = _
        rw [if_pos (by omega)]
      · rw [if_neg q]
  · exact IV_0 (fun j hj => (stage_r (show j < cP 3 5 from hj)).trans (rho_5 ac hj))
theorem cn_start {h0 : jm_H} {ac : Nat} (hn : jm_n h0 = ac) : jm_nw h0 (.inl 7) = cn_ h0 ac 1 (stage ac (fun _ => 0)) (fun _ _ => 0) := by
  subst hn
  unfold jm_nw cn_
  refine Prod.ext ?_ (Prod.ext ?_ (Prod.ext ?_ (Prod.ext ?_ rfl)))
  · funext a
    show (if a = jm_n h0 then some (.inl 7) else _) = (if jm_n h0 ≤ a ∧ a < jm_n h0 + 1 then some (KD (a - jm_n h0)) else _)
    by_cases q : a = jm_n h0
    · rw [if_pos q, if_pos (by omega), show a - jm_n h0 = 0 by omega]; rfl
    · rw [if_neg q, if_neg (by omega)]
  · funext a j
    show (if a = jm_n h0 then (0 : Int32) else _) = (if jm_n h0 ≤ a ∧ a < jm_n h0 + 1 then Int32.ofInt 0 else _)
    by_cases q : a = jm_n h0
    · rw [if_pos q, if_pos (by omega)]; rfl
    · rw [if_neg q, if_neg (by omega)]
  · funext a j
    show (if a = jm_n h0 then (none : Option Nat) else _) = (if jm_n h0 ≤ a ∧ a < jm_n h0 + 1 then stage (jm_n h0) (fun _ => 0) (a - jm_n h0) j else _)
    by_cases q : a = jm_n h0
    · rw [if_pos q, if_pos (by omega), stage_n rfl]
    · rw [if_neg q, if_neg (by omega)]
  · funext a j
    show (if a = jm_n h0 then (0 : Int64) else _) = (if jm_n h0 ≤ a ∧ a < jm_n h0 + 1 then (0 : Int64) else _)
    by_cases q : a = jm_n h0
    · rw [if_pos q, if_pos (by omega)]
    · rw [if_neg q, if_neg (by omega)]
