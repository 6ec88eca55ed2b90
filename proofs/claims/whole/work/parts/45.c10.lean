/-! cells of the matrix that the class does not have; what it has instead: the ring of fates, the messages under way -/
def gh (o j : Nat) : Prop := (o = 0 ∧ j = 0) ∨ (11 ≤ o ∧ o ≤ 13) ∨ (23 ≤ o ∧ o ≤ 26) ∨ o = 30
def Ngh (x : Nat × Nat) : Prop := ¬ gh x.1 x.2
theorem ngh_ite {P : Prop} [Decidable P] {a b : Nat × Nat} (ha : P → Ngh a) (hb : ¬ P → Ngh b) : Ngh (if P then a else b) := by
  split
  · exact ha (by assumption)
  · exact hb (by assumption)
theorem ngh_mk {a b : Nat} (h : ¬ ((a = 0 ∧ b = 0) ∨ (11 ≤ a ∧ a ≤ 13) ∨ (23 ≤ a ∧ a ≤ 26) ∨ a = 30)) : Ngh (a, b) := h
theorem ngh_B (j : Nat) : Ngh (mpB j) := by
  unfold mpB
  repeat' (first | (refine ngh_ite (fun _ => ?_) (fun _ => ?_)) | exact ngh_mk (by omega))
theorem ngh_C (n j : Nat) : Ngh (mpC n j) := by
  unfold mpC
  repeat' (first | (refine ngh_ite (fun _ => ?_) (fun _ => ?_)) | exact ngh_mk (by omega))
theorem ngh_K (n j : Nat) : Ngh (mpK n j) := by
  unfold mpK
  repeat' (first | (refine ngh_ite (fun _ => ?_) (fun _ => ?_)) | exact ngh_mk (by omega))
theorem ngh_A (n j : Nat) : Ngh (mpA n j) := by
  unfold mpA
  repeat' (first | (refine ngh_ite (fun _ => ?_) (fun _ => ?_)) | exact ngh_mk (by omega))
theorem ngh_R (o q j : Nat) : Ngh (mpR o q j) := by
  unfold mpR
  repeat' (first | (refine ngh_ite (fun _ => ?_) (fun _ => ?_)) | exact ngh_mk (by omega))
theorem ngh_O (n j : Nat) : Ngh (mpO n j) := by
  unfold mpO
  repeat' (first | (refine ngh_ite (fun _ => ?_) (fun _ => ?_)) | exact ngh_mk (by omega))
theorem mp_gh (o j : Nat) : Ngh (mp o j) := by
  unfold mp
  repeat' (first | exact ngh_B _ | exact ngh_C _ _ | exact ngh_K _ _ | exact ngh_A _ _ | exact ngh_R _ _ _ | exact ngh_O _ _ | (refine ngh_ite (fun _ => ?_) (fun _ => ?_)) | exact ngh_mk (by omega))
theorem cs_gh {h : jm_H} {ac : Nat} {κ κ' : S_} {μ : M_} (e : ∀ o j, ¬ gh o j → κ o j = κ' o j) : cs h ac κ μ = cs h ac κ' μ := by
  unfold cs
  refine Prod.ext rfl (Prod.ext ?_ rfl)
  funext a j
  show (if ac ≤ a ∧ a < ac + 65 then _ else _) = (if ac ≤ a ∧ a < ac + 65 then _ else _)
  split
  · rw [e _ _ (mp_gh (a - ac) j)]
  · rfl
theorem cs_ghN {h : jm_H} {ac : Nat} {κ κ' : S_} {μ : M_} (e : ∀ o j, ¬ gh o j → ¬ o = 47 → κ o j = κ' o j) : cs h ac (CN κ) μ = cs h ac (CN κ') μ := by
  refine cs_gh (fun o j h1 => ?_)
  by_cases q : o = 47
  · subst q
    show (if j % 2 = 0 then (if κ 16 (j / 2) = 1 then (0 : Int) else 1) else (if κ 20 (j / 2) = 2 then 0 else 1)) = (if j % 2 = 0 then (if κ' 16 (j / 2) = 1 then (0 : Int) else 1) else (if κ' 20 (j / 2) = 2 then 0 else 1))
    rw [e 16 _ (fun x => by unfold gh at x; omega) (by omega), e 20 _ (fun x => by unfold gh at x; omega) (by omega)]
  · rw [CN_r q, CN_r q]
    exact e o j h1 q
def XM (κ : S_) (u : Nat → Nat) : Prop := ∀ j : Nat, (j : Int) < κ 0 24 → κ (32 + u j) 0 = κ 23 j ∧ κ (32 + u j) 1 = κ 24 j ∧ κ (32 + u j) 2 = κ 25 j ∧ κ (32 + u j) 3 = κ 26 j
def XF (κ : S_) : Prop := ∀ j : Nat, (j : Int) < κ 0 33 → κ 31 ((κ 44 0 + j) % 100).toNat = κ 30 j
def DU (κ : S_) : Prop := ∀ j : Nat, (j : Int) < κ 0 24 → κ 0 1 < κ 26 j
/-! the messages that are sent -/
def TR (u : Nat → Nat) (τ υ : S_) : Prop := (∀ o j, o < 31 → ¬ gh o j → υ o j = τ o j) ∧ (∀ j : Nat, (j : Int) < τ 0 33 → υ 31 ((υ 44 0 + j) % 100).toNat = τ 30 j) ∧ (∀ j : Nat, (j : Int) < τ 0 24 → υ (32 + u j) 0 = τ 23 j ∧ υ (32 + u j) 1 = τ 24 j ∧ υ (32 + u j) 2 = τ 25 j ∧ υ (32 + u j) 3 = τ 26 j)
section
variable {u : Nat → Nat} {τ υ : S_} {m f : Int}
theorem TR_0 (h : TR u τ υ) {j : Nat} (hj : 0 < j) : υ 0 j = τ 0 j := h.1 0 j (by omega) (fun x => by unfold gh at x; omega)
theorem TR_u (h : TR u τ υ) {j : Nat} {v : Int} (h24 : ¬ j = 24) (h33 : ¬ j = 33) : TR u (jm_u2 τ 0 j v) (jm_u2 υ 0 j v) := by
  refine ⟨fun o i h1 h2 => ?_, fun i h1 => ?_, fun i h1 => ?_⟩
  · rw [u2r, u2r, h.1 o i h1 h2]
  · simp (disch := omega) only [u2n] at h1 ⊢
    exact h.2.1 i h1
  · simp (disch := omega) only [u2n] at h1 ⊢
    exact h.2.2 i h1
theorem kFt_35 (υ : S_) (v : Int) : kFt (jm_u2 υ 0 35 v) = jm_u2 (kFt υ) 0 35 v := by
  funext o j
  unfold kFt
  by_cases q1 : o = 0 ∧ j = 33
  · obtain ⟨rfl, rfl⟩ := q1
    simp (disch := omega) only [u2n, u2p]
  · by_cases q2 : o = 44 ∧ j = 0
    · obtain ⟨rfl, rfl⟩ := q2
      simp (disch := omega) only [u2n, u2p]
    · by_cases q3 : o = 0 ∧ j = 35
      · obtain ⟨rfl, rfl⟩ := q3
        simp (disch := omega) only [u2n, u2p]
      · simp (disch := omega) only [u2n]
theorem TR_ft (h : TR u τ υ) (hu : ∀ j, u j < 12) (hR : RFt υ) (h0 : 0 < τ 0 33) (h1 : τ 0 33 ≤ 100) : TR u (shF (jm_u2 τ 0 33 (τ 0 33 - 1)) (τ 0 33 - 1).toNat) (kFt υ) := by
  have e33 : υ 0 33 = τ 0 33 := TR_0 h (by omega)
  have r := hR.1
  refine ⟨fun o i q1 q2 => ?_, fun i q1 => ?_, fun i q1 => ?_⟩
  · rw [shF_r (fun x => q2 (Or.inr (Or.inr (Or.inr x)))), u2r]
    unfold kFt
    rw [u2r, e33, u2r, if_neg (show ¬ (o = 44 ∧ i = 0) by omega), h.1 o i q1 q2]
  · rw [shF_r (by omega), u2p ⟨rfl, rfl⟩] at q1
    have e := h.2.1 (i + 1) (by omega)
    unfold kFt
    simp (disch := omega) only [u2n, u2p]
    show _ = (if 30 = 30 ∧ i < (τ 0 33 - 1).toNat then jm_u2 τ 0 33 (τ 0 33 - 1) 30 (i + 1) else _)
    rw [if_pos ⟨rfl, by omega⟩, u2n (by omega), ← e]
    congr 1
    omega
  · rw [shF_r (by omega), u2n (by omega)] at q1
    have e := h.2.2 i q1
    have ui := hu i
    rw [shF_r (by omega), shF_r (by omega), shF_r (by omega), shF_r (by omega)]
    unfold kFt
    simp (disch := omega) only [u2n]
    exact e
theorem TR_st (h : TR u τ υ) (hu : ∀ j, u j < 12) (hi : ∀ i j, i < 12 → j < 12 → u i = u j → i = j) (h0 : 0 ≤ τ 0 24) (h1 : τ 0 24 < 12) (a b c d : Int) :
    TR u (jm_u2 (jm_u2 (jm_u2 (jm_u2 (jm_u2 τ 23 (τ 0 24).toNat a) 24 (τ 0 24).toNat b) 25 (τ 0 24).toNat c) 26 (τ 0 24).toNat d) 0 24 (τ 0 24 + 1))
      (jm_u2 (jm_u2 (jm_u2 (jm_u2 (jm_u2 υ (32 + u (τ 0 24).toNat) 0 a) (32 + u (τ 0 24).toNat) 1 b) (32 + u (τ 0 24).toNat) 2 c) (32 + u (τ 0 24).toNat) 3 d) 0 24 (τ 0 24 + 1)) := by
  have uM := hu (τ 0 24).toNat
  refine ⟨fun o i q1 q2 => ?_, fun i q1 => ?_, fun i q1 => ?_⟩
  · have q3 : ¬ (23 ≤ o ∧ o ≤ 26) := fun x => q2 (Or.inr (Or.inr (Or.inl x)))
    by_cases q4 : o = 0 ∧ i = 24
    · rw [u2p q4, u2p q4]
    · simp (disch := omega) only [u2n]
      exact h.1 o i q1 q2
  · simp (disch := omega) only [u2n] at q1 ⊢
    exact h.2.1 i q1
  · rw [u2p ⟨rfl, rfl⟩] at q1
    have ui := hu i
    by_cases q4 : i = (τ 0 24).toNat
    · subst q4
      simp (disch := omega) only [u2n, u2p, and_self]
    · have ne : ¬ u i = u (τ 0 24).toNat := fun x => q4 (hi _ _ (by omega) (by omega) x)
      simp (disch := omega) only [u2n]
      exact h.2.2 i (by omega)
theorem TR_k0 (h : TR u τ υ) (hu : ∀ j, u j < 12) (hi : ∀ i j, i < 12 → j < 12 → u i = u j → i = j) (h0 : 0 ≤ τ 0 24) (h1 : τ 0 24 ≤ 12) (i : Nat) (g t : Int) (ht : t = τ 0 1) :
    TR u (tkB τ i g) (kTk0 (jm_u2 υ 0 35 (υ 0 35 + 1)) i (u (υ 0 24).toNat) g t) := by
  have ng : ∀ o, 26 < o → o < 30 → ¬ gh o i := fun o q1 q2 x => by unfold gh at x; omega
  have e24 : υ 0 24 = τ 0 24 := TR_0 h (by omega)
  have e35 : υ 0 35 = τ 0 35 := TR_0 h (by omega)
  have e36 : υ 0 36 = τ 0 36 := TR_0 h (by omega)
  have e27 : υ 27 i = τ 27 i := h.1 27 i (by omega) (ng _ (by omega) (by omega))
  have e28 : υ 28 i = τ 28 i := h.1 28 i (by omega) (ng _ (by omega) (by omega))
  have e29 : υ 29 i = τ 29 i := h.1 29 i (by omega) (ng _ (by omega) (by omega))
  have hT : TR u (jm_u2 τ 0 35 (τ 0 35 + 1)) (jm_u2 υ 0 35 (τ 0 35 + 1)) := TR_u h (by omega) (by omega)
  unfold tkB kTk0
  rw [e35]
  simp only [Int.toNat_natCast]
  simp (disch := omega) only [u2n]
  rw [e24, e36, e27, e28, e29, ht]
  by_cases q : g = 0 ∨ τ 0 24 = 12
  · rw [if_pos q, if_pos q]
    exact TR_u hT (by omega) (by omega)
  · rw [if_neg q, if_neg q]
    have k := TR_st hT hu hi (by rw [u2n (by omega)]; exact h0) (by rw [u2n (by omega)]; omega) (τ 27 i) (τ 28 i) (τ 29 i) (τ 0 1 + g)
    rw [u2n (by omega)] at k
    exact k
theorem TR_tk (h : TR u τ υ) (hu : ∀ j, u j < 12) (hi : ∀ i j, i < 12 → j < 12 → u i = u j → i = j) (hB : BB m f τ) (hR : RFt υ) (i : Nat) (t : Int) (ht : t = τ 0 1) :
    TR u (tk1 τ i) (kTk υ i (u (υ 0 24).toNat) t) := by
  have b24 : 0 ≤ τ 0 24 ∧ τ 0 24 ≤ 12 := hB 0 24
  have b33 : 0 ≤ τ 0 33 ∧ τ 0 33 ≤ 100 := hB 0 33
  have e33 : υ 0 33 = τ 0 33 := TR_0 h (by omega)
  have r := hR.1
  unfold tk1 kTk
  by_cases q : τ 0 33 = 0
  · rw [if_neg (show ¬ 0 < τ 0 33 by omega), if_pos (show υ 0 33 = 0 by omega)]
    exact TR_k0 h hu hi b24.1 b24.2 i 1 t ht
  · rw [if_pos (show 0 < τ 0 33 by omega), if_neg (show ¬ υ 0 33 = 0 by omega), kFt_35]
    have h2 := TR_ft h hu hR (by omega) b33.2
    have e0 : υ 31 (υ 44 0).toNat = τ 30 0 := by
      have e := h.2.1 0 (by omega)
      rw [show (υ 44 0 + ((0 : Nat) : Int)) % 100 = υ 44 0 by omega] at e
      exact e
    have k24 : kFt υ 0 24 = υ 0 24 := by unfold kFt; simp (disch := omega) only [u2n]
    have k35 : kFt υ 0 35 = υ 0 35 := by unfold kFt; simp (disch := omega) only [u2n]
    have s24 : shF (jm_u2 τ 0 33 (τ 0 33 - 1)) (τ 0 33 - 1).toNat 0 24 = τ 0 24 := by rw [shF_r (by omega), u2n (by omega)]
    have s01 : shF (jm_u2 τ 0 33 (τ 0 33 - 1)) (τ 0 33 - 1).toNat 0 1 = τ 0 1 := by rw [shF_r (by omega), u2n (by omega)]
    have k := TR_k0 h2 hu hi (by omega) (by omega) i (τ 30 0) t (by omega)
    rw [k24, k35] at k
    rw [e0]
    exact k
theorem TR_N {κ : S_} (h : TR u κ υ) (hu : ∀ j, u j < 12) (hi : ∀ i j, i < 12 → j < 12 → u i = u j → i = j) (hB : BB m f κ) (hB2 : BB m f υ) (hR : RFt υ) : ∀ n, TR u (tkN κ n) (kTkN υ u (κ 0 1) n) := by
  intro n
  induction n with
  | zero => exact h
  | succ n ih =>
    exact TR_tk ih hu hi (BB_tkN hB n) (kTkN_ok hu hB2 hR n).2.1 n _ (tkN_0 (by omega) n).symm
theorem DU_tkB {σ : S_} (h : DU σ) {i g : Int} (hg : 0 ≤ g) (h0 : 0 ≤ σ 0 24) : DU (tkB σ i g) := by
  intro j hj
  unfold tkB at hj ⊢
  split at hj
  · rename_i q
    rw [if_pos q]
    simp (disch := omega) only [u2n] at hj ⊢
    exact h j hj
  · rename_i q
    rw [if_neg q]
    simp (disch := omega) only [u2n, u2p] at hj ⊢
    by_cases q2 : j = (σ 0 24).toNat
    · simp (disch := omega) only [u2p]
      omega
    · simp (disch := omega) only [u2n]
      exact h j (by omega)
theorem DU_tk1 {σ : S_} (hB : BB m f σ) (h : DU σ) {i : Int} : DU (tk1 σ i) := by
  have b24 : 0 ≤ σ 0 24 ∧ σ 0 24 ≤ 12 := hB 0 24
  have b30 : 0 ≤ σ 30 0 ∧ σ 30 0 ≤ 30 := hB 30 0
  unfold tk1
  split
  · refine DU_tkB (fun j hj => ?_) b30.1 ?_
    · rw [shF_r (by omega), u2n (by omega)] at hj
      rw [shF_r (by omega), shF_r (by omega), u2n (by omega), u2n (by omega)]
      exact h j hj
    · rw [shF_r (by omega), u2n (by omega)]; exact b24.1
  · exact DU_tkB h (by omega) b24.1
theorem DU_tkN {σ : S_} (hB : BB m f σ) (h : DU σ) : ∀ n, DU (tkN σ n) := by
  intro n
  induction n with
  | zero => exact h
  | succ n ih => exact DU_tk1 (BB_tkN hB n) ih
/-- the matrix after the bus has taken what was sent -/
def kaf (κ : S_) (u : Nat → Nat) : S_ := fun o j => if o < 31 then sp_takes κ o j else kTkN (CN κ) u (κ 0 1) (κ 0 29).toNat o j
theorem kaf_lt {κ : S_} {o j : Nat} (h : o < 31) : kaf κ u o j = sp_takes κ o j := if_pos h
theorem kaf_ge {κ : S_} {o j : Nat} (h : ¬ o < 31) : kaf κ u o j = kTkN (CN κ) u (κ 0 1) (κ 0 29).toNat o j := if_neg h
theorem kaf_ok {κ : S_} {h : jm_H} {ac : Nat} {μ : M_} (hU : XU ac μ u) (hB : BB m f κ) (hR : RFt κ) (hF : XF κ) (hM : XM κ u) (hD : DU κ) :
    cs h ac (jm_u2 (kTkN (CN κ) u (κ 0 1) (κ 0 29).toNat) 0 29 0) μ = cs h ac (CN (kaf κ u)) μ ∧ XF (kaf κ u) ∧ XM (kaf κ u) u ∧ RFt (kaf κ u) ∧ DU (kaf κ u) ∧ (∀ o j, 44 < o → ¬ o = 47 → kaf κ u o j = κ o j) := by
  have hR2 : RFt (CN κ) := ⟨by rw [CN_r (by omega)]; exact hR.1, fun j => by rw [CN_r (by omega)]; exact hR.2 j⟩
  obtain ⟨n1, n2, n3, n4⟩ := kTkN_ok (t := κ 0 1) hU.1 (BB_CN hB) hR2 (κ 0 29).toNat
  have hT0 : TR u κ (CN κ) := by
    refine ⟨fun o j q1 q2 => CN_r (by omega), fun j q => ?_, fun j q => ?_⟩
    · rw [CN_r (by omega), CN_r (by omega)]; exact hF j q
    · have := hU.1 j
      rw [CN_r (by omega), CN_r (by omega), CN_r (by omega), CN_r (by omega)]; exact hM j q
  have hT := TR_N hT0 hU.1 hU.2.1 hB (BB_CN hB) hR2 (κ 0 29).toNat
  have st : ∀ o j, ¬ (o = 0 ∧ j = 29) → sp_takes κ o j = tkN κ (κ 0 29).toNat o j := fun o j q => by unfold sp_takes; rw [u2n q]
  refine ⟨cs_gh (fun o j q => ?_), fun j q => ?_, fun j q => ?_, ⟨?_, fun j => ?_⟩, fun j q => ?_, fun o j q1 q2 => ?_⟩
  · by_cases q1 : o = 47
    · subst q1
      rw [u2n (by omega), n3 _ _ (by omega) (by omega) (by omega)]
      show (if j % 2 = 0 then (if κ 16 (j / 2) = 1 then (0 : Int) else 1) else (if κ 20 (j / 2) = 2 then 0 else 1)) = (if j % 2 = 0 then (if kaf κ u 16 (j / 2) = 1 then (0 : Int) else 1) else (if kaf κ u 20 (j / 2) = 2 then 0 else 1))
      rw [kaf_lt (by omega), kaf_lt (by omega), takes_r (by omega), takes_r (by omega)]
    · rw [CN_r q1]
      by_cases q2 : o < 31
      · rw [kaf_lt q2]
        by_cases q3 : o = 0 ∧ j = 29
        · unfold sp_takes
          rw [u2p q3, u2p q3]
        · rw [st _ _ q3, u2n q3]
          exact hT.1 o j q2 q
      · rw [kaf_ge q2, u2n (by omega)]
  · rw [kaf_lt (by omega), st _ _ (by omega)] at q
    rw [kaf_ge (by omega), kaf_ge (by omega), kaf_lt (by omega), st _ _ (by omega)]
    exact hT.2.1 j q
  · rw [kaf_lt (by omega), st _ _ (by omega)] at q
    simp (disch := omega) only [kaf_lt, kaf_ge]
    rw [st 23 j (by omega), st 24 j (by omega), st 25 j (by omega), st 26 j (by omega)]
    exact hT.2.2 j q
  · rw [kaf_ge (by omega)]; exact n2.1
  · rw [kaf_ge (by omega)]; exact n2.2 j
  · rw [kaf_lt (by omega), st _ _ (by omega)] at q
    rw [kaf_lt (by omega), kaf_lt (by omega), st _ _ (by omega), st _ _ (by omega)]
    exact DU_tkN hB hD _ j q
  · rw [kaf_ge (by omega), n3 _ _ (by omega) (by omega) (by omega), CN_r q2]
end
/-! the messages that come -/
theorem brF_skip {σ : S_} (n : Nat) : ∀ (d : Nat) (k : Int), 0 ≤ k → k + d ≤ σ 0 24 → (∀ j : Nat, k ≤ j → (j : Int) < k + d → σ 0 1 < σ 26 j) → brF (d + n) k σ = brF n (k + d) σ := by
  intro d
  induction d with
  | zero => intro k h0 h1 h2; rw [Nat.zero_add, show k + ((0 : Nat) : Int) = k by omega]
  | succ d ih =>
    intro k h0 h1 h2
    rw [show d + 1 + n = (d + n) + 1 by omega]
    show (if k < σ 0 24 then (if σ 0 1 < σ 26 k.toNat then brF (d + n) (k + 1) σ else brF (d + n) k (br1 σ k)) else σ) = _
    rw [if_pos (by omega), if_pos (h2 k.toNat (by omega) (by omega)), ih (k + 1) (by omega) (by omega) (fun j q1 q2 => h2 j (by omega) (by omega)), show k + 1 + (d : Int) = k + ((d + 1 : Nat) : Int) by omega]
theorem brF_end {σ : S_} : ∀ (n : Nat) (k : Int), 0 ≤ k → (∀ j : Nat, k ≤ j → (j : Int) < σ 0 24 → σ 0 1 < σ 26 j) → brF n k σ = σ := by
  intro n
  induction n with
  | zero => intro k h0 h; rfl
  | succ n ih =>
    intro k h0 h
    show (if k < σ 0 24 then (if σ 0 1 < σ 26 k.toNat then brF n (k + 1) σ else brF n k (br1 σ k)) else σ) = _
    by_cases q : k < σ 0 24
    · rw [if_pos q, if_pos (h k.toNat (by omega) (by omega))]
      exact ih (k + 1) (by omega) (fun j q1 q2 => h j (by omega) q2)
    · rw [if_neg q]
theorem brF_one {σ : S_} {n : Nat} {k : Int} (h1 : k < σ 0 24) (h2 : σ 26 k.toNat ≤ σ 0 1) : brF (n + 1) k σ = brF n k (br1 σ k) := by
  show (if k < σ 0 24 then (if σ 0 1 < σ 26 k.toNat then brF n (k + 1) σ else brF n k (br1 σ k)) else σ) = _
  rw [if_pos h1, if_neg (by omega)]
/-- what the first message due leaves behind, before it is heard -/
def bk (σ : S_) (k : Int) : S_ := jm_u2 (shB (jm_u2 σ 0 24 (σ 0 24 - 1)) k.toNat (σ 0 24 - 1).toNat) 0 37 (σ 0 37 + 1)
theorem br1_bk (σ : S_) (k : Int) : br1 σ k = sp_comes (bk σ k) (σ 23 k.toNat) (σ 24 k.toNat) (σ 25 k.toNat) := rfl
theorem first_due (due : Nat → Int) (t : Int) : ∀ n : Nat, (∃ k : Nat, k < n ∧ due k = t ∧ ∀ j, j < k → ¬ due j = t) ∨ (∀ j, j < n → ¬ due j = t) := by
  intro n
  induction n with
  | zero => exact Or.inr (fun j q => by omega)
  | succ n ih =>
    rcases ih with ⟨k, h1, h2, h3⟩ | h
    · exact Or.inl ⟨k, by omega, h2, h3⟩
    · by_cases q : due n = t
      · exact Or.inl ⟨n, by omega, q, h⟩
      · exact Or.inr (fun j q1 => by
          by_cases q2 : j = n
          · subst q2; exact q
          · exact h j (by omega))
theorem bk_r {σ : S_} {k : Int} {o j : Nat} (h : (0 < o ∧ o < 23) ∨ 26 < o) : bk σ k o j = σ o j := by
  unfold bk
  rw [u2n (by omega), shB_r (by omega), u2n (by omega)]
theorem bk_0 {σ : S_} {k : Int} {j : Nat} (h : ¬ j = 24) (h2 : ¬ j = 37) : bk σ k 0 j = σ 0 j := by
  unfold bk
  rw [u2n (by omega), shB_r (by omega), u2n (by omega)]
theorem bk_24 (σ : S_) (k : Int) : bk σ k 0 24 = σ 0 24 - 1 := by
  unfold bk
  rw [u2n (by omega), shB_r (by omega), u2p ⟨rfl, rfl⟩]
theorem bk_m {σ : S_} {k : Int} {o j : Nat} (h : 23 ≤ o ∧ o ≤ 26) : bk σ k o j = if k.toNat ≤ j ∧ j < (σ 0 24 - 1).toNat then σ o (j + 1) else σ o j := by
  unfold bk
  rw [u2n (by omega)]
  show (if (23 ≤ o ∧ o ≤ 26) ∧ k.toNat ≤ j ∧ j < (σ 0 24 - 1).toNat then jm_u2 σ 0 24 (σ 0 24 - 1) o (j + 1) else jm_u2 σ 0 24 (σ 0 24 - 1) o j) = _
  rw [u2n (by omega), u2n (by omega)]
  by_cases q : k.toNat ≤ j ∧ j < (σ 0 24 - 1).toNat
  · rw [if_pos ⟨h, q⟩, if_pos q]
  · rw [if_neg (fun x => q x.2), if_neg q]
theorem bk_cs {h : jm_H} {ac : Nat} {κ : S_} {μ : M_} (k : Int) : cs h ac (jm_u2 (jm_u2 (CN κ) 0 37 (CN κ 0 37 + 1)) 0 24 (CN κ 0 24 - 1)) μ = cs h ac (CN (bk κ k)) μ := by
  rw [CN_r (by omega), CN_r (by omega), CN_u (by omega) (by omega) (by omega), CN_u (by omega) (by omega) (by omega)]
  refine cs_ghN (fun o j q1 q2 => ?_)
  unfold bk
  have q3 : ¬ (23 ≤ o ∧ o ≤ 26) := fun x => q1 (Or.inr (Or.inr (Or.inl x)))
  by_cases q : o = 0 ∧ j = 37
  · rw [u2p q, u2n (by omega), u2p q]
  · rw [u2n q, shB_r (by omega)]
    by_cases q4 : o = 0 ∧ j = 24
    · rw [u2p q4, u2p q4]
    · rw [u2n q4, u2n q4, u2n q]
theorem XM_br {κ : S_} {u : Nat → Nat} (hM : XM κ u) (hu : ∀ j, u j < 12) {k : Int} (h0 : 0 ≤ k) (h1 : k < κ 0 24) : XM (br1 κ k) (rotU u k.toNat (κ 0 24 - 1).toNat) := by
  intro j hj
  rw [br1_m] at hj
  have e : ∀ o c, 31 < o → br1 κ k o c = κ o c := fun o c q => by rw [br1_bk, comes_r (by omega), bk_r (by omega)]
  have e2 : ∀ o, 23 ≤ o → o ≤ 26 → br1 κ k o j = if k.toNat ≤ j ∧ j < (κ 0 24 - 1).toNat then κ o (j + 1) else κ o j := fun o q1 q2 => by rw [br1_bk, comes_r (by omega), bk_m ⟨q1, q2⟩]
  rw [e2 23 (by omega) (by omega), e2 24 (by omega) (by omega), e2 25 (by omega) (by omega), e2 26 (by omega) (by omega), e _ 0 (by omega), e _ 1 (by omega), e _ 2 (by omega), e _ 3 (by omega)]
  unfold rotU
  by_cases q : k.toNat ≤ j ∧ j < (κ 0 24 - 1).toNat
  · rw [if_pos q, if_pos q, if_pos q, if_pos q, if_pos q]
    exact hM (j + 1) (by omega)
  · rw [if_neg q, if_neg q, if_neg q, if_neg q, if_neg q, if_neg (by omega)]
    exact hM j (by omega)
