/-! the model's own cells: the object at am, its arrays behind it in the order in which they were made; row 0 are the object's numbers (by their field), row o the array at am + o -/
abbrev S_ : Type := Nat → Nat → Int
def mo (h : jm_H) (am : Nat) (σ : S_) : jm_H := (h.1, fun a j => if am ≤ a ∧ a < am + 31 then Int32.ofInt (σ (a - am) j) else h.2.1 a j, h.2.2)
def mTab : List (Nat × Nat × Nat × Nat) := [(2, 1, 0, 3), (3, 2, 0, 3), (4, 3, 0, 3), (5, 4, 0, 3), (6, 5, 0, 3), (7, 6, 0, 9), (8, 7, 0, 3), (9, 8, 0, 24), (10, 9, 0, 24), (11, 10, 0, 3), (12, 11, 0, 12), (13, 12, 0, 12), (14, 13, 3, 3), (15, 14, 0, 6), (16, 15, 0, 6), (17, 16, 0, 3), (18, 17, 0, 3), (19, 18, 0, 3), (20, 19, 0, 3), (21, 20, 0, 3), (22, 21, 0, 3), (23, 22, 0, 3), (25, 23, 0, 12), (26, 24, 0, 12), (27, 25, 0, 12), (28, 26, 0, 12), (30, 27, 0, 400), (31, 28, 0, 400), (32, 29, 0, 400), (34, 30, 0, 100)]
def KP (j : Nat) : Int := if j = 2 then 1 else 0
def AS (j : Nat) : Int := if j = 0 then 1 else 2
def RM (B : jm_B) (am : Nat) (h : jm_H) : Prop := jm_k h am = some (.inl 8) ∧ (∀ q ∈ mTab, jm_r h am q.1 = some (am + q.2.1) ∧ jm_k h (am + q.2.1) = some (.inr (q.2.2.1, q.2.2.2))) ∧ (B.2.2 2 < am ∧ jm_k h (B.2.2 2) = some (.inr (1, 3)) ∧ ∀ j, j < 3 → jm_i h (B.2.2 2) j = Int32.ofInt (KP j)) ∧ (B.2.2 3 < am ∧ jm_k h (B.2.2 3) = some (.inr (1, 3)) ∧ ∀ j, j < 3 → jm_i h (B.2.2 3) j = Int32.ofInt (AS j))
section
variable {B : jm_B} {am : Nat} {h : jm_H} {σ : S_}
theorem rk (H : RM B am h) : jm_k (mo h am σ) am = some (.inl 8) := H.1
theorem rr1 (H : RM B am h) : jm_r (mo h am σ) am 2 = some (am + 1) := (H.2.1 (2, 1, 0, 3) (by decide)).1
theorem ra1 (H : RM B am h) : jm_k (mo h am σ) (am + 1) = some (.inr (0, 3)) := (H.2.1 (2, 1, 0, 3) (by decide)).2
theorem rr2 (H : RM B am h) : jm_r (mo h am σ) am 3 = some (am + 2) := (H.2.1 (3, 2, 0, 3) (by decide)).1
theorem ra2 (H : RM B am h) : jm_k (mo h am σ) (am + 2) = some (.inr (0, 3)) := (H.2.1 (3, 2, 0, 3) (by decide)).2
theorem rr3 (H : RM B am h) : jm_r (mo h am σ) am 4 = some (am + 3) := (H.2.1 (4, 3, 0, 3) (by decide)).1
theorem ra3 (H : RM B am h) : jm_k (mo h am σ) (am + 3) = some (.inr (0, 3)) := (H.2.1 (4, 3, 0, 3) (by decide)).2
theorem rr4 (H : RM B am h) : jm_r (mo h am σ) am 5 = some (am + 4) := (H.2.1 (5, 4, 0, 3) (by decide)).1
theorem ra4 (H : RM B am h) : jm_k (mo h am σ) (am + 4) = some (.inr (0, 3)) := (H.2.1 (5, 4, 0, 3) (by decide)).2
theorem rr5 (H : RM B am h) : jm_r (mo h am σ) am 6 = some (am + 5) := (H.2.1 (6, 5, 0, 3) (by decide)).1
theorem ra5 (H : RM B am h) : jm_k (mo h am σ) (am + 5) = some (.inr (0, 3)) := (H.2.1 (6, 5, 0, 3) (by decide)).2
theorem rr6 (H : RM B am h) : jm_r (mo h am σ) am 7 = some (am + 6) := (H.2.1 (7, 6, 0, 9) (by decide)).1
theorem ra6 (H : RM B am h) : jm_k (mo h am σ) (am + 6) = some (.inr (0, 9)) := (H.2.1 (7, 6, 0, 9) (by decide)).2
theorem rr7 (H : RM B am h) : jm_r (mo h am σ) am 8 = some (am + 7) := (H.2.1 (8, 7, 0, 3) (by decide)).1
theorem ra7 (H : RM B am h) : jm_k (mo h am σ) (am + 7) = some (.inr (0, 3)) := (H.2.1 (8, 7, 0, 3) (by decide)).2
theorem rr8 (H : RM B am h) : jm_r (mo h am σ) am 9 = some (am + 8) := (H.2.1 (9, 8, 0, 24) (by decide)).1
theorem ra8 (H : RM B am h) : jm_k (mo h am σ) (am + 8) = some (.inr (0, 24)) := (H.2.1 (9, 8, 0, 24) (by decide)).2
theorem rr9 (H : RM B am h) : jm_r (mo h am σ) am 10 = some (am + 9) := (H.2.1 (10, 9, 0, 24) (by decide)).1
theorem ra9 (H : RM B am h) : jm_k (mo h am σ) (am + 9) = some (.inr (0, 24)) := (H.2.1 (10, 9, 0, 24) (by decide)).2
theorem rr10 (H : RM B am h) : jm_r (mo h am σ) am 11 = some (am + 10) := (H.2.1 (11, 10, 0, 3) (by decide)).1
theorem ra10 (H : RM B am h) : jm_k (mo h am σ) (am + 10) = some (.inr (0, 3)) := (H.2.1 (11, 10, 0, 3) (by decide)).2
theorem rr11 (H : RM B am h) : jm_r (mo h am σ) am 12 = some (am + 11) := (H.2.1 (12, 11, 0, 12) (by decide)).1
theorem ra11 (H : RM B am h) : jm_k (mo h am σ) (am + 11) = some (.inr (0, 12)) := (H.2.1 (12, 11, 0, 12) (by decide)).2
theorem rr12 (H : RM B am h) : jm_r (mo h am σ) am 13 = some (am + 12) := (H.2.1 (13, 12, 0, 12) (by decide)).1
theorem ra12 (H : RM B am h) : jm_k (mo h am σ) (am + 12) = some (.inr (0, 12)) := (H.2.1 (13, 12, 0, 12) (by decide)).2
theorem rr13 (H : RM B am h) : jm_r (mo h am σ) am 14 = some (am + 13) := (H.2.1 (14, 13, 3, 3) (by decide)).1
theorem ra13 (H : RM B am h) : jm_k (mo h am σ) (am + 13) = some (.inr (3, 3)) := (H.2.1 (14, 13, 3, 3) (by decide)).2
theorem rr14 (H : RM B am h) : jm_r (mo h am σ) am 15 = some (am + 14) := (H.2.1 (15, 14, 0, 6) (by decide)).1
theorem ra14 (H : RM B am h) : jm_k (mo h am σ) (am + 14) = some (.inr (0, 6)) := (H.2.1 (15, 14, 0, 6) (by decide)).2
theorem rr15 (H : RM B am h) : jm_r (mo h am σ) am 16 = some (am + 15) := (H.2.1 (16, 15, 0, 6) (by decide)).1
theorem ra15 (H : RM B am h) : jm_k (mo h am σ) (am + 15) = some (.inr (0, 6)) := (H.2.1 (16, 15, 0, 6) (by decide)).2
theorem rr16 (H : RM B am h) : jm_r (mo h am σ) am 17 = some (am + 16) := (H.2.1 (17, 16, 0, 3) (by decide)).1
theorem ra16 (H : RM B am h) : jm_k (mo h am σ) (am + 16) = some (.inr (0, 3)) := (H.2.1 (17, 16, 0, 3) (by decide)).2
theorem rr17 (H : RM B am h) : jm_r (mo h am σ) am 18 = some (am + 17) := (H.2.1 (18, 17, 0, 3) (by decide)).1
theorem ra17 (H : RM B am h) : jm_k (mo h am σ) (am + 17) = some (.inr (0, 3)) := (H.2.1 (18, 17, 0, 3) (by decide)).2
theorem rr18 (H : RM B am h) : jm_r (mo h am σ) am 19 = some (am + 18) := (H.2.1 (19, 18, 0, 3) (by decide)).1
theorem ra18 (H : RM B am h) : jm_k (mo h am σ) (am + 18) = some (.inr (0, 3)) := (H.2.1 (19, 18, 0, 3) (by decide)).2
theorem rr19 (H : RM B am h) : jm_r (mo h am σ) am 20 = some (am + 19) := (H.2.1 (20, 19, 0, 3) (by decide)).1
theorem ra19 (H : RM B am h) : jm_k (mo h am σ) (am + 19) = some (.inr (0, 3)) := (H.2.1 (20, 19, 0, 3) (by decide)).2
theorem rr20 (H : RM B am h) : jm_r (mo h am σ) am 21 = some (am + 20) := (H.2.1 (21, 20, 0, 3) (by decide)).1
theorem ra20 (H : RM B am h) : jm_k (mo h am σ) (am + 20) = some (.inr (0, 3)) := (H.2.1 (21, 20, 0, 3) (by decide)).2
theorem rr21 (H : RM B am h) : jm_r (mo h am σ) am 22 = some (am + 21) := (H.2.1 (22, 21, 0, 3) (by decide)).1
theorem ra21 (H : RM B am h) : jm_k (mo h am σ) (am + 21) = some (.inr (0, 3)) := (H.2.1 (22, 21, 0, 3) (by decide)).2
theorem rr22 (H : RM B am h) : jm_r (mo h am σ) am 23 = some (am + 22) := (H.2.1 (23, 22, 0, 3) (by decide)).1
theorem ra22 (H : RM B am h) : jm_k (mo h am σ) (am + 22) = some (.inr (0, 3)) := (H.2.1 (23, 22, 0, 3) (by decide)).2
theorem rr23 (H : RM B am h) : jm_r (mo h am σ) am 25 = some (am + 23) := (H.2.1 (25, 23, 0, 12) (by decide)).1
theorem ra23 (H : RM B am h) : jm_k (mo h am σ) (am + 23) = some (.inr (0, 12)) := (H.2.1 (25, 23, 0, 12) (by decide)).2
theorem rr24 (H : RM B am h) : jm_r (mo h am σ) am 26 = some (am + 24) := (H.2.1 (26, 24, 0, 12) (by decide)).1
theorem ra24 (H : RM B am h) : jm_k (mo h am σ) (am + 24) = some (.inr (0, 12)) := (H.2.1 (26, 24, 0, 12) (by decide)).2
theorem rr25 (H : RM B am h) : jm_r (mo h am σ) am 27 = some (am + 25) := (H.2.1 (27, 25, 0, 12) (by decide)).1
theorem ra25 (H : RM B am h) : jm_k (mo h am σ) (am + 25) = some (.inr (0, 12)) := (H.2.1 (27, 25, 0, 12) (by decide)).2
theorem rr26 (H : RM B am h) : jm_r (mo h am σ) am 28 = some (am + 26) := (H.2.1 (28, 26, 0, 12) (by decide)).1
theorem ra26 (H : RM B am h) : jm_k (mo h am σ) (am + 26) = some (.inr (0, 12)) := (H.2.1 (28, 26, 0, 12) (by decide)).2
theorem rr27 (H : RM B am h) : jm_r (mo h am σ) am 30 = some (am + 27) := (H.2.1 (30, 27, 0, 400) (by decide)).1
theorem ra27 (H : RM B am h) : jm_k (mo h am σ) (am + 27) = some (.inr (0, 400)) := (H.2.1 (30, 27, 0, 400) (by decide)).2
theorem rr28 (H : RM B am h) : jm_r (mo h am σ) am 31 = some (am + 28) := (H.2.1 (31, 28, 0, 400) (by decide)).1
theorem ra28 (H : RM B am h) : jm_k (mo h am σ) (am + 28) = some (.inr (0, 400)) := (H.2.1 (31, 28, 0, 400) (by decide)).2
theorem rr29 (H : RM B am h) : jm_r (mo h am σ) am 32 = some (am + 29) := (H.2.1 (32, 29, 0, 400) (by decide)).1
theorem ra29 (H : RM B am h) : jm_k (mo h am σ) (am + 29) = some (.inr (0, 400)) := (H.2.1 (32, 29, 0, 400) (by decide)).2
theorem rr30 (H : RM B am h) : jm_r (mo h am σ) am 34 = some (am + 30) := (H.2.1 (34, 30, 0, 100) (by decide)).1
theorem ra30 (H : RM B am h) : jm_k (mo h am σ) (am + 30) = some (.inr (0, 100)) := (H.2.1 (34, 30, 0, 100) (by decide)).2
theorem rs2 (H : RM B am h) : jm_k (mo h am σ) (B.2.2 2) = some (.inr (1, 3)) := H.2.2.1.2.1
theorem rs3 (H : RM B am h) : jm_k (mo h am σ) (B.2.2 3) = some (.inr (1, 3)) := H.2.2.2.2.1
theorem ri2 (H : RM B am h) {j : Nat} (hj : j < 3) : jm_i (mo h am σ) (B.2.2 2) j = Int32.ofInt (KP j) := by
  have h1 := H.2.2.1.1
  show (if am ≤ B.2.2 2 ∧ B.2.2 2 < am + 31 then _ else jm_i h (B.2.2 2) j) = _
  rw [if_neg (by omega)]
  exact H.2.2.1.2.2 j hj
theorem ri3 (H : RM B am h) {j : Nat} (hj : j < 3) : jm_i (mo h am σ) (B.2.2 3) j = Int32.ofInt (AS j) := by
  have h1 := H.2.2.2.1
  show (if am ≤ B.2.2 3 ∧ B.2.2 3 < am + 31 then _ else jm_i h (B.2.2 3) j) = _
  rw [if_neg (by omega)]
  exact H.2.2.2.2.2 j hj
theorem mi0 (j : Nat) : jm_i (mo h am σ) am j = Int32.ofInt (σ 0 j) := by
  show (if am ≤ am ∧ am < am + 31 then _ else _) = _
  rw [if_pos (by omega), Nat.sub_self]
theorem mia {o : Nat} (j : Nat) (ho : o < 31) : jm_i (mo h am σ) (am + o) j = Int32.ofInt (σ o j) := by
  show (if am ≤ am + o ∧ am + o < am + 31 then _ else _) = _
  rw [if_pos (by omega), Nat.add_sub_cancel_left]
theorem msa {o : Nat} (j : Nat) (v : Int) (ho : o < 31) : jm_si (mo h am σ) (am + o) j (Int32.ofInt v) = mo h am (jm_u2 σ o j v) := by
  unfold jm_si mo
  congr 1
  congr 1
  funext a i
  show jm_u2 _ _ _ _ a i = _
  unfold jm_u2
  dsimp only
  by_cases ha : am ≤ a ∧ a < am + 31
  · rw [if_pos ha, if_pos ha]
    by_cases hq : a = am + o ∧ i = j
    · rw [if_pos hq, if_pos ⟨by omega, hq.2⟩]
    · rw [if_neg hq, if_neg (fun q => hq ⟨by omega, q.2⟩)]
  · rw [if_neg ha, if_neg ha, if_neg (fun q => ha ⟨by omega, by omega⟩)]
theorem ms0 (j : Nat) (v : Int) : jm_si (mo h am σ) am j (Int32.ofInt v) = mo h am (jm_u2 σ 0 j v) := msa (o := 0) j v (by decide)
theorem u2s (σ : S_) (o j : Nat) (v : Int) : jm_u2 σ o j v o j = v := jm_u2_s σ o j v
theorem bi1 {P : Prop} [Decidable P] (hp : P) : Int32.ofInt (if P then 1 else 0) = Int32.ofInt 1 := by rw [if_pos hp]
theorem bi0 {P : Prop} [Decidable P] (hp : ¬ P) : Int32.ofInt (if P then 1 else 0) = Int32.ofInt 0 := by rw [if_neg hp]
theorem j_eq1 {x : Int} (h1 : -2147483648 ≤ x) (h2 : x < 2147483648) : (Int32.ofInt x = 1) = (x = 1) := j_eq (y := 1) h1 h2 (by decide) (by decide)
end
/-- bounds of the model's numbers; the time is at most N -/
def Bn (N : Int) (σ : S_) : Prop :=
  (0 ≤ σ 0 1 ∧ σ 0 1 ≤ N ∧ N ≤ 600000) ∧ (0 ≤ σ 0 24 ∧ σ 0 24 ≤ 12) ∧ (0 ≤ σ 0 29 ∧ σ 0 29 ≤ 60) ∧ (0 ≤ σ 0 33 ∧ σ 0 33 ≤ 100) ∧ (0 ≤ σ 0 35 ∧ σ 0 35 ≤ 100 * σ 0 1) ∧ (0 ≤ σ 0 36 ∧ σ 0 36 ≤ 100 * σ 0 1) ∧ (0 ≤ σ 0 37 ∧ σ 0 37 ≤ 100 * σ 0 1) ∧
  (∀ j, 0 ≤ σ 1 j ∧ σ 1 j < 3600) ∧ (∀ j, -10 ≤ σ 2 j ∧ σ 2 j ≤ 10) ∧ (∀ j, 0 ≤ σ 3 j ∧ σ 3 j ≤ 6000) ∧ (∀ j, 0 ≤ σ 4 j ∧ σ 4 j ≤ 8000) ∧ (∀ j, 0 ≤ σ 5 j ∧ σ 5 j ≤ 1000) ∧ (∀ j, -20 ≤ σ 6 j ∧ σ 6 j ≤ 20) ∧ (∀ j, 0 ≤ σ 7 j ∧ σ 7 j ≤ 8) ∧ (∀ j, 0 ≤ σ 8 j ∧ σ 8 j ≤ 6000) ∧ (∀ j, 0 ≤ σ 9 j ∧ σ 9 j ≤ 1000) ∧ (∀ j, 0 ≤ σ 10 j ∧ σ 10 j ≤ 4) ∧ (∀ j, 0 ≤ σ 11 j ∧ σ 11 j < 3600) ∧ (∀ j, 0 ≤ σ 12 j ∧ σ 12 j < 3600) ∧ (∀ j, 0 ≤ σ 13 j ∧ σ 13 j ≤ 1) ∧ (∀ j, 0 ≤ σ 14 j ∧ σ 14 j < 3600) ∧ (∀ j, 0 ≤ σ 15 j ∧ σ 15 j < 3600) ∧ (∀ j, 0 ≤ σ 16 j ∧ σ 16 j ≤ 2) ∧ (∀ j, 0 ≤ σ 17 j ∧ σ 17 j ≤ σ 0 1) ∧ (∀ j, 0 ≤ σ 18 j ∧ σ 18 j ≤ σ 0 1) ∧ (∀ j, 0 ≤ σ 19 j ∧ σ 19 j ≤ σ 0 1) ∧ (∀ j, 0 ≤ σ 20 j ∧ σ 20 j ≤ 3) ∧ (∀ j, 0 ≤ σ 21 j ∧ σ 21 j ≤ σ 0 1) ∧ (∀ j, 0 ≤ σ 22 j ∧ σ 22 j ≤ σ 0 1) ∧
  (∀ j, 0 ≤ σ 23 j ∧ σ 23 j < 3) ∧ (∀ j, 0 ≤ σ 24 j ∧ σ 24 j ≤ 4) ∧ (∀ j, 0 ≤ σ 25 j ∧ σ 25 j ≤ σ 0 1) ∧ (∀ j, 0 ≤ σ 26 j ∧ σ 26 j ≤ σ 0 1 + 30) ∧ (∀ j, 0 ≤ σ 27 j ∧ σ 27 j < 3) ∧ (∀ j, 0 ≤ σ 28 j ∧ σ 28 j ≤ 4) ∧ (∀ j, 0 ≤ σ 29 j ∧ σ 29 j ≤ σ 0 1) ∧ (∀ j, 0 ≤ σ 30 j ∧ σ 30 j ≤ 30)
theorem u2r (σ : S_) (o j : Nat) (v : Int) (o' j' : Nat) : jm_u2 σ o j v o' j' = if o' = o ∧ j' = j then v else σ o' j' := by unfold jm_u2; rfl
theorem j_b0 {P : Prop} [Decidable P] : (Int32.ofInt (if P then 1 else 0) = 0) = (¬ P) := by
  by_cases hp : P
  · rw [if_pos hp]; simp [hp]
  · rw [if_neg hp]; simp [hp]
theorem j_b1 {P : Prop} [Decidable P] : (Int32.ofInt (if P then 1 else 0) = 1) = P := by
  by_cases hp : P
  · rw [if_pos hp]; simp [hp]
  · rw [if_neg hp]; simp [hp]
