/-! the helpers, for all numbers -/
theorem H_setUp (B : jm_B) (l : Launch) (h : jm_H) (ac : Nat) (κ : S_) (μ : M_) (u : Nat → Nat) (ids adr : Nat → Nat → Nat) (T : Int) (σ : S_) (hL : LSt B ac h κ μ u ids adr T σ) (hT : T ≤ 511) (hl0 : l.stackTraces = false) (c a : Int) (ca : -2147483648 ≤ c) (cb : c < 2147483648) (aa : -2147483648 ≤ a) (ab : a < 2147483648) : jm_Cw B l (gm 104) (hhs 0 6 9 (some 12)) [.inr (.inl (some (ac))), .inl (Int32.ofInt c), .inl (Int32.ofInt a)] (cs (mo h (ac + 65) σ) ac (CN κ) μ) (fun v h' => PH B ac h T σ (sp_setUp σ c a) none v h') := by
  by_cases q : (0 ≤ c ∧ c ≤ 2) ∧ (0 ≤ a ∧ a ≤ 3599)
  · by_cases q2 : κ 0 1 = 0
    · exact H_setUp0 B l h ac κ μ u ids adr T σ hL hT hl0 c a q.1.1 q.1.2 q.2.1 q.2.2 q2
    · exact H_setUp2 B l h ac κ μ u ids adr T σ hL hT hl0 c a q.1.1 q.1.2 q.2.1 q.2.2 q2
  · exact H_setUp1 B l h ac κ μ u ids adr T σ hL hT hl0 c a ca cb aa ab q
theorem H_load (B : jm_B) (l : Launch) (h : jm_H) (ac : Nat) (κ : S_) (μ : M_) (u : Nat → Nat) (ids adr : Nat → Nat → Nat) (T : Int) (σ : S_) (hL : LSt B ac h κ μ u ids adr T σ) (hT : T ≤ 511) (hl0 : l.stackTraces = false) (c a : Int) (ca : -2147483648 ≤ c) (cb : c < 2147483648) (aa : -2147483648 ≤ a) (ab : a < 2147483648) : jm_Cw B l (gm 109) (hhs 0 6 9 none) [.inr (.inl (some (ac))), .inl (Int32.ofInt c), .inl (Int32.ofInt a)] (cs (mo h (ac + 65) σ) ac (CN κ) μ) (fun v h' => PH B ac h T σ (sp_load σ c a) none v h') := by
  by_cases q : (0 ≤ c ∧ c ≤ 2) ∧ (0 ≤ a ∧ a ≤ 1000)
  · exact H_load0 B l h ac κ μ u ids adr T σ hL hT hl0 c a q.1.1 q.1.2 q.2.1 q.2.2
  · exact H_load1 B l h ac κ μ u ids adr T σ hL hT hl0 c a ca cb aa ab q
theorem H_order (B : jm_B) (l : Launch) (h : jm_H) (ac : Nat) (κ : S_) (μ : M_) (u : Nat → Nat) (ids adr : Nat → Nat → Nat) (T : Int) (σ : S_) (hL : LSt B ac h κ μ u ids adr T σ) (hT : T ≤ 511) (hl0 : l.stackTraces = false) (c w o : Int) (ca : -2147483648 ≤ c) (cb : c < 2147483648) (wa : -2147483648 ≤ w) (wb : w < 2147483648) (oa : -2147483648 ≤ o) (ob : o < 2147483648) : jm_Cw B l (gm 108) (hhs 0 7 10 none) [.inr (.inl (some (ac))), .inl (Int32.ofInt c), .inl (Int32.ofInt w), .inl (Int32.ofInt o)] (cs (mo h (ac + 65) σ) ac (CN κ) μ) (fun v h' => PH B ac h T σ (sp_order σ c w o) none v h') := by
  by_cases q : (0 ≤ c ∧ c ≤ 2) ∧ ((w = 0 ∧ -10 ≤ o ∧ o ≤ 10) ∨ (w = 1 ∧ -5 ≤ o ∧ o ≤ 5) ∨ (w = 2 ∧ -20 ≤ o ∧ o ≤ 20))
  · obtain ⟨q1, q2 | q2 | q2⟩ := q
    · obtain ⟨rfl, q3, q4⟩ := q2
      exact H_order00 B l h ac κ μ u ids adr T σ hL hT hl0 c o q1.1 q1.2 q3 q4
    · obtain ⟨rfl, q3, q4⟩ := q2
      exact H_order01 B l h ac κ μ u ids adr T σ hL hT hl0 c o q1.1 q1.2 q3 q4
    · obtain ⟨rfl, q3, q4⟩ := q2
      exact H_order02 B l h ac κ μ u ids adr T σ hL hT hl0 c o q1.1 q1.2 q3 q4
  · exact H_order1 B l h ac κ μ u ids adr T σ hL hT hl0 c w o ca cb wa wb oa ob q
theorem H_fate (B : jm_B) (l : Launch) (h : jm_H) (ac : Nat) (κ : S_) (μ : M_) (u : Nat → Nat) (ids adr : Nat → Nat → Nat) (T : Int) (σ : S_) (hL : LSt B ac h κ μ u ids adr T σ) (hT : T ≤ 511) (hl0 : l.stackTraces = false) (f : Int) (fa : -2147483648 ≤ f) (fb : f < 2147483648) : jm_Cw B l (gm 110) (hhs 0 9 12 (some 15)) [.inr (.inl (some (ac))), .inl (Int32.ofInt f), .inr (.inl (some (ac + 96)))] (cs (mo h (ac + 65) σ) ac (CN κ) μ) (fun v h' => PH B ac h T σ (sp_fate σ f) (some (if (0 ≤ f ∧ f ≤ 30) ∧ ¬ σ 0 33 = 100 then σ 0 33 + 1 else 0)) v h') := by
  by_cases q : 0 ≤ f ∧ f ≤ 30
  · by_cases q2 : κ 0 33 = 100
    · exact H_fate2 B l h ac κ μ u ids adr T σ hL hT hl0 f q.1 q.2 q2
    · exact H_fate0 B l h ac κ μ u ids adr T σ hL hT hl0 f q.1 q.2 q2
  · exact H_fate1 B l h ac κ μ u ids adr T σ hL hT hl0 f fa fb q
theorem H_point (B : jm_B) (l : Launch) (h : jm_H) (ac : Nat) (κ : S_) (μ : M_) (u : Nat → Nat) (ids adr : Nat → Nat → Nat) (T : Int) (σ : S_) (hL : LSt B ac h κ μ u ids adr T σ) (hT : T ≤ 511) (hl0 : l.stackTraces = false) (c r k : Int) (ca : -2147483648 ≤ c) (cb : c < 2147483648) (ra : -2147483648 ≤ r) (rb : r < 2147483648) (ka : -2147483648 ≤ k) (kb : k < 2147483648) : jm_Cw B l (gm 105) (hhs 0 12 15 (some 19)) [.inr (.inl (some (ac))), .inl (Int32.ofInt c), .inl (Int32.ofInt r), .inl (Int32.ofInt k), .inr (.inl (some (ac + 96)))] (cs (mo h (ac + 65) σ) ac (CN κ) μ) (fun v h' => PH B ac h T σ (sp_point σ c r k) (some (if ((0 ≤ c ∧ c ≤ 2) ∧ (0 ≤ r ∧ r ≤ 6000) ∧ (0 ≤ k ∧ k ≤ 1000) ∧ (σ 7 c.toNat = 0 ∨ σ 8 (c * 8 + σ 7 c.toNat - 1).toNat < r)) ∧ ¬ σ 7 c.toNat = 8 then σ 7 c.toNat + 1 else 0)) v h') := by
  by_cases q : (0 ≤ c ∧ c ≤ 2) ∧ (0 ≤ r ∧ r ≤ 6000) ∧ (0 ≤ k ∧ k ≤ 1000)
  · obtain ⟨⟨q1, q2⟩, ⟨q3, q4⟩, q5, q6⟩ := q
    by_cases q7 : (κ 7 c.toNat = 0 ∨ κ 8 (c * 8 + κ 7 c.toNat - 1).toNat < r)
    · by_cases q8 : κ 7 c.toNat = 8
      · exact H_point2 B l h ac κ μ u ids adr T σ hL hT hl0 c r k q1 q2 q3 q4 q5 q6 q7 q8
      · exact H_point0 B l h ac κ μ u ids adr T σ hL hT hl0 c r k q1 q2 q3 q4 q5 q6 q7 q8
    · exact H_point1b B l h ac κ μ u ids adr T σ hL hT hl0 c r k q1 q2 q3 q4 q5 q6 q7
  · exact H_point1 B l h ac κ μ u ids adr T σ hL hT hl0 c r k ca cb ra rb ka kb q
theorem H_forbid (B : jm_B) (l : Launch) (h : jm_H) (ac : Nat) (κ : S_) (μ : M_) (u : Nat → Nat) (ids adr : Nat → Nat → Nat) (T : Int) (σ : S_) (hL : LSt B ac h κ μ u ids adr T σ) (hT : T ≤ 511) (hl0 : l.stackTraces = false) (c f n : Int) (ca : -2147483648 ≤ c) (cb : c < 2147483648) (fa : -2147483648 ≤ f) (fb : f < 2147483648) (na : -2147483648 ≤ n) (nb : n < 2147483648) : jm_Cw B l (gm 106) (hhs 0 12 15 (some 19)) [.inr (.inl (some (ac))), .inl (Int32.ofInt c), .inl (Int32.ofInt f), .inl (Int32.ofInt n), .inr (.inl (some (ac + 96)))] (cs (mo h (ac + 65) σ) ac (CN κ) μ) (fun v h' => PH B ac h T σ (sp_forbid σ c f n) (some (if ((0 ≤ c ∧ c ≤ 2) ∧ (0 ≤ f ∧ f ≤ 3599) ∧ (1 ≤ n ∧ n ≤ 3599)) ∧ ¬ σ 10 c.toNat = 4 ∧ ¬ 0 < σ 0 1 then σ 10 c.toNat + 1 else 0)) v h') := by
  by_cases q : (0 ≤ c ∧ c ≤ 2) ∧ (0 ≤ f ∧ f ≤ 3599) ∧ (1 ≤ n ∧ n ≤ 3599)
  · obtain ⟨⟨q1, q2⟩, ⟨q3, q4⟩, q5, q6⟩ := q
    by_cases q7 : ¬ κ 0 1 = 0 ∨ κ 10 c.toNat = 4
    · exact H_forbid2 B l h ac κ μ u ids adr T σ hL hT hl0 c f n q1 q2 q3 q4 q5 q6 q7
    · exact H_forbid0 B l h ac κ μ u ids adr T σ hL hT hl0 c f n q1 q2 q3 q4 q5 q6 (by omega) (by omega)
  · exact H_forbid1 B l h ac κ μ u ids adr T σ hL hT hl0 c f n ca cb fa fb na nb q
theorem H_share (B : jm_B) (l : Launch) (h : jm_H) (ac : Nat) (κ : S_) (μ : M_) (u : Nat → Nat) (ids adr : Nat → Nat → Nat) (T : Int) (σ : S_) (hL : LSt B ac h κ μ u ids adr T σ) (hT : T ≤ 511) (hl0 : l.stackTraces = false) (p f n g k : Int) (pa : -2147483648 ≤ p) (pb : p < 2147483648) (fa : -2147483648 ≤ f) (fb : f < 2147483648) (na : -2147483648 ≤ n) (nb : n < 2147483648) (ga : -2147483648 ≤ g) (gb : g < 2147483648) (ka : -2147483648 ≤ k) (kb : k < 2147483648) : jm_Cw B l (gm 107) (hhs 0 11 14 (some 18)) [.inr (.inl (some (ac))), .inl (Int32.ofInt p), .inl (Int32.ofInt f), .inl (Int32.ofInt n), .inl (Int32.ofInt g), .inl (Int32.ofInt k)] (cs (mo h (ac + 65) σ) ac (CN κ) μ) (fun v h' => PH B ac h T σ (sp_share σ p f n g k) none v h') := by
  by_cases q : (0 ≤ p ∧ p ≤ 2) ∧ ((0 ≤ f ∧ f ≤ 3599) ∧ (1 ≤ n ∧ n ≤ 3599)) ∧ ((0 ≤ g ∧ g ≤ 3599) ∧ (1 ≤ k ∧ k ≤ 3599))
  · obtain ⟨⟨p1, p2⟩, ⟨⟨q3, q4⟩, q5, q6⟩, ⟨r3, r4⟩, r5, r6⟩ := q
    by_cases q7 : κ 0 1 = 0
    · by_cases q8 : κ 13 p.toNat = 0
      · exact H_share0 B l h ac κ μ u ids adr T σ hL hT hl0 p f n g k p1 p2 q3 q4 q5 q6 r3 r4 r5 r6 q7 q8
      · exact H_share2b B l h ac κ μ u ids adr T σ hL hT hl0 p f n g k p1 p2 q3 q4 q5 q6 r3 r4 r5 r6 q7 q8
    · exact H_share2a B l h ac κ μ u ids adr T σ hL hT hl0 p f n g k p1 p2 q3 q4 q5 q6 r3 r4 r5 r6 q7
  · exact H_share1 B l h ac κ μ u ids adr T σ hL hT hl0 p f n g k pa pb fa fb na nb ga gb ka kb q
theorem H_tick (B : jm_B) (l : Launch) (h : jm_H) (ac : Nat) (κ : S_) (μ : M_) (u : Nat → Nat) (ids adr : Nat → Nat → Nat) (T : Int) (σ : S_) (hL : LSt B ac h κ μ u ids adr T σ) (hT : T ≤ 511) (hl0 : l.stackTraces = false) (n : Int) (na : -2147483648 ≤ n) (nb : n < 2147483648) : jm_Cw B l (gm 111) (hhs 0 9 12 none) [.inr (.inl (some (ac))), .inl (Int32.ofInt n), .inr (.inl (some (ac + 96)))] (cs (mo h (ac + 65) σ) ac (CN κ) μ) (fun v h' => PH B ac h T σ (sp_tick σ n) (some (if 1 ≤ n ∧ n ≤ 1000 then σ 0 1 + n else 0)) v h') := by
  by_cases q : 1 ≤ n ∧ n ≤ 1000
  · exact H_tick0 B l h ac κ μ u ids adr T σ hL hT hl0 n q.1 q.2
  · exact H_tick1 B l h ac κ μ u ids adr T σ hL hT hl0 n na nb q
theorem H_look (B : jm_B) (l : Launch) (h : jm_H) (ac : Nat) (κ : S_) (μ : M_) (u : Nat → Nat) (ids adr : Nat → Nat → Nat) (T : Int) (σ : S_) (hL : LSt B ac h κ μ u ids adr T σ) (hT : T ≤ 511) (hl0 : l.stackTraces = false) (c w : Int) (ca : -2147483648 ≤ c) (cb : c < 2147483648) (wa : -2147483648 ≤ w) (wb : w < 2147483648) : jm_Cw B l (gm 112) (hhs 0 10 13 none) [.inr (.inl (some (ac))), .inl (Int32.ofInt c), .inl (Int32.ofInt w), .inr (.inl (some (ac + 96)))] (cs (mo h (ac + 65) σ) ac (CN κ) μ) (fun v h' => PH B ac h T σ (jm_u2 σ 0 0 (if (0 ≤ c ∧ c ≤ 2) ∧ (0 ≤ w ∧ w ≤ 7) then 0 else 1)) (some (if (0 ≤ c ∧ c ≤ 2) ∧ (0 ≤ w ∧ w ≤ 7) then lookS σ c w else 0)) v h') := by
  by_cases q : (0 ≤ c ∧ c ≤ 2) ∧ (0 ≤ w ∧ w ≤ 7)
  · obtain ⟨⟨q1, q2⟩, q3, q4⟩ := q
    rcases (show w = 0 ∨ w = 1 ∨ w = 2 ∨ w = 3 ∨ w = 4 ∨ w = 5 ∨ w = 6 ∨ w = 7 by omega) with rfl | rfl | rfl | rfl | rfl | rfl | rfl | rfl
    · exact H_look00 B l h ac κ μ u ids adr T σ hL hT hl0 c q1 q2
    · exact H_look01 B l h ac κ μ u ids adr T σ hL hT hl0 c q1 q2
    · exact H_look02 B l h ac κ μ u ids adr T σ hL hT hl0 c q1 q2
    · exact H_look03 B l h ac κ μ u ids adr T σ hL hT hl0 c q1 q2
    · exact H_look04 B l h ac κ μ u ids adr T σ hL hT hl0 c q1 q2
    · exact H_look05 B l h ac κ μ u ids adr T σ hL hT hl0 c q1 q2
    · exact H_look06 B l h ac κ μ u ids adr T σ hL hT hl0 c q1 q2
    · exact H_look07 B l h ac κ μ u ids adr T σ hL hT hl0 c q1 q2
  · exact H_look1 B l h ac κ μ u ids adr T σ hL hT hl0 c w ca cb wa wb q
theorem H_pair (B : jm_B) (l : Launch) (h : jm_H) (ac : Nat) (κ : S_) (μ : M_) (u : Nat → Nat) (ids adr : Nat → Nat → Nat) (T : Int) (σ : S_) (hL : LSt B ac h κ μ u ids adr T σ) (hT : T ≤ 511) (hl0 : l.stackTraces = false) (p w : Int) (pa : -2147483648 ≤ p) (pb : p < 2147483648) (wa : -2147483648 ≤ w) (wb : w < 2147483648) : jm_Cw B l (gm 113) (hhs 0 10 13 none) [.inr (.inl (some (ac))), .inl (Int32.ofInt p), .inl (Int32.ofInt w), .inr (.inl (some (ac + 96)))] (cs (mo h (ac + 65) σ) ac (CN κ) μ) (fun v h' => PH B ac h T σ (jm_u2 σ 0 0 (if (0 ≤ p ∧ p ≤ 2) ∧ (0 ≤ w ∧ w ≤ 4) then 0 else 1)) (some (if (0 ≤ p ∧ p ≤ 2) ∧ (0 ≤ w ∧ w ≤ 4) then (if w = 0 then σ 16 p.toNat else if w = 1 then σ 20 p.toNat else if w = 2 then σ 0 1 - σ 19 p.toNat else if inS σ p (w - 3) then 1 else 0) else 0)) v h') := by
  by_cases q : (0 ≤ p ∧ p ≤ 2) ∧ (0 ≤ w ∧ w ≤ 4)
  · obtain ⟨⟨q1, q2⟩, q3, q4⟩ := q
    rcases (show w = 0 ∨ w = 1 ∨ w = 2 ∨ w = 3 ∨ w = 4 by omega) with rfl | rfl | rfl | rfl | rfl
    · exact H_pair00 B l h ac κ μ u ids adr T σ hL hT hl0 p q1 q2
    · exact H_pair01 B l h ac κ μ u ids adr T σ hL hT hl0 p q1 q2
    · exact H_pair02 B l h ac κ μ u ids adr T σ hL hT hl0 p q1 q2
    · exact H_pair03 B l h ac κ μ u ids adr T σ hL hT hl0 p q1 q2
    · exact H_pair04 B l h ac κ μ u ids adr T σ hL hT hl0 p q1 q2
  · exact H_pair1 B l h ac κ μ u ids adr T σ hL hT hl0 p w pa pb wa wb q
theorem H_bus (B : jm_B) (l : Launch) (h : jm_H) (ac : Nat) (κ : S_) (μ : M_) (u : Nat → Nat) (ids adr : Nat → Nat → Nat) (T : Int) (σ : S_) (hL : LSt B ac h κ μ u ids adr T σ) (hT : T ≤ 511) (hl0 : l.stackTraces = false) (w : Int) (wa : -2147483648 ≤ w) (wb : w < 2147483648) : jm_Cw B l (gm 114) (hhs 0 9 12 none) [.inr (.inl (some (ac))), .inl (Int32.ofInt w), .inr (.inl (some (ac + 96)))] (cs (mo h (ac + 65) σ) ac (CN κ) μ) (fun v h' => PH B ac h T σ (jm_u2 σ 0 0 (if 0 ≤ w ∧ w ≤ 3 then 0 else 1)) (some (if 0 ≤ w ∧ w ≤ 3 then (if w = 0 then σ 0 24 else if w = 1 then σ 0 35 else if w = 2 then σ 0 36 else σ 0 37) else 0)) v h') := by
  by_cases q : 0 ≤ w ∧ w ≤ 3
  · obtain ⟨q3, q4⟩ := q
    rcases (show w = 0 ∨ w = 1 ∨ w = 2 ∨ w = 3 by omega) with rfl | rfl | rfl | rfl
    · exact H_bus00 B l h ac κ μ u ids adr T σ hL hT hl0 
    · exact H_bus01 B l h ac κ μ u ids adr T σ hL hT hl0 
    · exact H_bus02 B l h ac κ μ u ids adr T σ hL hT hl0 
    · exact H_bus03 B l h ac κ μ u ids adr T σ hL hT hl0 
  · exact H_bus1 B l h ac κ μ u ids adr T σ hL hT hl0 w wa wb q
/-! the law: what its calls mean, and that its list is its code -/
def hhL (mi : Nat) : List (Nat × Nat × Nat × Nat) := match mi with
  | 104 => (hhs 0 6 9 (some 12))
  | 105 => (hhs 0 12 15 (some 19))
  | 106 => (hhs 0 12 15 (some 19))
  | 107 => (hhs 0 11 14 (some 18))
  | 108 => (hhs 0 7 10 none)
  | 109 => (hhs 0 6 9 none)
  | 110 => (hhs 0 9 12 (some 15))
  | 111 => (hhs 0 9 12 none)
  | 112 => (hhs 0 10 13 none)
  | 113 => (hhs 0 10 13 none)
  | 114 => (hhs 0 9 12 none)
  | _ => []
def CalL (B : jm_B) (l : Launch) (mi : Nat) (as : List jm_V) (h : jm_H) (post : jm_V → jm_H → Prop) : Prop := if 104 ≤ mi ∧ mi ≤ 114 then jm_Cw B l (gm mi) (hhL mi) as h post else jm_Ct gG B l (gm mi) as h post
theorem CalL_0 {B : jm_B} {l : Launch} {mi : Nat} (hm : ¬ (104 ≤ mi ∧ mi ≤ 114)) : CalL B l mi = fun as h post => jm_Ct gG B l (gm mi) as h post := by
  funext as h post
  exact if_neg hm
def lw_hm (x : List Nat) : Bool := match x with
  | [mi, _, _, _, _] => decide (104 ≤ mi ∧ mi ≤ 114)
  | [mi, _, _, _, _, _] => decide (104 ≤ mi ∧ mi ≤ 114)
  | _ => false
def lw_vh (own : String) (cc : ByteArray) (R : Room) (e : jm_I) : Bool := match e with
  | (pc, _, .invokestatic idx, len, [mi, na, rc, mc, ms], [ql, qc, qi, _, qn]) => decide (decode cc pc = .ok (.invokestatic idx, 3)) && decide (len = 3) && decide (104 ≤ mi ∧ mi ≤ 114) && jm_hw (jm_big gG) ql (.methodLink own idx (gm mi).1) && jm_hw (jm_big gG) qc (.codeWith (gm mi).1 (gm mi).2.1 (gm mi).2.2.1 (gm mi).2.2.2.1 (hhL mi)) && jm_hw (jm_big gG) qi (.static (gm mi).1) && jm_hw (jm_big gG) qn (.initialized (gm mi).1.cls) && decide ((gm mi).1.cls ≠ "java/lang/invoke/MethodHandle") && decide ((gm mi).1.cls ≠ "java/lang/invoke/VarHandle") && decide ((gm mi).2.2.2.2.1 + 1 ≤ R.frames) && decide (8 + ((gm mi).2.2.1 + 11) + (gm mi).2.2.2.2.2.1 ≤ R.locals) && decide ((parseMethodDescriptor (gm mi).1.desc).map (fun d => d.parameters.length) = some na) && decide (jm_rc (gm mi).2.2.2.1 = rc) && decide (rc = 1) && decide ((gm mi).2.2.2.2.2.2.1 = mc) && decide ((gm mi).2.2.2.2.2.2.2 = ms)
  | _ => false
def lw_ck (e : jm_I) : Bool := (lw_vh "CraneSiteLaw" cL_law room_1 e) || (jm_ve gG gm "CraneSiteLaw" "law" cL_law room_1 7 t_Law_law e && !(lw_hm e.2.2.2.2.1))
set_option maxRecDepth 100000 in
theorem lw_chn : jm_chain t_Law_law = true := by decide +kernel
theorem lw_cut {cs : List jm_I} (i k : Nat) (h1 : ((cs.drop i).take k).all lw_ck = true) (h2 : (cs.drop (i + k)).all lw_ck = true) : (cs.drop i).all lw_ck = true := by
  have h3 : (cs.drop i).drop k = cs.drop (i + k) := by
    first | exact List.drop_drop | (rw [List.drop_drop]; done) | rw [List.drop_drop, Nat.add_comm]
  rw [← List.take_append_drop k (cs.drop i), List.all_append, h1, h3, h2]
  rfl
set_option maxRecDepth 100000 in
theorem lw_a0 : ((t_Law_law.drop 0).take 24).all lw_ck = true := by decide +kernel
set_option maxRecDepth 100000 in
theorem lw_a1 : ((t_Law_law.drop 24).take 24).all lw_ck = true := by decide +kernel
set_option maxRecDepth 100000 in
theorem lw_a2 : ((t_Law_law.drop 48).take 24).all lw_ck = true := by decide +kernel
set_option maxRecDepth 100000 in
theorem lw_a3 : ((t_Law_law.drop 72).take 24).all lw_ck = true := by decide +kernel
set_option maxRecDepth 100000 in
theorem lw_a4 : ((t_Law_law.drop 96).take 24).all lw_ck = true := by decide +kernel
set_option maxRecDepth 100000 in
theorem lw_a5 : ((t_Law_law.drop 120).take 24).all lw_ck = true := by decide +kernel
set_option maxRecDepth 100000 in
theorem lw_a6 : ((t_Law_law.drop 144).take 24).all lw_ck = true := by decide +kernel
set_option maxRecDepth 100000 in
theorem lw_a7 : ((t_Law_law.drop 168).take 24).all lw_ck = true := by decide +kernel
set_option maxRecDepth 100000 in
theorem lw_a8 : ((t_Law_law.drop 192).take 24).all lw_ck = true := by decide +kernel
set_option maxRecDepth 100000 in
theorem lw_a9 : ((t_Law_law.drop 216).take 24).all lw_ck = true := by decide +kernel
set_option maxRecDepth 100000 in
theorem lw_a10 : ((t_Law_law.drop 240).take 24).all lw_ck = true := by decide +kernel
set_option maxRecDepth 100000 in
theorem lw_a11 : ((t_Law_law.drop 264).take 24).all lw_ck = true := by decide +kernel
set_option maxRecDepth 100000 in
theorem lw_a12 : ((t_Law_law.drop 288).take 24).all lw_ck = true := by decide +kernel
set_option maxRecDepth 100000 in
theorem lw_a13 : ((t_Law_law.drop 312).take 24).all lw_ck = true := by decide +kernel
set_option maxRecDepth 100000 in
theorem lw_a14 : ((t_Law_law.drop 336).take 24).all lw_ck = true := by decide +kernel
set_option maxRecDepth 100000 in
theorem lw_a15 : ((t_Law_law.drop 360).take 24).all lw_ck = true := by decide +kernel
set_option maxRecDepth 100000 in
theorem lw_a16 : ((t_Law_law.drop 384).take 24).all lw_ck = true := by decide +kernel
set_option maxRecDepth 100000 in
theorem lw_a17 : ((t_Law_law.drop 408).take 24).all lw_ck = true := by decide +kernel
set_option maxRecDepth 100000 in
theorem lw_a18 : ((t_Law_law.drop 432).take 24).all lw_ck = true := by decide +kernel
set_option maxRecDepth 100000 in
theorem lw_a19 : ((t_Law_law.drop 456).take 24).all lw_ck = true := by decide +kernel
set_option maxRecDepth 100000 in
theorem lw_a20 : ((t_Law_law.drop 480).take 24).all lw_ck = true := by decide +kernel
set_option maxRecDepth 100000 in
theorem lw_a21 : (t_Law_law.drop 504).all lw_ck = true := by decide +kernel
theorem lw_all : jm_chain t_Law_law = true ∧ t_Law_law.all lw_ck = true := ⟨lw_chn, lw_cut 0 24 lw_a0 (lw_cut 24 24 lw_a1 (lw_cut 48 24 lw_a2 (lw_cut 72 24 lw_a3 (lw_cut 96 24 lw_a4 (lw_cut 120 24 lw_a5 (lw_cut 144 24 lw_a6 (lw_cut 168 24 lw_a7 (lw_cut 192 24 lw_a8 (lw_cut 216 24 lw_a9 (lw_cut 240 24 lw_a10 (lw_cut 264 24 lw_a11 (lw_cut 288 24 lw_a12 (lw_cut 312 24 lw_a13 (lw_cut 336 24 lw_a14 (lw_cut 360 24 lw_a15 (lw_cut 384 24 lw_a16 (lw_cut 408 24 lw_a17 (lw_cut 432 24 lw_a18 (lw_cut 456 24 lw_a19 (lw_cut 480 24 lw_a20 (lw_a21)))))))))))))))))))))⟩
section
variable {p : Program} {l : Launch} {e : Env} {R : Room} {s : State} {m : MethodId} {args : Array Value} {below : List Frame} {meth : Method} {c : Code} {B : jm_B} {cc : ByteArray} {nL : Nat} {Q : State → Prop} {own : String} {h : jm_H} {L : List (Option jm_V)} {pc cells slots : Nat}
/-- a call of a helper -/
theorem lw_callS (X : jm_X gG B p s m args meth c own cc nL) (hX : XW s) {mi idx na mc ms len ql qc qi qs qn : Nat} {cut : Bool} (hv : lw_vh own cc R (pc, cut, .invokestatic idx, len, [mi, na, 1, mc, ms], [ql, qc, qi, qs, qn]) = true) {as r : List jm_V} {post : jm_V → jm_H → Prop} (hna : as.length = na) (h4 : jm_l4 r) (hc : cells + mc ≤ R.cells) (hs : slots + ms ≤ R.slots) (hM : CalL B l mi as h post)
    (kk : ∀ (y : Int32) h', post (.inl y) h' → jm_J p l e R s m args below meth c Q gG B nL (pc + 3) L (.inl y :: r) h' (cells + mc) (slots + ms)) : jm_J p l e R s m args below meth c Q gG B nL pc L (as.reverse ++ r) h cells slots := by
  obtain ⟨hx, hb, hml, hown, hts, hE, hlk⟩ := X
  unfold lw_vh at hv
  simp only [Bool.and_eq_true, decide_eq_true_eq] at hv
  obtain ⟨⟨⟨⟨⟨⟨⟨⟨⟨⟨⟨⟨⟨⟨⟨v1, v2⟩, v3⟩, v4⟩, v5⟩, v6⟩, v7⟩, v8⟩, v9⟩, v10⟩, v11⟩, v12⟩, v13⟩, v14⟩, v15⟩, v16⟩ := hv
  unfold CalL at hM
  rw [if_pos v3] at hM
  intro H locs ls hP hl hS
  have hT : GoodIn (jm_Ts gG) (va_wsS own idx (gm mi).1 (jm_wsW (gm mi) (hhL mi))) := jm_goodIn (fun w hw => by
    unfold va_wsS at hw
    rcases List.mem_append.mp hw with hw | hw
    · simp only [List.mem_cons, List.not_mem_nil, or_false] at hw
      rcases hw with rfl | rfl | rfl
      · exact jm_hw_in v4
      · exact jm_hw_in v6
      · exact jm_hw_in v7
    · rcases List.mem_cons.mp hw with e | e
      · rw [e]; exact jm_hw_in v5
      · exact e)
  have hr := vx_runSW (As := as.map jm_v) (rest := r.map jm_v) (g := F0 m pc ls ((as.reverse ++ r).map jm_v)) (l := l) (e := e) (below := below) (meth := meth) (locs := locs) (cells := cells) (slots := slots) ⟨hx, hb, hml, hown, hts⟩ hM (vx_cwSW na hts hT rfl rfl rfl ⟨v8, v9, v12⟩ ⟨v10, v11⟩) (jm_prx hE hX hP hS as) rfl (by rw [List.length_map]; exact hna) hl.1 (by simp) (lv_room (jm_l4_ok h4)) v1 ⟨by rw [v15]; exact hc, by rw [v16]; exact hs⟩
  rw [v15, v16] at hr
  refine jm_run (rc := 1) (post := post) (a := (as.map jm_v).toArray) (by rw [v13] at hr; exact hr) hl hS (fun v h' hok hp => ?_)
  obtain ⟨y, rfl⟩ := hok
  exact kk y h' hp
end
theorem lw_cal {B : jm_B} {l : Launch} {Rc Rs : Nat} {Kr : jm_V → jm_H → Nat → Nat → Prop} {Kx : Nat → jm_H → Nat → Nat → Prop} {i : Instr} {x : List Nat} {L : List (Option jm_V)} {st : List jm_V} {h : jm_H} {ce sl : Nat} {k : Option Nat → List (Option jm_V) → List jm_V → jm_H → Nat → Nat → Prop} (hn : lw_hm x = false) (hw : jm_st B Rc Rs (CalL B l) Kr Kx i x L st h ce sl k) : jm_st B Rc Rs (fun mi as h post => jm_Ct gG B l (gm mi) as h post) Kr Kx i x L st h ce sl k := by
  cases i
  case invokestatic =>
    match x, hn, hw with
    | [j, a], hn, hw => exact hw
    | [mi, na, rc, mc, ms], hn, hw =>
      have e := CalL_0 (B := B) (l := l) (mi := mi) (of_decide_eq_false hn)
      dsimp only [jm_st] at hw ⊢
      rw [e] at hw
      exact hw
  case invokevirtual =>
    match x, hn, hw with
    | [mi, na, rc, mc, ms, ci], hn, hw =>
      have e := CalL_0 (B := B) (l := l) (mi := mi) (of_decide_eq_false hn)
      dsimp only [jm_st] at hw ⊢
      rw [e] at hw
      exact hw
  case invokespecial =>
    match x, hn, hw with
    | [], hn, hw => exact hw
    | [mi, na, rc, mc, ms, ci], hn, hw =>
      have e := CalL_0 (B := B) (l := l) (mi := mi) (of_decide_eq_false hn)
      dsimp only [jm_st] at hw ⊢
      rw [e] at hw
      exact hw
  all_goals exact hw
