/-! the class's own cells: 65 of them, made one after another; their numbers are cells of one matrix, whose rows below 31 are the model's own -/
def mpB (j : Nat) : Nat × Nat := if j = 3 then (0, 24) else if j = 4 then (0, 29) else if j = 5 then (44, 0) else if j = 6 then (0, 33) else if j = 7 then (0, 35) else if j = 8 then (0, 36) else if j = 9 then (0, 37) else (104, j)
def mpC (n j : Nat) : Nat × Nat := if j = 2 then (45, n) else if j = 3 then (10, n) else if j = 4 then (1, n) else if j = 5 then (2, n) else if j = 6 then (6, 3 * n) else if j = 7 then (3, n) else if j = 8 then (6, 3 * n + 1) else if j = 9 then (5, n) else if j = 10 then (4, n) else if j = 11 then (6, 3 * n + 2) else (138 + 5 * n, j)
def mpK (n j : Nat) : Nat × Nat := if j = 0 then (46, n) else if j = 2 then (16, n) else if j = 3 then (19, n) else if j = 4 then (17, n) else if j = 5 then (18, n) else (153 + 4 * n, j)
def mpA (n j : Nat) : Nat × Nat := if j = 0 then (48, n) else if j = 2 then (20, n) else if j = 3 then (21, n) else if j = 4 then (22, n) else (155 + 4 * n, j)
def mpR (o q j : Nat) : Nat × Nat := if j = 0 then (14, q) else if j = 1 then (15, q) else if j = 2 then (47, q) else (100 + o, j)
def mpO (n j : Nat) : Nat × Nat := if j = 0 then (27, n) else if j = 1 then (28, n) else if j = 2 then (29, n) else (120 + n, j)
def mp (o j : Nat) : Nat × Nat :=
  if o = 0 then (if j = 4 then (0, 1) else (100, j))
  else if o = 4 then mpB j
  else if o = 7 then (31, j)
  else if o < 8 then (100 + o, j)
  else if o < 20 then (32 + (o - 8), j)
  else if o < 38 then mpO (o - 20) j
  else if o < 53 then (if (o - 38) % 5 = 0 then mpC ((o - 38) / 5) j else if (o - 38) % 5 = 1 then (if j = 2 then (7, (o - 38) / 5) else (100 + o, j)) else if (o - 38) % 5 = 2 then (if j < 8 then (8, 8 * ((o - 38) / 5) + j) else (100 + o, j)) else if (o - 38) % 5 = 3 then (if j < 8 then (9, 8 * ((o - 38) / 5) + j) else (100 + o, j)) else (100 + o, j))
  else if (o - 53) % 4 = 0 then mpK ((o - 53) / 4) j else if (o - 53) % 4 = 1 then mpR o (2 * ((o - 53) / 4)) j else if (o - 53) % 4 = 2 then mpA ((o - 53) / 4) j else mpR o (2 * ((o - 53) / 4) + 1) j
/-- back -/
def pm (x : Nat × Nat) : Nat × Nat :=
  if 100 ≤ x.1 then (x.1 - 100, x.2)
  else if 32 ≤ x.1 ∧ x.1 < 44 then (x.1 - 24, x.2)
  else if x.1 = 0 then (if x.2 = 1 then (0, 4) else if x.2 = 24 then (4, 3) else if x.2 = 29 then (4, 4) else if x.2 = 33 then (4, 6) else (4, x.2 - 28))
  else if x.1 = 44 then (4, 5)
  else if x.1 = 31 then (7, x.2)
  else if 27 ≤ x.1 ∧ x.1 ≤ 29 then (20 + x.2, x.1 - 27)
  else if x.1 = 45 then (38 + 5 * x.2, 2)
  else if x.1 = 10 then (38 + 5 * x.2, 3)
  else if x.1 = 1 then (38 + 5 * x.2, 4)
  else if x.1 = 2 then (38 + 5 * x.2, 5)
  else if x.1 = 6 then (38 + 5 * (x.2 / 3), if x.2 % 3 = 0 then 6 else if x.2 % 3 = 1 then 8 else 11)
  else if x.1 = 3 then (38 + 5 * x.2, 7)
  else if x.1 = 5 then (38 + 5 * x.2, 9)
  else if x.1 = 4 then (38 + 5 * x.2, 10)
  else if x.1 = 7 then (39 + 5 * x.2, 2)
  else if x.1 = 8 then (40 + 5 * (x.2 / 8), x.2 % 8)
  else if x.1 = 9 then (41 + 5 * (x.2 / 8), x.2 % 8)
  else if x.1 = 46 then (53 + 4 * x.2, 0)
  else if x.1 = 16 then (53 + 4 * x.2, 2)
  else if x.1 = 19 then (53 + 4 * x.2, 3)
  else if x.1 = 17 then (53 + 4 * x.2, 4)
  else if x.1 = 18 then (53 + 4 * x.2, 5)
  else if x.1 = 48 then (55 + 4 * x.2, 0)
  else if 20 ≤ x.1 ∧ x.1 ≤ 22 then (55 + 4 * x.2, x.1 - 18)
  else (54 + 4 * (x.2 / 2) + 2 * (x.2 % 2), if x.1 = 14 then 0 else if x.1 = 15 then 1 else 2)
theorem pmB (j : Nat) : pm (mpB j) = (4, j) := by
  generalize hx : mpB j = x
  unfold mpB at hx
  repeat' split at hx
  all_goals subst hx
  all_goals (unfold pm; try dsimp only)
  all_goals (repeat (first | rw [if_pos (by omega)] | rw [if_neg (by omega)]))
  all_goals first
    | rfl
    | (apply Prod.ext <;> (try dsimp only) <;> omega)
theorem pmC (n j : Nat) (hn : n < 3) : pm (mpC n j) = (38 + 5 * n, j) := by
  generalize hx : mpC n j = x
  unfold mpC at hx
  repeat' split at hx
  all_goals subst hx
  all_goals (unfold pm; try dsimp only)
  all_goals (repeat (first | rw [if_pos (by omega)] | rw [if_neg (by omega)]))
  all_goals first
    | rfl
    | (apply Prod.ext <;> (try dsimp only) <;> omega)
theorem pmK (n j : Nat) (hn : n < 3) : pm (mpK n j) = (53 + 4 * n, j) := by
  generalize hx : mpK n j = x
  unfold mpK at hx
  repeat' split at hx
  all_goals subst hx
  all_goals (unfold pm; try dsimp only)
  all_goals (repeat (first | rw [if_pos (by omega)] | rw [if_neg (by omega)]))
  all_goals first
    | rfl
    | (apply Prod.ext <;> (try dsimp only) <;> omega)
theorem pmA (n j : Nat) (hn : n < 3) : pm (mpA n j) = (55 + 4 * n, j) := by
  generalize hx : mpA n j = x
  unfold mpA at hx
  repeat' split at hx
  all_goals subst hx
  all_goals (unfold pm; try dsimp only)
  all_goals (repeat (first | rw [if_pos (by omega)] | rw [if_neg (by omega)]))
  all_goals first
    | rfl
    | (apply Prod.ext <;> (try dsimp only) <;> omega)
theorem pmO (n j : Nat) (hn : n < 18) : pm (mpO n j) = (20 + n, j) := by
  generalize hx : mpO n j = x
  unfold mpO at hx
  repeat' split at hx
  all_goals subst hx
  all_goals (unfold pm; try dsimp only)
  all_goals (repeat (first | rw [if_pos (by omega)] | rw [if_neg (by omega)]))
  all_goals first
    | rfl
    | (apply Prod.ext <;> (try dsimp only) <;> omega)
theorem pmR0 (n j : Nat) (hn : n < 3) : pm (mpR (54 + 4 * n) (2 * n) j) = (54 + 4 * n, j) := by
  generalize hx : mpR (54 + 4 * n) (2 * n) j = x
  unfold mpR at hx
  repeat' split at hx
  all_goals subst hx
  all_goals (unfold pm; try dsimp only)
  all_goals (repeat (first | rw [if_pos (by omega)] | rw [if_neg (by omega)]))
  all_goals first
    | rfl
    | (apply Prod.ext <;> (try dsimp only) <;> omega)
theorem pmR1 (n j : Nat) (hn : n < 3) : pm (mpR (56 + 4 * n) (2 * n + 1) j) = (56 + 4 * n, j) := by
  generalize hx : mpR (56 + 4 * n) (2 * n + 1) j = x
  unfold mpR at hx
  repeat' split at hx
  all_goals subst hx
  all_goals (unfold pm; try dsimp only)
  all_goals (repeat (first | rw [if_pos (by omega)] | rw [if_neg (by omega)]))
  all_goals first
    | rfl
    | (apply Prod.ext <;> (try dsimp only) <;> omega)
theorem pm_h {o j : Nat} (h : o < 65) : pm (100 + o, j) = (o, j) := by
  unfold pm
  rw [if_pos (show 100 ≤ (100 + o, j).1 by show 100 ≤ 100 + o; omega)]
  exact Prod.ext (by show 100 + o - 100 = o; omega) rfl
theorem pm_mp {o : Nat} (ho : o < 65) (j : Nat) : pm (mp o j) = (o, j) := by
  unfold mp
  by_cases h0 : o = 0
  · subst h0
    rw [if_pos rfl]
    by_cases hj : j = 4
    · subst hj; rfl
    · rw [if_neg hj]; exact pm_h (o := 0) (by decide)
  rw [if_neg h0]
  by_cases h4 : o = 4
  · subst h4; rw [if_pos rfl]; exact pmB j
  rw [if_neg h4]
  by_cases h7 : o = 7
  · subst h7; rw [if_pos rfl]; rfl
  rw [if_neg h7]
  by_cases h8 : o < 8
  · rw [if_pos h8]; exact pm_h ho
  rw [if_neg h8]
  by_cases h20 : o < 20
  · rw [if_pos h20]
    unfold pm
    dsimp only
    rw [if_neg (by omega), if_pos (by omega)]
    exact Prod.ext (by show 32 + (o - 8) - 24 = o; omega) rfl
  rw [if_neg h20]
  by_cases h38 : o < 38
  · rw [if_pos h38, pmO _ _ (by omega)]
    exact Prod.ext (by show 20 + (o - 20) = o; omega) rfl
  rw [if_neg h38]
  by_cases h53 : o < 53
  · rw [if_pos h53]
    by_cases r0 : (o - 38) % 5 = 0
    · rw [if_pos r0, pmC _ _ (by omega)]
      exact Prod.ext (by show 38 + 5 * ((o - 38) / 5) = o; omega) rfl
    rw [if_neg r0]
    by_cases r1 : (o - 38) % 5 = 1
    · rw [if_pos r1]
      by_cases hj : j = 2
      · rw [if_pos hj]
        show (39 + 5 * ((o - 38) / 5), 2) = _
        exact Prod.ext (by show 39 + 5 * ((o - 38) / 5) = o; omega) hj.symm
      · rw [if_neg hj]; exact pm_h ho
    rw [if_neg r1]
    by_cases r2 : (o - 38) % 5 = 2
    · rw [if_pos r2]
      by_cases hj : j < 8
      · rw [if_pos hj]
        show (40 + 5 * ((8 * ((o - 38) / 5) + j) / 8), (8 * ((o - 38) / 5) + j) % 8) = _
        exact Prod.ext (by show 40 + 5 * ((8 * ((o - 38) / 5) + j) / 8) = o; omega) (by show (8 * ((o - 38) / 5) + j) % 8 = j; omega)
      · rw [if_neg hj]; exact pm_h ho
    rw [if_neg r2]
    by_cases r3 : (o - 38) % 5 = 3
    · rw [if_pos r3]
      by_cases hj : j < 8
      · rw [if_pos hj]
        show (41 + 5 * ((8 * ((o - 38) / 5) + j) / 8), (8 * ((o - 38) / 5) + j) % 8) = _
        exact Prod.ext (by show 41 + 5 * ((8 * ((o - 38) / 5) + j) / 8) = o; omega) (by show (8 * ((o - 38) / 5) + j) % 8 = j; omega)
      · rw [if_neg hj]; exact pm_h ho
    · rw [if_neg r3]; exact pm_h ho
  rw [if_neg h53]
  by_cases r0 : (o - 53) % 4 = 0
  · rw [if_pos r0, pmK _ _ (by omega)]
    exact Prod.ext (by show 53 + 4 * ((o - 53) / 4) = o; omega) rfl
  rw [if_neg r0]
  by_cases r1 : (o - 53) % 4 = 1
  · rw [if_pos r1]
    have e := pmR0 ((o - 53) / 4) j (by omega)
    rw [show 54 + 4 * ((o - 53) / 4) = o by omega] at e
    exact e
  rw [if_neg r1]
  by_cases r2 : (o - 53) % 4 = 2
  · rw [if_pos r2, pmA _ _ (by omega)]
    exact Prod.ext (by show 55 + 4 * ((o - 53) / 4) = o; omega) rfl
  · rw [if_neg r2]
    have e := pmR1 ((o - 53) / 4) j (by omega)
    rw [show 56 + 4 * ((o - 53) / 4) = o by omega] at e
    exact e
theorem mp_inj {o o' j j' : Nat} (ho : o < 65) (ho' : o' < 65) (h : mp o j = mp o' j') : o = o' ∧ j = j' := by
  have e1 := pm_mp ho j
  rw [h, pm_mp ho' j'] at e1
  exact ⟨(congrArg Prod.fst e1).symm, (congrArg Prod.snd e1).symm⟩
/-- where references change: the messages under way, the arcs of the cranes -/
abbrev dyn (o : Nat) : Prop := o = 5 ∨ o = 42 ∨ o = 47 ∨ o = 52
abbrev M_ : Type := Nat → Nat → Option Nat
def cs (h : jm_H) (ac : Nat) (κ : S_) (μ : M_) : jm_H := (h.1, fun a j => if ac ≤ a ∧ a < ac + 65 then Int32.ofInt (κ (mp (a - ac) j).1 (mp (a - ac) j).2) else h.2.1 a j, fun a j => if ac ≤ a ∧ dyn (a - ac) then μ (a - ac) j else h.2.2.1 a j, h.2.2.2)
section
variable {B : jm_B} {ac : Nat} {h : jm_H} {κ : S_} {μ : M_}
theorem ck (a : Nat) : jm_k (cs h ac κ μ) a = jm_k h a := rfl
theorem cn : jm_n (cs h ac κ μ) = jm_n h := rfl
theorem ci {o : Nat} (ho : o < 65) (j : Nat) : jm_i (cs h ac κ μ) (ac + o) j = Int32.ofInt (κ (mp o j).1 (mp o j).2) := by
  show (if ac ≤ ac + o ∧ ac + o < ac + 65 then _ else _) = _
  rw [if_pos (by omega), Nat.add_sub_cancel_left]
theorem ci_o {a : Nat} (ha : a < ac ∨ ac + 65 ≤ a) (j : Nat) : jm_i (cs h ac κ μ) a j = jm_i h a j := by
  show (if ac ≤ a ∧ a < ac + 65 then _ else jm_i h a j) = _
  rw [if_neg (by omega)]
theorem cr {o : Nat} (ho : dyn o) (j : Nat) : jm_r (cs h ac κ μ) (ac + o) j = μ o j := by
  show (if ac ≤ ac + o ∧ dyn (ac + o - ac) then _ else _) = _
  rw [Nat.add_sub_cancel_left, if_pos ⟨by omega, ho⟩]
theorem cr_o {a : Nat} (ha : a < ac ∨ ¬ dyn (a - ac)) (j : Nat) : jm_r (cs h ac κ μ) a j = jm_r h a j := by
  show (if ac ≤ a ∧ dyn (a - ac) then _ else jm_r h a j) = _
  exact if_neg (fun q => ha.elim (fun e => by omega) (fun e => e q.2))
theorem wi {o : Nat} (ho : o < 65) (j : Nat) (v : Int) : jm_si (cs h ac κ μ) (ac + o) j (Int32.ofInt v) = cs h ac (jm_u2 κ (mp o j).1 (mp o j).2 v) μ := by
  unfold jm_si cs
  congr 1
  congr 1
  funext a i
  show jm_u2 _ _ _ _ a i = _
  unfold jm_u2
  dsimp only
  by_cases ha : ac ≤ a ∧ a < ac + 65
  · rw [if_pos ha, if_pos ha]
    by_cases hq : a = ac + o ∧ i = j
    · obtain ⟨rfl, rfl⟩ := hq
      rw [if_pos ⟨rfl, rfl⟩, Nat.add_sub_cancel_left, if_pos ⟨rfl, rfl⟩]
    · rw [if_neg hq, if_neg (fun q => hq (by
        have e := mp_inj (o := a - ac) (o' := o) (by omega) ho (Prod.ext q.1 q.2)
        exact ⟨by omega, e.2⟩))]
  · rw [if_neg ha, if_neg ha, if_neg (fun q => ha ⟨by omega, by omega⟩)]
theorem wi_o {a : Nat} (ha : a < ac ∨ ac + 65 ≤ a) (j : Nat) (v : Int32) : jm_si (cs h ac κ μ) a j v = cs (jm_si h a j v) ac κ μ := by
  unfold jm_si cs
  congr 1
  congr 1
  funext b i
  show jm_u2 _ _ _ _ b i = (if _ then _ else jm_u2 _ _ _ _ b i)
  unfold jm_u2
  dsimp only
  by_cases hq : b = a ∧ i = j
  · rw [if_pos hq, if_neg (by omega), if_pos hq]
  · rw [if_neg hq, if_neg hq]
theorem wr {o : Nat} (ho : dyn o) (j : Nat) (v : Option Nat) : jm_sr (cs h ac κ μ) (ac + o) j v = cs h ac κ (jm_u2 μ o j v) := by
  unfold jm_sr cs
  congr 1
  congr 1
  congr 1
  funext a i
  show jm_u2 _ _ _ _ a i = _
  unfold jm_u2
  dsimp only
  by_cases ha : ac ≤ a ∧ dyn (a - ac)
  · rw [if_pos ha, if_pos ha]
    by_cases hq : a = ac + o ∧ i = j
    · rw [if_pos hq, if_pos ⟨by omega, hq.2⟩]
    · rw [if_neg hq, if_neg (fun q => hq ⟨by omega, q.2⟩)]
  · rw [if_neg ha, if_neg ha, if_neg (fun q => ha (by rw [q.1, Nat.add_sub_cancel_left]; exact ⟨by omega, ho⟩))]
theorem c_nw {kd : Nat ⊕ (Nat × Nat)} (hn : ac + 65 ≤ jm_n h) : jm_nw (cs h ac κ μ) kd = cs (jm_nw h kd) ac κ μ := by
  unfold jm_nw
  show (_, _, _, _, _) = cs (_, _, _, _, _) ac κ μ
  unfold cs
  refine Prod.ext rfl (Prod.ext ?_ (Prod.ext ?_ rfl))
  · funext a j
    show (if a = jm_n h then (0 : Int32) else if ac ≤ a ∧ a < ac + 65 then _ else _) = (if ac ≤ a ∧ a < ac + 65 then _ else if a = jm_n h then (0 : Int32) else _)
    by_cases e : a = jm_n h
    · rw [if_pos e, if_neg (by omega), if_pos e]
    · rw [if_neg e, if_neg e]
  · funext a j
    show (if a = jm_n h then (none : Option Nat) else if ac ≤ a ∧ dyn (a - ac) then _ else _) = (if ac ≤ a ∧ dyn (a - ac) then _ else if a = jm_n h then (none : Option Nat) else _)
    by_cases e : a = jm_n h
    · rw [if_pos e, if_neg (by omega), if_pos e]
    · rw [if_neg e, if_neg e]
theorem p_s4 : mp 0 4 = (0, 1) := by
  unfold mp
  (repeat (first | rw [if_pos (by omega)] | rw [if_neg (by omega)]))
  all_goals first
    | rfl
    | (apply Prod.ext <;> (try dsimp only) <;> omega)
theorem i_s4 : jm_i (cs h ac κ μ) ac 4 = Int32.ofInt (κ 0 1) := by
  have e := ci (h := h) (ac := ac) (κ := κ) (μ := μ) (o := 0) (by decide) 4
  rw [p_s4] at e
  exact e
theorem w_s4 (v : Int) : jm_si (cs h ac κ μ) ac 4 (Int32.ofInt v) = cs h ac (jm_u2 κ 0 1 v) μ := by
  have e := wi (h := h) (ac := ac) (κ := κ) (μ := μ) (o := 0) (by decide) 4 v
  rw [p_s4] at e
  exact e
theorem p_b3 : mp 4 3 = (0, 24) := by
  unfold mp mpB
  (repeat (first | rw [if_pos (by omega)] | rw [if_neg (by omega)]))
  all_goals first
    | rfl
    | (apply Prod.ext <;> (try dsimp only) <;> omega)
theorem i_b3 : jm_i (cs h ac κ μ) (ac + 4) 3 = Int32.ofInt (κ 0 24) := by
  rw [ci (by decide), p_b3]
theorem w_b3 (v : Int) : jm_si (cs h ac κ μ) (ac + 4) 3 (Int32.ofInt v) = cs h ac (jm_u2 κ 0 24 v) μ := by
  rw [wi (by decide), p_b3]
theorem p_b4 : mp 4 4 = (0, 29) := by
  unfold mp mpB
  (repeat (first | rw [if_pos (by omega)] | rw [if_neg (by omega)]))
  all_goals first
    | rfl
    | (apply Prod.ext <;> (try dsimp only) <;> omega)
theorem i_b4 : jm_i (cs h ac κ μ) (ac + 4) 4 = Int32.ofInt (κ 0 29) := by
  rw [ci (by decide), p_b4]
theorem w_b4 (v : Int) : jm_si (cs h ac κ μ) (ac + 4) 4 (Int32.ofInt v) = cs h ac (jm_u2 κ 0 29 v) μ := by
  rw [wi (by decide), p_b4]
theorem p_b5 : mp 4 5 = (44, 0) := by
  unfold mp mpB
  (repeat (first | rw [if_pos (by omega)] | rw [if_neg (by omega)]))
  all_goals first
    | rfl
    | (apply Prod.ext <;> (try dsimp only) <;> omega)
theorem i_b5 : jm_i (cs h ac κ μ) (ac + 4) 5 = Int32.ofInt (κ 44 0) := by
  rw [ci (by decide), p_b5]
theorem w_b5 (v : Int) : jm_si (cs h ac κ μ) (ac + 4) 5 (Int32.ofInt v) = cs h ac (jm_u2 κ 44 0 v) μ := by
  rw [wi (by decide), p_b5]
theorem p_b6 : mp 4 6 = (0, 33) := by
  unfold mp mpB
  (repeat (first | rw [if_pos (by omega)] | rw [if_neg (by omega)]))
  all_goals first
    | rfl
    | (apply Prod.ext <;> (try dsimp only) <;> omega)
theorem i_b6 : jm_i (cs h ac κ μ) (ac + 4) 6 = Int32.ofInt (κ 0 33) := by
  rw [ci (by decide), p_b6]
theorem w_b6 (v : Int) : jm_si (cs h ac κ μ) (ac + 4) 6 (Int32.ofInt v) = cs h ac (jm_u2 κ 0 33 v) μ := by
  rw [wi (by decide), p_b6]
theorem p_b7 : mp 4 7 = (0, 35) := by
  unfold mp mpB
  (repeat (first | rw [if_pos (by omega)] | rw [if_neg (by omega)]))
  all_goals first
    | rfl
    | (apply Prod.ext <;> (try dsimp only) <;> omega)
theorem i_b7 : jm_i (cs h ac κ μ) (ac + 4) 7 = Int32.ofInt (κ 0 35) := by
  rw [ci (by decide), p_b7]
theorem w_b7 (v : Int) : jm_si (cs h ac κ μ) (ac + 4) 7 (Int32.ofInt v) = cs h ac (jm_u2 κ 0 35 v) μ := by
  rw [wi (by decide), p_b7]
theorem p_b8 : mp 4 8 = (0, 36) := by
  unfold mp mpB
  (repeat (first | rw [if_pos (by omega)] | rw [if_neg (by omega)]))
  all_goals first
    | rfl
    | (apply Prod.ext <;> (try dsimp only) <;> omega)
theorem i_b8 : jm_i (cs h ac κ μ) (ac + 4) 8 = Int32.ofInt (κ 0 36) := by
  rw [ci (by decide), p_b8]
theorem w_b8 (v : Int) : jm_si (cs h ac κ μ) (ac + 4) 8 (Int32.ofInt v) = cs h ac (jm_u2 κ 0 36 v) μ := by
  rw [wi (by decide), p_b8]
theorem p_b9 : mp 4 9 = (0, 37) := by
  unfold mp mpB
  (repeat (first | rw [if_pos (by omega)] | rw [if_neg (by omega)]))
  all_goals first
    | rfl
    | (apply Prod.ext <;> (try dsimp only) <;> omega)
theorem i_b9 : jm_i (cs h ac κ μ) (ac + 4) 9 = Int32.ofInt (κ 0 37) := by
  rw [ci (by decide), p_b9]
theorem w_b9 (v : Int) : jm_si (cs h ac κ μ) (ac + 4) 9 (Int32.ofInt v) = cs h ac (jm_u2 κ 0 37 v) μ := by
  rw [wi (by decide), p_b9]
theorem p_c2 {n : Nat} (hn : n < 3) : mp (38 + 5 * n) 2 = (45, n) := by
  unfold mp mpC
  (repeat (first | rw [if_pos (by omega)] | rw [if_neg (by omega)]))
  all_goals first
    | rfl
    | (apply Prod.ext <;> (try dsimp only) <;> omega)
theorem i_c2 {n : Nat} (hn : n < 3) : jm_i (cs h ac κ μ) (ac + (38 + 5 * n)) 2 = Int32.ofInt (κ 45 n) := by
  rw [ci (by omega), p_c2 hn]
theorem w_c2 {n : Nat} (hn : n < 3) (v : Int) : jm_si (cs h ac κ μ) (ac + (38 + 5 * n)) 2 (Int32.ofInt v) = cs h ac (jm_u2 κ 45 n v) μ := by
  rw [wi (by omega), p_c2 hn]
theorem p_c3 {n : Nat} (hn : n < 3) : mp (38 + 5 * n) 3 = (10, n) := by
  unfold mp mpC
  (repeat (first | rw [if_pos (by omega)] | rw [if_neg (by omega)]))
  all_goals first
    | rfl
    | (apply Prod.ext <;> (try dsimp only) <;> omega)
theorem i_c3 {n : Nat} (hn : n < 3) : jm_i (cs h ac κ μ) (ac + (38 + 5 * n)) 3 = Int32.ofInt (κ 10 n) := by
  rw [ci (by omega), p_c3 hn]
theorem w_c3 {n : Nat} (hn : n < 3) (v : Int) : jm_si (cs h ac κ μ) (ac + (38 + 5 * n)) 3 (Int32.ofInt v) = cs h ac (jm_u2 κ 10 n v) μ := by
  rw [wi (by omega), p_c3 hn]
theorem p_c4 {n : Nat} (hn : n < 3) : mp (38 + 5 * n) 4 = (1, n) := by
  unfold mp mpC
  (repeat (first | rw [if_pos (by omega)] | rw [if_neg (by omega)]))
  all_goals first
    | rfl
    | (apply Prod.ext <;> (try dsimp only) <;> omega)
theorem i_c4 {n : Nat} (hn : n < 3) : jm_i (cs h ac κ μ) (ac + (38 + 5 * n)) 4 = Int32.ofInt (κ 1 n) := by
  rw [ci (by omega), p_c4 hn]
theorem w_c4 {n : Nat} (hn : n < 3) (v : Int) : jm_si (cs h ac κ μ) (ac + (38 + 5 * n)) 4 (Int32.ofInt v) = cs h ac (jm_u2 κ 1 n v) μ := by
  rw [wi (by omega), p_c4 hn]
theorem p_c5 {n : Nat} (hn : n < 3) : mp (38 + 5 * n) 5 = (2, n) := by
  unfold mp mpC
  (repeat (first | rw [if_pos (by omega)] | rw [if_neg (by omega)]))
  all_goals first
    | rfl
    | (apply Prod.ext <;> (try dsimp only) <;> omega)
theorem i_c5 {n : Nat} (hn : n < 3) : jm_i (cs h ac κ μ) (ac + (38 + 5 * n)) 5 = Int32.ofInt (κ 2 n) := by
  rw [ci (by omega), p_c5 hn]
theorem w_c5 {n : Nat} (hn : n < 3) (v : Int) : jm_si (cs h ac κ μ) (ac + (38 + 5 * n)) 5 (Int32.ofInt v) = cs h ac (jm_u2 κ 2 n v) μ := by
  rw [wi (by omega), p_c5 hn]
theorem p_c6 {n : Nat} (hn : n < 3) : mp (38 + 5 * n) 6 = (6, (3 * n)) := by
  unfold mp mpC
  (repeat (first | rw [if_pos (by omega)] | rw [if_neg (by omega)]))
  all_goals first
    | rfl
    | (apply Prod.ext <;> (try dsimp only) <;> omega)
theorem i_c6 {n : Nat} (hn : n < 3) : jm_i (cs h ac κ μ) (ac + (38 + 5 * n)) 6 = Int32.ofInt (κ 6 (3 * n)) := by
  rw [ci (by omega), p_c6 hn]
theorem w_c6 {n : Nat} (hn : n < 3) (v : Int) : jm_si (cs h ac κ μ) (ac + (38 + 5 * n)) 6 (Int32.ofInt v) = cs h ac (jm_u2 κ 6 (3 * n) v) μ := by
  rw [wi (by omega), p_c6 hn]
theorem p_c7 {n : Nat} (hn : n < 3) : mp (38 + 5 * n) 7 = (3, n) := by
  unfold mp mpC
  (repeat (first | rw [if_pos (by omega)] | rw [if_neg (by omega)]))
  all_goals first
    | rfl
    | (apply Prod.ext <;> (try dsimp only) <;> omega)
theorem i_c7 {n : Nat} (hn : n < 3) : jm_i (cs h ac κ μ) (ac + (38 + 5 * n)) 7 = Int32.ofInt (κ 3 n) := by
  rw [ci (by omega), p_c7 hn]
theorem w_c7 {n : Nat} (hn : n < 3) (v : Int) : jm_si (cs h ac κ μ) (ac + (38 + 5 * n)) 7 (Int32.ofInt v) = cs h ac (jm_u2 κ 3 n v) μ := by
  rw [wi (by omega), p_c7 hn]
theorem p_c8 {n : Nat} (hn : n < 3) : mp (38 + 5 * n) 8 = (6, (3 * n + 1)) := by
  unfold mp mpC
  (repeat (first | rw [if_pos (by omega)] | rw [if_neg (by omega)]))
  all_goals first
    | rfl
    | (apply Prod.ext <;> (try dsimp only) <;> omega)
theorem i_c8 {n : Nat} (hn : n < 3) : jm_i (cs h ac κ μ) (ac + (38 + 5 * n)) 8 = Int32.ofInt (κ 6 (3 * n + 1)) := by
  rw [ci (by omega), p_c8 hn]
theorem w_c8 {n : Nat} (hn : n < 3) (v : Int) : jm_si (cs h ac κ μ) (ac + (38 + 5 * n)) 8 (Int32.ofInt v) = cs h ac (jm_u2 κ 6 (3 * n + 1) v) μ := by
  rw [wi (by omega), p_c8 hn]
theorem p_c9 {n : Nat} (hn : n < 3) : mp (38 + 5 * n) 9 = (5, n) := by
  unfold mp mpC
  (repeat (first | rw [if_pos (by omega)] | rw [if_neg (by omega)]))
  all_goals first
    | rfl
    | (apply Prod.ext <;> (try dsimp only) <;> omega)
theorem i_c9 {n : Nat} (hn : n < 3) : jm_i (cs h ac κ μ) (ac + (38 + 5 * n)) 9 = Int32.ofInt (κ 5 n) := by
  rw [ci (by omega), p_c9 hn]
theorem w_c9 {n : Nat} (hn : n < 3) (v : Int) : jm_si (cs h ac κ μ) (ac + (38 + 5 * n)) 9 (Int32.ofInt v) = cs h ac (jm_u2 κ 5 n v) μ := by
  rw [wi (by omega), p_c9 hn]
theorem p_c10 {n : Nat} (hn : n < 3) : mp (38 + 5 * n) 10 = (4, n) := by
  unfold mp mpC
  (repeat (first | rw [if_pos (by omega)] | rw [if_neg (by omega)]))
  all_goals first
    | rfl
    | (apply Prod.ext <;> (try dsimp only) <;> omega)
theorem i_c10 {n : Nat} (hn : n < 3) : jm_i (cs h ac κ μ) (ac + (38 + 5 * n)) 10 = Int32.ofInt (κ 4 n) := by
  rw [ci (by omega), p_c10 hn]
theorem w_c10 {n : Nat} (hn : n < 3) (v : Int) : jm_si (cs h ac κ μ) (ac + (38 + 5 * n)) 10 (Int32.ofInt v) = cs h ac (jm_u2 κ 4 n v) μ := by
  rw [wi (by omega), p_c10 hn]
theorem p_c11 {n : Nat} (hn : n < 3) : mp (38 + 5 * n) 11 = (6, (3 * n + 2)) := by
  unfold mp mpC
  (repeat (first | rw [if_pos (by omega)] | rw [if_neg (by omega)]))
  all_goals first
    | rfl
    | (apply Prod.ext <;> (try dsimp only) <;> omega)
theorem i_c11 {n : Nat} (hn : n < 3) : jm_i (cs h ac κ μ) (ac + (38 + 5 * n)) 11 = Int32.ofInt (κ 6 (3 * n + 2)) := by
  rw [ci (by omega), p_c11 hn]
theorem w_c11 {n : Nat} (hn : n < 3) (v : Int) : jm_si (cs h ac κ μ) (ac + (38 + 5 * n)) 11 (Int32.ofInt v) = cs h ac (jm_u2 κ 6 (3 * n + 2) v) μ := by
  rw [wi (by omega), p_c11 hn]
theorem p_t2 {n : Nat} (hn : n < 3) : mp (39 + 5 * n) 2 = (7, n) := by
  unfold mp
  (repeat (first | rw [if_pos (by omega)] | rw [if_neg (by omega)]))
  all_goals first
    | rfl
    | (apply Prod.ext <;> (try dsimp only) <;> omega)
theorem i_t2 {n : Nat} (hn : n < 3) : jm_i (cs h ac κ μ) (ac + (39 + 5 * n)) 2 = Int32.ofInt (κ 7 n) := by
  rw [ci (by omega), p_t2 hn]
theorem w_t2 {n : Nat} (hn : n < 3) (v : Int) : jm_si (cs h ac κ μ) (ac + (39 + 5 * n)) 2 (Int32.ofInt v) = cs h ac (jm_u2 κ 7 n v) μ := by
  rw [wi (by omega), p_t2 hn]
theorem p_k0 {n : Nat} (hn : n < 3) : mp (53 + 4 * n) 0 = (46, n) := by
  unfold mp mpK
  (repeat (first | rw [if_pos (by omega)] | rw [if_neg (by omega)]))
  all_goals first
    | rfl
    | (apply Prod.ext <;> (try dsimp only) <;> omega)
theorem i_k0 {n : Nat} (hn : n < 3) : jm_i (cs h ac κ μ) (ac + (53 + 4 * n)) 0 = Int32.ofInt (κ 46 n) := by
  rw [ci (by omega), p_k0 hn]
theorem w_k0 {n : Nat} (hn : n < 3) (v : Int) : jm_si (cs h ac κ μ) (ac + (53 + 4 * n)) 0 (Int32.ofInt v) = cs h ac (jm_u2 κ 46 n v) μ := by
  rw [wi (by omega), p_k0 hn]
theorem p_k2 {n : Nat} (hn : n < 3) : mp (53 + 4 * n) 2 = (16, n) := by
  unfold mp mpK
  (repeat (first | rw [if_pos (by omega)] | rw [if_neg (by omega)]))
  all_goals first
    | rfl
    | (apply Prod.ext <;> (try dsimp only) <;> omega)
theorem i_k2 {n : Nat} (hn : n < 3) : jm_i (cs h ac κ μ) (ac + (53 + 4 * n)) 2 = Int32.ofInt (κ 16 n) := by
  rw [ci (by omega), p_k2 hn]
theorem w_k2 {n : Nat} (hn : n < 3) (v : Int) : jm_si (cs h ac κ μ) (ac + (53 + 4 * n)) 2 (Int32.ofInt v) = cs h ac (jm_u2 κ 16 n v) μ := by
  rw [wi (by omega), p_k2 hn]
theorem p_k3 {n : Nat} (hn : n < 3) : mp (53 + 4 * n) 3 = (19, n) := by
  unfold mp mpK
  (repeat (first | rw [if_pos (by omega)] | rw [if_neg (by omega)]))
  all_goals first
    | rfl
    | (apply Prod.ext <;> (try dsimp only) <;> omega)
theorem i_k3 {n : Nat} (hn : n < 3) : jm_i (cs h ac κ μ) (ac + (53 + 4 * n)) 3 = Int32.ofInt (κ 19 n) := by
  rw [ci (by omega), p_k3 hn]
theorem w_k3 {n : Nat} (hn : n < 3) (v : Int) : jm_si (cs h ac κ μ) (ac + (53 + 4 * n)) 3 (Int32.ofInt v) = cs h ac (jm_u2 κ 19 n v) μ := by
  rw [wi (by omega), p_k3 hn]
theorem p_k4 {n : Nat} (hn : n < 3) : mp (53 + 4 * n) 4 = (17, n) := by
  unfold mp mpK
  (repeat (first | rw [if_pos (by omega)] | rw [if_neg (by omega)]))
  all_goals first
    | rfl
    | (apply Prod.ext <;> (try dsimp only) <;> omega)
theorem i_k4 {n : Nat} (hn : n < 3) : jm_i (cs h ac κ μ) (ac + (53 + 4 * n)) 4 = Int32.ofInt (κ 17 n) := by
  rw [ci (by omega), p_k4 hn]
theorem w_k4 {n : Nat} (hn : n < 3) (v : Int) : jm_si (cs h ac κ μ) (ac + (53 + 4 * n)) 4 (Int32.ofInt v) = cs h ac (jm_u2 κ 17 n v) μ := by
  rw [wi (by omega), p_k4 hn]
theorem p_k5 {n : Nat} (hn : n < 3) : mp (53 + 4 * n) 5 = (18, n) := by
  unfold mp mpK
  (repeat (first | rw [if_pos (by omega)] | rw [if_neg (by omega)]))
  all_goals first
    | rfl
    | (apply Prod.ext <;> (try dsimp only) <;> omega)
theorem i_k5 {n : Nat} (hn : n < 3) : jm_i (cs h ac κ μ) (ac + (53 + 4 * n)) 5 = Int32.ofInt (κ 18 n) := by
  rw [ci (by omega), p_k5 hn]
theorem w_k5 {n : Nat} (hn : n < 3) (v : Int) : jm_si (cs h ac κ μ) (ac + (53 + 4 * n)) 5 (Int32.ofInt v) = cs h ac (jm_u2 κ 18 n v) μ := by
  rw [wi (by omega), p_k5 hn]
theorem p_ka0 {n : Nat} (hn : n < 3) : mp (54 + 4 * n) 0 = (14, (2 * n)) := by
  unfold mp mpR
  (repeat (first | rw [if_pos (by omega)] | rw [if_neg (by omega)]))
  all_goals first
    | rfl
    | (apply Prod.ext <;> (try dsimp only) <;> omega)
theorem i_ka0 {n : Nat} (hn : n < 3) : jm_i (cs h ac κ μ) (ac + (54 + 4 * n)) 0 = Int32.ofInt (κ 14 (2 * n)) := by
  rw [ci (by omega), p_ka0 hn]
theorem w_ka0 {n : Nat} (hn : n < 3) (v : Int) : jm_si (cs h ac κ μ) (ac + (54 + 4 * n)) 0 (Int32.ofInt v) = cs h ac (jm_u2 κ 14 (2 * n) v) μ := by
  rw [wi (by omega), p_ka0 hn]
theorem p_ka1 {n : Nat} (hn : n < 3) : mp (54 + 4 * n) 1 = (15, (2 * n)) := by
  unfold mp mpR
  (repeat (first | rw [if_pos (by omega)] | rw [if_neg (by omega)]))
  all_goals first
    | rfl
    | (apply Prod.ext <;> (try dsimp only) <;> omega)
theorem i_ka1 {n : Nat} (hn : n < 3) : jm_i (cs h ac κ μ) (ac + (54 + 4 * n)) 1 = Int32.ofInt (κ 15 (2 * n)) := by
  rw [ci (by omega), p_ka1 hn]
theorem w_ka1 {n : Nat} (hn : n < 3) (v : Int) : jm_si (cs h ac κ μ) (ac + (54 + 4 * n)) 1 (Int32.ofInt v) = cs h ac (jm_u2 κ 15 (2 * n) v) μ := by
  rw [wi (by omega), p_ka1 hn]
theorem p_ka2 {n : Nat} (hn : n < 3) : mp (54 + 4 * n) 2 = (47, (2 * n)) := by
  unfold mp mpR
  (repeat (first | rw [if_pos (by omega)] | rw [if_neg (by omega)]))
  all_goals first
    | rfl
    | (apply Prod.ext <;> (try dsimp only) <;> omega)
theorem i_ka2 {n : Nat} (hn : n < 3) : jm_i (cs h ac κ μ) (ac + (54 + 4 * n)) 2 = Int32.ofInt (κ 47 (2 * n)) := by
  rw [ci (by omega), p_ka2 hn]
theorem w_ka2 {n : Nat} (hn : n < 3) (v : Int) : jm_si (cs h ac κ μ) (ac + (54 + 4 * n)) 2 (Int32.ofInt v) = cs h ac (jm_u2 κ 47 (2 * n) v) μ := by
  rw [wi (by omega), p_ka2 hn]
theorem p_a0 {n : Nat} (hn : n < 3) : mp (55 + 4 * n) 0 = (48, n) := by
  unfold mp mpA
  (repeat (first | rw [if_pos (by omega)] | rw [if_neg (by omega)]))
  all_goals first
    | rfl
    | (apply Prod.ext <;> (try dsimp only) <;> omega)
theorem i_a0 {n : Nat} (hn : n < 3) : jm_i (cs h ac κ μ) (ac + (55 + 4 * n)) 0 = Int32.ofInt (κ 48 n) := by
  rw [ci (by omega), p_a0 hn]
theorem w_a0 {n : Nat} (hn : n < 3) (v : Int) : jm_si (cs h ac κ μ) (ac + (55 + 4 * n)) 0 (Int32.ofInt v) = cs h ac (jm_u2 κ 48 n v) μ := by
  rw [wi (by omega), p_a0 hn]
theorem p_a2 {n : Nat} (hn : n < 3) : mp (55 + 4 * n) 2 = (20, n) := by
  unfold mp mpA
  (repeat (first | rw [if_pos (by omega)] | rw [if_neg (by omega)]))
  all_goals first
    | rfl
    | (apply Prod.ext <;> (try dsimp only) <;> omega)
theorem i_a2 {n : Nat} (hn : n < 3) : jm_i (cs h ac κ μ) (ac + (55 + 4 * n)) 2 = Int32.ofInt (κ 20 n) := by
  rw [ci (by omega), p_a2 hn]
theorem w_a2 {n : Nat} (hn : n < 3) (v : Int) : jm_si (cs h ac κ μ) (ac + (55 + 4 * n)) 2 (Int32.ofInt v) = cs h ac (jm_u2 κ 20 n v) μ := by
  rw [wi (by omega), p_a2 hn]
theorem p_a3 {n : Nat} (hn : n < 3) : mp (55 + 4 * n) 3 = (21, n) := by
  unfold mp mpA
  (repeat (first | rw [if_pos (by omega)] | rw [if_neg (by omega)]))
  all_goals first
    | rfl
    | (apply Prod.ext <;> (try dsimp only) <;> omega)
theorem i_a3 {n : Nat} (hn : n < 3) : jm_i (cs h ac κ μ) (ac + (55 + 4 * n)) 3 = Int32.ofInt (κ 21 n) := by
  rw [ci (by omega), p_a3 hn]
theorem w_a3 {n : Nat} (hn : n < 3) (v : Int) : jm_si (cs h ac κ μ) (ac + (55 + 4 * n)) 3 (Int32.ofInt v) = cs h ac (jm_u2 κ 21 n v) μ := by
  rw [wi (by omega), p_a3 hn]
theorem p_a4 {n : Nat} (hn : n < 3) : mp (55 + 4 * n) 4 = (22, n) := by
  unfold mp mpA
  (repeat (first | rw [if_pos (by omega)] | rw [if_neg (by omega)]))
  all_goals first
    | rfl
    | (apply Prod.ext <;> (try dsimp only) <;> omega)
theorem i_a4 {n : Nat} (hn : n < 3) : jm_i (cs h ac κ μ) (ac + (55 + 4 * n)) 4 = Int32.ofInt (κ 22 n) := by
  rw [ci (by omega), p_a4 hn]
theorem w_a4 {n : Nat} (hn : n < 3) (v : Int) : jm_si (cs h ac κ μ) (ac + (55 + 4 * n)) 4 (Int32.ofInt v) = cs h ac (jm_u2 κ 22 n v) μ := by
  rw [wi (by omega), p_a4 hn]
theorem p_aa0 {n : Nat} (hn : n < 3) : mp (56 + 4 * n) 0 = (14, (2 * n + 1)) := by
  unfold mp mpR
  (repeat (first | rw [if_pos (by omega)] | rw [if_neg (by omega)]))
  all_goals first
    | rfl
    | (apply Prod.ext <;> (try dsimp only) <;> omega)
theorem i_aa0 {n : Nat} (hn : n < 3) : jm_i (cs h ac κ μ) (ac + (56 + 4 * n)) 0 = Int32.ofInt (κ 14 (2 * n + 1)) := by
  rw [ci (by omega), p_aa0 hn]
theorem w_aa0 {n : Nat} (hn : n < 3) (v : Int) : jm_si (cs h ac κ μ) (ac + (56 + 4 * n)) 0 (Int32.ofInt v) = cs h ac (jm_u2 κ 14 (2 * n + 1) v) μ := by
  rw [wi (by omega), p_aa0 hn]
theorem p_aa1 {n : Nat} (hn : n < 3) : mp (56 + 4 * n) 1 = (15, (2 * n + 1)) := by
  unfold mp mpR
  (repeat (first | rw [if_pos (by omega)] | rw [if_neg (by omega)]))
  all_goals first
    | rfl
    | (apply Prod.ext <;> (try dsimp only) <;> omega)
theorem i_aa1 {n : Nat} (hn : n < 3) : jm_i (cs h ac κ μ) (ac + (56 + 4 * n)) 1 = Int32.ofInt (κ 15 (2 * n + 1)) := by
  rw [ci (by omega), p_aa1 hn]
theorem w_aa1 {n : Nat} (hn : n < 3) (v : Int) : jm_si (cs h ac κ μ) (ac + (56 + 4 * n)) 1 (Int32.ofInt v) = cs h ac (jm_u2 κ 15 (2 * n + 1) v) μ := by
  rw [wi (by omega), p_aa1 hn]
theorem p_aa2 {n : Nat} (hn : n < 3) : mp (56 + 4 * n) 2 = (47, (2 * n + 1)) := by
  unfold mp mpR
  (repeat (first | rw [if_pos (by omega)] | rw [if_neg (by omega)]))
  all_goals first
    | rfl
    | (apply Prod.ext <;> (try dsimp only) <;> omega)
theorem i_aa2 {n : Nat} (hn : n < 3) : jm_i (cs h ac κ μ) (ac + (56 + 4 * n)) 2 = Int32.ofInt (κ 47 (2 * n + 1)) := by
  rw [ci (by omega), p_aa2 hn]
theorem w_aa2 {n : Nat} (hn : n < 3) (v : Int) : jm_si (cs h ac κ μ) (ac + (56 + 4 * n)) 2 (Int32.ofInt v) = cs h ac (jm_u2 κ 47 (2 * n + 1) v) μ := by
  rw [wi (by omega), p_aa2 hn]
theorem p_o0 {n : Nat} (hn : n < 18) : mp (20 + n) 0 = (27, n) := by
  unfold mp mpO
  (repeat (first | rw [if_pos (by omega)] | rw [if_neg (by omega)]))
  all_goals first
    | rfl
    | (apply Prod.ext <;> (try dsimp only) <;> omega)
theorem i_o0 {n : Nat} (hn : n < 18) : jm_i (cs h ac κ μ) (ac + (20 + n)) 0 = Int32.ofInt (κ 27 n) := by
  rw [ci (by omega), p_o0 hn]
theorem w_o0 {n : Nat} (hn : n < 18) (v : Int) : jm_si (cs h ac κ μ) (ac + (20 + n)) 0 (Int32.ofInt v) = cs h ac (jm_u2 κ 27 n v) μ := by
  rw [wi (by omega), p_o0 hn]
theorem p_o1 {n : Nat} (hn : n < 18) : mp (20 + n) 1 = (28, n) := by
  unfold mp mpO
  (repeat (first | rw [if_pos (by omega)] | rw [if_neg (by omega)]))
  all_goals first
    | rfl
    | (apply Prod.ext <;> (try dsimp only) <;> omega)
theorem i_o1 {n : Nat} (hn : n < 18) : jm_i (cs h ac κ μ) (ac + (20 + n)) 1 = Int32.ofInt (κ 28 n) := by
  rw [ci (by omega), p_o1 hn]
theorem w_o1 {n : Nat} (hn : n < 18) (v : Int) : jm_si (cs h ac κ μ) (ac + (20 + n)) 1 (Int32.ofInt v) = cs h ac (jm_u2 κ 28 n v) μ := by
  rw [wi (by omega), p_o1 hn]
theorem p_o2 {n : Nat} (hn : n < 18) : mp (20 + n) 2 = (29, n) := by
  unfold mp mpO
  (repeat (first | rw [if_pos (by omega)] | rw [if_neg (by omega)]))
  all_goals first
    | rfl
    | (apply Prod.ext <;> (try dsimp only) <;> omega)
theorem i_o2 {n : Nat} (hn : n < 18) : jm_i (cs h ac κ μ) (ac + (20 + n)) 2 = Int32.ofInt (κ 29 n) := by
  rw [ci (by omega), p_o2 hn]
theorem w_o2 {n : Nat} (hn : n < 18) (v : Int) : jm_si (cs h ac κ μ) (ac + (20 + n)) 2 (Int32.ofInt v) = cs h ac (jm_u2 κ 29 n v) μ := by
  rw [wi (by omega), p_o2 hn]
theorem p_f {j : Nat} : mp 7 j = (31, j) := by
  unfold mp
  (repeat (first | rw [if_pos (by omega)] | rw [if_neg (by omega)]))
  all_goals first
    | rfl
    | (apply Prod.ext <;> (try dsimp only) <;> omega)
theorem i_f {j : Nat} : jm_i (cs h ac κ μ) (ac + 7) j = Int32.ofInt (κ 31 j) := by
  rw [ci (by omega), p_f]
theorem w_f {j : Nat} (v : Int) : jm_si (cs h ac κ μ) (ac + 7) j (Int32.ofInt v) = cs h ac (jm_u2 κ 31 j v) μ := by
  rw [wi (by omega), p_f]
theorem p_u {n : Nat} (hn : n < 12) {j : Nat} : mp (8 + n) j = ((32 + n), j) := by
  unfold mp
  (repeat (first | rw [if_pos (by omega)] | rw [if_neg (by omega)]))
  all_goals first
    | rfl
    | (apply Prod.ext <;> (try dsimp only) <;> omega)
theorem i_u {n : Nat} (hn : n < 12) {j : Nat} : jm_i (cs h ac κ μ) (ac + (8 + n)) j = Int32.ofInt (κ (32 + n) j) := by
  rw [ci (by omega), p_u hn]
theorem w_u {n : Nat} (hn : n < 12) {j : Nat} (v : Int) : jm_si (cs h ac κ μ) (ac + (8 + n)) j (Int32.ofInt v) = cs h ac (jm_u2 κ (32 + n) j v) μ := by
  rw [wi (by omega), p_u hn]
theorem p_rd {n : Nat} (hn : n < 3) {j : Nat} (hj : j < 8) : mp (40 + 5 * n) j = (8, (8 * n + j)) := by
  unfold mp
  (repeat (first | rw [if_pos (by omega)] | rw [if_neg (by omega)]))
  all_goals first
    | rfl
    | (apply Prod.ext <;> (try dsimp only) <;> omega)
theorem i_rd {n : Nat} (hn : n < 3) {j : Nat} (hj : j < 8) : jm_i (cs h ac κ μ) (ac + (40 + 5 * n)) j = Int32.ofInt (κ 8 (8 * n + j)) := by
  rw [ci (by omega), p_rd hn hj]
theorem w_rd {n : Nat} (hn : n < 3) {j : Nat} (hj : j < 8) (v : Int) : jm_si (cs h ac κ μ) (ac + (40 + 5 * n)) j (Int32.ofInt v) = cs h ac (jm_u2 κ 8 (8 * n + j) v) μ := by
  rw [wi (by omega), p_rd hn hj]
theorem p_ld {n : Nat} (hn : n < 3) {j : Nat} (hj : j < 8) : mp (41 + 5 * n) j = (9, (8 * n + j)) := by
  unfold mp
  (repeat (first | rw [if_pos (by omega)] | rw [if_neg (by omega)]))
  all_goals first
    | rfl
    | (apply Prod.ext <;> (try dsimp only) <;> omega)
theorem i_ld {n : Nat} (hn : n < 3) {j : Nat} (hj : j < 8) : jm_i (cs h ac κ μ) (ac + (41 + 5 * n)) j = Int32.ofInt (κ 9 (8 * n + j)) := by
  rw [ci (by omega), p_ld hn hj]
theorem w_ld {n : Nat} (hn : n < 3) {j : Nat} (hj : j < 8) (v : Int) : jm_si (cs h ac κ μ) (ac + (41 + 5 * n)) j (Int32.ofInt v) = cs h ac (jm_u2 κ 9 (8 * n + j) v) μ := by
  rw [wi (by omega), p_ld hn hj]
end
/-- what is fixed of it -/
def RC (B : jm_B) (ac : Nat) (h : jm_H) : Prop :=
  (jm_k h ac = some (.inl 7)) ∧
  (jm_k h (ac + 1) = some (.inr (7, 3))) ∧
  (jm_k h (ac + 2) = some (.inr (8, 3))) ∧
  (jm_k h (ac + 3) = some (.inr (5, 3))) ∧
  (jm_k h (ac + 4) = some (.inl 2)) ∧
  (jm_k h (ac + 5) = some (.inr (10, 12))) ∧
  (jm_k h (ac + 6) = some (.inr (10, 18))) ∧
  (jm_k h (ac + 7) = some (.inr (0, 100))) ∧
  (∀ n, n < 12 → jm_k h (ac + (8 + n)) = some (.inl 6)) ∧
  (∀ n, n < 18 → jm_k h (ac + (20 + n)) = some (.inl 6)) ∧
  (∀ n, n < 3 → jm_k h (ac + (38 + 5 * n)) = some (.inl 3)) ∧
  (∀ n, n < 3 → jm_k h (ac + (39 + 5 * n)) = some (.inl 5)) ∧
  (∀ n, n < 3 → jm_k h (ac + (40 + 5 * n)) = some (.inr (0, 8))) ∧
  (∀ n, n < 3 → jm_k h (ac + (41 + 5 * n)) = some (.inr (0, 8))) ∧
  (∀ n, n < 3 → jm_k h (ac + (42 + 5 * n)) = some (.inr (4, 6))) ∧
  (∀ n, n < 3 → jm_k h (ac + (53 + 4 * n)) = some (.inl 4)) ∧
  (∀ n, n < 3 → jm_k h (ac + (54 + 4 * n)) = some (.inl 0)) ∧
  (∀ n, n < 3 → jm_k h (ac + (55 + 4 * n)) = some (.inl 1)) ∧
  (∀ n, n < 3 → jm_k h (ac + (56 + 4 * n)) = some (.inl 0)) ∧
  (jm_r h ac 0 = some (ac + 1)) ∧
  (jm_r h ac 1 = some (ac + 2)) ∧
  (jm_r h ac 2 = some (ac + 3)) ∧
  (jm_r h ac 3 = some (ac + 4)) ∧
  (jm_r h (ac + 4) 0 = some (ac + 5)) ∧
  (jm_r h (ac + 4) 1 = some (ac + 6)) ∧
  (jm_r h (ac + 4) 2 = some (ac + 7)) ∧
  (∀ n, n < 3 → jm_r h (ac + 1) n = some (ac + (38 + 5 * n))) ∧
  (∀ n, n < 3 → jm_r h (ac + 2) n = some (ac + (53 + 4 * n))) ∧
  (∀ n, n < 3 → jm_r h (ac + 3) n = some (ac + (55 + 4 * n))) ∧
  (∀ n, n < 18 → jm_r h (ac + 6) n = some (ac + (20 + n))) ∧
  (∀ n, n < 3 → jm_r h (ac + (38 + 5 * n)) 0 = some (ac + (39 + 5 * n))) ∧
  (∀ n, n < 3 → jm_r h (ac + (38 + 5 * n)) 1 = some (ac + (42 + 5 * n))) ∧
  (∀ n, n < 3 → jm_r h (ac + (39 + 5 * n)) 0 = some (ac + (40 + 5 * n))) ∧
  (∀ n, n < 3 → jm_r h (ac + (39 + 5 * n)) 1 = some (ac + (41 + 5 * n))) ∧
  (∀ n, n < 3 → jm_r h (ac + (53 + 4 * n)) 1 = some (ac + (54 + 4 * n))) ∧
  (∀ n, n < 3 → jm_r h (ac + (55 + 4 * n)) 1 = some (ac + (56 + 4 * n))) ∧
  ((B.2.2 0 < ac ∧ jm_k h (B.2.2 0) = some (.inr (1, 3)) ∧ ∀ j, j < 3 → jm_i h (B.2.2 0) j = Int32.ofInt (KP j))) ∧
  ((B.2.2 1 < ac ∧ jm_k h (B.2.2 1) = some (.inr (1, 3)) ∧ ∀ j, j < 3 → jm_i h (B.2.2 1) j = Int32.ofInt (AS j))) ∧
  (ac + 65 ≤ jm_n h)
section
variable {B : jm_B} {ac : Nat} {h : jm_H} {κ : S_} {μ : M_}
theorem ck0 (H : RC B ac h) : jm_k (cs h ac κ μ) ac = some (.inl 7) := H.1
theorem ck1 (H : RC B ac h) : jm_k (cs h ac κ μ) (ac + 1) = some (.inr (7, 3)) := H.2.1
theorem ck2 (H : RC B ac h) : jm_k (cs h ac κ μ) (ac + 2) = some (.inr (8, 3)) := H.2.2.1
theorem ck3 (H : RC B ac h) : jm_k (cs h ac κ μ) (ac + 3) = some (.inr (5, 3)) := H.2.2.2.1
theorem ck4 (H : RC B ac h) : jm_k (cs h ac κ μ) (ac + 4) = some (.inl 2) := H.2.2.2.2.1
theorem ck5 (H : RC B ac h) : jm_k (cs h ac κ μ) (ac + 5) = some (.inr (10, 12)) := H.2.2.2.2.2.1
theorem ck6 (H : RC B ac h) : jm_k (cs h ac κ μ) (ac + 6) = some (.inr (10, 18)) := H.2.2.2.2.2.2.1
theorem ck7 (H : RC B ac h) : jm_k (cs h ac κ μ) (ac + 7) = some (.inr (0, 100)) := H.2.2.2.2.2.2.2.1
theorem ck8 (H : RC B ac h) {n : Nat} (hn : n < 12) : jm_k (cs h ac κ μ) (ac + (8 + n)) = some (.inl 6) := H.2.2.2.2.2.2.2.2.1 n hn
theorem ck9 (H : RC B ac h) {n : Nat} (hn : n < 18) : jm_k (cs h ac κ μ) (ac + (20 + n)) = some (.inl 6) := H.2.2.2.2.2.2.2.2.2.1 n hn
theorem ck10 (H : RC B ac h) {n : Nat} (hn : n < 3) : jm_k (cs h ac κ μ) (ac + (38 + 5 * n)) = some (.inl 3) := H.2.2.2.2.2.2.2.2.2.2.1 n hn
theorem ck11 (H : RC B ac h) {n : Nat} (hn : n < 3) : jm_k (cs h ac κ μ) (ac + (39 + 5 * n)) = some (.inl 5) := H.2.2.2.2.2.2.2.2.2.2.2.1 n hn
theorem ck12 (H : RC B ac h) {n : Nat} (hn : n < 3) : jm_k (cs h ac κ μ) (ac + (40 + 5 * n)) = some (.inr (0, 8)) := H.2.2.2.2.2.2.2.2.2.2.2.2.1 n hn
theorem ck13 (H : RC B ac h) {n : Nat} (hn : n < 3) : jm_k (cs h ac κ μ) (ac + (41 + 5 * n)) = some (.inr (0, 8)) := H.2.2.2.2.2.2.2.2.2.2.2.2.2.1 n hn
theorem ck14 (H : RC B ac h) {n : Nat} (hn : n < 3) : jm_k (cs h ac κ μ) (ac + (42 + 5 * n)) = some (.inr (4, 6)) := H.2.2.2.2.2.2.2.2.2.2.2.2.2.2.1 n hn
theorem ck15 (H : RC B ac h) {n : Nat} (hn : n < 3) : jm_k (cs h ac κ μ) (ac + (53 + 4 * n)) = some (.inl 4) := H.2.2.2.2.2.2.2.2.2.2.2.2.2.2.2.1 n hn
theorem ck16 (H : RC B ac h) {n : Nat} (hn : n < 3) : jm_k (cs h ac κ μ) (ac + (54 + 4 * n)) = some (.inl 0) := H.2.2.2.2.2.2.2.2.2.2.2.2.2.2.2.2.1 n hn
theorem ck17 (H : RC B ac h) {n : Nat} (hn : n < 3) : jm_k (cs h ac κ μ) (ac + (55 + 4 * n)) = some (.inl 1) := H.2.2.2.2.2.2.2.2.2.2.2.2.2.2.2.2.2.1 n hn
theorem ck18 (H : RC B ac h) {n : Nat} (hn : n < 3) : jm_k (cs h ac κ μ) (ac + (56 + 4 * n)) = some (.inl 0) := H.2.2.2.2.2.2.2.2.2.2.2.2.2.2.2.2.2.2.1 n hn
theorem cr0 (H : RC B ac h) : jm_r (cs h ac κ μ) ac 0 = some (ac + 1) := by
  rw [cr_o (Or.inr (by unfold dyn; omega))]
  exact H.2.2.2.2.2.2.2.2.2.2.2.2.2.2.2.2.2.2.2.1
theorem cr1 (H : RC B ac h) : jm_r (cs h ac κ μ) ac 1 = some (ac + 2) := by
  rw [cr_o (Or.inr (by unfold dyn; omega))]
  exact H.2.2.2.2.2.2.2.2.2.2.2.2.2.2.2.2.2.2.2.2.1
theorem cr2 (H : RC B ac h) : jm_r (cs h ac κ μ) ac 2 = some (ac + 3) := by
  rw [cr_o (Or.inr (by unfold dyn; omega))]
  exact H.2.2.2.2.2.2.2.2.2.2.2.2.2.2.2.2.2.2.2.2.2.1
theorem cr3 (H : RC B ac h) : jm_r (cs h ac κ μ) ac 3 = some (ac + 4) := by
  rw [cr_o (Or.inr (by unfold dyn; omega))]
  exact H.2.2.2.2.2.2.2.2.2.2.2.2.2.2.2.2.2.2.2.2.2.2.1
theorem cr4 (H : RC B ac h) : jm_r (cs h ac κ μ) (ac + 4) 0 = some (ac + 5) := by
  rw [cr_o (Or.inr (by unfold dyn; omega))]
  exact H.2.2.2.2.2.2.2.2.2.2.2.2.2.2.2.2.2.2.2.2.2.2.2.1
theorem cr5 (H : RC B ac h) : jm_r (cs h ac κ μ) (ac + 4) 1 = some (ac + 6) := by
  rw [cr_o (Or.inr (by unfold dyn; omega))]
  exact H.2.2.2.2.2.2.2.2.2.2.2.2.2.2.2.2.2.2.2.2.2.2.2.2.1
theorem cr6 (H : RC B ac h) : jm_r (cs h ac κ μ) (ac + 4) 2 = some (ac + 7) := by
  rw [cr_o (Or.inr (by unfold dyn; omega))]
  exact H.2.2.2.2.2.2.2.2.2.2.2.2.2.2.2.2.2.2.2.2.2.2.2.2.2.1
theorem cr7 (H : RC B ac h) {n : Nat} (hn : n < 3) : jm_r (cs h ac κ μ) (ac + 1) n = some (ac + (38 + 5 * n)) := by
  rw [cr_o (Or.inr (by unfold dyn; omega))]
  exact H.2.2.2.2.2.2.2.2.2.2.2.2.2.2.2.2.2.2.2.2.2.2.2.2.2.2.1 n hn
theorem cr8 (H : RC B ac h) {n : Nat} (hn : n < 3) : jm_r (cs h ac κ μ) (ac + 2) n = some (ac + (53 + 4 * n)) := by
  rw [cr_o (Or.inr (by unfold dyn; omega))]
  exact H.2.2.2.2.2.2.2.2.2.2.2.2.2.2.2.2.2.2.2.2.2.2.2.2.2.2.2.1 n hn
theorem cr9 (H : RC B ac h) {n : Nat} (hn : n < 3) : jm_r (cs h ac κ μ) (ac + 3) n = some (ac + (55 + 4 * n)) := by
  rw [cr_o (Or.inr (by unfold dyn; omega))]
  exact H.2.2.2.2.2.2.2.2.2.2.2.2.2.2.2.2.2.2.2.2.2.2.2.2.2.2.2.2.1 n hn
theorem cr10 (H : RC B ac h) {n : Nat} (hn : n < 18) : jm_r (cs h ac κ μ) (ac + 6) n = some (ac + (20 + n)) := by
  rw [cr_o (Or.inr (by unfold dyn; omega))]
  exact H.2.2.2.2.2.2.2.2.2.2.2.2.2.2.2.2.2.2.2.2.2.2.2.2.2.2.2.2.2.1 n hn
theorem cr11 (H : RC B ac h) {n : Nat} (hn : n < 3) : jm_r (cs h ac κ μ) (ac + (38 + 5 * n)) 0 = some (ac + (39 + 5 * n)) := by
  rw [cr_o (Or.inr (by unfold dyn; omega))]
  exact H.2.2.2.2.2.2.2.2.2.2.2.2.2.2.2.2.2.2.2.2.2.2.2.2.2.2.2.2.2.2.1 n hn
theorem cr12 (H : RC B ac h) {n : Nat} (hn : n < 3) : jm_r (cs h ac κ μ) (ac + (38 + 5 * n)) 1 = some (ac + (42 + 5 * n)) := by
  rw [cr_o (Or.inr (by unfold dyn; omega))]
  exact H.2.2.2.2.2.2.2.2.2.2.2.2.2.2.2.2.2.2.2.2.2.2.2.2.2.2.2.2.2.2.2.1 n hn
theorem cr13 (H : RC B ac h) {n : Nat} (hn : n < 3) : jm_r (cs h ac κ μ) (ac + (39 + 5 * n)) 0 = some (ac + (40 + 5 * n)) := by
  rw [cr_o (Or.inr (by unfold dyn; omega))]
  exact H.2.2.2.2.2.2.2.2.2.2.2.2.2.2.2.2.2.2.2.2.2.2.2.2.2.2.2.2.2.2.2.2.1 n hn
theorem cr14 (H : RC B ac h) {n : Nat} (hn : n < 3) : jm_r (cs h ac κ μ) (ac + (39 + 5 * n)) 1 = some (ac + (41 + 5 * n)) := by
  rw [cr_o (Or.inr (by unfold dyn; omega))]
  exact H.2.2.2.2.2.2.2.2.2.2.2.2.2.2.2.2.2.2.2.2.2.2.2.2.2.2.2.2.2.2.2.2.2.1 n hn
theorem cr15 (H : RC B ac h) {n : Nat} (hn : n < 3) : jm_r (cs h ac κ μ) (ac + (53 + 4 * n)) 1 = some (ac + (54 + 4 * n)) := by
  rw [cr_o (Or.inr (by unfold dyn; omega))]
  exact H.2.2.2.2.2.2.2.2.2.2.2.2.2.2.2.2.2.2.2.2.2.2.2.2.2.2.2.2.2.2.2.2.2.2.1 n hn
theorem cr16 (H : RC B ac h) {n : Nat} (hn : n < 3) : jm_r (cs h ac κ μ) (ac + (55 + 4 * n)) 1 = some (ac + (56 + 4 * n)) := by
  rw [cr_o (Or.inr (by unfold dyn; omega))]
  exact H.2.2.2.2.2.2.2.2.2.2.2.2.2.2.2.2.2.2.2.2.2.2.2.2.2.2.2.2.2.2.2.2.2.2.2.1 n hn
theorem csk0 (H : RC B ac h) : jm_k (cs h ac κ μ) (B.2.2 0) = some (.inr (1, 3)) := H.2.2.2.2.2.2.2.2.2.2.2.2.2.2.2.2.2.2.2.2.2.2.2.2.2.2.2.2.2.2.2.2.2.2.2.2.1.2.1
theorem csi0 (H : RC B ac h) {j : Nat} (hj : j < 3) : jm_i (cs h ac κ μ) (B.2.2 0) j = Int32.ofInt (KP j) := by
  rw [ci_o (Or.inl H.2.2.2.2.2.2.2.2.2.2.2.2.2.2.2.2.2.2.2.2.2.2.2.2.2.2.2.2.2.2.2.2.2.2.2.2.1.1)]
  exact H.2.2.2.2.2.2.2.2.2.2.2.2.2.2.2.2.2.2.2.2.2.2.2.2.2.2.2.2.2.2.2.2.2.2.2.2.1.2.2 j hj
theorem csk1 (H : RC B ac h) : jm_k (cs h ac κ μ) (B.2.2 1) = some (.inr (1, 3)) := H.2.2.2.2.2.2.2.2.2.2.2.2.2.2.2.2.2.2.2.2.2.2.2.2.2.2.2.2.2.2.2.2.2.2.2.2.2.1.2.1
theorem csi1 (H : RC B ac h) {j : Nat} (hj : j < 3) : jm_i (cs h ac κ μ) (B.2.2 1) j = Int32.ofInt (AS j) := by
  rw [ci_o (Or.inl H.2.2.2.2.2.2.2.2.2.2.2.2.2.2.2.2.2.2.2.2.2.2.2.2.2.2.2.2.2.2.2.2.2.2.2.2.2.1.1)]
  exact H.2.2.2.2.2.2.2.2.2.2.2.2.2.2.2.2.2.2.2.2.2.2.2.2.2.2.2.2.2.2.2.2.2.2.2.2.2.1.2.2 j hj
theorem cnn (H : RC B ac h) : ac + 65 ≤ jm_n h := H.2.2.2.2.2.2.2.2.2.2.2.2.2.2.2.2.2.2.2.2.2.2.2.2.2.2.2.2.2.2.2.2.2.2.2.2.2.2
end
