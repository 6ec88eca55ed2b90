/-! what the specs read and write lies in the model's rows -/
def ov (σ ρ : S_) : S_ := fun o j => if o < 31 ∧ ¬ (o = 0 ∧ j = 0) then σ o j else ρ o j
section
variable {σ ρ κ : S_} {o j n : Nat} {v c p w k s r : Int}
theorem ov_r (h : o < 31) (h2 : ¬ (o = 0 ∧ j = 0)) : ov σ ρ o j = σ o j := if_pos ⟨h, h2⟩
theorem ov_R (h : 0 < o) (h2 : o < 31) : ov σ ρ o j = σ o j := if_pos ⟨h2, by omega⟩
theorem ov_g (h : ¬ (o < 31 ∧ ¬ (o = 0 ∧ j = 0))) : ov σ ρ o j = ρ o j := if_neg h
theorem ov_u (h : o < 31) (h2 : ¬ (o = 0 ∧ j = 0)) : jm_u2 (ov σ ρ) o j v = ov (jm_u2 σ o j v) ρ := by
  funext a b
  rw [u2r]
  by_cases q : a < 31 ∧ ¬ (a = 0 ∧ b = 0)
  · rw [ov_r q.1 q.2, ov_r q.1 q.2, u2r]
  · rw [ov_g q, ov_g q, if_neg (fun x => q (by rw [x.1, x.2]; exact ⟨h, h2⟩))]
theorem ov_U (h : 0 < o) (h2 : o < 31) : jm_u2 (ov σ ρ) o j v = ov (jm_u2 σ o j v) ρ := ov_u h2 (by omega)
theorem ov_ite {P : Prop} [Decidable P] {a b : S_} : ov (if P then a else b) ρ = if P then ov a ρ else ov b ρ := by
  split <;> rfl
theorem ov_send : sp_send (ov σ ρ) p k s = ov (sp_send σ p k s) ρ := by
  unfold sp_send
  simp (disch := omega) only [ov_r, ov_u, ov_R, ov_U]
theorem ov_comes : sp_comes (ov σ ρ) p w s = ov (sp_comes σ p w s) ρ := by
  unfold sp_comes
  simp (disch := omega) only [ov_r, ov_R, ov_u, ov_U, ov_send, ov_ite]
theorem ov_say : sp_say (ov σ ρ) p k s = ov (sp_say σ p k s) ρ := by
  unfold sp_say
  simp (disch := omega) only [ov_r, ov_R, ov_u, ov_U, ov_send]
theorem ov_act : sp_act (ov σ ρ) p w = ov (sp_act σ p w) ρ := by
  unfold sp_act
  simp (disch := omega) only [ov_r, ov_R, ov_u, ov_U, ov_say, ov_ite]
theorem ov_beat : sp_beat (ov σ ρ) p = ov (sp_beat σ p) ρ := by
  unfold sp_beat
  simp (disch := omega) only [ov_r, ov_R, ov_send, ov_ite]
theorem ov_asks : sp_asks (ov σ ρ) p w = ov (sp_asks σ p w) ρ := by
  unfold sp_asks
  rw [ov_beat, ov_act]
theorem ov_kp : kpS (ov σ ρ) p w = ov (kpS σ p w) ρ := by
  unfold kpS
  simp (disch := omega) only [ov_r, ov_R, ov_u, ov_U, ov_ite]
theorem ov_wfl : wfl (ov σ ρ) p c s = wfl σ p c s := by
  unfold wfl wantX
  simp (disch := omega) only [ov_r, ov_R]
theorem ov_stepR : stepR (ov σ ρ) c p = ov (stepR σ c p) ρ := by
  unfold stepR
  simp (disch := omega) only [ov_r, ov_R, ov_kp, ov_asks, ov_wfl, ov_ite]
theorem ov_rgt : ∀ n, rgt (ov σ ρ) c n = ov (rgt σ c n) ρ := by
  intro n
  induction n with
  | zero => rfl
  | succ n ih =>
    show stepR (rgt (ov σ ρ) c n) c n = ov (stepR (rgt σ c n) c n) ρ
    rw [ih, ov_stepR]
theorem ov_nsf {D : Int} {i : Nat} : nsf (ov σ ρ) c v D i = nsf σ c v D i := by
  unfold nsf clI shutS fI zI
  simp (disch := omega) only [ov_r, ov_R]
theorem ov_safeW : safeW (ov σ ρ) c v = safeW σ c v := by
  unfold safeW
  rw [show nsf (ov σ ρ) c v (wayS v) = nsf σ c v (wayS v) from funext (fun i => ov_nsf)]
theorem ov_bsN : ∀ n, bsN (ov σ ρ) c n = bsN σ c n := by
  intro n
  induction n with
  | zero => rfl
  | succ n ih =>
    show bst (ov σ ρ 6 (3 * c).toNat) (bsN (ov σ ρ) c n) (ov σ ρ 2 c.toNat - 1 + n) (safeW (ov σ ρ) c (ov σ ρ 2 c.toNat - 1 + n)) = bst (σ 6 (3 * c).toNat) (bsN σ c n) (σ 2 c.toNat - 1 + n) (safeW σ c (σ 2 c.toNat - 1 + n))
    rw [ih, ov_safeW, ov_R (by omega) (by omega), ov_R (by omega) (by omega)]
theorem ov_nsp : nsp (ov σ ρ) c = nsp σ c := by
  unfold nsp
  rw [ov_bsN, ov_R (by omega) (by omega)]
theorem ov_slew : sp_slew (ov σ ρ) c = ov (sp_slew σ c) ρ := by
  unfold sp_slew
  rw [ov_nsp]
  simp (disch := omega) only [ov_R, ov_U]
theorem ov_tab : tabS (ov σ ρ) c r = tabS σ c r := tabS_congr (fun j => ov_R (by omega) (by omega)) (fun j => ov_R (by omega) (by omega)) (fun j => ov_R (by omega) (by omega)) c r
theorem ov_tro : sp_tro (ov σ ρ) c = ov (sp_tro σ c) ρ := by
  unfold sp_tro toS
  simp (disch := omega) only [ov_R, ov_U, ov_tab, ov_ite]
theorem ov_hok : sp_hok (ov σ ρ) c = ov (sp_hok σ c) ρ := by
  unfold sp_hok upS
  simp (disch := omega) only [ov_R, ov_U, ov_tab, ov_ite]
theorem ov_crs : ∀ n, crs (ov σ ρ) n = ov (crs σ n) ρ := by
  intro n
  induction n with
  | zero => rfl
  | succ n ih =>
    show sp_hok (sp_tro (sp_slew (rgt (crs (ov σ ρ) n) n 3) n) n) n = ov (sp_hok (sp_tro (sp_slew (rgt (crs σ n) n 3) n) n) n) ρ
    rw [ih, ov_rgt, ov_slew, ov_tro, ov_hok]
theorem ov_shB {a b : Nat} : shB (ov σ ρ) a b = ov (shB σ a b) ρ := by
  funext x y
  by_cases q : x < 31 ∧ ¬ (x = 0 ∧ y = 0)
  · rw [ov_r q.1 q.2]
    show (if (23 ≤ x ∧ x ≤ 26) ∧ a ≤ y ∧ y < b then ov σ ρ x (y + 1) else ov σ ρ x y) = (if (23 ≤ x ∧ x ≤ 26) ∧ a ≤ y ∧ y < b then σ x (y + 1) else σ x y)
    rw [ov_r q.1 q.2, ov_r q.1 (by omega)]
  · rw [ov_g q]
    show (if (23 ≤ x ∧ x ≤ 26) ∧ a ≤ y ∧ y < b then ov σ ρ x (y + 1) else ov σ ρ x y) = ρ x y
    rw [ov_g q, if_neg (by omega)]
theorem ov_br1 : br1 (ov σ ρ) k = ov (br1 σ k) ρ := by
  unfold br1
  simp (disch := omega) only [ov_r, ov_R, ov_u, ov_shB, ov_comes]
theorem ov_brF : ∀ (n : Nat) (k : Int) (σ : S_), brF n k (ov σ ρ) = ov (brF n k σ) ρ := by
  intro n
  induction n with
  | zero => intro k σ; rfl
  | succ n ih =>
    intro k σ
    show (if k < ov σ ρ 0 24 then (if ov σ ρ 0 1 < ov σ ρ 26 k.toNat then brF n (k + 1) (ov σ ρ) else brF n k (br1 (ov σ ρ) k)) else ov σ ρ) = ov (if k < σ 0 24 then (if σ 0 1 < σ 26 k.toNat then brF n (k + 1) σ else brF n k (br1 σ k)) else σ) ρ
    rw [ov_r (by omega) (by omega), ov_r (by omega) (by omega), ov_R (by omega) (by omega), ov_br1, ih, ih, ov_ite, ov_ite]
theorem ov_shF {a : Nat} : shF (ov σ ρ) a = ov (shF σ a) ρ := by
  funext x y
  by_cases q : x < 31 ∧ ¬ (x = 0 ∧ y = 0)
  · rw [ov_r q.1 q.2]
    show (if x = 30 ∧ y < a then ov σ ρ 30 (y + 1) else ov σ ρ x y) = (if x = 30 ∧ y < a then σ 30 (y + 1) else σ x y)
    rw [ov_r q.1 q.2, ov_R (by omega) (by omega)]
  · rw [ov_g q]
    show (if x = 30 ∧ y < a then ov σ ρ 30 (y + 1) else ov σ ρ x y) = ρ x y
    rw [ov_g q, if_neg (by omega)]
theorem ov_tkB {i f : Int} : tkB (ov σ ρ) i f = ov (tkB σ i f) ρ := by
  unfold tkB
  simp (disch := omega) only [ov_r, ov_R, ov_u, ov_U, ov_ite]
theorem ov_tk1 {i : Int} : tk1 (ov σ ρ) i = ov (tk1 σ i) ρ := by
  unfold tk1
  simp (disch := omega) only [ov_r, ov_R, ov_u, ov_shF, ov_tkB, ov_ite]
theorem ov_tkN : ∀ n, tkN (ov σ ρ) n = ov (tkN σ n) ρ := by
  intro n
  induction n with
  | zero => rfl
  | succ n ih =>
    show tk1 (tkN (ov σ ρ) n) n = ov (tk1 (tkN σ n) n) ρ
    rw [ih, ov_tk1]
theorem ov_takes : sp_takes (ov σ ρ) = ov (sp_takes σ) ρ := by
  unfold sp_takes
  rw [ov_r (by omega) (by omega), ov_tkN, ov_u (by omega) (by omega)]
theorem ov_tck : tck (ov σ ρ) = ov (tck σ) ρ := by
  unfold tck tck0 sp_brings
  rw [ov_r (by omega) (by omega), ov_u (by omega) (by omega), ov_brF, ov_crs, ov_takes]
theorem ov_tickN : ∀ n, tickN (ov σ ρ) n = ov (tickN σ n) ρ := by
  intro n
  induction n with
  | zero => rfl
  | succ n ih =>
    show tck (tickN (ov σ ρ) n) = ov (tck (tickN σ n)) ρ
    rw [ih, ov_tck]
/-- the same in the model's rows but for the cell that says whether the last call threw -/
def EQm (κ σ : S_) : Prop := ∀ o j, o < 31 → ¬ (o = 0 ∧ j = 0) → κ o j = σ o j
theorem EQ_ov (h : EQm κ σ) : κ = ov σ κ := by
  funext a b
  by_cases q : a < 31 ∧ ¬ (a = 0 ∧ b = 0)
  · rw [ov_r q.1 q.2]; exact h a b q.1 q.2
  · rw [ov_g q]
theorem ov_EQ : EQm (ov σ ρ) σ := fun o j h1 h2 => ov_r h1 h2
theorem EQ_tck (h : EQm κ σ) : EQm (tck κ) (tck σ) := by
  rw [EQ_ov h, ov_tck]
  exact ov_EQ
theorem EQ_tickN (h : EQm κ σ) (n : Nat) : EQm (tickN κ n) (tickN σ n) := by
  rw [EQ_ov h, ov_tickN]
  exact ov_EQ
theorem EQ_tr {a b d : S_} (h1 : EQm a b) (h2 : EQm b d) : EQm a d := fun o j q1 q2 => (h1 o j q1 q2).trans (h2 o j q1 q2)
theorem EQ_sy {a b : S_} (h1 : EQm a b) : EQm b a := fun o j q1 q2 => (h1 o j q1 q2).symm
theorem CN_ov : CN κ = ov κ (CN κ) := EQ_ov (fun o j h1 h2 => CN_r (by omega))
/-- a spec that leaves owner and doing alone -/
theorem CN_of {F : S_ → S_} (h1 : F (CN κ) = ov (F κ) (CN κ)) (h2 : ∀ o j, (o = 0 ∧ j = 0) ∨ o = 16 ∨ o = 20 ∨ 30 < o → F κ o j = κ o j) : F (CN κ) = CN (F κ) := by
  rw [h1]
  funext a b
  by_cases q : a < 31 ∧ ¬ (a = 0 ∧ b = 0)
  · rw [ov_r q.1 q.2, CN_r (by omega)]
  · rw [ov_g q]
    by_cases q2 : a = 47
    · subst q2
      show (if b % 2 = 0 then (if κ 16 (b / 2) = 1 then (0 : Int) else 1) else (if κ 20 (b / 2) = 2 then 0 else 1)) = (if b % 2 = 0 then (if F κ 16 (b / 2) = 1 then (0 : Int) else 1) else (if F κ 20 (b / 2) = 2 then 0 else 1))
      rw [h2 16 _ (by omega), h2 20 _ (by omega)]
    · rw [CN_r q2, CN_r q2, h2 a b (by omega)]
theorem CN_slew : sp_slew (CN κ) c = CN (sp_slew κ c) := CN_of (F := fun x => sp_slew x c) (by
  show sp_slew (CN κ) c = _
  rw [CN_ov, ov_slew, ← CN_ov]) (fun o j h => slew_r (by omega))
theorem CN_tro : sp_tro (CN κ) c = CN (sp_tro κ c) := CN_of (F := fun x => sp_tro x c) (by
  show sp_tro (CN κ) c = _
  rw [CN_ov, ov_tro, ← CN_ov]) (fun o j h => tro_r (by omega))
theorem CN_hok : sp_hok (CN κ) c = CN (sp_hok κ c) := CN_of (F := fun x => sp_hok x c) (by
  show sp_hok (CN κ) c = _
  rw [CN_ov, ov_hok, ← CN_ov]) (fun o j h => hok_r (by omega))
end
