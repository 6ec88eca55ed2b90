/-! what the instructions of a method ask, by their places in its list -/
def jm_Q (B : jm_B) (l : Launch) (Rc Rs : Nat) (Kr : jm_V → jm_H → Nat → Nat → Prop) (Kx : Nat → jm_H → Nat → Nat → Prop) (code : List jm_I) (Kc : Nat → List (Option jm_V) → List jm_V → jm_H → Nat → Nat → Prop) (n j : Nat) (L : List (Option jm_V)) (st : List jm_V) (h : jm_H) (ce sl : Nat) : Prop :=
  jm_go Kc (jm_wp B Rc Rs (fun mi as h post => jm_Ct gG B l (gm mi) as h post) Kr Kx Kc code n) (jm_drop j code) L st h ce sl
/-- the same, at a loop's head, its first instruction done -/
def jm_Q1 (B : jm_B) (l : Launch) (Rc Rs : Nat) (Kr : jm_V → jm_H → Nat → Nat → Prop) (Kx : Nat → jm_H → Nat → Nat → Prop) (code : List jm_I) (Kc : Nat → List (Option jm_V) → List jm_V → jm_H → Nat → Nat → Prop) (n j : Nat) (L : List (Option jm_V)) (st : List jm_V) (h : jm_H) (ce sl : Nat) : Prop :=
  jm_wp B Rc Rs (fun mi as h post => jm_Ct gG B l (gm mi) as h post) Kr Kx Kc code n (jm_drop j code) L st h ce sl
section QS
variable {B : jm_B} {l : Launch} {M : jm_M} {Rc Rs : Nat} {Kr : jm_V → jm_H → Nat → Nat → Prop} {Kx : Nat → jm_H → Nat → Nat → Prop} {code : List jm_I} {post : jm_V → jm_H → Prop} {Kc : Nat → List (Option jm_V) → List jm_V → jm_H → Nat → Nat → Prop} {n j pc len : Nat} {cut : Bool} {i : Instr} {x q : List Nat} {cs : List jm_I} {L : List (Option jm_V)} {st : List jm_V} {h : jm_H} {ce sl : Nat}
abbrev jm_Sg (B : jm_B) (l : Launch) (Rc Rs : Nat) (Kr : jm_V → jm_H → Nat → Nat → Prop) (Kx : Nat → jm_H → Nat → Nat → Prop) (code : List jm_I) (Kc : Nat → List (Option jm_V) → List jm_V → jm_H → Nat → Nat → Prop) (n j : Nat) (i : Instr) (x : List Nat) (L : List (Option jm_V)) (st : List jm_V) (h : jm_H) (ce sl : Nat) : Prop :=
  jm_st B Rc Rs (fun mi as h post => jm_Ct gG B l (gm mi) as h post) Kr Kx i x L st h ce sl (fun t L st h ce sl => jm_Q B l Rc Rs Kr Kx code Kc n (match t with | none => j + 1 | some k => k) L st h ce sl)
theorem jm_Q1_s (hd : jm_drop j code = (pc, cut, i, len, x, q) :: jm_drop (j + 1) code) : jm_Q1 B l Rc Rs Kr Kx code Kc (n + 1) j L st h ce sl = jm_Sg B l Rc Rs Kr Kx code Kc n j i x L st h ce sl := by
  unfold jm_Q1
  rw [hd]
  have e : (fun (t : Option Nat) (L : List (Option jm_V)) (st : List jm_V) (h : jm_H) (ce sl : Nat) => jm_go Kc (jm_wp B Rc Rs (fun mi as h post => jm_Ct gG B l (gm mi) as h post) Kr Kx Kc code n) (match t with | none => jm_drop (j + 1) code | some k => jm_drop k code) L st h ce sl) = (fun t L st h ce sl => jm_Q B l Rc Rs Kr Kx code Kc n (match t with | none => j + 1 | some k => k) L st h ce sl) := by
    funext t L st h ce sl
    cases t <;> rfl
  unfold jm_Sg
  rw [← e]
  rfl
theorem jm_Q_s (hd : jm_drop j code = (pc, false, i, len, x, q) :: jm_drop (j + 1) code) : jm_Q B l Rc Rs Kr Kx code Kc (n + 1) j L st h ce sl = jm_Sg B l Rc Rs Kr Kx code Kc n j i x L st h ce sl := by
  rw [← jm_Q1_s hd]
  unfold jm_Q jm_Q1
  rw [hd]
  rfl
theorem jm_Q_c (hd : jm_drop j code = (pc, true, i, len, x, q) :: cs) : jm_Q B l Rc Rs Kr Kx code Kc n j L st h ce sl = Kc pc L st h ce sl := by
  unfold jm_Q
  rw [hd]
  rfl
/-- a method without a loop -/
theorem jm_C0 {as : List jm_V} (hy : plainName M.1.cls = true ∨ plainFor M.1 = true) (h3 : jm_rc M.2.2.2.1 < 3) (hv : jm_vc gG gm M.1.cls M.1.name M.2.1 (jm_rm M) M.2.2.1 code = true) (hc : jm_c1 as = true) (hn : as.length ≤ M.2.2.1) (L0 : List (Option jm_V)) (hL0 : jm_en M.2.2.1 as = L0) (h0 : jm_drop 0 code = (0, false, i, len, x, q) :: cs)
    (hw : ∃ n, jm_Q B l M.2.2.2.2.2.2.1 M.2.2.2.2.2.2.2 (jm_Kr M post) (fun _ _ _ _ => False) code (fun _ _ _ _ _ _ => False) n 0 L0 [] h 0 0) : jm_Ct gG B l M as h post := by
  obtain ⟨n, hw⟩ := hw
  refine jm_Ct_of gTT hy h3 hv hc hn L0 hL0 (fun _ _ _ _ _ _ _ => False) (fun _ _ _ _ _ _ _ q => q.elim) ⟨n, ⟨_, _, h0, rfl⟩, ?_⟩
  have e : (fun (_ : Nat) (_ : List (Option jm_V)) (_ : List jm_V) (_ : jm_H) (_ _ : Nat) => ∃ _ : Nat, False) = (fun (_ : Nat) (_ : List (Option jm_V)) (_ : List jm_V) (_ : jm_H) (_ _ : Nat) => False) := by
    funext _ _ _ _ _ _
    exact propext ⟨fun q => q.elim fun _ q => q, fun q => q.elim⟩
  have hc0 : code = (0, false, i, len, x, q) :: cs := h0
  unfold jm_Q at hw
  rw [h0] at hw
  rw [e]
  have hw' : jm_wpM gG B l gm M code post (fun _ _ _ _ _ _ => False) n ((0, false, i, len, x, q) :: cs) L0 [] h 0 0 := hw
  rw [← hc0] at hw'
  exact hw'
/-- a method with loops: Inv k at a head, k falls -/
theorem jm_CL {as : List jm_V} (hy : plainName M.1.cls = true ∨ plainFor M.1 = true) (h3 : jm_rc M.2.2.2.1 < 3) (hv : jm_vc gG gm M.1.cls M.1.name M.2.1 (jm_rm M) M.2.2.1 code = true) (hc : jm_c1 as = true) (hn : as.length ≤ M.2.2.1) (L0 : List (Option jm_V)) (hL0 : jm_en M.2.2.1 as = L0) (h0 : jm_drop 0 code = (0, false, i, len, x, q) :: cs)
    (Inv : Nat → Nat → List (Option jm_V) → List jm_V → jm_H → Nat → Nat → Prop)
    (hI : ∀ k pc L st h ce sl, Inv k pc L st h ce sl → ∃ n j, jm_at code j pc ∧ jm_Q1 B l M.2.2.2.2.2.2.1 M.2.2.2.2.2.2.2 (jm_Kr M post) (fun _ _ _ _ => False) code (fun pc L st h ce sl => ∃ k', k' < k ∧ Inv k' pc L st h ce sl) n j L st h ce sl)
    (hw : ∃ n, jm_Q B l M.2.2.2.2.2.2.1 M.2.2.2.2.2.2.2 (jm_Kr M post) (fun _ _ _ _ => False) code (fun pc L st h ce sl => ∃ k', Inv k' pc L st h ce sl) n 0 L0 [] h 0 0) : jm_Ct gG B l M as h post := by
  obtain ⟨n, hw⟩ := hw
  refine jm_Ct_of gTT hy h3 hv hc hn L0 hL0 Inv hI ⟨n, ⟨_, _, h0, rfl⟩, ?_⟩
  have hc0 : code = (0, false, i, len, x, q) :: cs := h0
  unfold jm_Q at hw
  rw [h0] at hw
  have hw' : jm_wpM gG B l gm M code post (fun pc L st h ce sl => ∃ k', Inv k' pc L st h ce sl) n ((0, false, i, len, x, q) :: cs) L0 [] h 0 0 := hw
  rw [← hc0] at hw'
  exact hw'
end QS
