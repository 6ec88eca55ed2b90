/-! methods with a table: they call, and catch -/
def jm_wsW (M : jm_M) (hh : List (Nat × Nat × Nat × Nat)) : List Cond := .codeWith M.1 M.2.1 M.2.2.1 M.2.2.2.1 hh :: jm_Ts gG
def jm_Cw (B : jm_B) (l : Launch) (M : jm_M) (hh : List (Nat × Nat × Nat × Nat)) (as : List jm_V) (h : jm_H) (post : jm_V → jm_H → Prop) : Prop :=
  Met l M.1 (jm_wsW M hh) (jm_rm M) (jm_Px B as h) (jm_Qc gG B (jm_rc M.2.2.2.1) post) M.2.2.2.2.2.2.1 M.2.2.2.2.2.2.2 (jm_A B)
theorem jm_prx {B : jm_B} {s : State} {h : jm_H} (hE : jm_E gG B s) (hX : XW s) {H : Heap} {locs : List Loc} (hP : jm_P gG B s h H) (hS : va_S (jm_A B) s.heap H locs) (as : List jm_V) : PreS s H (jm_Px B as h) (as.map jm_v) :=
  ⟨fun a U g mk q => ⟨q.1, ⟨q.2.1.1.same rfl rfl, q.2.1.2.same rfl⟩, q.2.2.moved (Vm.Alike.refl U.vm)⟩, fun U hU hW => ⟨rfl, ⟨hE.to hW (by rw [hU]; exact hS.1) (fun a h1 h2 => by rw [hU]; exact hS.2.1 a h1 h2), hX.to hW⟩, by rw [hU]; exact hP.moved hW.alike⟩⟩
section
variable {p : Program} {l : Launch} {e : Env} {R : Room} {s : State} {m : MethodId} {args : Array Value} {below : List Frame} {meth : Method} {c : Code} {B : jm_B} {cc : ByteArray} {nL : Nat} {Q : State → Prop} {own : String} {h : jm_H} {L : List (Option jm_V)} {pc cells slots : Nat}
/-- a call that throws k, caught at hpc -/
theorem lw_call (X : jm_X gG B p s m args meth c own cc nL) (hX : XW s) {M : jm_M} {idx na ql ci a k hpc : Nat} {rr : vw_C} {qm : List Nat} {as r : List jm_V} (hd : decode cc pc = .ok (.invokevirtual idx, 3)) (hci : gG.1[ci]? = some rr) (h1 : jm_hw (jm_big gG) ql (.methodLink own idx M.1) = true) (h2 : jm_mv (jm_big gG) M 1 na R.frames R.locals rr.1 qm = true) (hna : as.length + 1 = na) (ha : jm_k h a = some (.inl ci)) (h4 : jm_l4 r) (hc : cells + M.2.2.2.2.2.2.1 ≤ R.cells) (hs : slots + M.2.2.2.2.2.2.2 ≤ R.slots) (hM : jm_Cx B l M (.inr (.inl (some a)) :: as) h k)
    (hcat : ∀ (H : Heap) (locs : List Loc) (c9 s9 : Nat) (ls : Array Slot) (rest : List Value) (q : Addr) (ce : Cell), H[q]? = some ce → ce.vm = .none → s.vm.findClass (jm_en2 k) = some ce.cls → W p l e R s m args below meth c H locs c9 s9 Q (F0 m hpc ls [.ref q]) → vx_W p l e R s m args below meth c H locs c9 s9 Q (F0 m pc ls rest) q)
    (kk : ∀ (q n : Nat), jm_n h ≤ n → jm_J p l e R s m args below meth c Q gG B nL hpc L [.inr (.inl (some q))] (jm_xn h n) (cells + M.2.2.2.2.2.2.1) (slots + M.2.2.2.2.2.2.2)) : jm_J p l e R s m args below meth c Q gG B nL pc L (as.reverse ++ .inr (.inl (some a)) :: r) h cells slots := by
  obtain ⟨hx, hb, hml, hown, hts, hE, hlk⟩ := X
  intro H locs ls hP hl hS
  simp only [jm_mv, Bool.and_eq_true, decide_eq_true_eq] at h2
  obtain ⟨⟨⟨⟨g1, g2⟩, g3⟩, g4⟩, g5⟩ := h2
  split at g5
  · rename_i qc qi qs qn
    simp only [Bool.and_eq_true, decide_eq_true_eq] at g5
    obtain ⟨k1, ⟨⟨⟨k2, k3⟩, k4⟩, k5⟩, k6⟩ := g5
    have hin := jm_ws_in k1
    have hT : GoodIn (jm_Ts gG) (wsV own idx rr.1 M.1 (jm_ws gG M)) := jm_goodIn (fun w hw => by
      unfold wsV at hw
      rcases List.mem_append.mp hw with hw | hw
      · simp only [List.mem_cons, List.not_mem_nil, or_false] at hw
        rcases hw with rfl | rfl | rfl | rfl
        · exact jm_hw_in h1
        · exact jm_hw_in k2
        · exact jm_hw_in k3
        · exact jm_hw_in k4
      · exact hin w hw)
    obtain ⟨hz, r', hr', cell, q1, q2, q3, q4⟩ := hP.obj ha
    cases Option.some.inj (hr'.symm.trans hci)
    obtain ⟨hb1, hb2⟩ := jm_prx hE hX hP hS (.inr (.inl (some a)) :: as)
    have hn : (parseMethodDescriptor M.1.desc).map (fun d => d.parameters.length) = some as.length := by
      cases hq : parseMethodDescriptor M.1.desc with
      | none => rw [hq] at k6; cases k6
      | some d =>
        rw [hq] at k6
        have k7 : d.parameters.length + 1 = na := Option.some.inj k6
        simp only [Option.map_some]
        congr 1
        omega
    have hrun := vx_runV (As := as.map jm_v) (rest := r.map jm_v) (g := F0 m pc ls ((as.reverse ++ .inr (.inl (some a)) :: r).map jm_v)) (l := l) (e := e) (below := below) (meth := meth) (locs := locs) (cells := cells) (slots := slots) ⟨hx, hb, hml, hown, hts⟩ hM (cwV as.length hts hT rfl rfl rfl ⟨k5, g1, g2, hn⟩ ⟨g3, g4⟩) ⟨hb1, ⟨cell, q1, by rw [q3]; rfl, by rw [q2]; exact (hE.1 ci _ hci).2.1⟩, hb2⟩ rfl (by rw [List.length_map]) hl.1 (by simp [jm_v, va_rf]) (lv_room (jm_l4_ok h4)) hd ⟨hc, hs⟩
    intro T hTH XS
    rcases hrun T hTH XS with ⟨v, st₀, t, T', L', h0, X', hL, e1, e2, hq, st⟩ | ⟨q, st₀, t, T', L', E, ce, h0, X', hL, e1, e2, ⟨hEq, ⟨n, hn1, hP'⟩, hz1, hz2⟩, hce, hcv, hcl, st⟩
    · exact hq.elim
    · subst hEq
      rw [h0] at hz1 hz2
      have hvm : t.vm.Alike s.vm := by rw [← e2]; exact X'.warmed.alike.symm
      have hS' : va_S (jm_A B) s.heap T'.heap (locs ++ L') := ⟨Nat.le_trans hS.1 (by rw [e1]; exact hz1), fun q h1 h2 => by rw [e1, hz2 q (Nat.lt_of_lt_of_le h1 hS.1) h2]; exact hS.2.1 q h1 h2, fun q hq => by
          rcases List.mem_append.mp hq with h | h
          · exact hS.2.2 q h
          · exact hL q h⟩
      have kj := kk q n hn1 T'.heap (locs ++ L') ls (by rw [e1]; exact hP'.moved hvm) hl hS'
      obtain ⟨t2, a1, b1⟩ := hcat T'.heap (locs ++ L') _ _ ls (r.map jm_v) q ce (by rw [e1]; exact hce) hcv hcl kj T' rfl X'
      exact ⟨t2, st.trans a1, b1⟩
  · cases g5
end
/-- where handlers lie: one row for 1, one more for 2 -/
def hhs (a b h1 : Nat) (o : Option Nat) : List (Nat × Nat × Nat × Nat) := match o with
  | none => [(a, b, h1, 13)]
  | some h2 => [(a, b, h1, 13), (a, b, h2, 15)]
/-- what the call asks: it returns and what comes after; or it throws k, and the handler's rest -/
def jm_cq (B : jm_B) (l : Launch) (M : jm_M) (code : List jm_I) (post : jm_V → jm_H → Prop) (jC mi na mc ms : Nat) (jh : Nat → Option Nat) (L : List (Option jm_V)) (st : List jm_V) (h : jm_H) (ce sl : Nat) : Prop :=
  (∃ n, jm_QG1 B (fun mi as h post => jm_Ct gG B l (gm mi) as h post) M.2.2.2.2.2.2.1 M.2.2.2.2.2.2.2 (jm_Kr M post) (fun _ _ _ _ _ _ => False) code n jC L st h ce sl) ∨
  (∃ (a : Nat) (as r : List jm_V) (k j : Nat), (k = 1 ∨ k = 2) ∧ jh k = some j ∧ as.length + 1 = na ∧ st = as.reverse ++ .inr (.inl (some a)) :: r ∧ jm_k h a = some (.inl 7) ∧ jm_l4 r ∧ ce + mc ≤ M.2.2.2.2.2.2.1 ∧ sl + ms ≤ M.2.2.2.2.2.2.2 ∧ jm_Cx B l (gm mi) (.inr (.inl (some a)) :: as) h k ∧ ∀ q n, jm_n h ≤ n → ∃ f, jm_QG B (fun mi as h post => jm_Ct gG B l (gm mi) as h post) M.2.2.2.2.2.2.1 M.2.2.2.2.2.2.2 (jm_Kr M post) (fun _ _ _ _ _ _ => False) code f j L [.inr (.inl (some q))] (jm_xn h n) (ce + mc) (sl + ms))
theorem lw_links : Cond.classLink "CraneSiteLaw" 13 nIA ∈ jm_Ts gG ∧ Cond.classLink "CraneSiteLaw" 15 nIS ∈ jm_Ts gG := by
  have key : (decide (Cond.classLink "CraneSiteLaw" 13 nIA ∈ gG.2.2.1) && goodWord (Cond.classLink "CraneSiteLaw" 13 nIA) && decide (Cond.classLink "CraneSiteLaw" 15 nIS ∈ gG.2.2.1) && goodWord (Cond.classLink "CraneSiteLaw" 15 nIS)) = true := by decide +kernel
  simp only [Bool.and_eq_true, decide_eq_true_eq] at key
  exact ⟨List.mem_filter.mpr ⟨key.1.1.1, key.1.1.2⟩, List.mem_filter.mpr ⟨key.1.2, key.2⟩⟩
theorem QG_1 {B : jm_B} {Cal : Nat → List jm_V → jm_H → (jm_V → jm_H → Prop) → Prop} {Rc Rs : Nat} {Kr : jm_V → jm_H → Nat → Nat → Prop} {Kc : Nat → List (Option jm_V) → List jm_V → jm_H → Nat → Nat → Prop} {code : List jm_I} {n j : Nat} {L : List (Option jm_V)} {st : List jm_V} {h : jm_H} {ce sl : Nat} {e1 : jm_I} {r1 : List jm_I} (hj : jm_drop j code = e1 :: r1) (hf : e1.2.1 = false) (hw : jm_QG B Cal Rc Rs Kr Kc code n j L st h ce sl) : jm_QG1 B Cal Rc Rs Kr Kc code n j L st h ce sl := by
  unfold jm_QG at hw
  unfold jm_QG1
  rw [hj] at hw ⊢
  obtain ⟨pc1, cut1, rest1⟩ := e1
  have hf2 : cut1 = false := hf
  subst hf2
  exact hw
/-- from a place in the list -/
theorem lw_from {B : jm_B} {l : Launch} {p : Program} {e : Env} {R : Room} {s : State} {m : MethodId} {args : Array Value} {below : List Frame} {meth : Method} {c : Code} {own yn : String} {cc : ByteArray} {nL : Nat} {Q : State → Prop} {code : List jm_I} {Kr : jm_V → jm_H → Nat → Nat → Prop} {Kc : Nat → List (Option jm_V) → List jm_V → jm_H → Nat → Nat → Prop} (X : jm_X gG B p s m args meth c own cc nL) (hyn : meth.name = yn) (hEnd : jm_Ends p l e R s m args below meth c Q gG B nL cc Kr (fun _ _ _ _ => False)) (hv : jm_vc gG gm own yn cc R nL code = true)
    (hK : ∀ pc L st h ce sl, Kc pc L st h ce sl → jm_J p l e R s m args below meth c Q gG B nL pc L st h ce sl) {n j : Nat} {e1 : jm_I} {r1 : List jm_I} {L : List (Option jm_V)} {st : List jm_V} {h : jm_H} {ce sl : Nat} (hj : jm_drop j code = e1 :: r1) (hw : jm_QG1 B (fun mi as h post => jm_Ct gG B l (gm mi) as h post) R.cells R.slots Kr Kc code n j L st h ce sl) : jm_J p l e R s m args below meth c Q gG B nL e1.1 L st h ce sl := by
  have hv2 := hv
  simp only [jm_vc, Bool.and_eq_true, List.all_eq_true] at hv2
  have h2 := lx_ok (p := p) (l := l) (e := e) (R := R) (s := s) (m := m) (args := args) (below := below) (meth := meth) (c := c) (B := B) (nL := nL) (Q := Q) (G := gG) (Kr := Kr) (Kc := Kc) hv2.1 (fun e' he L st h ce sl kk hw k0 kt => by
      obtain ⟨pc, cut, i, len, x, q⟩ := e'
      exact jm_st_ok X gTT hyn hEnd (hv2.2 _ he) hw k0 kt) hK n j _ L st h ce sl hj (by
      unfold jm_QG1 at hw
      rw [hj] at hw
      exact hw)
  exact h2
/-- a helper: one call, cut in the list -/
theorem jm_CW {B : jm_B} {l : Launch} {M : jm_M} {code : List jm_I} {as : List jm_V} {h : jm_H} {post : jm_V → jm_H → Prop} {a0 b0 hp1 : Nat} {o : Option Nat} {pcC jC mi na rc mc ms ql idx : Nat} {qm : List Nat} {rC : List jm_I} {jh : Nat → Option Nat} {i : Instr} {len : Nat} {x q : List Nat} {cs : List jm_I}
    (hy : plainName M.1.cls = true) (hcl : M.1.cls = "CraneSiteLaw") (h3 : jm_rc M.2.2.2.1 < 3) (hv : jm_vc gG gm M.1.cls M.1.name M.2.1 (jm_rm M) M.2.2.1 code = true) (hc : jm_c1 as = true) (hn : as.length ≤ M.2.2.1) (L0 : List (Option jm_V)) (hL0 : jm_en M.2.2.1 as = L0) (h0 : jm_drop 0 code = (0, false, i, len, x, q) :: cs)
    (hC : jm_drop jC code = (pcC, true, .invokevirtual idx, 3, [mi, na, rc, mc, ms, 7], ql :: qm) :: rC) (hin : a0 ≤ pcC ∧ pcC < b0)
    (hj1 : ∀ j, jh 1 = some j → ∃ e1 r1, jm_drop j code = e1 :: r1 ∧ e1.1 = hp1 ∧ e1.2.1 = false) (hj2 : ∀ j, jh 2 = some j → ∃ h2 e1 r1, o = some h2 ∧ jm_drop j code = e1 :: r1 ∧ e1.1 = h2 ∧ e1.2.1 = false)
    (hw : ∃ n, jm_QG B (fun mi as h post => jm_Ct gG B l (gm mi) as h post) M.2.2.2.2.2.2.1 M.2.2.2.2.2.2.2 (jm_Kr M post) (fun pc L st h ce sl => pc = pcC ∧ jm_cq B l M code post jC mi na mc ms jh L st h ce sl) code n 0 L0 [] h 0 0) : jm_Cw B l M (hhs a0 b0 hp1 o) as h post := by
  subst hL0
  refine va_MetW hy rfl ?_
  intro p e s m args below meth c s₁ Bd hml hp
  obtain ⟨rfl, ⟨hE, hX⟩, hP⟩ := hp
  have hts := atoms_spec (ws := jm_wsW M (hhs a0 b0 hp1 o)) Bd.pre
  have X : jm_X gG B p s m (as.map jm_v).toArray meth c M.1.cls M.2.1 M.2.2.1 := ⟨Bd.exec, Bd.bytes, hml, findClass_of_methodNamed Bd.named, fun w h => hts w (List.mem_cons_of_mem _ h), hE, Bd.notSynchronized⟩
  have hyn : meth.name = M.1.name := (name_of_methodNamed Bd.named Bd.method).1
  have htab := vx_table (x := M.1) Bd (hts _ List.mem_cons_self)
  have hEnd := jm_ends (l := l) (e := e) (below := below) (post := post) X Bd.returns h3
  have hv2 := hv
  simp only [jm_vc, Bool.and_eq_true, List.all_eq_true] at hv2
  have hve := hv2.2 _ (jm_drop_mem jC code rC _ hC)
  have hown : s.vm.findClass "CraneSiteLaw" = some m.cls := by rw [← hcl]; exact X.2.2.2.1
  have hcov : (decide (a0 ≤ pcC) && decide (pcC < b0)) = true := by rw [decide_eq_true hin.1, decide_eq_true hin.2]; rfl
  have hts2 := X.2.2.2.2.1
  have hK : ∀ pc L st h ce sl, (pc = pcC ∧ jm_cq B l M code post jC mi na mc ms jh L st h ce sl) → jm_J p l e (jm_rm M) s m (as.map jm_v).toArray below meth c (MQ below (jm_Qc gG B (jm_rc M.2.2.2.1) post) (as.map jm_v).toArray s M.2.2.2.2.2.2.1 M.2.2.2.2.2.2.2 (jm_A B)) gG B M.2.2.1 pc L st h ce sl := by
    rintro pc L st h ce sl ⟨rfl, hq⟩
    rcases hq with ⟨n, hq⟩ | ⟨a, as', r, k, j, hk, hjk, hna, rfl, ha, h4, hce, hsl, hM, hrest⟩
    · exact lw_from X hyn hEnd hv (Kc := fun _ _ _ _ _ _ => False) (fun _ _ _ _ _ _ q => q.elim) hC hq
    · unfold jm_ve at hve
      simp only [Bool.and_eq_true, decide_eq_true_eq] at hve
      obtain ⟨hd, -, hve⟩ := hve
      split at hve
      case h_2 => cases hve
      rename_i rr hrr
      simp only [Bool.and_eq_true, decide_eq_true_eq] at hve
      obtain ⟨⟨⟨⟨⟨e1, e2⟩, e3⟩, e4⟩, e5⟩, e6⟩ := hve
      rcases hk with rfl | rfl
      · obtain ⟨z1, zr, hz, hzp, hzf⟩ := hj1 j hjk
        refine lw_call X hX hd hrr e1 e2 hna ha h4 (by rw [e5]; exact hce) (by rw [e6]; exact hsl) hM (hpc := hp1) (fun H locs c9 s9 ls rest q ce hc1 hc2 hc3 kw => ?_) (fun q n hn1 => ?_)
        · cases o with
          | none => exact lw_catch1 (x := ⟨a0, b0, hp1, 13⟩) (suf := []) hown htab hcov (show (13 : Nat) ≠ 0 by decide) (hts2 _ lw_links.1) hX.2.2.2.1 hc1 hc2 hc3 kw
          | some h2 => exact lw_catch1 (x := ⟨a0, b0, hp1, 13⟩) (suf := [⟨a0, b0, h2, 15⟩]) hown htab hcov (show (13 : Nat) ≠ 0 by decide) (hts2 _ lw_links.1) hX.2.2.2.1 hc1 hc2 hc3 kw
        · obtain ⟨f, hf⟩ := hrest q n hn1
          rw [e5, e6]
          have hh := lw_from X hyn hEnd hv (Kc := fun _ _ _ _ _ _ => False) (fun _ _ _ _ _ _ q => q.elim) hz (QG_1 hz hzf hf)
          rw [hzp] at hh
          exact hh
      · obtain ⟨h2, z1, zr, rfl, hz, hzp, hzf⟩ := hj2 j hjk
        refine lw_call X hX hd hrr e1 e2 hna ha h4 (by rw [e5]; exact hce) (by rw [e6]; exact hsl) hM (hpc := h2) (fun H locs c9 s9 ls rest q ce hc1 hc2 hc3 kw => ?_) (fun q n hn1 => ?_)
        · exact lw_catch2 (y := ⟨a0, b0, hp1, 13⟩) (x := ⟨a0, b0, h2, 15⟩) (suf := []) (F := nIA) hown htab hcov (show (13 : Nat) ≠ 0 by decide) (hts2 _ lw_links.1) hX.2.2.2.2.2 hcov (show (15 : Nat) ≠ 0 by decide) (hts2 _ lw_links.2) hX.2.2.2.2.1 hc1 hc2 hc3 kw
        · obtain ⟨f, hf⟩ := hrest q n hn1
          rw [e5, e6]
          have hh := lw_from X hyn hEnd hv (Kc := fun _ _ _ _ _ _ => False) (fun _ _ _ _ _ _ q => q.elim) hz (QG_1 hz hzf hf)
          rw [hzp] at hh
          exact hh
  obtain ⟨n, hw⟩ := hw
  have h1 := lw_from X hyn hEnd hv hK h0 (QG_1 h0 rfl hw)
  rw [lg_entry_eq]
  exact h1 s.heap [] _ hP (jm_en_L _ as hc hn) va_S.rf
