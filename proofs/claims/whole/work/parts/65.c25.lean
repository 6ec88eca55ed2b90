/-! the law from its entry to its end -/
def R_law : String := "CraneSiteLaw"
def lw_P (b : Addr) (xs : List Int32) (args : Array Value) (s : State) : Prop := args = #[.ref b] ∧ s.IntsAt b xs ∧ xs.length ≤ 3072 ∧ (Jvm.Cond.and given_1 narrow_1).before args s = true
def lw_Q (_ : Array Value) (s : State) (o : Outcome) (t : State) : Prop := o = .returned (some (.int 1)) ∧ Framed s o t [] 601024 7293034
def lw_Z (below : List Frame) (a : Array Value) (s : State) : State → Prop := fun t => ∃ o, t.status = .running ∧ Ended t below o ∧ lw_Q a s o t
/-- the law's own end, with 1 on the stack, nothing written that was there before, its room as the claim has it -/
theorem lw_ret {p : Program} {l : Launch} {e : Env} {s : State} {m : MethodId} {below : List Frame} {meth : Method} {c : Code} {b : Nat} (hx : p.tables.exec = Jvm.exec) (hb : c.code = code) (hr : meth.sig.returnType = ret) (hlocks : meth.locks = false) {pc : Nat} {H : Heap} {ls : Array Slot} (hdg : decode code pc = .ok (.ireturn, 1)) : W p l e room_1 s m #[Value.ref b] below meth c H [] 601024 7293034 (lw_Z below #[Value.ref b] s) (F0 m pc ls [.int 1]) := by
  intro T hT X
  obtain ⟨fs, hret, hrun, hended, hW, hframe⟩ := X.leave (v := some (.int 1)) (hlocks := hlocks) (fun h => by rw [hr] at h; cases h)
  have hmeth' : T.vm.method? m = some meth := X.method'
  refine ⟨T.setFrames fs, ?_, .returned (some (.int 1)), hrun, hended, rfl, ⟨_, rfl⟩, hW, hframe⟩
  jvm_step X.here [X.here.top, hx, hb, hdg, hmeth', hr, ret, narrow_b1]
  (try refine ⟨rfl, ?_⟩); (try refine ⟨rfl, ?_⟩)
  first | (intro acts; rw [hret _ acts rfl rfl rfl]) | rw [hret _ _ rfl rfl rfl]
  exact Steps.refl _
/-- what holds at the law's entry: the machine, the code, the tables' words (any of lw_tbl by 'hts w (by decide +kernel)'), the script of L ints xs at the cell b, what the Statement gives of the start (any of its parts by flat_of_before) -/
def lw_At (p : Program) (s : State) (m : MethodId) (meth : Method) (c : Code) (b L : Nat) (xs : Nat → Int32) : Prop :=
  p.tables.exec = Jvm.exec ∧ c.code = code ∧ meth.sig.returnType = ret ∧ c.maxLocals = 7 ∧ s.vm.findClass R_law = some m.cls ∧ (∀ w ∈ lw_tbl, w.before #[Value.ref b] s = true) ∧ va_X b L xs s s.heap ∧ b < s.heap.size ∧ meth.locks = false ∧ (Jvm.Cond.and given_1 narrow_1).before #[Value.ref b] s = true
section
variable {p : Program} {l : Launch} {e : Env} {s : State} {m : MethodId} {below : List Frame} {meth : Method} {c : Code} {b : Nat} {B : jm_B}
abbrev lw_Kr : jm_V → jm_H → Nat → Nat → Prop := fun v _ ce sl => v = .inl (Int32.ofInt 1) ∧ ce ≤ 601024 ∧ sl ≤ 7293034
theorem lw_end (X : jm_X gG B p s m #[Value.ref b] meth c "CraneSiteLaw" cL_law 7) (hB : B.2.1 = s.heap.size) (hr : meth.sig.returnType = ret) : jm_Ends p l e room_1 s m #[Value.ref b] below meth c (lw_Z below #[Value.ref b] s) gG B 7 cL_law lw_Kr (fun _ _ _ _ => False) := by
  obtain ⟨hx, hb, hml, hown, hts, hE, hlk⟩ := X
  refine ⟨?_, ?_, ?_, ?_⟩
  · intro y pc L h ce sl hd hk H locs ls hP hl hS
    obtain ⟨k1, k2, k3⟩ := hk
    cases k1
    refine W.widen k2 k3 ?_
    intro T hT XS
    refine lw_ret hx hb hr hlk hd T hT ⟨XS.admits, XS.cas, XS.clock, XS.frames, XS.room, XS.hears, XS.method, XS.code, XS.here, XS.tail, XS.warmed, XS.limits, XS.bytes, ?_⟩
    obtain ⟨q1, q2, q3, q4, q5, q6⟩ := XS.same
    refine ⟨q1, q2, q3, q4, q5, fun a cc hc => ?_⟩
    obtain ⟨c', r1, r2, r3, r4⟩ := q6 a cc hc
    refine ⟨c', r1, r2, r3, fun i _ => r4 i (fun hm => ?_)⟩
    have h1 : B.2.1 ≤ a := hS.2.2 _ hm
    have h2 : a < s.heap.size := (Array.getElem?_eq_some_iff.mp hc).1
    rw [hB] at h1
    exact absurd h2 (Nat.not_lt.mpr h1)
  · intro y pc L h ce sl hd hk
    exact absurd hk.1 (fun q => by cases q)
  · intro pc L h ce sl hd hk
    exact absurd hk.1 (fun q => by cases q)
  · intro E ik ic pc L st h ce sl _ _ _ _ hk
    exact hk.elim
theorem lw_stp (X : jm_X gG B p s m #[Value.ref b] meth c "CraneSiteLaw" cL_law 7) (hX : XW s) (hyn : meth.name = "law") {Q : State → Prop} (hEnd : jm_Ends p l e room_1 s m #[Value.ref b] below meth c Q gG B 7 cL_law lw_Kr (fun _ _ _ _ => False)) {e' : jm_I} (he : lw_ck e' = true) (L : List (Option jm_V)) (st : List jm_V) (h : jm_H) (ce sl : Nat) (k : Option Nat → List (Option jm_V) → List jm_V → jm_H → Nat → Nat → Prop)
    (hw : jm_st B room_1.cells room_1.slots (CalL B l) lw_Kr (fun _ _ _ _ => False) e'.2.2.1 e'.2.2.2.2.1 L st h ce sl k) (k0 : ∀ L st h ce sl, k none L st h ce sl → jm_J p l e room_1 s m #[Value.ref b] below meth c Q gG B 7 (e'.1 + e'.2.2.2.1) L st h ce sl) (kt : ∀ t e2 r L st h ce sl, jm_drop t t_Law_law = e2 :: r → k (some t) L st h ce sl → jm_J p l e room_1 s m #[Value.ref b] below meth c Q gG B 7 e2.1 L st h ce sl) : jm_J p l e room_1 s m #[Value.ref b] below meth c Q gG B 7 e'.1 L st h ce sl := by
  unfold lw_ck at he
  rw [Bool.or_eq_true] at he
  rcases he with he | he
  · obtain ⟨pc, cut, i, len, x, q⟩ := e'
    have he2 := he
    unfold lw_vh at he2
    split at he2
    case h_2 => cases he2
    rename_i pc2 cut2 idx len2 mi na rc mc ms ql qc qi qs qn heq
    cases heq
    simp only [Bool.and_eq_true, decide_eq_true_eq] at he2
    obtain ⟨⟨⟨⟨⟨⟨⟨⟨⟨⟨⟨⟨⟨⟨⟨v1, v2⟩, v3⟩, v4⟩, v5⟩, v6⟩, v7⟩, v8⟩, v9⟩, v10⟩, v11⟩, v12⟩, v13⟩, v14⟩, v15⟩, v16⟩ := he2
    subst v14
    subst v2
    dsimp only [jm_st] at hw
    obtain ⟨cs, r, rfl, hn, h4, hc, hs, post, hM, hcr⟩ := jm_tk_ok _ _ _ _ hw
    rw [List.append_nil] at hM
    have hh := lw_callS (Q := Q) (below := below) (e := e) X hX he (as := cs.reverse) (r := r) (L := L) (by rw [List.length_reverse]; exact hn) h4 hc hs hM (fun y h' hp => k0 _ _ _ _ _ (hcr y h' hp))
    rw [List.reverse_reverse] at hh
    exact hh
  · rw [Bool.and_eq_true] at he
    obtain ⟨pc, cut, i, len, x, q⟩ := e'
    have hm : lw_hm x = false := by
      have h1 := he.2
      simpa using h1
    exact jm_st_ok X gTT hyn hEnd he.1 (lw_cal hm hw) k0 kt
theorem lw_fromL (X : jm_X gG B p s m #[Value.ref b] meth c "CraneSiteLaw" cL_law 7) (hX : XW s) (hyn : meth.name = "law") {Q : State → Prop} (hEnd : jm_Ends p l e room_1 s m #[Value.ref b] below meth c Q gG B 7 cL_law lw_Kr (fun _ _ _ _ => False)) {Kc : Nat → List (Option jm_V) → List jm_V → jm_H → Nat → Nat → Prop}
    (hK : ∀ pc L st h ce sl, Kc pc L st h ce sl → jm_J p l e room_1 s m #[Value.ref b] below meth c Q gG B 7 pc L st h ce sl) {n j : Nat} {e1 : jm_I} {r1 : List jm_I} {L : List (Option jm_V)} {st : List jm_V} {h : jm_H} {ce sl : Nat} (hj : jm_drop j t_Law_law = e1 :: r1) (hw : jm_QG1 B (CalL B l) 601024 7293034 lw_Kr Kc t_Law_law n j L st h ce sl) : jm_J p l e room_1 s m #[Value.ref b] below meth c Q gG B 7 e1.1 L st h ce sl := by
  have hv2 := lw_all
  rw [List.all_eq_true] at hv2
  have h2 := lx_ok (p := p) (l := l) (e := e) (R := room_1) (s := s) (m := m) (args := #[Value.ref b]) (below := below) (meth := meth) (c := c) (B := B) (nL := 7) (Q := Q) (G := gG) (Cal := CalL B l) (Kr := lw_Kr) (Kc := Kc) hv2.1 (fun e' he L st h ce sl kk hw k0 kt => lw_stp X hX hyn hEnd (hv2.2 e' he) L st h ce sl kk hw k0 kt) hK n j _ L st h ce sl hj (by
      unfold jm_QG1 at hw
      rw [hj] at hw
      exact hw)
  exact h2
end
theorem lw_entry {B : jm_B} {l : Launch} {ac b Ln : Nat} {ys : Nat → Int} {h0 : jm_H} (hn : jm_n h0 = ac) (hs : ∀ i, i < 4 → B.2.2 i < ac ∧ jm_k h0 (B.2.2 i) = some (.inr (1, 3)) ∧ ∀ j, j < 3 → jm_i h0 (B.2.2 i) j = Int32.ofInt (if i % 2 = 0 then KP j else AS j)) (hb : b < ac ∧ jm_k h0 b = some (.inr (1, Ln)) ∧ ∀ j, j < Ln → jm_i h0 b j = Int32.ofInt (ys j)) :
    ∃ n, jm_QG B (CalL B l) 601024 7293034 lw_Kr (fun pc L st h' ce sl => ∃ k', Iv_law B ac b Ln ys k' pc L st h' ce sl) t_Law_law n 0 [some (.inr (.inl (some b))), none, none, none, none, none, none] [] h0 0 0 := by
  refine ⟨14, ?_⟩
  rw [x_Law_law_0, hn, cn_start hn]
  refine ⟨by omega, by omega, ?_⟩
  rw [x_Law_law_1b, x_Law_law_2]
  refine ⟨by trivial, trivial, by omega, by omega, _, CalL_m (by decide) (kc_Site B l h0 ac), ?_⟩
  rintro h1 rfl
  rw [x_Law_law_3, x_Law_law_4, show jm_n (cn_ h0 ac 65 (stage ac (cP 3)) (iP 3)) = ac + 65 from cn_n]
  refine ⟨by omega, by omega, ?_⟩
  rw [x_Law_law_5b, x_Law_law_6]
  refine ⟨by trivial, trivial, by omega, by omega, _, CalL_m (by decide) (m_init B l _ (ac + 65) (kk_nws rfl) rfl (fun j => ri_nws rfl)), ?_⟩
  intro h2 hN
  have e0 : jm_n h2 = ac + 96 := by rw [hN.1]
  rw [x_Law_law_7, x_Law_law_8, x_Law_law_9]
  refine ⟨by decide, by decide, by omega, by decide, ?_⟩
  rw [show (Int32.ofInt 1).toNatClampNeg = 1 by decide, e0, x_Law_law_10, x_Law_law_11, x_Law_law_12, z_Law_law_13]
  obtain ⟨e1, e2, e3⟩ := lw_init (B := B) hn hN hs hb
  exact ⟨(3100 - (0 : Int)).toNat, rfl, 0, 0, none, none, jm_nw h2 (.inr (2, 1)), K0, stage ac (cP 3), _, _, _, _, 97, 1961, rfl, rfl, e1, rfl, rfl, rfl, e2, e3, ⟨by omega, by omega, by omega⟩, by omega, by omega⟩
theorem lw_run {p : Program} {l : Launch} {e : Env} {s : State} {m : MethodId} {below : List Frame} {meth : Method} {c : Code} {b Ln : Nat} {B : jm_B} {ys : Nat → Int} {h0 : jm_H} (hl0 : l.stackTraces = false) (hLn : Ln ≤ 3072) (hys : ∀ j, -2147483648 ≤ ys j ∧ ys j < 2147483648) (X : jm_X gG B p s m #[Value.ref b] meth c "CraneSiteLaw" cL_law 7) (hX : XW s) (hyn : meth.name = "law") (hr : meth.sig.returnType = ret) (hB : B.2.1 = s.heap.size) (hP : jm_P gG B s h0 s.heap)
    (hs : ∀ i, i < 4 → B.2.2 i < s.heap.size ∧ jm_k h0 (B.2.2 i) = some (.inr (1, 3)) ∧ ∀ j, j < 3 → jm_i h0 (B.2.2 i) j = Int32.ofInt (if i % 2 = 0 then KP j else AS j)) (hb : b < s.heap.size ∧ jm_k h0 b = some (.inr (1, Ln)) ∧ ∀ j, j < Ln → jm_i h0 b j = Int32.ofInt (ys j)) :
    W p l e room_1 s m #[Value.ref b] below meth c s.heap [] 0 0 (lw_Z below #[Value.ref b] s) (entryFrame m ([Value.ref b] : List Value).toArray 7) := by
  have hEnd := lw_end (l := l) (e := e) (below := below) X hB hr
  have hJ : ∀ k pc L st h ce sl, Iv_law B s.heap.size b Ln ys k pc L st h ce sl → jm_J p l e room_1 s m #[Value.ref b] below meth c (lw_Z below #[Value.ref b] s) gG B 7 pc L st h ce sl := by
    intro k
    induction k using Nat.strongRecOn with
    | _ k ih =>
      intro pc L st h ce sl hI
      obtain ⟨rfl, n, hq⟩ := lw_loop hl0 hLn hys k pc L st h ce sl hI
      exact lw_fromL X hX hyn hEnd (fun pc L st h ce sl ⟨k', hk', hi⟩ => ih k' hk' pc L st h ce sl hi) (show jm_drop 13 t_Law_law = (23, true, .iload 4, 2, [], []) :: jm_drop (13 + 1) t_Law_law from rfl) hq
  obtain ⟨n, hq⟩ := lw_entry (l := l) hP.1.symm hs hb
  have h1 := lw_fromL X hX hyn hEnd (fun pc L st h ce sl ⟨k', hi⟩ => hJ k' pc L st h ce sl hi) (show jm_drop 0 t_Law_law = (0, false, .new 8, 3, [7, 5], [52]) :: jm_drop (0 + 1) t_Law_law from rfl) (QG_1 (show jm_drop 0 t_Law_law = (0, false, .new 8, 3, [7, 5], [52]) :: jm_drop (0 + 1) t_Law_law from rfl) rfl hq)
  rw [lg_entry_eq]
  exact h1 s.heap [] _ hP (jm_en_L 7 [.inr (.inl (some b))] rfl (Nat.le_of_ble_eq_true rfl)) va_S.rf
