/-! methods that throw, and those that catch -/
abbrev nIA : String := "java/lang/IllegalArgumentException"
abbrev nIS : String := "java/lang/IllegalStateException"
abbrev nRs : List String := ["java/lang/RuntimeException", "java/lang/Exception"]
/-- what the helper answers for it: 1 or 2 -/
def jm_en2 (k : Nat) : String := if k = 1 then nIA else nIS
def XW (U : State) : Prop := va_Nw (.declares (Bundle.init0 "java/lang/RuntimeException")) U ∧ va_Nw (.declares (Bundle.init0 "java/lang/Exception")) U ∧ va_Nw (.declares (Bundle.init0 Bundle.tN)) U ∧ va_Nw (.castable nIA nIA) U ∧ va_Nw (.castable nIS nIS) U ∧ va_Nc nIS nIA U
theorem XW.to {s U : State} (hW : s.WarmedH U.vm) (h : XW s) : XW U :=
  ⟨va_Nw.warmD hW h.1, va_Nw.warmD hW h.2.1, va_Nw.warmD hW h.2.2.1, va_Nw.warmC hW h.2.2.2.1, va_Nw.warmC hW h.2.2.2.2.1, va_Nc.moved hW.alike h.2.2.2.2.2⟩
theorem XW.same {s U : State} (hvm : s.vm = U.vm) (h : XW s) : XW U :=
  ⟨va_Nw.same rfl hvm h.1, va_Nw.same rfl hvm h.2.1, va_Nw.same rfl hvm h.2.2.1, va_Nw.same rfl hvm h.2.2.2.1, va_Nw.same rfl hvm h.2.2.2.2.1, va_Nc.moved (by rw [← hvm]; exact Vm.Alike.refl s.vm) h.2.2.2.2.2⟩
/-- the same picture, more cells -/
def jm_xn (h : jm_H) (n : Nat) : jm_H := (h.1, h.2.1, h.2.2.1, h.2.2.2.1, n)
theorem jm_P.xn {G : jm_T} {B : jm_B} {U U' : State} {h : jm_H} {H H' : Heap} (hP : jm_P G B U h H) (hvm : U.vm.Alike U'.vm) (hq : ∀ q : Nat, q < H.size → H'[q]? = H[q]?) : jm_P G B U' (jm_xn h H'.size) H' :=
  ⟨rfl, fun a => (hP.2 a).kept hvm rfl (fun t j => by unfold jm_g; rfl) (fun hn => hq a ((hP.2 a).lt hn))⟩
def jm_Px (B : jm_B) (as : List jm_V) (h : jm_H) : Array Value → State → Prop := va_Pc (as.map jm_v) (fun U => (jm_E gG B U ∧ XW U) ∧ jm_P gG B U h U.heap)
def jm_XC (B : jm_B) (h : jm_H) (E : String) : String → State → State → Prop := fun E' st t => E' = E ∧ (∃ n, jm_n h ≤ n ∧ jm_P gG B t (jm_xn h n) t.heap) ∧ va_F (jm_A B) st t
/-- the method throws E, whatever else -/
def jm_Cx (B : jm_B) (l : Launch) (M : jm_M) (as : List jm_V) (h : jm_H) (k : Nat) : Prop :=
  vx_Met l M.1 (jm_ws gG M) (jm_rm M) (jm_Px B as h) (fun _ _ _ _ => False) (jm_XC B h (jm_en2 k)) M.2.2.2.2.2.2.1 M.2.2.2.2.2.2.2 (jm_A B)
def jm_thr (k : Nat) : Nat × Nat := if k = 1 then (43, 45) else (50, 52)
theorem tw_good (k : Nat) (hk : k = 1 ∨ k = 2) : ∀ w ∈ (vx_at0 "CraneSite" (jm_thr k).2 (jm_en2 k) nRs).filter goodWord, w ∈ jm_Ts gG := by
  have key : ∀ k, k = 1 ∨ k = 2 → ((vx_at0 "CraneSite" (jm_thr k).2 (jm_en2 k) nRs).filter goodWord).all (fun w => decide (w ∈ gG.2.2.1)) = true := by
    rintro k (rfl | rfl)
    · decide +kernel
    · decide +kernel
  intro w hw
  have h1 := List.all_eq_true.mp (key k hk) w hw
  exact List.mem_filter.mpr ⟨by simpa using h1, (List.mem_filter.mp hw).2⟩
theorem tw_rest (k : Nat) (hk : k = 1 ∨ k = 2) : ∀ w ∈ (vx_at0 "CraneSite" (jm_thr k).2 (jm_en2 k) nRs).filter (fun w => !goodWord w), w ∈ [Cond.declares (Bundle.init0 "java/lang/RuntimeException"), .declares (Bundle.init0 "java/lang/Exception"), .declares (Bundle.init0 Bundle.tN), .castable (jm_en2 k) (jm_en2 k)] := by
  have key : ∀ k, k = 1 ∨ k = 2 → ((vx_at0 "CraneSite" (jm_thr k).2 (jm_en2 k) nRs).filter (fun w => !goodWord w)).all (fun w => decide (w ∈ [Cond.declares (Bundle.init0 "java/lang/RuntimeException"), .declares (Bundle.init0 "java/lang/Exception"), .declares (Bundle.init0 Bundle.tN), .castable (jm_en2 k) (jm_en2 k)])) = true := by
    rintro k (rfl | rfl)
    · decide +kernel
    · decide +kernel
  intro w hw
  have h1 := List.all_eq_true.mp (key k hk) w hw
  simpa using h1
theorem tw_ot (k : Nat) (hk : k = 1 ∨ k = 2) : ∀ w ∈ Cond.classLink "CraneSite" (jm_thr k).1 (jm_en2 k) :: Cond.initialized (jm_en2 k) :: vx_at0 "CraneSite" (jm_thr k).2 (jm_en2 k) nRs, vx_ot w = true := by
  have key : ∀ k, k = 1 ∨ k = 2 → (Cond.classLink "CraneSite" (jm_thr k).1 (jm_en2 k) :: Cond.initialized (jm_en2 k) :: vx_at0 "CraneSite" (jm_thr k).2 (jm_en2 k) nRs).all vx_ot = true := by
    rintro k (rfl | rfl)
    · decide +kernel
    · decide +kernel
  exact fun w hw => List.all_eq_true.mp (key k hk) w hw
theorem tw_link (k : Nat) (hk : k = 1 ∨ k = 2) : Cond.classLink "CraneSite" (jm_thr k).1 (jm_en2 k) ∈ jm_Ts gG ∧ Cond.initialized (jm_en2 k) ∈ jm_Ts gG := by
  have key : ∀ k, k = 1 ∨ k = 2 → (decide (Cond.classLink "CraneSite" (jm_thr k).1 (jm_en2 k) ∈ gG.2.2.1) && goodWord (Cond.classLink "CraneSite" (jm_thr k).1 (jm_en2 k)) && decide (Cond.initialized (jm_en2 k) ∈ gG.2.2.1) && goodWord (Cond.initialized (jm_en2 k))) = true := by
    rintro k (rfl | rfl)
    · decide +kernel
    · decide +kernel
  have h := key k hk
  simp only [Bool.and_eq_true, decide_eq_true_eq] at h
  exact ⟨List.mem_filter.mpr ⟨h.1.1.1, h.1.1.2⟩, List.mem_filter.mpr ⟨h.1.2, h.2⟩⟩
theorem tw_cast {k : Nat} (hk : k = 1 ∨ k = 2) {s : State} (h : XW s) : va_Nw (.castable (jm_en2 k) (jm_en2 k)) s := by
  rcases hk with rfl | rfl
  · exact h.2.2.2.1
  · exact h.2.2.2.2.1
section
variable {p : Program} {l : Launch} {e : Env} {R : Room} {s : State} {m : MethodId} {args : Array Value} {below : List Frame} {meth : Method} {c : Code} {B : jm_B} {cc : ByteArray} {nL : Nat} {Q : State → Prop}
theorem lx_throw (X : jm_X gG B p s m args meth c "CraneSite" cc nL) (hX : XW s) (hl0 : l.stackTraces = false) {k pc : Nat} (hk : k = 1 ∨ k = 2) {L : List (Option jm_V)} {h : jm_H} {mc ms : Nat}
    (d0 : decode cc pc = .ok (.new (jm_thr k).1, 3)) (d3 : decode cc (pc + 3) = .ok (.dup, 1)) (d4 : decode cc (pc + 4) = .ok (.invokespecial (jm_thr k).2, 3)) (d7 : decode cc (pc + 7) = .ok (.athrow, 1))
    (hout : ∀ x ∈ c.exceptionTable.toList, False) (hf : 5 < R.frames) (hlo : 81 ≤ R.locals) (hc : 1 ≤ R.cells) (hs : 6 ≤ R.slots) (hmc : 1 ≤ mc) (hms : 6 ≤ ms) :
    jm_J p l e R s m args below meth c (vx_MQ below (fun _ _ _ _ => False) (jm_XC B h (jm_en2 k)) args s mc ms (jm_A B)) gG B nL pc L [] h 0 0 := by
  obtain ⟨hx, hb, hml, hown, hts, hE, hlk⟩ := X
  intro H locs ls hP hl hS
  refine vx_throw0 (own := "CraneSite") (cls := jm_en2 k) (names := nRs) (ik := (jm_thr k).1) (ic := (jm_thr k).2) (A := jm_A B) hx hb hl0 hown ?_ ?_ (hts _ (tw_link k hk).1) (hts _ (tw_link k hk).2) ?_ (tw_ot k hk) hE.2.2.2.2.1 hE.2.2.2.2.2.1 hS (hl.1.trans hml.symm) d0 d3 d4 d7 (fun x hx => (hout x hx).elim) (show 2 + 3 < R.frames from hf) (show 0 + (13 * (2 + 1) + 42) ≤ R.locals from hlo) (by omega) (by omega) hlk ?_ hS.2.2 (by omega) (by omega)
  · rcases hk with rfl | rfl
    · decide
    · decide
  · decide
  · exact vx_hat (fun w hw => hts w (tw_good k hk w hw)) (tw_rest k hk) (vx_c (va_Nw.use rfl hX.1) (vx_c (va_Nw.use rfl hX.2.1) (vx_c (va_Nw.use rfl hX.2.2.1) (vx_c (va_Nw.use rfl (tw_cast hk hX)) vx_n))))
  · intro t hvm hz hq
    refine ⟨rfl, ⟨t.heap.size, by rw [← hP.1]; exact hz, hP.xn hvm hq⟩, Nat.le_trans hS.1 hz, fun q h1 h2 => ?_⟩
    rw [hq q (Nat.lt_of_lt_of_le h1 hS.1)]
    exact hS.2.1 q h1 h2
/-- instructions one after another, whatever calls mean -/
theorem lx_ok {Cal : Nat → List jm_V → jm_H → (jm_V → jm_H → Prop) → Prop} {G : jm_T} {code : List jm_I} {Kr : jm_V → jm_H → Nat → Nat → Prop} {Kc : Nat → List (Option jm_V) → List jm_V → jm_H → Nat → Nat → Prop} (hch : jm_chain code = true)
    (hst : ∀ e' ∈ code, ∀ (L : List (Option jm_V)) (st : List jm_V) (h : jm_H) (ce sl : Nat) (k : Option Nat → List (Option jm_V) → List jm_V → jm_H → Nat → Nat → Prop), jm_st B R.cells R.slots Cal Kr (fun _ _ _ _ => False) e'.2.2.1 e'.2.2.2.2.1 L st h ce sl k → (∀ L st h ce sl, k none L st h ce sl → jm_J p l e R s m args below meth c Q G B nL (e'.1 + e'.2.2.2.1) L st h ce sl) → (∀ t e2 r L st h ce sl, jm_drop t code = e2 :: r → k (some t) L st h ce sl → jm_J p l e R s m args below meth c Q G B nL e2.1 L st h ce sl) → jm_J p l e R s m args below meth c Q G B nL e'.1 L st h ce sl)
    (hK : ∀ pc L st h ce sl, Kc pc L st h ce sl → jm_J p l e R s m args below meth c Q G B nL pc L st h ce sl) : ∀ (n j : Nat) (cs : List jm_I) (L : List (Option jm_V)) (st : List jm_V) (h : jm_H) (ce sl : Nat), jm_drop j code = cs → jm_wp B R.cells R.slots Cal Kr (fun _ _ _ _ => False) Kc code n cs L st h ce sl → jm_Jc p l e R s m args below meth c Q G B nL cs L st h ce sl := by
  intro n
  induction n with
  | zero => intro j cs L st h ce sl hj hw; exact hw.elim
  | succ n ih =>
    intro j cs L st h ce sl hj hw
    cases cs with
    | nil => exact trivial
    | cons e' cs =>
      have hgo : ∀ (j' : Nat) (cs' : List jm_I) (L : List (Option jm_V)) (st : List jm_V) (h : jm_H) (ce sl : Nat) (e1 : jm_I) (r1 : List jm_I), jm_drop j' code = cs' → cs' = e1 :: r1 → jm_go Kc (jm_wp B R.cells R.slots Cal Kr (fun _ _ _ _ => False) Kc code n) cs' L st h ce sl → jm_J p l e R s m args below meth c Q G B nL e1.1 L st h ce sl := by
        intro j' cs' L st h ce sl e1 r1 hj' he hg
        subst he
        obtain ⟨pc1, cut1, rest1⟩ := e1
        cases cut1 with
        | true => exact hK pc1 L st h ce sl hg
        | false => exact ih j' _ L st h ce sl hj' hg
      have hm := hst e' (jm_drop_mem j code cs e' hj)
      obtain ⟨pc, cut, i, len, x, q⟩ := e'
      refine hm L st h ce sl _ hw ?_ ?_
      · intro L st h ce sl hg
        cases cs with
        | nil => exact hg.elim
        | cons e2 cs =>
          have hch2 := jm_drop_chain j code cs _ _ hch hj
          show jm_J p l e R s m args below meth c Q G B nL (pc + len) L st h ce sl
          rw [show pc + len = e2.1 from hch2]
          exact hgo (j + 1) _ L st h ce sl e2 cs (jm_drop_succ j code _ _ hj) rfl hg
      · intro t e2 r L st h ce sl hd hg
        have hg' : jm_go Kc (jm_wp B R.cells R.slots Cal Kr (fun _ _ _ _ => False) Kc code n) (jm_drop t code) L st h ce sl := hg
        exact hgo t _ L st h ce sl e2 r rfl hd hg'
end
/-- a method that throws k -/
theorem jm_CX {B : jm_B} {l : Launch} {M : jm_M} {code : List jm_I} {as : List jm_V} {h : jm_H} {k pcx : Nat} {i : Instr} {len : Nat} {x q : List Nat} {cs : List jm_I} (hl0 : l.stackTraces = false) (hk : k = 1 ∨ k = 2) (hy : plainName M.1.cls = true) (hcl : M.1.cls = "CraneSite") (hv : jm_vc gG gm M.1.cls M.1.name M.2.1 (jm_rm M) M.2.2.1 code = true) (hc : jm_c1 as = true) (hn : as.length ≤ M.2.2.1) (L0 : List (Option jm_V)) (hL0 : jm_en M.2.2.1 as = L0) (h0 : jm_drop 0 code = (0, false, i, len, x, q) :: cs)
    (hR : 5 < M.2.2.2.2.1 ∧ 81 ≤ M.2.2.2.2.2.1 ∧ 1 ≤ M.2.2.2.2.2.2.1 ∧ 6 ≤ M.2.2.2.2.2.2.2) (hd : decode M.2.1 pcx = .ok (.new (jm_thr k).1, 3) ∧ decode M.2.1 (pcx + 3) = .ok (.dup, 1) ∧ decode M.2.1 (pcx + 4) = .ok (.invokespecial (jm_thr k).2, 3) ∧ decode M.2.1 (pcx + 7) = .ok (.athrow, 1))
    (hw : ∃ n, jm_QG B (fun mi as h post => jm_Ct gG B l (gm mi) as h post) M.2.2.2.2.2.2.1 M.2.2.2.2.2.2.2 (fun _ _ _ _ => False) (fun pc _ st h' ce sl => pc = pcx ∧ st = [] ∧ h' = h ∧ ce = 0 ∧ sl = 0) code n 0 L0 [] h 0 0) : jm_Cx B l M as h k := by
  subst hL0
  refine vx_ofW hy rfl ?_
  intro p e s m args below meth c s₁ Bd hml hout hp
  obtain ⟨rfl, ⟨hE, hX⟩, hP⟩ := hp
  have hts := atoms_spec (ws := jm_ws gG M) Bd.pre
  have X : jm_X gG B p s m (as.map jm_v).toArray meth c M.1.cls M.2.1 M.2.2.1 := ⟨Bd.exec, Bd.bytes, hml, findClass_of_methodNamed Bd.named, fun w h => hts w (List.mem_cons_of_mem _ h), hE, Bd.notSynchronized⟩
  have hyn : meth.name = M.1.name := (name_of_methodNamed Bd.named Bd.method).1
  have hv2 := hv
  simp only [jm_vc, Bool.and_eq_true, List.all_eq_true] at hv2
  obtain ⟨n, hw⟩ := hw
  have X2 : jm_X gG B p s m (as.map jm_v).toArray meth c "CraneSite" M.2.1 M.2.2.1 := by rw [hcl] at X; exact X
  have hEnd : jm_Ends p l e (jm_rm M) s m (as.map jm_v).toArray below meth c (vx_MQ below (fun _ _ _ _ => False) (jm_XC B h (jm_en2 k)) (as.map jm_v).toArray s M.2.2.2.2.2.2.1 M.2.2.2.2.2.2.2 (jm_A B)) gG B M.2.2.1 M.2.1 (fun _ _ _ _ => False) (fun _ _ _ _ => False) :=
    ⟨fun _ _ _ _ _ _ _ q => q.elim, fun _ _ _ _ _ _ _ q => q.elim, fun _ _ _ _ _ _ q => q.elim, fun _ _ _ _ _ _ _ _ _ _ _ _ _ q => q.elim⟩
  have hJ := lx_ok (p := p) (l := l) (e := e) (R := jm_rm M) (s := s) (m := m) (args := (as.map jm_v).toArray) (below := below) (meth := meth) (c := c) (B := B) (nL := M.2.2.1) (Q := vx_MQ below (fun _ _ _ _ => False) (jm_XC B h (jm_en2 k)) (as.map jm_v).toArray s M.2.2.2.2.2.2.1 M.2.2.2.2.2.2.2 (jm_A B)) (G := gG) (Kr := fun _ _ _ _ => False) hv2.1
    (fun e' he L st h ce sl kk hw k0 kt => by
      obtain ⟨pc, cut, i, len, x, q⟩ := e'
      exact jm_st_ok X gTT hyn hEnd (hv2.2 _ he) hw k0 kt)
    (Kc := fun pc _ st h' ce sl => pc = pcx ∧ st = [] ∧ h' = h ∧ ce = 0 ∧ sl = 0)
    (fun pc L st h' ce sl hk2 => by
      obtain ⟨rfl, rfl, rfl, rfl, rfl⟩ := hk2
      exact lx_throw X2 hX hl0 hk hd.1 hd.2.1 hd.2.2.1 hd.2.2.2 hout hR.1 hR.2.1 hR.2.2.1 hR.2.2.2 hR.2.2.1 hR.2.2.2) n 0 code (jm_en M.2.2.1 as) [] h 0 0 rfl (by
      have hc0 : code = (0, false, i, len, x, q) :: cs := h0
      unfold jm_QG at hw
      rw [h0] at hw
      have hw' : jm_wp B M.2.2.2.2.2.2.1 M.2.2.2.2.2.2.2 (fun mi as h post => jm_Ct gG B l (gm mi) as h post) (fun _ _ _ _ => False) (fun _ _ _ _ => False) (fun pc _ st h' ce sl => pc = pcx ∧ st = [] ∧ h' = h ∧ ce = 0 ∧ sl = 0) code n ((0, false, i, len, x, q) :: cs) (jm_en M.2.2.1 as) [] h 0 0 := hw
      rw [← hc0] at hw'
      exact hw')
  have hc0 : code = (0, false, i, len, x, q) :: cs := h0
  rw [hc0] at hJ
  have h1 : jm_J p l e (jm_rm M) s m (as.map jm_v).toArray below meth c (vx_MQ below (fun _ _ _ _ => False) (jm_XC B h (jm_en2 k)) (as.map jm_v).toArray s M.2.2.2.2.2.2.1 M.2.2.2.2.2.2.2 (jm_A B)) gG B M.2.2.1 0 (jm_en M.2.2.1 as) [] h 0 0 := hJ
  rw [lg_entry_eq]
  exact h1 s.heap [] _ hP (jm_en_L _ as hc hn) va_S.rf
