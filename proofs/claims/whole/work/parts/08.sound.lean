theorem jm_ii_ok {st : List jm_V} {K : Int32 → Int32 → List jm_V → Prop} (h : jm_ii st K) : ∃ x y r, st = .inl y :: .inl x :: r ∧ K x y r := by
  unfold jm_ii at h
  split at h
  · exact ⟨_, _, _, rfl, h⟩
  · exact h.elim
theorem jm_i1_ok {st : List jm_V} {K : Int32 → List jm_V → Prop} (h : jm_i1 st K) : ∃ x r, st = .inl x :: r ∧ K x r := by
  unfold jm_i1 at h
  split at h
  · exact ⟨_, _, rfl, h⟩
  · exact h.elim
theorem jm_ll_ok {st : List jm_V} {K : Int64 → Int64 → List jm_V → Prop} (h : jm_ll st K) : ∃ x y r, st = .inr (.inr y) :: .inr (.inr x) :: r ∧ K x y r := by
  unfold jm_ll at h
  split at h
  · exact ⟨_, _, _, rfl, h⟩
  · exact h.elim
theorem jm_r1_ok {st : List jm_V} {K : Option Nat → List jm_V → Prop} (h : jm_r1 st K) : ∃ x r, st = .inr (.inl x) :: r ∧ K x r := by
  unfold jm_r1 at h
  split at h
  · exact ⟨_, _, rfl, h⟩
  · exact h.elim
theorem jm_v1_ok {st : List jm_V} {K : jm_V → List jm_V → Prop} (h : jm_v1 st K) : ∃ v r, st = v :: r ∧ (jm_v v).category = 1 ∧ K v r := by
  unfold jm_v1 at h
  split at h
  · exact ⟨_, _, rfl, rfl, h⟩
  · rename_i o r
    exact ⟨_, _, rfl, (by cases o <;> rfl), h⟩
  · exact h.elim
theorem jm_vr_ok {st : List jm_V} {K : jm_V → Option Nat → List jm_V → Prop} (h : jm_vr st K) : ∃ v o r, st = v :: .inr (.inl o) :: r ∧ K v o r := by
  unfold jm_vr at h
  split at h
  · exact ⟨_, _, _, rfl, h⟩
  · exact h.elim
theorem jm_ix_ok {st : List jm_V} {K : Int32 → Option Nat → List jm_V → Prop} (h : jm_ix st K) : ∃ i o r, st = .inl i :: .inr (.inl o) :: r ∧ K i o r := by
  unfold jm_ix at h
  split at h
  · exact ⟨_, _, _, rfl, h⟩
  · exact h.elim
theorem jm_vx_ok {st : List jm_V} {K : jm_V → Int32 → Option Nat → List jm_V → Prop} (h : jm_vx st K) : ∃ v i o r, st = v :: .inl i :: .inr (.inl o) :: r ∧ K v i o r := by
  unfold jm_vx at h
  split at h
  · exact ⟨_, _, _, _, rfl, h⟩
  · exact h.elim
theorem jm_so_ok {o : Option Nat} {K : Nat → Prop} (h : jm_so o K) : ∃ a, o = some a ∧ K a := by
  unfold jm_so at h
  split at h
  · exact ⟨_, rfl, h⟩
  · exact h.elim
theorem jm_vi_ok {v : jm_V} {K : Int32 → Prop} (h : jm_vi v K) : ∃ a, v = .inl a ∧ K a := by
  unfold jm_vi at h
  split at h
  · exact ⟨_, rfl, h⟩
  · exact h.elim
theorem jm_vl_ok {v : jm_V} {K : Int64 → Prop} (h : jm_vl v K) : ∃ a, v = .inr (.inr a) ∧ K a := by
  unfold jm_vl at h
  split at h
  · exact ⟨_, rfl, h⟩
  · exact h.elim
theorem jm_vo_ok {v : jm_V} {K : Option Nat → Prop} (h : jm_vo v K) : ∃ a, v = .inr (.inl a) ∧ K a := by
  unfold jm_vo at h
  split at h
  · exact ⟨_, rfl, h⟩
  · exact h.elim
theorem jm_li_ok {L : List (Option jm_V)} {i : Nat} {K : Int32 → Prop} (h : jm_li L i K) : ∃ a, jm_nth L i = some (some (.inl a)) ∧ K a := by
  unfold jm_li at h
  split at h
  · rename_i e; exact ⟨_, e, h⟩
  · exact h.elim
theorem jm_lr_ok {L : List (Option jm_V)} {i : Nat} {K : Option Nat → Prop} (h : jm_lr L i K) : ∃ a, jm_nth L i = some (some (.inr (.inl a))) ∧ K a := by
  unfold jm_lr at h
  split at h
  · rename_i e; exact ⟨_, e, h⟩
  · exact h.elim
theorem jm_ia_ok {kd : jm_K} {K : Nat → Prop} (h : jm_ia kd K) : ∃ t n, (t = 0 ∨ t = 1) ∧ kd = some (.inr (t, n)) ∧ K n := by
  unfold jm_ia at h
  split at h
  · exact ⟨_, _, Or.inl rfl, rfl, h⟩
  · exact ⟨_, _, Or.inr rfl, rfl, h⟩
  · exact h.elim
theorem jm_na_ok {t : Nat} {kd : jm_K} {K : Nat → Prop} (h : jm_na t kd K) : ∃ n, kd = some (.inr (t, n)) ∧ K n := by
  unfold jm_na at h
  split at h
  · exact ⟨_, by rw [h.1], h.2⟩
  · exact h.elim
theorem jm_qa_ok {kd : jm_K} {K : Nat → Nat → Prop} (h : jm_qa kd K) : ∃ t n, kd = some (.inr (t + 4, n)) ∧ K t n := by
  unfold jm_qa at h
  split at h
  · exact ⟨_, _, rfl, h⟩
  · exact h.elim
theorem jm_aa_ok {kd : jm_K} {K : Nat → Prop} (h : jm_aa kd K) : ∃ t n, kd = some (.inr (t, n)) ∧ K n := by
  unfold jm_aa at h
  split at h
  · exact ⟨_, _, rfl, h⟩
  · exact h.elim
theorem jm_hd_ok {code : List jm_I} {t pc : Nat} {off : Int} (h : jm_hd code t pc off = true) : ∃ e r, jm_drop t code = e :: r ∧ (pc : Int) + off = (e.1 : Int) := by
  unfold jm_hd at h
  split at h
  · cases h
  · rename_i e r eq
    exact ⟨e, r, eq, of_decide_eq_true h⟩
theorem jm_ofInt_toInt {n : Int} (h0 : 0 ≤ n) (h : n < 2000) : (Int32.ofInt n).toInt = n := by
  rw [Int32.toInt_ofInt]
  have hz : ((Int32.size : Nat) : Int) = 4294967296 := rfl
  rw [Int.bmod_eq_of_le] <;> omega
/-- a switch: the branch that is taken -/
theorem jm_sw_ok {x : Int32} {code : List jm_I} {pc : Nat} {K : Nat → Prop} : ∀ (ts : List Nat) (os : List Int) (lo : Int), 0 ≤ lo → lo + ts.length < 2000 → jm_sv code pc ts os = true → jm_sw x lo ts K → (jm_sn x lo ts ∧ ¬ (lo ≤ x.toInt ∧ x.toInt < lo + ts.length)) ∨ ∃ (i : Nat) (off : Int) (e : jm_I) (r : List jm_I) (t : Nat), x.toInt = lo + i ∧ os[i]? = some off ∧ jm_drop t code = e :: r ∧ (pc : Int) + off = (e.1 : Int) ∧ K t := by
  intro ts
  induction ts with
  | nil => intro os lo h0 h1 h2 h3; exact Or.inl ⟨trivial, by intro q; have := q.2; simp at this; omega⟩
  | cons t ts ih =>
    intro os lo h0 h1 h2 h3
    cases os with
    | nil => cases h2
    | cons o os =>
      simp only [jm_sv, Bool.and_eq_true] at h2
      have hlen : (t :: ts).length = ts.length + 1 := rfl
      by_cases hx : x = Int32.ofInt lo
      · obtain ⟨e, r, he, hp⟩ := jm_hd_ok h2.1
        refine Or.inr ⟨0, o, e, r, t, ?_, rfl, he, hp, h3.1 hx⟩
        rw [hx, jm_ofInt_toInt h0 (by omega)]
        simp
      · rcases ih os (lo + 1) (by omega) (by rw [hlen] at h1; omega) h2.2 h3.2 with ⟨g1, g2⟩ | ⟨i, off, e, r, t', g1, g2, g3, g4, g5⟩
        · refine Or.inl ⟨⟨hx, g1⟩, ?_⟩
          intro hc
          have : x.toInt ≠ lo := fun q => hx (Int32.toInt_inj.mp (by rw [jm_ofInt_toInt h0 (by omega)]; exact q))
          rw [hlen] at hc
          omega
        · exact Or.inr ⟨i + 1, off, e, r, t', by rw [g1]; push_cast; omega, g2, g3, g4, g5⟩
section JO
variable {p : Program} {l : Launch} {e : Env} {R : Room} {s : State} {m : MethodId} {args : Array Value} {below : List Frame} {meth : Method} {c : Code} {Q : State → Prop} {G : jm_T} {B : jm_B} {own : String} {cc : ByteArray} {nL : Nat}
/-- what the ends of a method must be worth -/
def jm_Ends (p : Program) (l : Launch) (e : Env) (R : Room) (s : State) (m : MethodId) (args : Array Value) (below : List Frame) (meth : Method) (c : Code) (Q : State → Prop) (G : jm_T) (B : jm_B) (nL : Nat) (cc : ByteArray) (Kr : jm_V → jm_H → Nat → Nat → Prop) (Kx : Nat → jm_H → Nat → Nat → Prop) : Prop :=
  (∀ (y : Int32) (pc : Nat) (L : List (Option jm_V)) (h : jm_H) (ce sl : Nat), decode cc pc = .ok (.ireturn, 1) → Kr (.inl y) h ce sl → jm_J p l e R s m args below meth c Q G B nL pc L [.inl y] h ce sl) ∧
  (∀ (y : Option Nat) (pc : Nat) (L : List (Option jm_V)) (h : jm_H) (ce sl : Nat), decode cc pc = .ok (.areturn, 1) → Kr (.inr (.inl y)) h ce sl → jm_J p l e R s m args below meth c Q G B nL pc L [.inr (.inl y)] h ce sl) ∧
  (∀ (pc : Nat) (L : List (Option jm_V)) (h : jm_H) (ce sl : Nat), decode cc pc = .ok (.return_, 1) → Kr (.inr (.inr 0)) h ce sl → jm_J p l e R s m args below meth c Q G B nL pc L [] h ce sl) ∧
  (∀ (E ik ic pc : Nat) (L : List (Option jm_V)) (st : List jm_V) (h : jm_H) (ce sl : Nat), decode cc pc = .ok (.new ik, 3) → decode cc (pc + 3) = .ok (.dup, 1) → decode cc (pc + 4) = .ok (.invokespecial ic, 3) → decode cc (pc + 7) = .ok (.athrow, 1) → Kx E h ce sl → jm_J p l e R s m args below meth c Q G B nL pc L st h ce sl)
set_option maxHeartbeats 4000000 in
theorem jm_st_ok (X : jm_X G B p s m args meth c own cc nL) (hT : jm_TT G) {yn : String} (hyn : meth.name = yn) {mt : Nat → jm_M} {code : List jm_I} {Kr : jm_V → jm_H → Nat → Nat → Prop} {Kx : Nat → jm_H → Nat → Nat → Prop} (hEnd : jm_Ends p l e R s m args below meth c Q G B nL cc Kr Kx)
    {pc len : Nat} {cut : Bool} {i : Instr} {x q : List Nat} (hv : jm_ve G mt own yn cc R nL code (pc, cut, i, len, x, q) = true) {L : List (Option jm_V)} {st : List jm_V} {h : jm_H} {ce sl : Nat} {k : Option Nat → List (Option jm_V) → List jm_V → jm_H → Nat → Nat → Prop}
    (hw : jm_st B R.cells R.slots (fun mi as h post => jm_Ct G B l (mt mi) as h post) Kr Kx i x L st h ce sl k) (k0 : ∀ L st h ce sl, k none L st h ce sl → jm_J p l e R s m args below meth c Q G B nL (pc + len) L st h ce sl) (kt : ∀ t e' r L st h ce sl, jm_drop t code = e' :: r → k (some t) L st h ce sl → jm_J p l e R s m args below meth c Q G B nL e'.1 L st h ce sl) : jm_J p l e R s m args below meth c Q G B nL pc L st h ce sl := by
  obtain ⟨hx, hb, hml, hown, hts, hE, hlk⟩ := id X
  simp only [jm_ve, Bool.and_eq_true, decide_eq_true_eq] at hv
  obtain ⟨hd, hv⟩ := hv
  cases i with
  | iconst n =>
    dsimp only [jm_st] at hw
    simp only [decide_eq_true_eq] at hv
    subst hv
    exact fun H locs ls hP hl hS => lv_iconst hx hb hd rfl (k0 _ _ _ _ _ hw H locs ls hP hl hS)
  | bipush n =>
    dsimp only [jm_st] at hw
    simp only [Bool.and_eq_true, decide_eq_true_eq] at hv
    obtain ⟨rfl, hv⟩ := hv
    exact fun H locs ls hP hl hS => lv_bipush hx hb hd hv (k0 _ _ _ _ _ hw H locs ls hP hl hS)
  | sipush n =>
    dsimp only [jm_st] at hw
    simp only [Bool.and_eq_true, decide_eq_true_eq] at hv
    obtain ⟨rfl, hv⟩ := hv
    exact fun H locs ls hP hl hS => lv_sipush hx hb hd hv (k0 _ _ _ _ _ hw H locs ls hP hl hS)
  | aconst_null =>
    dsimp only [jm_st] at hw
    simp only [decide_eq_true_eq] at hv
    subst hv
    exact fun H locs ls hP hl hS => lv_null hx hb hd (k0 _ _ _ _ _ hw H locs ls hP hl hS)
  | iload_n j =>
    dsimp only [jm_st] at hw
    simp only [Bool.and_eq_true, decide_eq_true_eq] at hv
    obtain ⟨rfl, rfl⟩ := hv
    obtain ⟨a, hn, kk⟩ := jm_li_ok hw
    exact fun H locs ls hP hl hS => lv_iload_n hx hb hd rfl (hl.2.2 _ _ hn).1 (k0 _ _ _ _ _ kk H locs ls hP hl hS)
  | iload j =>
    dsimp only [jm_st] at hw
    simp only [decide_eq_true_eq] at hv
    subst hv
    obtain ⟨a, hn, kk⟩ := jm_li_ok hw
    exact fun H locs ls hP hl hS => lv_iload hx hb hd (hl.2.2 _ _ hn).1 (k0 _ _ _ _ _ kk H locs ls hP hl hS)
  | aload_n j =>
    dsimp only [jm_st] at hw
    simp only [Bool.and_eq_true, decide_eq_true_eq] at hv
    obtain ⟨rfl, rfl⟩ := hv
    obtain ⟨a, hn, kk⟩ := jm_lr_ok hw
    cases a with
    | none => exact fun H locs ls hP hl hS => lv_aload_nN hx hb hd rfl (hl.2.2 _ _ hn).1 (k0 _ _ _ _ _ kk H locs ls hP hl hS)
    | some a => exact fun H locs ls hP hl hS => lv_aload_n hx hb hd rfl (hl.2.2 _ _ hn).1 (k0 _ _ _ _ _ kk H locs ls hP hl hS)
  | aload j =>
    dsimp only [jm_st] at hw
    simp only [decide_eq_true_eq] at hv
    subst hv
    obtain ⟨a, hn, kk⟩ := jm_lr_ok hw
    cases a with
    | none => exact fun H locs ls hP hl hS => lv_aloadN hx hb hd (hl.2.2 _ _ hn).1 (k0 _ _ _ _ _ kk H locs ls hP hl hS)
    | some a => exact fun H locs ls hP hl hS => lv_aload hx hb hd (hl.2.2 _ _ hn).1 (k0 _ _ _ _ _ kk H locs ls hP hl hS)
  | istore_n j =>
    dsimp only [jm_st] at hw
    simp only [Bool.and_eq_true, decide_eq_true_eq] at hv
    obtain ⟨⟨rfl, hv⟩, rfl⟩ := hv
    obtain ⟨a, r, rfl, kk⟩ := jm_i1_ok hw
    exact fun H locs ls hP hl hS => lv_istore_n hx hb hd rfl hl.has hv rfl (fun ls' hl' => k0 _ _ _ _ _ kk H locs ls' hP (hl.set rfl hl') hS)
  | istore j =>
    dsimp only [jm_st] at hw
    simp only [Bool.and_eq_true, decide_eq_true_eq] at hv
    obtain ⟨rfl, hv⟩ := hv
    obtain ⟨a, r, rfl, kk⟩ := jm_i1_ok hw
    exact fun H locs ls hP hl hS => lv_istore hx hb hd hl.has hv rfl (fun ls' hl' => k0 _ _ _ _ _ kk H locs ls' hP (hl.set rfl hl') hS)
  | astore_n j =>
    dsimp only [jm_st] at hw
    simp only [Bool.and_eq_true, decide_eq_true_eq] at hv
    obtain ⟨⟨rfl, hv⟩, rfl⟩ := hv
    obtain ⟨a, r, rfl, kk⟩ := jm_r1_ok hw
    cases a with
    | none => exact fun H locs ls hP hl hS => lv_astore_nN hx hb hd rfl hl.has hv rfl (fun ls' hl' => k0 _ _ _ _ _ kk H locs ls' hP (hl.set rfl hl') hS)
    | some a => exact fun H locs ls hP hl hS => lv_astore_n hx hb hd rfl hl.has hv rfl (fun ls' hl' => k0 _ _ _ _ _ kk H locs ls' hP (hl.set rfl hl') hS)
  | astore j =>
    dsimp only [jm_st] at hw
    simp only [Bool.and_eq_true, decide_eq_true_eq] at hv
    obtain ⟨rfl, hv⟩ := hv
    obtain ⟨a, r, rfl, kk⟩ := jm_r1_ok hw
    cases a with
    | none => exact fun H locs ls hP hl hS => lv_astoreN hx hb hd hl.has hv rfl (fun ls' hl' => k0 _ _ _ _ _ kk H locs ls' hP (hl.set rfl hl') hS)
    | some a => exact fun H locs ls hP hl hS => lv_astore hx hb hd hl.has hv rfl (fun ls' hl' => k0 _ _ _ _ _ kk H locs ls' hP (hl.set rfl hl') hS)
  | iinc j n =>
    dsimp only [jm_st] at hw
    simp only [Bool.and_eq_true, decide_eq_true_eq] at hv
    obtain ⟨rfl, hv⟩ := hv
    obtain ⟨a, hn, kk⟩ := jm_li_ok hw
    intro H locs ls hP hl hS
    have hm := jm_al_in L 0 j _ hn
    rw [Nat.zero_add] at hm
    obtain ⟨ix, hix⟩ := List.getElem?_of_mem hm
    exact lv_iinc hx hb hd hl.has hix rfl hv rfl (fun ls' hl' => k0 _ _ _ _ _ kk H locs ls' hP (hl.set rfl hl') hS)
  | iadd =>
    dsimp only [jm_st] at hw
    simp only [decide_eq_true_eq] at hv
    subst hv
    obtain ⟨a, b, r, rfl, kk⟩ := jm_ii_ok hw
    exact fun H locs ls hP hl hS => lv_iadd hx hb hd (k0 _ _ _ _ _ kk H locs ls hP hl hS)
  | isub =>
    dsimp only [jm_st] at hw
    simp only [decide_eq_true_eq] at hv
    subst hv
    obtain ⟨a, b, r, rfl, kk⟩ := jm_ii_ok hw
    exact fun H locs ls hP hl hS => lv_isub hx hb hd (k0 _ _ _ _ _ kk H locs ls hP hl hS)
  | imul =>
    dsimp only [jm_st] at hw
    simp only [decide_eq_true_eq] at hv
    subst hv
    obtain ⟨a, b, r, rfl, kk⟩ := jm_ii_ok hw
    exact fun H locs ls hP hl hS => lv_imul hx hb hd (k0 _ _ _ _ _ kk H locs ls hP hl hS)
  | iand =>
    dsimp only [jm_st] at hw
    simp only [decide_eq_true_eq] at hv
    subst hv
    obtain ⟨a, b, r, rfl, kk⟩ := jm_ii_ok hw
    exact fun H locs ls hP hl hS => lv_iand hx hb hd (k0 _ _ _ _ _ kk H locs ls hP hl hS)
  | ior =>
    dsimp only [jm_st] at hw
    simp only [decide_eq_true_eq] at hv
    subst hv
    obtain ⟨a, b, r, rfl, kk⟩ := jm_ii_ok hw
    exact fun H locs ls hP hl hS => lv_ior hx hb hd (k0 _ _ _ _ _ kk H locs ls hP hl hS)
  | ixor =>
    dsimp only [jm_st] at hw
    simp only [decide_eq_true_eq] at hv
    subst hv
    obtain ⟨a, b, r, rfl, kk⟩ := jm_ii_ok hw
    exact fun H locs ls hP hl hS => lv_ixor hx hb hd (k0 _ _ _ _ _ kk H locs ls hP hl hS)
  | ishr =>
    dsimp only [jm_st] at hw
    simp only [decide_eq_true_eq] at hv
    subst hv
    obtain ⟨a, b, r, rfl, kk⟩ := jm_ii_ok hw
    exact fun H locs ls hP hl hS => lv_ishr hx hb hd (k0 _ _ _ _ _ kk H locs ls hP hl hS)
  | iushr =>
    dsimp only [jm_st] at hw
    simp only [decide_eq_true_eq] at hv
    subst hv
    obtain ⟨a, b, r, rfl, kk⟩ := jm_ii_ok hw
    exact fun H locs ls hP hl hS => lv_iushr hx hb hd rfl (k0 _ _ _ _ _ kk H locs ls hP hl hS)
  | idiv =>
    dsimp only [jm_st] at hw
    simp only [decide_eq_true_eq] at hv
    subst hv
    obtain ⟨a, b, r, rfl, hne, kk⟩ := jm_ii_ok hw
    exact fun H locs ls hP hl hS => lv_idiv hx hb hd hne (k0 _ _ _ _ _ kk H locs ls hP hl hS)
  | irem =>
    dsimp only [jm_st] at hw
    simp only [decide_eq_true_eq] at hv
    subst hv
    obtain ⟨a, b, r, rfl, hne, kk⟩ := jm_ii_ok hw
    exact fun H locs ls hP hl hS => lv_irem hx hb hd hne (k0 _ _ _ _ _ kk H locs ls hP hl hS)
  | ineg =>
    dsimp only [jm_st] at hw
    simp only [decide_eq_true_eq] at hv
    subst hv
    obtain ⟨a, r, rfl, kk⟩ := jm_i1_ok hw
    exact fun H locs ls hP hl hS => lv_ineg hx hb hd (k0 _ _ _ _ _ kk H locs ls hP hl hS)
  | i2l =>
    dsimp only [jm_st] at hw
    simp only [decide_eq_true_eq] at hv
    subst hv
    obtain ⟨a, r, rfl, kk⟩ := jm_i1_ok hw
    exact fun H locs ls hP hl hS => lv_i2l hx hb hd rfl (k0 _ _ _ _ _ kk H locs ls hP hl hS)
  | lcmp =>
    dsimp only [jm_st] at hw
    simp only [decide_eq_true_eq] at hv
    subst hv
    obtain ⟨a, b, r, rfl, kk⟩ := jm_ll_ok hw
    exact fun H locs ls hP hl hS => W.lcmp hx hb hd (k0 _ _ _ _ _ kk H locs ls hP hl hS)
  | dup =>
    dsimp only [jm_st] at hw
    simp only [decide_eq_true_eq] at hv
    subst hv
    obtain ⟨v, r, rfl, hc, kk⟩ := jm_v1_ok hw
    exact fun H locs ls hP hl hS => lv_dup hx hb hd hc (k0 _ _ _ _ _ kk H locs ls hP hl hS)
  | pop =>
    dsimp only [jm_st] at hw
    simp only [decide_eq_true_eq] at hv
    subst hv
    obtain ⟨v, r, rfl, hc, kk⟩ := jm_v1_ok hw
    exact fun H locs ls hP hl hS => lv_pop hx hb hd hc (k0 _ _ _ _ _ kk H locs ls hP hl hS)
  | dup2 =>
    dsimp only [jm_st] at hw
    simp only [decide_eq_true_eq] at hv
    subst hv
    obtain ⟨v, r, rfl, hc, kk⟩ := jm_v1_ok hw
    obtain ⟨w, r, rfl, hc2, kk⟩ := jm_v1_ok kk
    exact fun H locs ls hP hl hS => lv_dup2_11 hx hb hd hc hc2 (k0 _ _ _ _ _ kk H locs ls hP hl hS)
  | ifCond cd off =>
    dsimp only [jm_st] at hw
    simp only [Bool.and_eq_true, decide_eq_true_eq] at hv
    obtain ⟨rfl, hv⟩ := hv
    match x, hv, hw with
    | [t], hv, hw =>
      obtain ⟨e', r', he, ht⟩ := jm_hd_ok hv
      obtain ⟨a, r, rfl, kt', kf'⟩ := jm_i1_ok hw
      intro H locs ls hP hl hS
      cases cd
      · exact lv_if_eq hx hb hd ht (fun q => kt t e' r' _ _ _ _ _ he (kt' q) H locs ls hP hl hS) (fun q => k0 _ _ _ _ _ (kf' q) H locs ls hP hl hS)
      · exact lv_if_ne hx hb hd ht (fun q => kt t e' r' _ _ _ _ _ he (kt' q) H locs ls hP hl hS) (fun q => k0 _ _ _ _ _ (kf' (fun z => z q)) H locs ls hP hl hS)
      · exact lv_if_lt hx hb hd ht (fun q => kt t e' r' _ _ _ _ _ he (kt' q) H locs ls hP hl hS) (fun q => k0 _ _ _ _ _ (kf' q) H locs ls hP hl hS)
      · exact lv_if_ge hx hb hd ht (fun q => kt t e' r' _ _ _ _ _ he (kt' q) H locs ls hP hl hS) (fun q => k0 _ _ _ _ _ (kf' q) H locs ls hP hl hS)
      · exact lv_if_gt hx hb hd ht (fun q => kt t e' r' _ _ _ _ _ he (kt' q) H locs ls hP hl hS) (fun q => k0 _ _ _ _ _ (kf' q) H locs ls hP hl hS)
      · exact lv_if_le hx hb hd ht (fun q => kt t e' r' _ _ _ _ _ he (kt' q) H locs ls hP hl hS) (fun q => k0 _ _ _ _ _ (kf' q) H locs ls hP hl hS)
  | if_icmp cd off =>
    dsimp only [jm_st] at hw
    simp only [Bool.and_eq_true, decide_eq_true_eq] at hv
    obtain ⟨rfl, hv⟩ := hv
    match x, hv, hw with
    | [t], hv, hw =>
      obtain ⟨e', r', he, ht⟩ := jm_hd_ok hv
      obtain ⟨a, b, r, rfl, kt', kf'⟩ := jm_ii_ok hw
      intro H locs ls hP hl hS
      cases cd
      · exact lv_icmp_eq hx hb hd ht (fun q => kt t e' r' _ _ _ _ _ he (kt' q) H locs ls hP hl hS) (fun q => k0 _ _ _ _ _ (kf' q) H locs ls hP hl hS)
      · exact lv_icmp_ne hx hb hd ht (fun q => kt t e' r' _ _ _ _ _ he (kt' q) H locs ls hP hl hS) (fun q => k0 _ _ _ _ _ (kf' (fun z => z q)) H locs ls hP hl hS)
      · exact lv_icmp_lt hx hb hd ht (fun q => kt t e' r' _ _ _ _ _ he (kt' q) H locs ls hP hl hS) (fun q => k0 _ _ _ _ _ (kf' q) H locs ls hP hl hS)
      · exact lv_icmp_ge hx hb hd ht (fun q => kt t e' r' _ _ _ _ _ he (kt' q) H locs ls hP hl hS) (fun q => k0 _ _ _ _ _ (kf' q) H locs ls hP hl hS)
      · exact lv_icmp_gt hx hb hd ht (fun q => kt t e' r' _ _ _ _ _ he (kt' q) H locs ls hP hl hS) (fun q => k0 _ _ _ _ _ (kf' q) H locs ls hP hl hS)
      · exact lv_icmp_le hx hb hd ht (fun q => kt t e' r' _ _ _ _ _ he (kt' q) H locs ls hP hl hS) (fun q => k0 _ _ _ _ _ (kf' q) H locs ls hP hl hS)
  | ifnonnull off =>
    dsimp only [jm_st] at hw
    simp only [Bool.and_eq_true, decide_eq_true_eq] at hv
    obtain ⟨rfl, hv⟩ := hv
    match x, hv, hw with
    | [t], hv, hw =>
      obtain ⟨e', r', he, ht⟩ := jm_hd_ok hv
      obtain ⟨o, r, rfl, kt', kf'⟩ := jm_r1_ok hw
      intro H locs ls hP hl hS
      cases o with
      | none => exact lv_ifnonnullN hx hb hd (k0 _ _ _ _ _ (kf' rfl) H locs ls hP hl hS)
      | some o => exact lv_ifnonnull hx hb hd ht (kt t e' r' _ _ _ _ _ he (kt' (fun q => by cases q)) H locs ls hP hl hS)
  | goto off =>
    dsimp only [jm_st] at hw
    simp only [Bool.and_eq_true, decide_eq_true_eq] at hv
    obtain ⟨rfl, hv⟩ := hv
    match x, hv, hw with
    | [t], hv, hw =>
      obtain ⟨e', r', he, ht⟩ := jm_hd_ok hv
      exact fun H locs ls hP hl hS => lv_goto hx hb hd ht (kt t e' r' _ _ _ _ _ he hw H locs ls hP hl hS)
  | tableswitch dflt lo hi offs =>
    dsimp only [jm_st] at hw
    match x, hv, hw with
    | d :: ts, hv, hw =>
      simp only [Bool.and_eq_true, decide_eq_true_eq] at hv
      obtain ⟨⟨⟨⟨hv1, hv2⟩, hv3⟩, hv4⟩, hv5⟩ := hv
      obtain ⟨a, r, rfl, kt', kf'⟩ := jm_i1_ok hw
      intro H locs ls hP hl hS
      rcases jm_sw_ok ts offs.toList lo hv3 (by omega) hv2 kt' with ⟨g1, g2⟩ | ⟨i, off, e', r', t, g1, g2, g3, g4, g5⟩
      · obtain ⟨e', r', he, ht⟩ := jm_hd_ok hv1
        exact lv_tableOut hx hb hd (by omega) ht (kt d e' r' _ _ _ _ _ he (kf' g1) H locs ls hP hl hS)
      · have hi : i < ts.length := by
          have h1 := (List.getElem?_eq_some_iff.mp g2).1
          have h2 : ∀ (ts : List Nat) (os : List Int), jm_sv code pc ts os = true → ts.length = os.length := by
            intro ts
            induction ts with
            | nil => intro os h; cases os with
              | nil => rfl
              | cons _ _ => cases h
            | cons t ts ih => intro os h; cases os with
              | nil => cases h
              | cons o os => simp only [jm_sv, Bool.and_eq_true] at h; simp [ih os h.2]
          rw [h2 _ _ hv2]; exact h1
        refine lv_tableIn hx hb hd (by omega) (by omega) (off := off) ?_ g4 (kt t e' r' _ _ _ _ _ g3 g5 H locs ls hP hl hS)
        rw [show (a.toInt - lo).toNat = i by omega, ← Array.getElem?_toList]
        exact g2
  | lookupswitch dflt ps =>
    dsimp only [jm_st] at hw
    match x, hv, hw with
    | d :: lo :: ts, hv, hw =>
      simp only [Bool.and_eq_true, decide_eq_true_eq] at hv
      obtain ⟨⟨⟨⟨hv1, hv2⟩, hv3⟩, hv4⟩, hv5⟩ := hv
      obtain ⟨a, r, rfl, kt', kf'⟩ := jm_i1_ok hw
      intro H locs ls hP hl hS
      have key : ∀ (ps : List (Int × Int)) (ts : List Nat) (lo : Nat) (y : Int), ps.map (fun a => a.1) = (List.range ts.length).map (fun j => Int.ofNat (lo + j)) → (∀ (i : Nat) (off : Int), y = (lo : Int) + i → (ps.map (fun a => a.2))[i]? = some off → Op.lookupswitch.offset ps dflt y = off) ∧ (¬ ((lo : Int) ≤ y ∧ y < (lo : Int) + ts.length) → Op.lookupswitch.offset ps dflt y = dflt) := by
        intro ps
        induction ps with
        | nil =>
          intro ts lo y h1
          exact ⟨fun i off _ h => by simp at h, fun _ => rfl⟩
        | cons p0 ps ih =>
          intro ts lo y h1
          cases ts with
          | nil => cases h1
          | cons t ts =>
            obtain ⟨p1, p2⟩ := p0
            rw [List.length_cons, List.range_succ_eq_map, List.map_cons, List.map_cons, List.map_map] at h1
            obtain ⟨e1, e2⟩ := List.cons.inj h1
            have e1 : p1 = (lo : Int) := e1
            obtain ⟨i1, i2⟩ := ih ts (lo + 1) y (by rw [e2]; apply List.map_congr_left; intro j _; show Int.ofNat (lo + (j + 1)) = Int.ofNat (lo + 1 + j); congr 1; omega)
            rw [Op.lookupswitch.offset_cons]
            constructor
            · intro i off hy ho
              cases i with
              | zero =>
                rw [if_pos (by rw [e1, hy]; simp)]
                exact Option.some.inj ho
              | succ i =>
                rw [if_neg (by rw [e1, hy]; push_cast; omega)]
                exact i1 i off (by rw [hy]; push_cast; omega) ho
            · intro hn
              rw [if_neg (by rw [e1]; intro q; apply hn; rw [← q, List.length_cons]; push_cast; omega)]
              exact i2 (by intro q; apply hn; rw [List.length_cons]; push_cast; push_cast at q; omega)
      obtain ⟨q1, q2⟩ := key ps.toList ts lo a.toInt hv4
      rcases jm_sw_ok ts _ (Int.ofNat lo) (Int.natCast_nonneg _) (by show (lo : Int) + ts.length < 2000; omega) hv2 kt' with ⟨g1, g2⟩ | ⟨i, off, e', r', t, g1, g2, g3, g4, g5⟩
      · obtain ⟨e', r', he, ht⟩ := jm_hd_ok hv1
        exact lv_lookup hx hb hd hv5 (q2 g2) ht (kt d e' r' _ _ _ _ _ he (kf' g1) H locs ls hP hl hS)
      · exact lv_lookup hx hb hd hv5 (q1 i off g1 g2) g4 (kt t e' r' _ _ _ _ _ g3 g5 H locs ls hP hl hS)
  | getfield idx =>
    dsimp only [jm_st] at hw
    simp only [Bool.and_eq_true, decide_eq_true_eq] at hv
    obtain ⟨rfl, hv⟩ := hv
    match x, q, hv, hw with
    | [ci, f, cd], [pl], hv, hw =>
      obtain ⟨o, r, rfl, hw⟩ := jm_r1_ok hw
      obtain ⟨a, rfl, ha, kk⟩ := jm_so_ok hw
      dsimp only at hv
      split at hv
      · rename_i rr hr
        simp only [Bool.and_eq_true, decide_eq_true_eq] at hv
        exact jm_getf X hT hr hv.1.1 hv.1.2 (jm_hw_in hv.2) hd ha (k0 _ _ _ _ _ kk)
      · cases hv
  | putfield idx =>
    dsimp only [jm_st] at hw
    simp only [Bool.and_eq_true, decide_eq_true_eq] at hv
    obtain ⟨rfl, hv⟩ := hv
    match x, q, hv, hw with
    | [ci, f, cd], [pl], hv, hw =>
      obtain ⟨v, o, r, rfl, hw⟩ := jm_vr_ok hw
      obtain ⟨a, rfl, ha, kk⟩ := jm_so_ok hw
      dsimp only at hv
      split at hv
      · rename_i rr hr
        simp only [Bool.and_eq_true, decide_eq_true_eq, Bool.or_eq_true, Bool.not_eq_true'] at hv
        refine jm_putf X hT hr hv.1.1.1 hv.1.1.2 (jm_hw_in hv.1.2) ?_ hd ha ?_
        · rcases hv.2 with q | q
          · exact Or.inl q
          · cases hf : (rr.2.1 f).2.2.2 with
            | false => exact Or.inl rfl
            | true => exact Or.inr ⟨rfl, hyn.trans q.1, q.2⟩
        · have mono : ∀ (K K' : jm_H → Prop), (∀ h, K h → K' h) → jm_pt cd h a f v K → jm_pt cd h a f v K' := by
            intro K K' hk hp
            unfold jm_pt at hp ⊢
            split at hp <;> first | exact hk _ hp | exact ⟨hp.1, hk _ hp.2⟩ | exact hp
          exact mono _ _ (fun h' hh => k0 _ _ _ _ _ hh) kk
      · cases hv
  | getstatic idx =>
    dsimp only [jm_st] at hw
    simp only [Bool.and_eq_true, decide_eq_true_eq] at hv
    obtain ⟨rfl, hv⟩ := hv
    match x, q, hv, hw with
    | [j], [pl], hv, hw =>
      dsimp only at hv
      split at hv
      · rename_i rr hr
        exact jm_gets X hr (jm_hw_in hv) hd (k0 _ _ _ _ _ hw)
      · cases hv
  | new idx =>
    dsimp only [jm_st] at hw
    simp only [Bool.and_eq_true, decide_eq_true_eq] at hv
    obtain ⟨rfl, hv⟩ := hv
    match x, q, hv, hw with
    | [ci, N], [pl], hv, hw =>
      obtain ⟨h1, h2, kk⟩ := hw
      dsimp only at hv
      split at hv
      · rename_i rr hr
        simp only [Bool.and_eq_true, decide_eq_true_eq] at hv
        exact jm_new X hT hr hv.1 (jm_hw_in hv.2) hd h1 h2 (k0 _ _ _ _ _ kk)
      · cases hv
    | [E], [ic], hv, hw =>
      simp only [Bool.and_eq_true, decide_eq_true_eq] at hv
      exact hEnd.2.2.2 E idx ic pc L st h ce sl hd hv.1.1 hv.1.2 hv.2 hw
  | newarray a0 =>
    dsimp only [jm_st] at hw
    simp only [Bool.and_eq_true, decide_eq_true_eq] at hv
    obtain ⟨rfl, hv⟩ := hv
    match x, q, hv, hw with
    | [t], [pl], hv, hw =>
      simp only [Bool.and_eq_true, decide_eq_true_eq] at hv
      obtain ⟨⟨hv1, hv2⟩, hv3⟩ := hv
      obtain ⟨n, r, rfl, g1, g2, g3, g4, kk⟩ := jm_i1_ok hw
      have hcb : componentBytes (newarray.typeOf a0) ≤ 8 := by cases a0 <;> decide
      have hcd : jm_tyc (newarray.typeOf a0) = (jm_tA G t).2.1 ∧ (jm_tA G t).2.1 < 4 := by
        rw [← hv2]
        match t, hv3 with
        | 0, _ => exact ⟨rfl, by show (0 : Nat) < 4; decide⟩
        | 1, _ => exact ⟨rfl, by show (0 : Nat) < 4; decide⟩
        | 2, _ => exact ⟨rfl, by show (2 : Nat) < 4; decide⟩
        | 3, _ => exact ⟨rfl, by show (1 : Nat) < 4; decide⟩
      refine jm_newa X hd (jm_hw_in hv1) hv2 hcd.1 hcd.2 (fun U cA => by cases a0 <;> exact trivial) g1 ?_ g3 g4 (k0 _ _ _ _ _ kk)
      exact Nat.le_trans (Nat.mul_le_mul g2 hcb) (by decide)
  | anewarray idx =>
    dsimp only [jm_st] at hw
    simp only [Bool.and_eq_true, decide_eq_true_eq] at hv
    obtain ⟨rfl, hv⟩ := hv
    match x, q, hv, hw with
    | [t], [pl], hv, hw =>
      obtain ⟨n, r, rfl, g1, g2, g3, g4, kk⟩ := jm_i1_ok hw
      dsimp only at hv
      split at hv
      · rename_i rr hr
        simp only [Bool.and_eq_true, decide_eq_true_eq] at hv
        exact jm_newq X hd hr (jm_hw_in hv.1) hv.2 g1 (Nat.le_trans (Nat.mul_le_mul_right 4 g2) (by decide)) g3 g4 (k0 _ _ _ _ _ kk)
      · cases hv
  | arraylength =>
    dsimp only [jm_st] at hw
    simp only [decide_eq_true_eq] at hv
    subst hv
    obtain ⟨o, r, rfl, hw⟩ := jm_r1_ok hw
    obtain ⟨a, rfl, hw⟩ := jm_so_ok hw
    obtain ⟨t, n, ha, kk⟩ := jm_aa_ok hw
    exact jm_alen X hd ha (k0 _ _ _ _ _ kk)
  | iaload =>
    dsimp only [jm_st] at hw
    simp only [decide_eq_true_eq] at hv
    subst hv
    obtain ⟨j, o, r, rfl, hw⟩ := jm_ix_ok hw
    obtain ⟨a, rfl, hw⟩ := jm_so_ok hw
    obtain ⟨t, n, ht, ha, hi, kk⟩ := jm_ia_ok hw
    exact jm_iald X hd ht ha hi (k0 _ _ _ _ _ kk)
  | baload =>
    dsimp only [jm_st] at hw
    simp only [decide_eq_true_eq] at hv
    subst hv
    obtain ⟨j, o, r, rfl, hw⟩ := jm_ix_ok hw
    obtain ⟨a, rfl, hw⟩ := jm_so_ok hw
    obtain ⟨n, ha, hi, kk⟩ := jm_na_ok hw
    exact jm_zald X hd ha hi (k0 _ _ _ _ _ kk)
  | laload =>
    dsimp only [jm_st] at hw
    simp only [decide_eq_true_eq] at hv
    subst hv
    obtain ⟨j, o, r, rfl, hw⟩ := jm_ix_ok hw
    obtain ⟨a, rfl, hw⟩ := jm_so_ok hw
    obtain ⟨n, ha, hi, kk⟩ := jm_na_ok hw
    exact jm_lald X hd ha hi (k0 _ _ _ _ _ kk)
  | aaload =>
    dsimp only [jm_st] at hw
    simp only [decide_eq_true_eq] at hv
    subst hv
    obtain ⟨j, o, r, rfl, hw⟩ := jm_ix_ok hw
    obtain ⟨a, rfl, hw⟩ := jm_so_ok hw
    obtain ⟨t, n, ha, hi, kk⟩ := jm_qa_ok hw
    exact jm_aald X hd ha hi (k0 _ _ _ _ _ kk)
  | iastore =>
    dsimp only [jm_st] at hw
    simp only [decide_eq_true_eq] at hv
    subst hv
    obtain ⟨v, j, o, r, rfl, hw⟩ := jm_vx_ok hw
    obtain ⟨y, rfl, hw⟩ := jm_vi_ok hw
    obtain ⟨a, rfl, hw⟩ := jm_so_ok hw
    obtain ⟨n, ha, hi, kk⟩ := jm_na_ok hw
    exact jm_iast X hd ha hi (k0 _ _ _ _ _ kk)
  | bastore =>
    dsimp only [jm_st] at hw
    simp only [decide_eq_true_eq] at hv
    subst hv
    obtain ⟨v, j, o, r, rfl, hw⟩ := jm_vx_ok hw
    obtain ⟨y, rfl, hw⟩ := jm_vi_ok hw
    obtain ⟨a, rfl, hw⟩ := jm_so_ok hw
    obtain ⟨n, ha, hy, hi, kk⟩ := jm_na_ok hw
    exact jm_zast X hd hy ha hi (k0 _ _ _ _ _ kk)
  | lastore =>
    dsimp only [jm_st] at hw
    simp only [decide_eq_true_eq] at hv
    subst hv
    obtain ⟨v, j, o, r, rfl, hw⟩ := jm_vx_ok hw
    obtain ⟨y, rfl, hw⟩ := jm_vl_ok hw
    obtain ⟨a, rfl, hw⟩ := jm_so_ok hw
    obtain ⟨n, ha, hi, kk⟩ := jm_na_ok hw
    exact jm_last X hd ha hi (k0 _ _ _ _ _ kk)
  | aastore =>
    dsimp only [jm_st] at hw
    simp only [decide_eq_true_eq] at hv
    subst hv
    obtain ⟨v, j, o, r, rfl, hw⟩ := jm_vx_ok hw
    obtain ⟨y, rfl, hw⟩ := jm_vo_ok hw
    obtain ⟨a, rfl, hw⟩ := jm_so_ok hw
    obtain ⟨t, n, ha, hy, hi, kk⟩ := jm_qa_ok hw
    exact jm_aast X hd (fun v e => by subst e; exact hy) ha hi (k0 _ _ _ _ _ kk)
  | invokestatic idx =>
    dsimp only [jm_st] at hw
    simp only [Bool.and_eq_true, decide_eq_true_eq] at hv
    obtain ⟨rfl, hv⟩ := hv
    match x, q, hv, hw with
    | [j, _], [ql, qs, qi, qc], hv, hw =>
      simp only [Bool.and_eq_true, decide_eq_true_eq] at hv
      obtain ⟨⟨⟨⟨⟨v1, v2⟩, v3⟩, v4⟩, v5⟩, v6⟩ := hv
      obtain ⟨g1, g2, hw⟩ := hw
      match j, v1, v2, v4, hw with
      | 0, v1, v2, v4, hw =>
        obtain ⟨a, b, r, rfl, h4, kk⟩ := jm_ii_ok hw
        exact fun H locs ls hP hl hS => va_mmax hx hb (hml.trans hl.1.symm) hown (hts _ (jm_hw_in v1)) (hts _ (jm_hw_in v2)) (hts _ (jm_hw_in v3)) (hts _ (jm_hw_in v4)) v5 (by have := jm_l4_ok h4; omega) g1 g2 hd (k0 _ _ _ _ _ kk H locs ls hP hl hS)
      | 1, v1, v2, v4, hw =>
        obtain ⟨a, b, r, rfl, h4, kk⟩ := jm_ii_ok hw
        exact fun H locs ls hP hl hS => va_mmin hx hb (hml.trans hl.1.symm) hown (hts _ (jm_hw_in v1)) (hts _ (jm_hw_in v2)) (hts _ (jm_hw_in v3)) (hts _ (jm_hw_in v4)) v5 (by have := jm_l4_ok h4; omega) g1 g2 hd (k0 _ _ _ _ _ kk H locs ls hP hl hS)
      | n + 2, v1, v2, v4, hw =>
        obtain ⟨a, r, rfl, h4, kk⟩ := jm_i1_ok hw
        exact fun H locs ls hP hl hS => va_mabs hx hb (hml.trans hl.1.symm) hown (hts _ (jm_hw_in v1)) (hts _ (jm_hw_in v2)) (hts _ (jm_hw_in v3)) (hts _ (jm_hw_in v4)) v5 (by have := jm_l4_ok h4; omega) g1 g2 hd (k0 _ _ _ _ _ kk H locs ls hP hl hS)
    | [mi, na, rc, mc, ms], ql :: qm, hv, hw =>
      simp only [Bool.and_eq_true, decide_eq_true_eq] at hv
      obtain ⟨⟨⟨⟨⟨e1, e2⟩, e3⟩, e4⟩, e5⟩, e6⟩ := hv
      obtain ⟨cs, r, rfl, hn, h4, hc, hs, post, hM, hcr⟩ := jm_tk_ok _ _ _ _ hw
      rw [List.append_nil] at hM
      rw [← e5] at hc
      rw [← e6] at hs
      have hh := jm_callS (Q := Q) (below := below) (e := e) X hd e1 e2 (as := cs.reverse) (r := r) (L := L) (by rw [List.length_reverse]; exact hn) h4 hc hs hM ?_
      · rw [List.reverse_reverse] at hh
        exact hh
      intro v h' hok hp
      have hr : jm_rc (mt mi).2.2.2.1 = rc := e3
      rw [hr] at hok ⊢
      rw [e5, e6]
      match rc, hcr, hok with
      | 0, hcr, hok => cases hok; exact k0 _ _ _ _ _ (hcr h' hp)
      | 1, hcr, hok => obtain ⟨y, rfl⟩ := hok; exact k0 _ _ _ _ _ (hcr y h' hp)
      | n + 2, hcr, hok => obtain ⟨o, rfl⟩ := hok; exact k0 _ _ _ _ _ (hcr o h' hp)
  | invokevirtual idx =>
    dsimp only [jm_st] at hw
    simp only [Bool.and_eq_true, decide_eq_true_eq] at hv
    obtain ⟨rfl, hv⟩ := hv
    match x, q, hv, hw with
    | [mi, na, rc, mc, ms, ci], ql :: qm, hv, hw =>
      dsimp only at hv
      split at hv
      case h_2 => cases hv
      rename_i rr hrr
      simp only [Bool.and_eq_true, decide_eq_true_eq] at hv
      obtain ⟨⟨⟨⟨⟨e1, e2⟩, e3⟩, e4⟩, e5⟩, e6⟩ := hv
      obtain ⟨cs, r, rfl, hn, h4, hrc, hc, hs, post, hM, hcr⟩ := jm_tk_ok _ _ _ _ hw
      rw [List.append_nil] at hM hrc
      rw [← e5] at hc
      rw [← e6] at hs
      generalize has : cs.reverse = as at hM hrc
      have hcs : cs = as.reverse := by rw [← has, List.reverse_reverse]
      subst hcs
      match as, hrc with
      | .inr (.inl (some a)) :: as, hrc =>
      rw [List.length_reverse, List.length_cons] at hn
      have hh := jm_callV (Q := Q) (below := below) (e := e) X hd hrr e1 e2 (as := as) (r := r) (L := L) hn hrc h4 hc hs hM ?_
      · rw [List.reverse_cons, List.append_assoc]
        exact hh
      intro v h' hok hp
      have hr : jm_rc (mt mi).2.2.2.1 = rc := e3
      rw [hr] at hok ⊢
      rw [e5, e6]
      match rc, hcr, hok with
      | 0, hcr, hok => cases hok; exact k0 _ _ _ _ _ (hcr h' hp)
      | 1, hcr, hok => obtain ⟨y, rfl⟩ := hok; exact k0 _ _ _ _ _ (hcr y h' hp)
      | n + 2, hcr, hok => obtain ⟨o, rfl⟩ := hok; exact k0 _ _ _ _ _ (hcr o h' hp)
  | invokespecial idx =>
    dsimp only [jm_st] at hw
    simp only [Bool.and_eq_true, decide_eq_true_eq] at hv
    obtain ⟨rfl, hv⟩ := hv
    match x, q, hv, hw with
    | [_], _, hv, hw => exact False.elim hw
    | [], [ql, qi, qc], hv, hw =>
      simp only [Bool.and_eq_true, decide_eq_true_eq] at hv
      obtain ⟨⟨⟨⟨v1, v2⟩, v3⟩, v4⟩, v5⟩ := hv
      obtain ⟨o, r, rfl, hw⟩ := jm_r1_ok hw
      obtain ⟨a, rfl, h4, kk⟩ := jm_so_ok hw
      intro H locs ls hP hl hS
      exact W.objInit hx hb hown (hts _ (jm_hw_in v1)) (hts _ (jm_hw_in v2)) (hts _ (jm_hw_in v3)) rfl (by rw [hml]; exact hl.1) rfl hd v4 (by have := jm_l4_ok h4; show 2 * 0 + _ + 12 ≤ _; omega) (k0 _ _ _ _ _ kk H locs ls hP hl hS)
    | [mi, na, rc, mc, ms, nest], ql :: qm, hv, hw =>
      simp only [Bool.and_eq_true, decide_eq_true_eq] at hv
      obtain ⟨⟨⟨⟨⟨e1, e2⟩, e3⟩, e4⟩, e5⟩, e6⟩ := hv
      obtain ⟨cs, r, rfl, hn, h4, hrc, hc, hs, post, hM, hcr⟩ := jm_tk_ok _ _ _ _ hw
      rw [List.append_nil] at hM hrc
      rw [← e5] at hc
      rw [← e6] at hs
      generalize has : cs.reverse = as at hM hrc
      have hcs : cs = as.reverse := by rw [← has, List.reverse_reverse]
      subst hcs
      match as, hrc with
      | .inr (.inl (some a)) :: as, hrc =>
      rw [List.length_reverse, List.length_cons] at hn
      have hh := jm_callI (Q := Q) (below := below) (e := e) X (nest := nest) (ql := ql) hd e1 e2 (as := as) (r := r) (L := L) hn h4 hc hs hM ?_
      · rw [List.reverse_cons, List.append_assoc]
        exact hh
      intro v h' hok hp
      have hr : jm_rc (mt mi).2.2.2.1 = rc := e3
      rw [hr] at hok ⊢
      rw [e5, e6]
      match rc, hcr, hok with
      | 0, hcr, hok => cases hok; exact k0 _ _ _ _ _ (hcr h' hp)
      | 1, hcr, hok => obtain ⟨y, rfl⟩ := hok; exact k0 _ _ _ _ _ (hcr y h' hp)
      | n + 2, hcr, hok => obtain ⟨o, rfl⟩ := hok; exact k0 _ _ _ _ _ (hcr o h' hp)
  | ireturn =>
    dsimp only [jm_st] at hw
    simp only [decide_eq_true_eq] at hv
    subst hv
    match st, hw with
    | [.inl y], hw => exact hEnd.1 y pc L h ce sl hd hw
  | areturn =>
    dsimp only [jm_st] at hw
    simp only [decide_eq_true_eq] at hv
    subst hv
    match st, hw with
    | [.inr (.inl y)], hw => exact hEnd.2.1 y pc L h ce sl hd hw
  | return_ =>
    dsimp only [jm_st] at hw
    simp only [decide_eq_true_eq] at hv
    subst hv
    match st, hw with
    | [], hw => exact hEnd.2.2.1 pc L h ce sl hd hw
  | _ => exact False.elim hw
def jm_Jc (p : Program) (l : Launch) (e : Env) (R : Room) (s : State) (m : MethodId) (args : Array Value) (below : List Frame) (meth : Method) (c : Code) (Q : State → Prop) (G : jm_T) (B : jm_B) (nL : Nat) (cs : List jm_I) (L : List (Option jm_V)) (st : List jm_V) (h : jm_H) (ce sl : Nat) : Prop := match cs with
  | [] => True
  | e' :: _ => jm_J p l e R s m args below meth c Q G B nL e'.1 L st h ce sl
theorem jm_drop_succ : ∀ (j : Nat) (code cs : List jm_I) (e : jm_I), jm_drop j code = e :: cs → jm_drop (j + 1) code = cs := by
  intro j
  induction j with
  | zero => intro code cs e h; have h : code = e :: cs := h; rw [h]; rfl
  | succ j ih =>
    intro code cs e h
    cases code with
    | nil => cases h
    | cons a code => exact ih code cs e h
theorem jm_drop_mem : ∀ (j : Nat) (code cs : List jm_I) (e : jm_I), jm_drop j code = e :: cs → e ∈ code := by
  intro j
  induction j with
  | zero => intro code cs e h; have h : code = e :: cs := h; rw [h]; exact List.mem_cons_self
  | succ j ih =>
    intro code cs e h
    cases code with
    | nil => cases h
    | cons a code => exact List.mem_cons_of_mem _ (ih code cs e h)
theorem jm_drop_chain : ∀ (j : Nat) (code cs : List jm_I) (a b : jm_I), jm_chain code = true → jm_drop j code = a :: b :: cs → a.1 + a.2.2.2.1 = b.1 := by
  intro j
  induction j with
  | zero =>
    intro code cs a b hc h
    have h : code = a :: b :: cs := h
    rw [h] at hc
    simp only [jm_chain, Bool.and_eq_true, decide_eq_true_eq] at hc
    exact hc.1
  | succ j ih =>
    intro code cs a b hc h
    cases code with
    | nil => cases h
    | cons d code =>
      refine ih code cs a b ?_ h
      cases code with
      | nil => rfl
      | cons f code => simp only [jm_chain, Bool.and_eq_true] at hc; exact hc.2
theorem jm_wp_ok (X : jm_X G B p s m args meth c own cc nL) (hT : jm_TT G) {yn : String} (hyn : meth.name = yn) {mt : Nat → jm_M} {code : List jm_I} {Kr : jm_V → jm_H → Nat → Nat → Prop} {Kx : Nat → jm_H → Nat → Nat → Prop} {Kc : Nat → List (Option jm_V) → List jm_V → jm_H → Nat → Nat → Prop} (hEnd : jm_Ends p l e R s m args below meth c Q G B nL cc Kr Kx) (hv : jm_vc G mt own yn cc R nL code = true)
    (hK : ∀ pc L st h ce sl, Kc pc L st h ce sl → jm_J p l e R s m args below meth c Q G B nL pc L st h ce sl) : ∀ (n j : Nat) (cs : List jm_I) (L : List (Option jm_V)) (st : List jm_V) (h : jm_H) (ce sl : Nat), jm_drop j code = cs → jm_wp B R.cells R.slots (fun mi as h post => jm_Ct G B l (mt mi) as h post) Kr Kx Kc code n cs L st h ce sl → jm_Jc p l e R s m args below meth c Q G B nL cs L st h ce sl := by
  simp only [jm_vc, Bool.and_eq_true, List.all_eq_true] at hv
  intro n
  induction n with
  | zero => intro j cs L st h ce sl hj hw; exact hw.elim
  | succ n ih =>
    intro j cs L st h ce sl hj hw
    cases cs with
    | nil => exact trivial
    | cons e' cs =>
      have hgo : ∀ (j' : Nat) (cs' : List jm_I) (L : List (Option jm_V)) (st : List jm_V) (h : jm_H) (ce sl : Nat) (e1 : jm_I) (r1 : List jm_I), jm_drop j' code = cs' → cs' = e1 :: r1 → jm_go Kc (jm_wp B R.cells R.slots (fun mi as h post => jm_Ct G B l (mt mi) as h post) Kr Kx Kc code n) cs' L st h ce sl → jm_J p l e R s m args below meth c Q G B nL e1.1 L st h ce sl := by
        intro j' cs' L st h ce sl e1 r1 hj' he hg
        subst he
        obtain ⟨pc1, cut1, rest1⟩ := e1
        cases cut1 with
        | true => exact hK pc1 L st h ce sl hg
        | false => exact ih j' _ L st h ce sl hj' hg
      have hm := hv.2 e' (jm_drop_mem j code cs e' hj)
      obtain ⟨pc, cut, i, len, x, q⟩ := e'
      refine jm_st_ok X hT hyn hEnd hm hw ?_ ?_
      · intro L st h ce sl hg
        cases cs with
        | nil => exact hg.elim
        | cons e2 cs =>
          have hch := jm_drop_chain j code cs _ _ hv.1 hj
          rw [show pc + len = e2.1 from hch]
          exact hgo (j + 1) _ L st h ce sl e2 cs (jm_drop_succ j code _ _ hj) rfl hg
      · intro t e2 r L st h ce sl hd hg
        have hg' : jm_go Kc (jm_wp B R.cells R.slots (fun mi as h post => jm_Ct G B l (mt mi) as h post) Kr Kx Kc code n) (jm_drop t code) L st h ce sl := hg
        exact hgo t _ L st h ce sl e2 r rfl hd hg'
end JO
