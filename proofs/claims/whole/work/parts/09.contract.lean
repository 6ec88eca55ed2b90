/-- the locals at a method's entry -/
def jm_en (n : Nat) (as : List jm_V) : List (Option jm_V) := as.map some ++ List.replicate (n - as.length) none
def jm_c1 (as : List jm_V) : Bool := as.all (fun v => match v with | .inr (.inr _) => false | _ => true)
theorem jm_c1_ok {as : List jm_V} (h : jm_c1 as = true) : ∀ v ∈ as, (jm_v v).category = 1 := by
  intro v hv
  have h1 := List.all_eq_true.mp h v hv
  refine jm_cat1 v (fun x e => ?_)
  subst e
  cases h1
theorem jm_sl_len : ∀ (as : List jm_V), (∀ v ∈ as, (jm_v v).category = 1) → (lg_sl (as.map jm_v)).length = as.length := by
  intro as
  induction as with
  | nil => intro _; rfl
  | cons v as ih =>
    intro h
    have h1 := h v List.mem_cons_self
    have h2 := ih (fun w hw => h w (List.mem_cons_of_mem _ hw))
    have e : lg_sl ((v :: as).map jm_v) = [.val (jm_v v)] ++ lg_sl (as.map jm_v) := by
      unfold lg_sl
      rw [List.map_cons, List.flatMap_cons, if_neg (by omega)]
    rw [e, List.length_append, h2]
    simp
    omega
theorem jm_args_in : ∀ (as : List jm_V) (k i : Nat) (v : jm_V), (∀ v ∈ as, (jm_v v).category = 1) → as[i]? = some v → (k + i, jm_v v) ∈ lv_args k (as.map jm_v) := by
  intro as
  induction as with
  | nil => intro k i v _ h; simp at h
  | cons w as ih =>
    intro k i v hc h
    have h1 := hc w List.mem_cons_self
    rw [List.map_cons]
    unfold lv_args
    rw [if_neg (by omega)]
    cases i with
    | zero =>
      have e : w = v := by simpa using h
      subst e
      exact List.mem_cons_self
    | succ i =>
      refine List.mem_cons_of_mem _ ?_
      have := ih (k + 1) i v (fun w hw => hc w (List.mem_cons_of_mem _ hw)) (by simpa using h)
      rw [show k + (i + 1) = k + 1 + i by omega]
      exact this
theorem jm_nth_get {α : Type} : ∀ (l : List α) (i : Nat), jm_nth l i = l[i]? := by
  intro l
  induction l with
  | nil => intro i; rfl
  | cons a l ih =>
    intro i
    cases i with
    | zero => rfl
    | succ i => exact (ih i).trans (by simp)
theorem jm_en_L (n : Nat) (as : List jm_V) (hc : jm_c1 as = true) (hn : as.length ≤ n) : jm_L ((lg_sl (as.map jm_v) ++ List.replicate (n - (lg_sl (as.map jm_v)).length) Slot.unset).toArray) n (jm_en n as) := by
  have h1 := jm_c1_ok hc
  have hl := lv_entry (as.map jm_v) (n := n) (by rw [jm_sl_len as h1]; exact hn)
  refine ⟨hl.1, hl.2.1, fun i v hi => ?_⟩
  rw [jm_nth_get] at hi
  have hm : as[i]? = some v := by
    unfold jm_en at hi
    by_cases hlt : i < as.length
    · rw [List.getElem?_append_left (by simpa using hlt), List.getElem?_map] at hi
      cases ha : as[i]? with
      | none => rw [ha] at hi; cases hi
      | some w => rw [ha] at hi; simpa using hi
    · rw [List.getElem?_append_right (by simpa using hlt), List.getElem?_replicate] at hi
      split at hi <;> cases hi
  have hmem := jm_args_in as 0 i v h1 hm
  rw [Nat.zero_add] at hmem
  exact ⟨hl.2.2 (i, jm_v v) hmem, h1 v (List.mem_of_getElem? hm)⟩
def jm_bo (ret : Option FieldType) (v : jm_V) : Prop := match ret with
  | some .boolean => v = .inl 0 ∨ v = .inl 1
  | _ => True
/-- where a loop's head is -/
def jm_at (code : List jm_I) (j pc : Nat) : Prop := ∃ e r, jm_drop j code = e :: r ∧ e.1 = pc
abbrev jm_Kr (M : jm_M) (post : jm_V → jm_H → Prop) : jm_V → jm_H → Nat → Nat → Prop := fun v h ce sl => jm_okv (jm_rc M.2.2.2.1) v ∧ jm_bo M.2.2.2.1 v ∧ post v h ∧ ce ≤ M.2.2.2.2.2.2.1 ∧ sl ≤ M.2.2.2.2.2.2.2
abbrev jm_wpM (G : jm_T) (B : jm_B) (l : Launch) (mt : Nat → jm_M) (M : jm_M) (code : List jm_I) (post : jm_V → jm_H → Prop) (Kc : Nat → List (Option jm_V) → List jm_V → jm_H → Nat → Nat → Prop) : Nat → List jm_I → List (Option jm_V) → List jm_V → jm_H → Nat → Nat → Prop :=
  jm_wp B M.2.2.2.2.2.2.1 M.2.2.2.2.2.2.2 (fun mi as h post => jm_Ct G B l (mt mi) as h post) (jm_Kr M post) (fun _ _ _ _ => False) Kc code
/-- the ends of a method that returns -/
theorem jm_ends {p : Program} {l : Launch} {e : Env} {s : State} {m : MethodId} {args : Array Value} {below : List Frame} {meth : Method} {c : Code} {G : jm_T} {B : jm_B} {own : String} {M : jm_M} {post : jm_V → jm_H → Prop} (X : jm_X G B p s m args meth c own M.2.1 M.2.2.1) (hr : meth.sig.returnType = M.2.2.2.1) (h3 : jm_rc M.2.2.2.1 < 3) :
    jm_Ends p l e (jm_rm M) s m args below meth c (MQ below (jm_Qc G B (jm_rc M.2.2.2.1) post) args s M.2.2.2.2.2.2.1 M.2.2.2.2.2.2.2 (jm_A B)) G B M.2.2.1 M.2.1 (jm_Kr M post) (fun _ _ _ _ => False) := by
  obtain ⟨hx, hb, hml, hown, hts, hE, hlk⟩ := id X
  refine ⟨?_, ?_, ?_, fun _ _ _ _ _ _ _ _ _ _ _ _ _ q => q.elim⟩
  · intro y pc L h ce sl hd hk H locs ls hP hl hS
    obtain ⟨k1, k2, k3, k4, k5⟩ := hk
    have hq : ∀ t : State, t.heap = H → s.WarmedH t.vm → jm_Qc G B (jm_rc M.2.2.2.1) post args s (.returned (some (.int y))) t := by
      intro t ht hW
      refine ⟨⟨.inl y, h, ?_, k1, k3, by rw [ht]; exact hP.moved hW.alike⟩, hS.F ht⟩
      unfold jm_okv at k1
      split at k1
      · cases k1
      · rename_i hrc; rw [hrc]; rfl
      · obtain ⟨o, ho⟩ := k1; cases ho
    refine W.widen k4 k5 ?_
    cases hret : M.2.2.2.1 with
    | none => rw [hret] at k1; cases k1
    | some ty =>
      rw [hret] at hr k1 k2 h3
      rw [hret] at hq
      cases ty <;> first | exact absurd h3 (by decide) | (obtain ⟨o, ho⟩ := k1; cases ho; done) | exact W.iret hx hb hr hq hS.2.2 hd hlk | (refine W.zret hx hb hr ?_ hq hS.2.2 hd hlk; rcases k2 with k2 | k2 <;> (cases k2; rfl))
  · intro y pc L h ce sl hd hk H locs ls hP hl hS
    obtain ⟨k1, k2, k3, k4, k5⟩ := hk
    have hq : ∀ t : State, t.heap = H → s.WarmedH t.vm → jm_Qc G B (jm_rc M.2.2.2.1) post args s (.returned (some (va_rf y))) t := by
      intro t ht hW
      refine ⟨⟨.inr (.inl y), h, ?_, k1, k3, by rw [ht]; exact hP.moved hW.alike⟩, hS.F ht⟩
      unfold jm_okv at k1
      unfold jm_rv
      split at k1
      · cases k1
      · obtain ⟨o, ho⟩ := k1; cases ho
      · split
        · rename_i g0 g1 _ g2; exact absurd g2 g0
        · rfl
    refine W.widen k4 k5 ?_
    have hvv : va_rf y = .null ∨ ∃ a, va_rf y = .ref a := by cases y with
      | none => exact Or.inl rfl
      | some a => exact Or.inr ⟨a, rfl⟩
    cases hret : M.2.2.2.1 with
    | none => rw [hret] at k1; cases k1
    | some ty =>
      rw [hret] at hr k1 k2 h3
      rw [hret] at hq
      cases ty with
      | object C => exact W.aret hx hb hr (Or.inl ⟨_, rfl⟩) hvv hq hS.2.2 hd hlk
      | array t => exact W.aret hx hb hr (Or.inr ⟨_, rfl⟩) hvv hq hS.2.2 hd hlk
      | _ => first | exact absurd h3 (by decide) | (obtain ⟨o, ho⟩ := k1; cases ho; done)
  · intro pc L h ce sl hd hk H locs ls hP hl hS
    obtain ⟨k1, k2, k3, k4, k5⟩ := hk
    refine W.widen k4 k5 ?_
    cases hret : M.2.2.2.1 with
    | some ty =>
      rw [hret] at k1 h3
      cases ty <;> first | exact absurd h3 (by decide) | (obtain ⟨o, ho⟩ := k1; cases ho; done)
    | none =>
      rw [hret] at hr
      exact W.vret hx hb hr (fun t ht hW => ⟨⟨.inr (.inr 0), h, rfl, rfl, k3, by rw [ht]; exact hP.moved hW.alike⟩, hS.F ht⟩) hS.2.2 hd hlk
/-- a method's contract, out of what its instructions ask; Inv k: at the head of a loop, with k left -/
theorem jm_Ct_of {G : jm_T} {B : jm_B} {l : Launch} {mt : Nat → jm_M} {M : jm_M} {code : List jm_I} {as : List jm_V} {h : jm_H} {post : jm_V → jm_H → Prop} (hT : jm_TT G) (hy : plainName M.1.cls = true ∨ plainFor M.1 = true) (h3 : jm_rc M.2.2.2.1 < 3) (hv : jm_vc G mt M.1.cls M.1.name M.2.1 (jm_rm M) M.2.2.1 code = true) (hc : jm_c1 as = true) (hn : as.length ≤ M.2.2.1) (L0 : List (Option jm_V)) (hL0 : jm_en M.2.2.1 as = L0)
    (Inv : Nat → Nat → List (Option jm_V) → List jm_V → jm_H → Nat → Nat → Prop)
    (hI : ∀ k pc L st h ce sl, Inv k pc L st h ce sl → ∃ n j, jm_at code j pc ∧ jm_wpM G B l mt M code post (fun pc L st h ce sl => ∃ k', k' < k ∧ Inv k' pc L st h ce sl) n (jm_drop j code) L st h ce sl)
    (hw : ∃ n, jm_at code 0 0 ∧ jm_wpM G B l mt M code post (fun pc L st h ce sl => ∃ k', Inv k' pc L st h ce sl) n code L0 [] h 0 0) : jm_Ct G B l M as h post := by
  subst hL0
  have body : ∀ p e s m args below meth c s₁, BodyLoose p l M.1 (headSpec (jm_ws G M) (jm_rm M)) M.2.1 M.2.2.1 M.2.2.2.1 e s m args below meth c s₁ → c.maxLocals = M.2.2.1 → jm_Pc G B as h args s →
      W p l e (headSpec (jm_ws G M) (jm_rm M)).room s m args below meth c s.heap [] 0 0 (MQ below (jm_Qc G B (jm_rc M.2.2.2.1) post) args s M.2.2.2.2.2.2.1 M.2.2.2.2.2.2.2 (jm_A B)) (entryFrame m args M.2.2.1) := by
    intro p e s m args below meth c s₁ Bd hml hp
    obtain ⟨rfl, hE, hP⟩ := hp
    have hts := atoms_spec (ws := jm_ws G M) Bd.pre
    have X : jm_X G B p s m (as.map jm_v).toArray meth c M.1.cls M.2.1 M.2.2.1 := ⟨Bd.exec, Bd.bytes, hml, findClass_of_methodNamed Bd.named, fun w h => hts w (List.mem_cons_of_mem _ h), hE, Bd.notSynchronized⟩
    have hyn : meth.name = M.1.name := (name_of_methodNamed Bd.named Bd.method).1
    have hEnd := jm_ends (l := l) (e := e) (below := below) (post := post) X Bd.returns h3
    have hJ : ∀ k pc L st h ce sl, Inv k pc L st h ce sl → jm_J p l e (jm_rm M) s m (as.map jm_v).toArray below meth c (MQ below (jm_Qc G B (jm_rc M.2.2.2.1) post) (as.map jm_v).toArray s M.2.2.2.2.2.2.1 M.2.2.2.2.2.2.2 (jm_A B)) G B M.2.2.1 pc L st h ce sl := by
      intro k
      induction k using Nat.strongRecOn with
      | _ k ih =>
        intro pc L st h ce sl hInv
        obtain ⟨n, j, ⟨e1, r1, hd, rfl⟩, hwp⟩ := hI k pc L st h ce sl hInv
        have := jm_wp_ok X hT hyn hEnd hv (Kc := fun pc L st h ce sl => ∃ k', k' < k ∧ Inv k' pc L st h ce sl) (fun pc L st h ce sl hk => by
          obtain ⟨k', hk', hi⟩ := hk
          exact ih k' hk' pc L st h ce sl hi) n j _ L st h ce sl rfl hwp
        rw [hd] at this
        exact this
    obtain ⟨n, ⟨e1, r1, hd, he⟩, hwp⟩ := hw
    have h0 := jm_wp_ok X hT hyn hEnd hv (Kc := fun pc L st h ce sl => ∃ k', Inv k' pc L st h ce sl) (fun pc L st h ce sl hk => by
      obtain ⟨k', hi⟩ := hk
      exact hJ k' pc L st h ce sl hi) n 0 _ _ _ _ _ _ rfl hwp
    have hd' : code = e1 :: r1 := hd
    have h1 : jm_J p l e (jm_rm M) s m (as.map jm_v).toArray below meth c (MQ below (jm_Qc G B (jm_rc M.2.2.2.1) post) (as.map jm_v).toArray s M.2.2.2.2.2.2.1 M.2.2.2.2.2.2.2 (jm_A B)) G B M.2.2.1 0 (jm_en M.2.2.1 as) [] h 0 0 := by
      have h2 : jm_Jc p l e (jm_rm M) s m (as.map jm_v).toArray below meth c (MQ below (jm_Qc G B (jm_rc M.2.2.2.1) post) (as.map jm_v).toArray s M.2.2.2.2.2.2.1 M.2.2.2.2.2.2.2 (jm_A B)) G B M.2.2.1 (e1 :: r1) (jm_en M.2.2.1 as) [] h 0 0 := by rw [← hd']; exact h0
      have h3 : jm_J p l e (jm_rm M) s m (as.map jm_v).toArray below meth c (MQ below (jm_Qc G B (jm_rc M.2.2.2.1) post) (as.map jm_v).toArray s M.2.2.2.2.2.2.1 M.2.2.2.2.2.2.2 (jm_A B)) G B M.2.2.1 e1.1 (jm_en M.2.2.1 as) [] h 0 0 := h2
      rw [he] at h3
      exact h3
    rw [lg_entry_eq]
    exact h1 s.heap [] _ hP (jm_en_L _ as hc hn) va_S.rf
  rcases hy with hy | hy
  · exact Met.ofW hy rfl body
  · exact va_MetF hy rfl body
