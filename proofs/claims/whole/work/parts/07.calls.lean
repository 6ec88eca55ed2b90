section JS
variable {p : Program} {l : Launch} {e : Env} {R : Room} {s : State} {m : MethodId} {args : Array Value} {below : List Frame} {meth : Method} {c : Code} {Q : State → Prop} {G : jm_T} {B : jm_B} {own : String} {cc : ByteArray} {nL : Nat}
variable {pc cells slots : Nat} {L : List (Option jm_V)} {st : List jm_V} {h : jm_H}
theorem jm_tk_ok : ∀ (n : Nat) (acc st : List jm_V) (K : List jm_V → List jm_V → Prop), jm_tk n acc st K → ∃ cs r, st = cs ++ r ∧ cs.length = n ∧ K (cs.reverse ++ acc) r := by
  intro n
  induction n with
  | zero => intro acc st K h; exact ⟨[], st, rfl, rfl, h⟩
  | succ n ih =>
    intro acc st K h
    cases st with
    | nil => exact h.elim
    | cons v st =>
      obtain ⟨cs, r, h1, h2, h3⟩ := ih (v :: acc) st K h
      refine ⟨v :: cs, r, by rw [h1]; rfl, by rw [List.length_cons, h2], ?_⟩
      rw [List.reverse_cons, List.append_assoc]
      exact h3
theorem jm_l4_ok {r : List jm_V} (h : jm_l4 r) : ((r.map jm_v).map fun v => v.category).sum ≤ 8 := by
  have hc : ∀ v : jm_V, (jm_v v).category ≤ 2 := fun v => by rcases lv_cat (jm_v v) with e | e <;> omega
  match r, h with
  | [], _ => simp
  | [a], _ => have := hc a; simp; omega
  | [a, b], _ => have := hc a; have := hc b; simp; omega
  | [a, b, d], _ => have := hc a; have := hc b; have := hc d; simp; omega
  | [a, b, d, f], _ => have := hc a; have := hc b; have := hc d; have := hc f; simp; omega
theorem jm_run {rc mc ms : Nat} {post : jm_V → jm_H → Prop} {r : List jm_V} {st0 : List Value} {a : Array Value} {H : Heap} {locs : List Loc} {ls : Array Slot} (hr : va_Run p l e R s m args below meth c H locs cells slots mc ms (F0 m pc ls st0) (r.map jm_v) (jm_Qc G B rc post a) (jm_A B)) (hl : jm_L ls nL L) (hS : va_S (jm_A B) s.heap H locs)
    (kk : ∀ v h', jm_okv rc v → post v h' → jm_J p l e R s m args below meth c Q G B nL (pc + 3) L (jm_vs rc v ++ r) h' (cells + mc) (slots + ms)) : W p l e R s m args below meth c H locs cells slots Q (F0 m pc ls st0) := by
  intro T hT X
  obtain ⟨v, st₀, t, T', L', h0, X', hL, e1, e2, ⟨⟨w, h', hv, hok, hp, hP'⟩, hz, hk⟩, st⟩ := hr T hT X
  cases hv
  rw [h0] at hz hk
  have hvm : t.vm.Alike s.vm := by rw [← e2]; exact X'.warmed.alike.symm
  have hS' : va_S (jm_A B) s.heap T'.heap (locs ++ L') := ⟨Nat.le_trans hS.1 (by rw [e1]; exact hz), fun q h1 h2 => by rw [e1, hk q (Nat.lt_of_lt_of_le h1 hS.1) h2]; exact hS.2.1 q h1 h2, fun q hq => by
      rcases List.mem_append.mp hq with h | h
      · exact hS.2.2 q h
      · exact hL q h⟩
  obtain ⟨t2, a1, b1⟩ := kk w h' hok hp T'.heap (locs ++ L') ls (by rw [e1]; exact hP'.moved hvm) hl hS' T' rfl X'
  refine ⟨t2, st t2 ?_, b1⟩
  have hst : (jm_rv rc w).toList ++ r.map jm_v = (jm_vs rc w ++ r).map jm_v := by
    unfold jm_rv jm_vs
    cases rc <;> simp
  rw [hst]
  exact a1
theorem jm_pre (hE : jm_E G B s) {H : Heap} {locs : List Loc} (hP : jm_P G B s h H) (hS : va_S (jm_A B) s.heap H locs) (as : List jm_V) : PreS s H (jm_Pc G B as h) (as.map jm_v) :=
  ⟨fun a U g mk q => ⟨q.1, q.2.1.same rfl rfl, q.2.2.moved (Vm.Alike.refl U.vm)⟩, fun U hU hW => ⟨rfl, hE.to hW (by rw [hU]; exact hS.1) (fun a h1 h2 => by rw [hU]; exact hS.2.1 a h1 h2), by rw [hU]; exact hP.moved hW.alike⟩⟩
theorem jm_ws_in {M : jm_M} {q : Nat} (h : jm_hw (jm_big G) q (.code M.1 M.2.1 M.2.2.1 M.2.2.2.1) = true) : ∀ w ∈ jm_ws G M, w ∈ jm_Ts G := by
  intro w hw
  rcases List.mem_cons.mp hw with e | e
  · rw [e]; exact jm_hw_in h
  · exact e
theorem jm_callS (X : jm_X G B p s m args meth c own cc nL) {M : jm_M} {idx na ql : Nat} {qm : List Nat} {as r : List jm_V} {post : jm_V → jm_H → Prop} (hd : decode cc pc = .ok (.invokestatic idx, 3)) (h1 : jm_hw (jm_big G) ql (.methodLink own idx M.1) = true) (h2 : jm_mv (jm_big G) M 0 na R.frames R.locals "" qm = true) (hna : as.length = na) (h4 : jm_l4 r) (hc : cells + M.2.2.2.2.2.2.1 ≤ R.cells) (hs : slots + M.2.2.2.2.2.2.2 ≤ R.slots) (hM : jm_Ct G B l M as h post)
    (kk : ∀ v h', jm_okv (jm_rc M.2.2.2.1) v → post v h' → jm_J p l e R s m args below meth c Q G B nL (pc + 3) L (jm_vs (jm_rc M.2.2.2.1) v ++ r) h' (cells + M.2.2.2.2.2.2.1) (slots + M.2.2.2.2.2.2.2)) : jm_J p l e R s m args below meth c Q G B nL pc L (as.reverse ++ r) h cells slots := by
  obtain ⟨hx, hb, hml, hown, hts, hE, hlk⟩ := X
  intro H locs ls hP hl hS
  simp only [jm_mv, Bool.and_eq_true, decide_eq_true_eq] at h2
  obtain ⟨⟨⟨⟨g1, g2⟩, g3⟩, g4⟩, g5⟩ := h2
  split at g5
  · rename_i qc qi qs qn
    simp only [Bool.and_eq_true, decide_eq_true_eq] at g5
    obtain ⟨k1, ⟨k2, k3⟩, k4⟩ := g5
    have hin := jm_ws_in k1
    have hT : GoodIn (jm_Ts G) (va_wsS own idx M.1 (jm_ws G M)) := jm_goodIn (fun w hw => by
      unfold va_wsS at hw
      rcases List.mem_append.mp hw with hw | hw
      · simp only [List.mem_cons, List.not_mem_nil, or_false] at hw
        rcases hw with rfl | rfl | rfl
        · exact jm_hw_in h1
        · exact jm_hw_in k2
        · exact jm_hw_in k3
      · exact hin w hw)
    refine jm_run (va_runS (As := as.map jm_v) (rest := r.map jm_v) ⟨hx, hb, hml, hown, hts⟩ hM (va_cwS na hts hT rfl rfl rfl ⟨g1, g2, k4⟩ ⟨g3, g4⟩) (jm_pre hE hP hS as) rfl (by rw [List.length_map]; exact hna) hl.1 (by simp) (lv_room (jm_l4_ok h4)) hd ⟨hc, hs⟩) hl hS kk
  · cases g5
theorem jm_callV (X : jm_X G B p s m args meth c own cc nL) {M : jm_M} {idx na ql ci a : Nat} {rr : vw_C} {qm : List Nat} {as r : List jm_V} {post : jm_V → jm_H → Prop} (hd : decode cc pc = .ok (.invokevirtual idx, 3)) (hci : G.1[ci]? = some rr) (h1 : jm_hw (jm_big G) ql (.methodLink own idx M.1) = true) (h2 : jm_mv (jm_big G) M 1 na R.frames R.locals rr.1 qm = true) (hna : as.length + 1 = na) (ha : jm_k h a = some (.inl ci)) (h4 : jm_l4 r) (hc : cells + M.2.2.2.2.2.2.1 ≤ R.cells) (hs : slots + M.2.2.2.2.2.2.2 ≤ R.slots) (hM : jm_Ct G B l M (.inr (.inl (some a)) :: as) h post)
    (kk : ∀ v h', jm_okv (jm_rc M.2.2.2.1) v → post v h' → jm_J p l e R s m args below meth c Q G B nL (pc + 3) L (jm_vs (jm_rc M.2.2.2.1) v ++ r) h' (cells + M.2.2.2.2.2.2.1) (slots + M.2.2.2.2.2.2.2)) : jm_J p l e R s m args below meth c Q G B nL pc L (as.reverse ++ .inr (.inl (some a)) :: r) h cells slots := by
  obtain ⟨hx, hb, hml, hown, hts, hE, hlk⟩ := X
  intro H locs ls hP hl hS
  simp only [jm_mv, Bool.and_eq_true, decide_eq_true_eq] at h2
  obtain ⟨⟨⟨⟨g1, g2⟩, g3⟩, g4⟩, g5⟩ := h2
  split at g5
  · rename_i qc qi qs qn
    simp only [Bool.and_eq_true, decide_eq_true_eq] at g5
    obtain ⟨k1, ⟨⟨⟨k2, k3⟩, k4⟩, k5⟩, k6⟩ := g5
    have hin := jm_ws_in k1
    have hT : GoodIn (jm_Ts G) (wsV own idx rr.1 M.1 (jm_ws G M)) := jm_goodIn (fun w hw => by
      unfold wsV at hw
      rcases List.mem_append.mp hw with hw | hw
      · simp only [List.mem_cons, List.not_mem_nil, or_false] at hw
        rcases hw with rfl | rfl | rfl | rfl
        · exact jm_hw_in h1
        · exact jm_hw_in k2
        · exact jm_hw_in k3
        · exact jm_hw_in k4
      · exact hin w hw)
    obtain ⟨hz, r', hr', cell, q1, q2, q3, q4⟩ := hP.obj ha
    cases Option.some.inj (hr'.symm.trans hci)
    obtain ⟨hb1, hb2⟩ := jm_pre hE hP hS (.inr (.inl (some a)) :: as)
    have hn : (parseMethodDescriptor M.1.desc).map (fun d => d.parameters.length) = some as.length := by
      cases hq : parseMethodDescriptor M.1.desc with
      | none => rw [hq] at k6; cases k6
      | some d =>
        rw [hq] at k6
        have k7 : d.parameters.length + 1 = na := Option.some.inj k6
        simp only [Option.map_some]
        congr 1
        omega
    refine jm_run (va_runV (As := as.map jm_v) (rest := r.map jm_v) ⟨hx, hb, hml, hown, hts⟩ hM (cwV as.length hts hT rfl rfl rfl ⟨k5, g1, g2, hn⟩ ⟨g3, g4⟩) ⟨hb1, ⟨cell, q1, by rw [q3]; rfl, by rw [q2]; exact (hE.1 ci _ hci).2.1⟩, hb2⟩ rfl (by rw [List.length_map]) hl.1 (by simp [jm_v, va_rf]) (lv_room (jm_l4_ok h4)) hd ⟨hc, hs⟩) hl hS kk
  · cases g5
theorem jm_callI (X : jm_X G B p s m args meth c own cc nL) {M : jm_M} {idx na ql a nest : Nat} {qm : List Nat} {as r : List jm_V} {post : jm_V → jm_H → Prop} (hd : decode cc pc = .ok (.invokespecial idx, 3)) (h1 : (if nest = 0 then jm_hw (jm_big G) ql (.methodLink own idx M.1) else decide (∃ r ∈ G.2.2.2.1, r.1 = own ∧ r.2.1 = idx ∧ r.2.2.1 = M.1)) = true) (h2 : jm_mv (jm_big G) M 2 na R.frames R.locals "" qm = true) (hna : as.length + 1 = na) (h4 : jm_l4 r) (hc : cells + M.2.2.2.2.2.2.1 ≤ R.cells) (hs : slots + M.2.2.2.2.2.2.2 ≤ R.slots) (hM : jm_Ct G B l M (.inr (.inl (some a)) :: as) h post)
    (kk : ∀ v h', jm_okv (jm_rc M.2.2.2.1) v → post v h' → jm_J p l e R s m args below meth c Q G B nL (pc + 3) L (jm_vs (jm_rc M.2.2.2.1) v ++ r) h' (cells + M.2.2.2.2.2.2.1) (slots + M.2.2.2.2.2.2.2)) : jm_J p l e R s m args below meth c Q G B nL pc L (as.reverse ++ .inr (.inl (some a)) :: r) h cells slots := by
  obtain ⟨hx, hb, hml, hown, hts, hE, hlk⟩ := X
  intro H locs ls hP hl hS
  simp only [jm_mv, Bool.and_eq_true, decide_eq_true_eq] at h2
  obtain ⟨⟨⟨⟨g1, g2⟩, g3⟩, g4⟩, g5⟩ := h2
  split at g5
  · rename_i qc qi qs qn
    simp only [Bool.and_eq_true, decide_eq_true_eq] at g5
    obtain ⟨k1, ⟨⟨⟨k2, k3⟩, k4⟩, k5⟩, k6⟩ := g5
    have hin := jm_goodIn (jm_ws_in k1)
    have hn : (parseMethodDescriptor M.1.desc).map (fun d => d.parameters.length) = some as.length := by
      cases hq : parseMethodDescriptor M.1.desc with
      | none => rw [hq] at k6; cases k6
      | some d =>
        rw [hq] at k6
        have k7 : d.parameters.length + 1 = na := Option.some.inj k6
        simp only [Option.map_some]
        congr 1
        omega
    have hw0 : jm_ws G M = Cond.code M.1 M.2.1 M.2.2.1 none :: jm_Ts G := by unfold jm_ws; rw [k5]
    have hp := jm_pre hE hP hS (.inr (.inl (some a)) :: as)
    by_cases hne : nest = 0
    · rw [if_pos hne] at h1
      exact jm_run (va_runI (As := as.map jm_v) (rest := r.map jm_v) ⟨hx, hb, hml, hown, hts⟩ hM (cwI as.length hts hin hw0 rfl rfl (hts _ (jm_hw_in k3)) (hts _ (jm_hw_in h1)) (hts _ (jm_hw_in k2)) k4 ⟨g1, g2, hn⟩ ⟨g3, g4⟩) hp rfl (by rw [List.length_map]) hl.1 (by simp [jm_v, va_rf]) (lv_room (jm_l4_ok h4)) hd ⟨hc, hs⟩) hl hS kk
    · rw [if_neg hne] at h1
      obtain ⟨q, hq, e1, e2, e3⟩ := of_decide_eq_true h1
      have hnw := hE.2.1 q hq
      rw [e1, e2, e3] at hnw
      exact jm_run (va_runIN (As := as.map jm_v) (rest := r.map jm_v) ⟨hx, hb, hml, hown, hts⟩ hM ⟨va_cnB as.length hts hin hw0 rfl rfl hnw (hts _ (jm_hw_in k3)) ⟨g1, g2, hn⟩ ⟨g3, g4⟩, k4, hts _ (jm_hw_in k2)⟩ hp rfl (by rw [List.length_map]) hl.1 (by simp [jm_v, va_rf]) (lv_room (jm_l4_ok h4)) hd ⟨hc, hs⟩) hl hS kk
  · cases g5
end JS
