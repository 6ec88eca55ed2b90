section JM
variable {p : Program} {l : Launch} {e : Env} {R : Room} {s : State} {m : MethodId} {args : Array Value} {below : List Frame} {meth : Method} {c : Code} {Q : State → Prop} {G : jm_T} {B : jm_B} {own : String} {cc : ByteArray} {nL : Nat}
variable {pc cells slots : Nat} {L : List (Option jm_V)} {st : List jm_V} {h : jm_H}
/-- what holds of a method while it runs -/
def jm_X (G : jm_T) (B : jm_B) (p : Program) (s : State) (m : MethodId) (args : Array Value) (meth : Method) (c : Code) (own : String) (cc : ByteArray) (nL : Nat) : Prop :=
  p.tables.exec = Jvm.exec ∧ c.code = cc ∧ c.maxLocals = nL ∧ s.vm.findClass own = some m.cls ∧ (∀ w ∈ jm_Ts G, w.before args s = true) ∧ jm_E G B s ∧ meth.locks = false
/-- from every heap of the picture h the machine comes to Q -/
def jm_J (p : Program) (l : Launch) (e : Env) (R : Room) (s : State) (m : MethodId) (args : Array Value) (below : List Frame) (meth : Method) (c : Code) (Q : State → Prop) (G : jm_T) (B : jm_B) (nL : Nat) (pc : Nat) (L : List (Option jm_V)) (st : List jm_V) (h : jm_H) (cells slots : Nat) : Prop :=
  ∀ (H : Heap) (locs : List Loc) (ls : Array Slot), jm_P G B s h H → jm_L ls nL L → va_S (jm_A B) s.heap H locs → W p l e R s m args below meth c H locs cells slots Q (F0 m pc ls (st.map jm_v))
theorem jm_getf (X : jm_X G B p s m args meth c own cc nL) (hT : jm_TT G) {ci k cd index a : Nat} {r : vw_C} (hc : G.1[ci]? = some r) (hk : k < r.2.2) (hcd : G.2.1 ci k = cd) (hlink : Cond.fieldLink own index (r.2.1 k).1 (r.2.1 k).2.1 (r.2.1 k).2.2.1 ∈ jm_Ts G)
    (hd : decode cc pc = .ok (.getfield index, 3)) (ha : jm_k h a = some (.inl ci)) (kk : jm_J p l e R s m args below meth c Q G B nL (pc + 3) L (jm_g cd h a k :: st) h cells slots) : jm_J p l e R s m args below meth c Q G B nL pc L (.inr (.inl (some a)) :: st) h cells slots := by
  obtain ⟨hx, hb, hml, hown, hts, hE, hlk⟩ := X
  intro H locs ls hP hl hS
  obtain ⟨hz, r', hr', cell, q1, q2, q3, q4⟩ := hP.obj ha
  cases Option.some.inj (hr'.symm.trans hc)
  obtain ⟨hin, -, -, -, -⟩ := hT ci r hc
  obtain ⟨hSl, hfc, kC, hkC, hkind⟩ := hE.1 ci _ hc
  obtain ⟨cf, kf, fi, f, hi, hsl⟩ := hSl k hk
  refine W.getf hx hb hown (hts _ hlink) hi (u_facts hfc hkC (u_lays hts hin hk) hi).1 q1 (by rw [q3]; exact fun h => by cases h) (v := jm_v (jm_g cd h a k)) ?_ rfl rfl hd (kk H locs ls hP hl hS)
  rw [hsl, q4 k hk]
  simp only [hcd]
/-- what a put does to the picture -/
theorem jm_putP (hT : jm_TT G) {args : Array Value} (hts : ∀ w ∈ jm_Ts G, w.before args s = true) (hE : jm_E G B s) {ci k a : Nat} {r : vw_C} (hc : G.1[ci]? = some r) (hk : k < r.2.2) {h' : jm_H} {v : jm_V} {H H' : Heap} {cell : Cell} {sl : Nat} (hP : jm_P G B s h H) (ha : jm_k h a = some (.inl ci)) (h1 : h'.1 = h.1) (h2 : jm_n h' = jm_n h) (hv : jm_g (G.2.1 ci k) h' a k = v) (hg : ∀ t b j, ¬ (b = a ∧ j = k) → jm_g t h' b j = jm_g t h b j)
    (q1 : H[a]? = some cell) (q2 : cell.cls = B.1.1 ci) (q3 : cell.vm = .none) (q4 : ∀ j, j < r.2.2 → cell.slots[B.1.2 ci j]? = some (jm_v (jm_g (G.2.1 ci j) h a j))) (hsl : sl = B.1.2 ci k) (e1 : H'[a]? = some (cell.setSlot sl (jm_v v))) (e2 : H'.size = H.size) (e3 : ∀ q : Nat, q ≠ a → H'[q]? = H[q]?) : jm_P G B s h' H' := by
  subst hsl
  obtain ⟨hin, ⟨ty, hty⟩, hnm, -, -⟩ := hT ci r hc
  obtain ⟨hz, -⟩ := hP.obj ha
  have hap : ∀ x y, x < r.2.2 → y < r.2.2 → x ≠ y → (B.1.2 ci) x ≠ (B.1.2 ci) y := by
    intro x y hx hy hne
    obtain ⟨hS, -⟩ := hE.1 ci _ hc
    obtain ⟨_, _, _, fa, hia, ea⟩ := hS x hx
    obtain ⟨_, _, _, fb, hib, eb⟩ := hS y hy
    rw [← ea, ← eb]
    refine u_apart (u_lays hts hin hx) (u_lays hts hin hy) hia hib ?_
    rw [(State.fieldFound?_type hia (hty x hx).1).1, (State.fieldFound?_type hib (hty y hy).1).1]
    exact hnm x hx y hy hne
  refine hP.put (k := k) h1 h2 hg e2 e3 ?_
  unfold jm_OK
  rw [show h'.1 a = some (.inl ci) by rw [h1]; exact ha]
  refine ⟨hz, r, hc, cell.setSlot (B.1.2 ci k) (jm_v v), e1, q2, q3, fun j hj => ?_⟩
  rw [t_set q4 hap hk (jm_v v) j hj]
  by_cases hjk : j = k
  · subst hjk
    simp [updV, hv]
  · have := hg (G.2.1 ci j) a j (fun e => hjk e.2)
    simp [updV, hjk, this]
theorem jm_putf (X : jm_X G B p s m args meth c own cc nL) (hT : jm_TT G) {ci k cd index a : Nat} {r : vw_C} {v : jm_V} (hc : G.1[ci]? = some r) (hk : k < r.2.2) (hcd : G.2.1 ci k = cd) (hlink : Cond.fieldLink own index (r.2.1 k).1 (r.2.1 k).2.1 (r.2.1 k).2.2.1 ∈ jm_Ts G)
    (hfin : (r.2.1 k).2.2.2 = false ∨ ((r.2.1 k).2.2.2 = true ∧ meth.name = "<init>" ∧ (r.2.1 k).1 = own))
    (hd : decode cc pc = .ok (.putfield index, 3)) (ha : jm_k h a = some (.inl ci)) (kk : jm_pt cd h a k v (fun h' => jm_J p l e R s m args below meth c Q G B nL (pc + 3) L st h' cells slots)) : jm_J p l e R s m args below meth c Q G B nL pc L (v :: .inr (.inl (some a)) :: st) h cells slots := by
  obtain ⟨hx, hb, hml, hown, hts, hE, hlk⟩ := X
  intro H locs ls hP hl hS
  obtain ⟨hz, r', hr', cell, q1, q2, q3, q4⟩ := hP.obj ha
  cases Option.some.inj (hr'.symm.trans hc)
  obtain ⟨hin, ⟨ty, hty⟩, hnm, -, -⟩ := hT ci r hc
  obtain ⟨hSl, hfc, kC, hkC, hkind⟩ := hE.1 ci _ hc
  obtain ⟨cf, kf, fi, f, hi, hsl⟩ := hSl k hk
  obtain ⟨h', kk', h1, h2, hv, hg, hn⟩ := jm_pt_spec kk
  have hlay := hts _ (hin _ (u_in_lay hk))
  have hst := (u_facts hfc hkC (u_lays hts hin hk) hi).1
  obtain ⟨hnar, hfit⟩ := hn (ty k) ((hty k hk).2.1.trans hcd)
  rcases hfin with hfin | ⟨hfin, hin2, hdecl⟩
  · unfold u_lay at hlay
    rw [if_neg (by rw [hfin]; decide)] at hlay
    have h6 := u_store hfc hkC hkind hlay hi (hty k hk).1 hnar hfit
    refine W.putK hx hb (f := f) ⟨hown, hts _ hlink, ⟨_, _, _, hi⟩, hst⟩ (by rw [q2]; exact h6) q1 q3 (by rw [hsl]; exact k2_hasslot (q4 k hk)) rfl rfl hd fun H' e1 e2 e3 => ?_
    exact kk' H' _ ls (jm_putP hT hts hE hc hk hP ha h1 h2 (by rw [hcd]; exact hv) hg q1 q2 q3 q4 hsl e1 e2 e3) hl (hS.put e2 e3 hz)
  · unfold u_lay at hlay
    rw [if_pos hfin] at hlay
    have hcf : m.cls = cf := by
      obtain ⟨_, _, c', _, _, _, -, -, hf', -, -, -, hown2, -⟩ := Cond.laysFinal_spec hlay
      have e1 : c' = cf := by have := hi.symm.trans hf'; simp at this; exact this.1.symm
      rw [hdecl] at hown2
      rw [← e1]; exact Option.some.inj (hown.symm.trans hown2)
    have h6 := u_fits hfc hkC hkind (Or.inr hlay) hi (hty k hk).1 hnar hfit
    refine W.putFinK hx hb hown (hts _ hlink) hi hst hcf hin2 (by rw [q2]; exact h6) q1 q3 (by rw [hsl]; exact k2_hasslot (q4 k hk)) rfl rfl hd fun H' e1 e2 e3 => ?_
    exact kk' H' _ ls (jm_putP hT hts hE hc hk hP ha h1 h2 (by rw [hcd]; exact hv) hg q1 q2 q3 q4 hsl e1 e2 e3) hl (hS.put e2 e3 hz)
theorem jm_new (X : jm_X G B p s m args meth c own cc nL) (hT : jm_TT G) {ci index N : Nat} {r : vw_C} (hc : G.1[ci]? = some r) (hN : r.2.2 = N) (hlink : Cond.classLink own index r.1 ∈ jm_Ts G) (hd : decode cc pc = .ok (.new index, 3)) (h1 : cells + 1 ≤ R.cells) (h2 : slots + N ≤ R.slots)
    (kk : jm_J p l e R s m args below meth c Q G B nL (pc + 3) L (.inr (.inl (some (jm_n h))) :: st) (jm_nw h (.inl ci)) (cells + 1) (slots + N)) : jm_J p l e R s m args below meth c Q G B nL pc L st h cells slots := by
  obtain ⟨hx, hb, hml, hown, hts, hE, hlk⟩ := X
  subst hN
  intro H locs ls hP hl hS
  obtain ⟨hin, ⟨ty, hty⟩, hnm, hi1, hi2⟩ := hT ci r hc
  have hKn := hE.1 ci _ hc
  refine W.newcK hx hb hown (hts _ hlink) (hts _ hi1) (hts _ hi2) rfl hd h1 h2 hKn.2.1 hP.1 fun H1 kC hkC e1 z1 o1 => ?_
  have hsz := hP.1
  refine kk H1 locs ls (hP.new (by rw [hsz]; exact z1) (fun q hq => o1 q (by rw [← hsz]; exact hq)) ?_) hl ⟨Nat.le_trans hS.1 (by rw [z1, hsz]; exact Nat.le_succ _), fun q g1 g2 => (o1 q (by rw [← hsz]; exact Nat.lt_of_lt_of_le g1 hS.1)).trans (hS.2.1 q g1 g2), hS.2.2⟩
  unfold jm_OK
  rw [show (jm_nw h (.inl ci)).1 H.size = some (.inl ci) from if_pos hsz]
  refine ⟨Nat.le_trans hE.2.2.2.2.2.2 hS.1, r, hc, ?_⟩
  rw [hsz]
  refine (u_born ty hts hin hKn hkC e1 (fun k hk => (hty k hk).1)).to (fun k hk => ?_)
  exact jm_nw_g h (.inl ci) (ty k) (G.2.1 ci k) k (hty k hk).2.1 (hty k hk).2.2
theorem jm_gets (X : jm_X G B p s m args meth c own cc nL) {i index : Nat} {q : String × String × String} (hq : G.2.2.2.2.2[i]? = some q) (hlink : Cond.fieldLink own index q.1 q.2.1 q.2.2 ∈ jm_Ts G) (hd : decode cc pc = .ok (.getstatic index, 3))
    (kk : jm_J p l e R s m args below meth c Q G B nL (pc + 3) L (.inr (.inl (some (B.2.2 i))) :: st) h cells slots) : jm_J p l e R s m args below meth c Q G B nL pc L st h cells slots := by
  obtain ⟨hx, hb, hml, hown, hts, hE, hlk⟩ := X
  intro H locs ls hP hl hS
  exact va_gets hx hb (hE.2.2.2.1 i q hq) hS hown (hts _ hlink) (fun _ h => h) hd (kk H locs ls hP hl hS)
theorem jm_alen (X : jm_X G B p s m args meth c own cc nL) {a t n : Nat} (hd : decode cc pc = .ok (.arraylength, 1)) (ha : jm_k h a = some (.inr (t, n))) (kk : jm_J p l e R s m args below meth c Q G B nL (pc + 1) L (.inl (Int32.ofNat n) :: st) h cells slots) : jm_J p l e R s m args below meth c Q G B nL pc L (.inr (.inl (some a)) :: st) h cells slots := by
  obtain ⟨hx, hb, hml, hown, hts, hE, hlk⟩ := X
  intro H locs ls hP hl hS
  obtain ⟨hz, cell, q1, q2, q3, q4, q5, q6, q7⟩ := hP.arr ha
  exact W.alen (n := Int32.ofNat n) hx hb q1 q2 q6 rfl rfl hd (kk H locs ls hP hl hS)
theorem jm_inb {i : Int32} {n : Nat} {cell : Cell} (hi : vp_in i n) (h5 : n ≤ cell.slots.size) : ¬ (i < 0 ∨ cell.slots.size ≤ i.toNatClampNeg) := by
  intro q
  rcases q with q | q
  · exact hi (Or.inl q)
  · exact hi (Or.inr (Nat.le_trans h5 q))
theorem jm_inlt {i : Int32} {n : Nat} (hi : vp_in i n) : i.toNatClampNeg < n := Nat.not_le.mp fun q => hi (Or.inr q)
/-- what a store into an array does to the picture -/
theorem jm_astP {a t n k : Nat} {h' : jm_H} {v : jm_V} {H H' : Heap} {cell : Cell} {w : Value} (hP : jm_P G B s h H) (ha : jm_k h a = some (.inr (t, n))) (hk : k < n) (h1 : h'.1 = h.1) (h2 : jm_n h' = jm_n h) (hv : jm_g (jm_tA G t).2.1 h' a k = v) (hg : ∀ t' b j, ¬ (b = a ∧ j = k) → jm_g t' h' b j = jm_g t' h b j)
    (q1 : H[a]? = some cell) (hw : w = jm_v v) (e1 : H'[a]? = some (cell.setSlot k w)) (e2 : H'.size = H.size) (e3 : ∀ q : Nat, q ≠ a → H'[q]? = H[q]?) : jm_P G B s h' H' := by
  subst hw
  obtain ⟨hz, cell', q1', q2, q3, q4, q5, q6, q7⟩ := hP.arr ha
  have ec : cell' = cell := Option.some.inj (q1'.symm.trans q1)
  rw [ec] at q2 q3 q4 q5 q6 q7
  refine hP.put (k := k) h1 h2 hg e2 e3 ?_
  unfold jm_OK
  rw [show h'.1 a = some (.inr (t, n)) by rw [h1]; exact ha]
  refine ⟨hz, cell.setSlot k (jm_v v), e1, q2, q3, q4, by rw [k2_slotsz]; exact q5, by rw [k2_slotsz]; exact q6, fun j hj => ?_⟩
  by_cases hjk : j = k
  · subst hjk
    rw [Cell.slots_setSlot_self _ (Nat.lt_of_lt_of_le hj q5), hv]
  · rw [slot_ne _ _ (fun e => hjk e.symm), q7 j hj, hg _ a j (fun e => hjk e.2)]
theorem jm_iald (X : jm_X G B p s m args meth c own cc nL) {a t n : Nat} {i : Int32} (hd : decode cc pc = .ok (.iaload, 1)) (ht : t = 0 ∨ t = 1) (ha : jm_k h a = some (.inr (t, n))) (hi : vp_in i n) (kk : jm_J p l e R s m args below meth c Q G B nL (pc + 1) L (.inl (jm_i h a i.toNatClampNeg) :: st) h cells slots) : jm_J p l e R s m args below meth c Q G B nL pc L (.inl i :: .inr (.inl (some a)) :: st) h cells slots := by
  obtain ⟨hx, hb, hml, hown, hts, hE, hlk⟩ := X
  intro H locs ls hP hl hS
  obtain ⟨hz, cell, q1, q2, q3, q4, q5, q6, q7⟩ := hP.arr ha
  rcases ht with ht | ht <;> subst ht <;> exact W.iald (v := .int (jm_i h a i.toNatClampNeg)) hx hb q1 q2 q3 (jm_inb hi q5) (q7 _ (jm_inlt hi)) rfl rfl hd (kk H locs ls hP hl hS)
theorem jm_zald (X : jm_X G B p s m args meth c own cc nL) {a n : Nat} {i : Int32} (hd : decode cc pc = .ok (.baload, 1)) (ha : jm_k h a = some (.inr (3, n))) (hi : vp_in i n) (kk : jm_J p l e R s m args below meth c Q G B nL (pc + 1) L (.inl (jm_i h a i.toNatClampNeg) :: st) h cells slots) : jm_J p l e R s m args below meth c Q G B nL pc L (.inl i :: .inr (.inl (some a)) :: st) h cells slots := by
  obtain ⟨hx, hb, hml, hown, hts, hE, hlk⟩ := X
  intro H locs ls hP hl hS
  obtain ⟨hz, cell, q1, q2, q3, q4, q5, q6, q7⟩ := hP.arr ha
  exact W.zald (v := .int (jm_i h a i.toNatClampNeg)) hx hb q1 q2 q3 (jm_inb hi q5) (q7 _ (jm_inlt hi)) rfl rfl hd (kk H locs ls hP hl hS)
theorem jm_lald (X : jm_X G B p s m args meth c own cc nL) {a n : Nat} {i : Int32} (hd : decode cc pc = .ok (.laload, 1)) (ha : jm_k h a = some (.inr (2, n))) (hi : vp_in i n) (kk : jm_J p l e R s m args below meth c Q G B nL (pc + 1) L (.inr (.inr (jm_l h a i.toNatClampNeg)) :: st) h cells slots) : jm_J p l e R s m args below meth c Q G B nL pc L (.inl i :: .inr (.inl (some a)) :: st) h cells slots := by
  obtain ⟨hx, hb, hml, hown, hts, hE, hlk⟩ := X
  intro H locs ls hP hl hS
  obtain ⟨hz, cell, q1, q2, q3, q4, q5, q6, q7⟩ := hP.arr ha
  exact W.lald (v := .long (jm_l h a i.toNatClampNeg)) hx hb q1 q2 q3 (jm_inb hi q5) (q7 _ (jm_inlt hi)) rfl rfl hd (kk H locs ls hP hl hS)
theorem jm_aald (X : jm_X G B p s m args meth c own cc nL) {a t n : Nat} {i : Int32} (hd : decode cc pc = .ok (.aaload, 1)) (ha : jm_k h a = some (.inr (t + 4, n))) (hi : vp_in i n) (kk : jm_J p l e R s m args below meth c Q G B nL (pc + 1) L (.inr (.inl (jm_r h a i.toNatClampNeg)) :: st) h cells slots) : jm_J p l e R s m args below meth c Q G B nL pc L (.inl i :: .inr (.inl (some a)) :: st) h cells slots := by
  obtain ⟨hx, hb, hml, hown, hts, hE, hlk⟩ := X
  intro H locs ls hP hl hS
  obtain ⟨hz, cell, q1, q2, q3, q4, q5, q6, q7⟩ := hP.arr ha
  exact W.aald (v := va_rf (jm_r h a i.toNatClampNeg)) hx hb q1 q2 rfl q3 (jm_inb hi q5) (q7 _ (jm_inlt hi)) rfl rfl hd (kk H locs ls hP hl hS)
theorem jm_iast (X : jm_X G B p s m args meth c own cc nL) {a n : Nat} {i x : Int32} (hd : decode cc pc = .ok (.iastore, 1)) (ha : jm_k h a = some (.inr (0, n))) (hi : vp_in i n) (kk : jm_J p l e R s m args below meth c Q G B nL (pc + 1) L st (jm_si h a i.toNatClampNeg x) cells slots) : jm_J p l e R s m args below meth c Q G B nL pc L (.inl x :: .inl i :: .inr (.inl (some a)) :: st) h cells slots := by
  obtain ⟨hx, hb, hml, hown, hts, hE, hlk⟩ := X
  intro H locs ls hP hl hS
  obtain ⟨hz, cell, q1, q2, q3, q4, q5, q6, q7⟩ := hP.arr ha
  obtain ⟨h', kk', h1, h2, hv, hg, -⟩ := jm_pt_spec (t := 0) (h := h) (a := a) (k := i.toNatClampNeg) (v := .inl x) (K := fun h' => h' = jm_si h a i.toNatClampNeg x) rfl
  subst kk'
  refine W.iast hx hb q1 q2 q3 (jm_inb hi q5) rfl rfl hd fun H1 e z oq => ?_
  exact kk H1 _ ls (jm_astP hP ha (jm_inlt hi) h1 h2 hv hg q1 rfl e z oq) hl (hS.put z oq (hz rfl))
theorem jm_last (X : jm_X G B p s m args meth c own cc nL) {a n : Nat} {i : Int32} {x : Int64} (hd : decode cc pc = .ok (.lastore, 1)) (ha : jm_k h a = some (.inr (2, n))) (hi : vp_in i n) (kk : jm_J p l e R s m args below meth c Q G B nL (pc + 1) L st (jm_sl h a i.toNatClampNeg x) cells slots) : jm_J p l e R s m args below meth c Q G B nL pc L (.inr (.inr x) :: .inl i :: .inr (.inl (some a)) :: st) h cells slots := by
  obtain ⟨hx, hb, hml, hown, hts, hE, hlk⟩ := X
  intro H locs ls hP hl hS
  obtain ⟨hz, cell, q1, q2, q3, q4, q5, q6, q7⟩ := hP.arr ha
  obtain ⟨h', kk', h1, h2, hv, hg, -⟩ := jm_pt_spec (t := 2) (h := h) (a := a) (k := i.toNatClampNeg) (v := .inr (.inr x)) (K := fun h' => h' = jm_sl h a i.toNatClampNeg x) rfl
  subst kk'
  refine W.last hx hb q1 q2 q3 (jm_inb hi q5) rfl rfl hd fun H1 e z oq => ?_
  exact kk H1 _ ls (jm_astP hP ha (jm_inlt hi) h1 h2 hv hg q1 rfl e z oq) hl (hS.put z oq (hz rfl))
theorem jm_zast (X : jm_X G B p s m args meth c own cc nL) {a n : Nat} {i x : Int32} (hd : decode cc pc = .ok (.bastore, 1)) (hx1 : x = 0 ∨ x = 1) (ha : jm_k h a = some (.inr (3, n))) (hi : vp_in i n) (kk : jm_J p l e R s m args below meth c Q G B nL (pc + 1) L st (jm_si h a i.toNatClampNeg x) cells slots) : jm_J p l e R s m args below meth c Q G B nL pc L (.inl x :: .inl i :: .inr (.inl (some a)) :: st) h cells slots := by
  obtain ⟨hx, hb, hml, hown, hts, hE, hlk⟩ := X
  intro H locs ls hP hl hS
  obtain ⟨hz, cell, q1, q2, q3, q4, q5, q6, q7⟩ := hP.arr ha
  obtain ⟨h', kk', h1, h2, hv, hg, hn⟩ := jm_pt_spec (t := 1) (h := h) (a := a) (k := i.toNatClampNeg) (v := .inl x) (K := fun h' => h' = jm_si h a i.toNatClampNeg x) ⟨hx1, rfl⟩
  subst kk'
  refine W.zast hx hb q1 q2 q3 (jm_inb hi q5) rfl rfl hd fun H1 e z oq => ?_
  exact kk H1 _ ls (jm_astP hP ha (jm_inlt hi) h1 h2 hv hg q1 (hn .boolean rfl).1 e z oq) hl (hS.put z oq (hz rfl))
theorem jm_aast (X : jm_X G B p s m args meth c own cc nL) {a t n : Nat} {i : Int32} {o : Option Nat} (hd : decode cc pc = .ok (.aastore, 1)) (ho : ∀ v, o = some v → jm_k h v = some (.inl t)) (ha : jm_k h a = some (.inr (t + 4, n))) (hi : vp_in i n) (kk : jm_J p l e R s m args below meth c Q G B nL (pc + 1) L st (jm_sr h a i.toNatClampNeg o) cells slots) : jm_J p l e R s m args below meth c Q G B nL pc L (.inr (.inl o) :: .inl i :: .inr (.inl (some a)) :: st) h cells slots := by
  obtain ⟨hx, hb, hml, hown, hts, hE, hlk⟩ := X
  intro H locs ls hP hl hS
  obtain ⟨hz, cell, q1, q2, q3, q4, q5, q6, q7⟩ := hP.arr ha
  obtain ⟨h', kk', h1, h2, hv, hg, hn⟩ := jm_pt_spec (t := 3) (h := h) (a := a) (k := i.toNatClampNeg) (v := .inr (.inl o)) (K := fun h' => h' = jm_sr h a i.toNatClampNeg o) rfl
  subst kk'
  have hlt := jm_inlt hi
  have h0 : ¬ i < 0 := fun q => hi (Or.inl q)
  cases o with
  | none =>
    refine va_WaastN hx hb q1 q2 q3 (jm_inb hi q5) rfl rfl hd fun H1 e z oq => ?_
    exact kk H1 _ ls (jm_astP hP ha hlt h1 h2 hv hg q1 rfl e z oq) hl (hS.put z oq (hz rfl))
  | some v =>
    obtain ⟨-, r, hr, cellV, g1, g2, g3, -⟩ := hP.obj (ho v rfl)
    have hcls := (hE.1 t r hr).2
    have etA : (jm_tA G (t + 4)).1 = .object r.1 := by simp [jm_tA, hr]
    rw [etA] at q4 q2
    obtain ⟨kA, comp, k1, k2, k3⟩ := q4
    have hcomp : comp = B.1.1 t := Option.some.inj (k3.symm.trans hcls.1)
    subst hcomp
    obtain ⟨kC, hkC, -⟩ := hcls.2
    refine W.aast hx hb q1 q2.1 q3 k1 k2 rfl hkC ⟨h0, Nat.lt_of_lt_of_le hlt q5⟩ g1 (fun q h => by rw [g3] at h; cases h) (by rw [g2]; exact hkC) (by rw [g2]; exact va_assign hcls) rfl rfl hd fun H1 e z oq => ?_
    exact kk H1 _ ls (jm_astP hP ha hlt h1 h2 hv hg q1 rfl e z oq) hl (hS.put z oq (hz rfl))
/-- a new array of numbers -/
theorem jm_newa (X : jm_X G B p s m args meth c own cc nL) {at0 : ArrayType} {t : Nat} {x : Int32} (hd : decode cc pc = .ok (.newarray at0, 2)) (hword : Cond.arrayClass (newarray.typeOf at0) ∈ jm_Ts G) (hty : (jm_tA G t).1 = newarray.typeOf at0) (hcd : jm_tyc (newarray.typeOf at0) = (jm_tA G t).2.1) (h4 : (jm_tA G t).2.1 < 4) (hra : ∀ (U : State) (cA : ClassId), jm_RA U cA (newarray.typeOf at0))
    (hn : ¬ x < 0) (hbytes : x.toNatClampNeg * componentBytes (newarray.typeOf at0) ≤ 536870912) (h1 : cells + 1 ≤ R.cells) (h2 : slots + x.toNatClampNeg ≤ R.slots)
    (kk : jm_J p l e R s m args below meth c Q G B nL (pc + 2) L (.inr (.inl (some (jm_n h))) :: st) (jm_nw h (.inr (t, x.toNatClampNeg))) (cells + 1) (slots + x.toNatClampNeg)) : jm_J p l e R s m args below meth c Q G B nL pc L (.inl x :: st) h cells slots := by
  obtain ⟨hx, hb, hml, hown, hts, hE, hlk⟩ := X
  intro H locs ls hP hl hS
  have hsz := hP.1
  refine va_newaK hx hb (hts _ hword) rfl hd rfl hn rfl hbytes h1 h2 hsz fun H1 cA e1 z1 o1 hAr hNm => ?_
  refine kk H1 locs ls (hP.new (by rw [hsz]; exact z1) (fun q hq => o1 q (by rw [← hsz]; exact hq)) ?_) hl ⟨Nat.le_trans hS.1 (by rw [z1, hsz]; exact Nat.le_succ _), fun q g1 g2 => (o1 q (by rw [← hsz]; exact Nat.lt_of_lt_of_le g1 hS.1)).trans (hS.2.1 q g1 g2), hS.2.2⟩
  unfold jm_OK
  rw [show (jm_nw h (.inr (t, x.toNatClampNeg))).1 H.size = some (.inr (t, x.toNatClampNeg)) from if_pos hsz]
  refine ⟨fun _ => Nat.le_trans hE.2.2.2.2.2.2 hS.1, _, by rw [hsz]; exact e1, by rw [hty]; exact hAr _ _, (fun q => by cases q), by rw [hty]; exact hra _ _, by rw [arrV_size]; exact Nat.le_refl _, by rw [arrV_size], fun j hj => ?_⟩
  rw [arrV_read _ _ hj, hsz]
  exact congrArg some (jm_nw_g h _ _ _ j hcd h4)
theorem jm_newq (X : jm_X G B p s m args meth c own cc nL) {t index : Nat} {r : vw_C} {x : Int32} (hd : decode cc pc = .ok (.anewarray index, 3)) (hr : G.1[t]? = some r) (hlink : Cond.classLink own index r.1 ∈ jm_Ts G) (hao : r.1 ∈ G.2.2.2.2.1)
    (hn : ¬ x < 0) (hbytes : x.toNatClampNeg * 4 ≤ 536870912) (h1 : cells + 1 ≤ R.cells) (h2 : slots + x.toNatClampNeg ≤ R.slots)
    (kk : jm_J p l e R s m args below meth c Q G B nL (pc + 3) L (.inr (.inl (some (jm_n h))) :: st) (jm_nw h (.inr (t + 4, x.toNatClampNeg))) (cells + 1) (slots + x.toNatClampNeg)) : jm_J p l e R s m args below meth c Q G B nL pc L (.inl x :: st) h cells slots := by
  obtain ⟨hx, hb, hml, hown, hts, hE, hlk⟩ := X
  intro H locs ls hP hl hS
  have hsz := hP.1
  refine W.anew hx hb hown (hts _ hlink) (va_AO.use (hE.2.2.1 _ hao)) rfl hd rfl hn hbytes h1 h2 fun cA kA comp f1 f2 f3 f4 => ?_
  generalize hH1 : H.push ({ cls := cA, slots := Array.replicate x.toNatClampNeg .null, vm := .none } : Cell) = H1
  have z1 : H1.size = H.size + 1 := by rw [← hH1, Array.size_push]
  have e1 : H1[H.size]? = some (arrV cA x.toNatClampNeg (fun _ => .null)) := by rw [← hH1, Array.getElem?_push_size, ← arrV_new]
  have o1 : ∀ q : Nat, q < H.size → H1[q]? = H[q]? := fun q hq => by rw [← hH1, Array.getElem?_push, if_neg (Nat.ne_of_lt hq)]
  have hAr : ArrOfT s cA (.object r.1) := fun N z => ⟨(fun k h => by cases h), kA, f2, comp, f3⟩
  have etA : jm_tA G (t + 4) = (.object r.1, 3, true) := by simp [jm_tA, hr]
  have kk' := kk H1 locs ls (hP.new z1 o1 ?_) hl ⟨Nat.le_trans hS.1 (by rw [z1]; exact Nat.le_succ _), fun q g1 g2 => (o1 q (Nat.lt_of_lt_of_le g1 hS.1)).trans (hS.2.1 q g1 g2), hS.2.2⟩
  · rw [← hsz] at kk'
    exact kk'
  · unfold jm_OK
    rw [show (jm_nw h (.inr (t + 4, x.toNatClampNeg))).1 H.size = some (.inr (t + 4, x.toNatClampNeg)) from if_pos hsz]
    refine ⟨fun _ => Nat.le_trans hE.2.2.2.2.2.2 hS.1, _, e1, by rw [etA]; exact hAr _ _, (fun q => by cases q), by rw [etA]; exact ⟨kA, comp, f2, f3, f4⟩, by rw [arrV_size]; exact Nat.le_refl _, by rw [arrV_size], fun j hj => ?_⟩
    rw [arrV_read _ _ hj, hsz, etA]
    exact congrArg some (jm_nw_g h _ (.object r.1) 3 j rfl (by decide))
end JM
