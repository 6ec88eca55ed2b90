/-! A small machine over a pure heap: what a method's bytecode asks of the heap, as a proposition (jm_wp), and that the machine does it. -/
abbrev jm_V : Type := Int32 ⊕ (Option Nat ⊕ Int64)
def jm_v (v : jm_V) : Value := match v with
  | .inl x => .int x
  | .inr (.inl o) => va_rf o
  | .inr (.inr x) => .long x
abbrev jm_K : Type := Option (Nat ⊕ (Nat × Nat))
/-- kinds of the addresses; ints; references; longs; the next address -/
abbrev jm_H : Type := (Nat → jm_K) × (Nat → Nat → Int32) × (Nat → Nat → Option Nat) × (Nat → Nat → Int64) × Nat
def jm_k (h : jm_H) (a : Nat) : jm_K := h.1 a
def jm_i (h : jm_H) (a k : Nat) : Int32 := h.2.1 a k
def jm_r (h : jm_H) (a k : Nat) : Option Nat := h.2.2.1 a k
def jm_l (h : jm_H) (a k : Nat) : Int64 := h.2.2.2.1 a k
def jm_n (h : jm_H) : Nat := h.2.2.2.2
def jm_u2 {α : Type} (f : Nat → Nat → α) (a k : Nat) (v : α) : Nat → Nat → α := fun b j => if b = a ∧ j = k then v else f b j
def jm_si (h : jm_H) (a k : Nat) (v : Int32) : jm_H := (h.1, jm_u2 h.2.1 a k v, h.2.2)
def jm_sr (h : jm_H) (a k : Nat) (v : Option Nat) : jm_H := (h.1, h.2.1, jm_u2 h.2.2.1 a k v, h.2.2.2)
def jm_sl (h : jm_H) (a k : Nat) (v : Int64) : jm_H := (h.1, h.2.1, h.2.2.1, jm_u2 h.2.2.2.1 a k v, h.2.2.2.2)
def jm_nw (h : jm_H) (kd : Nat ⊕ (Nat × Nat)) : jm_H :=
  (fun b => if b = jm_n h then some kd else h.1 b, fun b j => if b = jm_n h then 0 else h.2.1 b j, fun b j => if b = jm_n h then none else h.2.2.1 b j, fun b j => if b = jm_n h then 0 else h.2.2.2.1 b j, jm_n h + 1)
theorem jm_u2_s {α : Type} (f : Nat → Nat → α) (a k : Nat) (v : α) : jm_u2 f a k v a k = v := by simp [jm_u2]
theorem jm_u2_n {α : Type} (f : Nat → Nat → α) {a k b j : Nat} (v : α) (h : ¬ (b = a ∧ j = k)) : jm_u2 f a k v b j = f b j := by simp [jm_u2, h]
/-- the value under an address and a place, by a type's code: 0 int, 1 boolean, 2 long, 3 reference -/
def jm_g (t : Nat) (h : jm_H) (a k : Nat) : jm_V := match t with
  | 0 => .inl (jm_i h a k)
  | 1 => .inl (jm_i h a k)
  | 2 => .inr (.inr (jm_l h a k))
  | _ => .inr (.inl (jm_r h a k))
def jm_tyc (ty : FieldType) : Nat := match ty with
  | .int => 0
  | .boolean => 1
  | .long => 2
  | .object _ => 3
  | .array _ => 3
  | _ => 9
def jm_pt (t : Nat) (h : jm_H) (a k : Nat) (v : jm_V) (K : jm_H → Prop) : Prop := match t, v with
  | 0, .inl x => K (jm_si h a k x)
  | 1, .inl x => (x = 0 ∨ x = 1) ∧ K (jm_si h a k x)
  | 2, .inr (.inr x) => K (jm_sl h a k x)
  | 3, .inr (.inl o) => K (jm_sr h a k o)
  | _, _ => False
theorem jm_pt_spec {t : Nat} {h : jm_H} {a k : Nat} {v : jm_V} {K : jm_H → Prop} (p : jm_pt t h a k v K) :
    ∃ h' : jm_H, K h' ∧ h'.1 = h.1 ∧ jm_n h' = jm_n h ∧ jm_g t h' a k = v ∧ (∀ t' b j, ¬ (b = a ∧ j = k) → jm_g t' h' b j = jm_g t' h b j) ∧ ∀ ty, jm_tyc ty = t → narrow ty (jm_v v) = jm_v v ∧ fits ty (jm_v v) = true := by
  have hg : ∀ (h' : jm_H) (b j : Nat), jm_i h' b j = jm_i h b j → jm_r h' b j = jm_r h b j → jm_l h' b j = jm_l h b j → ∀ t', jm_g t' h' b j = jm_g t' h b j := by
    intro h' b j e1 e2 e3 t'
    unfold jm_g
    split <;> simp [e1, e2, e3]
  unfold jm_pt at p
  split at p
  · rename_i x
    refine ⟨_, p, rfl, rfl, ?_, ?_, ?_⟩
    · show Sum.inl (jm_u2 _ _ _ _ _ _) = _
      rw [jm_u2_s]
    · intro t' b j hn
      exact hg (jm_si h a k x) b j (jm_u2_n h.2.1 x hn) rfl rfl t'
    · intro ty hty
      cases ty <;> simp [jm_tyc] at hty
      exact ⟨rfl, rfl⟩
  · rename_i x
    refine ⟨_, p.2, rfl, rfl, ?_, ?_, ?_⟩
    · show Sum.inl (jm_u2 _ _ _ _ _ _) = _
      rw [jm_u2_s]
    · intro t' b j hn
      exact hg (jm_si h a k x) b j (jm_u2_n h.2.1 x hn) rfl rfl t'
    · intro ty hty
      cases ty <;> simp [jm_tyc] at hty
      rcases p.1 with e | e <;> subst e <;> exact ⟨rfl, rfl⟩
  · rename_i x
    refine ⟨_, p, rfl, rfl, ?_, ?_, ?_⟩
    · show Sum.inr (Sum.inr (jm_u2 _ _ _ _ _ _)) = _
      rw [jm_u2_s]
    · intro t' b j hn
      exact hg (jm_sl h a k x) b j rfl rfl (jm_u2_n h.2.2.2.1 x hn) t'
    · intro ty hty
      cases ty <;> simp [jm_tyc] at hty
      exact ⟨rfl, rfl⟩
  · rename_i o
    refine ⟨_, p, rfl, rfl, ?_, ?_, ?_⟩
    · show Sum.inr (Sum.inl (jm_u2 _ _ _ _ _ _)) = _
      rw [jm_u2_s]
    · intro t' b j hn
      exact hg (jm_sr h a k o) b j rfl (jm_u2_n h.2.2.1 o hn) rfl t'
    · intro ty hty
      cases o <;> cases ty <;> simp [jm_tyc] at hty <;> exact ⟨rfl, rfl⟩
  · exact p.elim
/-! locals -/
def jm_nth {α : Type} : List α → Nat → Option α
  | [], _ => none
  | a :: _, 0 => some a
  | _ :: l, n + 1 => jm_nth l n
def jm_set {α : Type} : List α → Nat → α → List α
  | [], _, _ => []
  | _ :: l, 0, v => v :: l
  | a :: l, n + 1, v => a :: jm_set l n v
theorem jm_nth_set_s {α : Type} : ∀ (l : List α) (i : Nat) (v w : α), jm_nth (jm_set l i v) i = some w → w = v := by
  intro l
  induction l with
  | nil => intro i v w h; cases h
  | cons a l ih =>
    intro i v w h
    cases i with
    | zero => exact (Option.some.inj h).symm
    | succ n => exact ih n v w h
theorem jm_nth_set_n {α : Type} : ∀ (l : List α) (i j : Nat) (v : α), j ≠ i → jm_nth (jm_set l i v) j = jm_nth l j := by
  intro l
  induction l with
  | nil => intro i j v _; rfl
  | cons a l ih =>
    intro i j v h
    cases i with
    | zero => cases j with
      | zero => exact absurd rfl h
      | succ j => rfl
    | succ n => cases j with
      | zero => rfl
      | succ j => exact ih n j v (fun e => h (by rw [e]))
def jm_al : Nat → List (Option jm_V) → List (Nat × Value)
  | _, [] => []
  | i, none :: r => jm_al (i + 1) r
  | i, some v :: r => (i, jm_v v) :: jm_al (i + 1) r
theorem jm_al_of : ∀ (L : List (Option jm_V)) (k j : Nat) (w : Value), (j, w) ∈ jm_al k L → ∃ i v, jm_nth L i = some (some v) ∧ j = k + i ∧ w = jm_v v := by
  intro L
  induction L with
  | nil => intro k j w h; cases h
  | cons o L ih =>
    intro k j w h
    cases o with
    | none =>
      obtain ⟨i, v, h1, h2, h3⟩ := ih (k + 1) j w h
      exact ⟨i + 1, v, h1, by omega, h3⟩
    | some v =>
      rcases List.mem_cons.mp h with e | e
      · cases e
        exact ⟨0, v, rfl, rfl, rfl⟩
      · obtain ⟨i, v, h1, h2, h3⟩ := ih (k + 1) j w e
        exact ⟨i + 1, v, h1, by omega, h3⟩
theorem jm_al_in : ∀ (L : List (Option jm_V)) (k i : Nat) (v : jm_V), jm_nth L i = some (some v) → (k + i, jm_v v) ∈ jm_al k L := by
  intro L
  induction L with
  | nil => intro k i v h; cases h
  | cons o L ih =>
    intro k i v h
    cases i with
    | zero =>
      cases h
      exact List.mem_cons_self
    | succ i =>
      have h1 := ih (k + 1) i v h
      rw [show k + (i + 1) = k + 1 + i by omega]
      cases o with
      | none => exact h1
      | some w => exact List.mem_cons_of_mem _ h1
/-- the locals hold the list; none of them is a long -/
def jm_L (ls : Array Slot) (nL : Nat) (L : List (Option jm_V)) : Prop := ls.size = nL ∧ lv_wf ls ∧ ∀ i v, jm_nth L i = some (some v) → ls[i]? = some (.val (jm_v v)) ∧ (jm_v v).category = 1
theorem jm_L.has {ls : Array Slot} {nL : Nat} {L : List (Option jm_V)} (h : jm_L ls nL L) : lv_has ls nL (jm_al 0 L) := by
  refine ⟨h.1, h.2.1, ?_⟩
  intro q hq
  obtain ⟨j, w⟩ := q
  obtain ⟨i, v, h1, h2, h3⟩ := jm_al_of L 0 j w hq
  subst h3
  rw [show j = i by omega]
  exact (h.2.2 i v h1).1
theorem jm_L.set {ls' : Array Slot} {nL i : Nat} {L : List (Option jm_V)} {ls : Array Slot} {v : jm_V} (h : jm_L ls nL L) (hc : (jm_v v).category = 1)
    (h' : lv_has ls' nL ((i, jm_v v) :: (jm_al 0 L).filter (fun q => !(q.1 == i) && !(q.1 + 1 == i && q.2.category == 2)))) : jm_L ls' nL (jm_set L i (some v)) := by
  refine ⟨h'.1, h'.2.1, ?_⟩
  intro j w hw
  by_cases hj : j = i
  · subst hj
    have e := jm_nth_set_s L j (some v) (some w) hw
    cases e
    exact ⟨h'.2.2 _ List.mem_cons_self, hc⟩
  · rw [jm_nth_set_n L i j (some v) hj] at hw
    have hcw := (h.2.2 j w hw).2
    have hm := jm_al_in L 0 j w hw
    rw [Nat.zero_add] at hm
    refine ⟨h'.2.2 (j, jm_v w) (List.mem_cons_of_mem _ (List.mem_filter.mpr ⟨hm, ?_⟩)), hcw⟩
    simp [hj, hcw]
theorem jm_cat1 (v : jm_V) (h : ∀ x, v ≠ .inr (.inr x)) : (jm_v v).category = 1 := by
  rcases v with x | o | x
  · rfl
  · cases o <;> rfl
  · exact absurd rfl (h x)
/-! the tables: classes; codes of their fields; words; nest words; classes of whom arrays are made; static fields that hold an array -/
abbrev jm_T : Type := List vw_C × (Nat → Nat → Nat) × List Cond × List (String × Nat × MethodName × String) × List String × List (String × String × String)
abbrev jm_Ts (G : jm_T) : List Cond := G.2.2.1.filter goodWord
/-- array types: 0 int, 1 int that is only read, 2 long, 3 boolean, from 4 on by the classes -/
def jm_tA (G : jm_T) (t : Nat) : FieldType × Nat × Bool := match t with
  | 0 => (.int, 0, true)
  | 1 => (.int, 0, false)
  | 2 => (.long, 2, true)
  | 3 => (.boolean, 1, true)
  | k + 4 => (.object ((G.1[k]?.map (fun r => r.1)).getD ""), 3, true)
/-- what a run of the law fixes: class numbers and slots, the first address of the law's own cells, the static arrays -/
abbrev jm_B : Type := va_G × Nat × (Nat → Nat)
abbrev jm_A (B : jm_B) : Nat → Prop := fun q => B.2.1 ≤ q
def jm_E (G : jm_T) (B : jm_B) (U : State) : Prop :=
  (∀ (c : Nat) (q : vw_C), G.1[c]? = some q → u_Kn U q.1 q.2.1 q.2.2 (B.1.1 c) (B.1.2 c)) ∧
  (∀ q ∈ G.2.2.2.1, va_Nw (.methodLinkNest q.1 q.2.1 q.2.2.1 q.2.2.2) U) ∧
  (∀ C ∈ G.2.2.2.2.1, va_AO C U) ∧
  (∀ (i : Nat) (q : String × String × String), G.2.2.2.2.2[i]? = some q → va_Z q.1 q.2.1 q.2.2 (.ref (B.2.2 i)) (jm_A B) U U.heap) ∧
  vx_Zq Bundle.tN "UNASSIGNED_STACK" Bundle.steD (jm_A B) U U.heap ∧ vx_Zq Bundle.tN "SUPPRESSED_SENTINEL" Bundle.listD (jm_A B) U U.heap ∧ B.2.1 ≤ U.heap.size
theorem jm_E.to {G : jm_T} {B : jm_B} {s U : State} (h : jm_E G B s) (hW : s.WarmedH U.vm) (hz : s.heap.size ≤ U.heap.size) (hq : ∀ a : Nat, a < s.heap.size → ¬ jm_A B a → U.heap[a]? = s.heap[a]?) : jm_E G B U := by
  obtain ⟨h1, h2, h3, h4, h5, h6, h7⟩ := h
  exact ⟨fun c q hc => u_Kn_moved hW.alike (h1 c q hc), fun q hm => va_Nw.warmM hW (h2 q hm), fun C hC => va_AO.moved hW.alike (h3 C hC), fun i q hi => (va_Z.moved hW.alike (h4 i q hi)).kept hq, (vx_Zq.moved hW.alike h5).kept hq, (vx_Zq.moved hW.alike h6).kept hq, Nat.le_trans h7 hz⟩
theorem jm_E.same {G : jm_T} {B : jm_B} {s U : State} (h : jm_E G B s) (hvm : s.vm = U.vm) (hh : s.heap = U.heap) : jm_E G B U := by
  obtain ⟨h1, h2, h3, h4, h5, h6, h7⟩ := h
  have ha : s.vm.Alike U.vm := by rw [← hvm]; exact Vm.Alike.refl s.vm
  rw [hh] at h4 h5 h6 h7
  exact ⟨fun c q hc => u_Kn_moved ha (h1 c q hc), fun q hm => va_Nw.same rfl hvm (h2 q hm), fun C hC => va_AO.moved ha (h3 C hC), fun i q hi => va_Z.moved ha (h4 i q hi), vx_Zq.moved ha h5, vx_Zq.moved ha h6, h7⟩
def jm_RA (U : State) (cA : ClassId) (ty : FieldType) : Prop := match ty with
  | .object C => ∃ (kA : Class) (comp : ClassId), U.vm.classes[cA]? = some kA ∧ kA.kind = .array comp (.object C) ∧ U.vm.findClass C = some comp
  | _ => True
theorem jm_RA.moved {u U : State} (hvm : u.vm.Alike U.vm) {cA : ClassId} {ty : FieldType} (h : jm_RA u cA ty) : jm_RA U cA ty := by
  cases ty with
  | object C =>
    obtain ⟨kA, comp, h1, h2, h3⟩ := h
    obtain ⟨k', hk', he⟩ := hvm.2.2 _ _ h1
    exact ⟨k', comp, hk', by rw [he]; exact h2, by rw [hvm.findClass]; exact h3⟩
  | _ => exact trivial
/-- the object at a -/
def jm_OB (G : jm_T) (B : jm_B) (h : jm_H) (H : Heap) (a ci : Nat) : Prop := B.2.1 ≤ a ∧ ∃ r : vw_C, G.1[ci]? = some r ∧ t_OB a (B.1.1 ci) r.2.2 (B.1.2 ci) H (fun k => jm_v (jm_g (G.2.1 ci k) h a k))
/-- the array at a -/
def jm_AR (G : jm_T) (B : jm_B) (U : State) (h : jm_H) (H : Heap) (a t n : Nat) : Prop := ((jm_tA G t).2.2 = true → B.2.1 ≤ a) ∧ ∃ cell : Cell, H[a]? = some cell ∧ U.isArrayOf cell (jm_tA G t).1 ∧ cell.vm ≠ .unknown ∧ jm_RA U cell.cls (jm_tA G t).1 ∧ n ≤ cell.slots.size ∧ cell.slots.size.toInt32 = Int32.ofNat n ∧ ∀ j : Nat, j < n → cell.slots[j]? = some (jm_v (jm_g (jm_tA G t).2.1 h a j))
def jm_OK (G : jm_T) (B : jm_B) (U : State) (h : jm_H) (H : Heap) (a : Nat) : Prop := match h.1 a with
  | none => True
  | some (.inl ci) => jm_OB G B h H a ci
  | some (.inr (t, n)) => jm_AR G B U h H a t n
def jm_P (G : jm_T) (B : jm_B) (U : State) (h : jm_H) (H : Heap) : Prop := H.size = jm_n h ∧ ∀ a : Nat, jm_OK G B U h H a
theorem jm_P.obj {G : jm_T} {B : jm_B} {U : State} {h : jm_H} {H : Heap} (hP : jm_P G B U h H) {a ci : Nat} (ha : jm_k h a = some (.inl ci)) : jm_OB G B h H a ci := by
  have h1 := hP.2 a
  unfold jm_OK at h1
  rw [show h.1 a = some (.inl ci) from ha] at h1
  exact h1
theorem jm_P.arr {G : jm_T} {B : jm_B} {U : State} {h : jm_H} {H : Heap} (hP : jm_P G B U h H) {a t n : Nat} (ha : jm_k h a = some (.inr (t, n))) : jm_AR G B U h H a t n := by
  have h1 := hP.2 a
  unfold jm_OK at h1
  rw [show h.1 a = some (.inr (t, n)) from ha] at h1
  exact h1
theorem jm_OK.lt {G : jm_T} {B : jm_B} {U : State} {h : jm_H} {H : Heap} {a : Nat} (h1 : jm_OK G B U h H a) (hk : h.1 a ≠ none) : a < H.size := by
  unfold jm_OK at h1
  split at h1
  · rename_i e; exact absurd e hk
  · obtain ⟨-, r, -, cell, hc, -⟩ := h1
    exact (Array.getElem?_eq_some_iff.mp hc).1
  · obtain ⟨-, cell, hc, -⟩ := h1
    exact (Array.getElem?_eq_some_iff.mp hc).1
/-- the picture of one address is kept, where its cell and what is written of it are -/
theorem jm_OK.kept {G : jm_T} {B : jm_B} {U U' : State} {h h' : jm_H} {H H' : Heap} {a : Nat} (hvm : U.vm.Alike U'.vm) (hk : h'.1 a = h.1 a) (hg : ∀ t j, jm_g t h' a j = jm_g t h a j) (hq : h.1 a ≠ none → H'[a]? = H[a]?) (h1 : jm_OK G B U h H a) : jm_OK G B U' h' H' a := by
  unfold jm_OK at h1 ⊢
  rw [hk]
  cases hk0 : h.1 a with
  | none => exact trivial
  | some d =>
    rw [hk0] at h1
    have hq' : H'[a]? = H[a]? := hq (by rw [hk0]; exact fun e => by cases e)
    cases d with
    | inl ci =>
      obtain ⟨hz, r, hr, ho⟩ := h1
      exact ⟨hz, r, hr, (ho.kept hq').to (fun k _ => by simp only [hg])⟩
    | inr x =>
      obtain ⟨t, n⟩ := x
      obtain ⟨hz, cell, q1, q2, q3, q4, q5, q6, q7⟩ := h1
      exact ⟨hz, cell, by rw [hq']; exact q1, State.isArrayOf_alike hvm q2, q3, q4.moved hvm, q5, q6, fun j hj => by rw [hg]; exact q7 j hj⟩
theorem jm_P.moved {G : jm_T} {B : jm_B} {u U : State} {h : jm_H} {H : Heap} (hvm : u.vm.Alike U.vm) (hP : jm_P G B u h H) : jm_P G B U h H := ⟨hP.1, fun a => (hP.2 a).kept hvm rfl (fun _ _ => rfl) (fun _ => rfl)⟩
/-- one place of one cell is written -/
theorem jm_P.put {G : jm_T} {B : jm_B} {U : State} {h h' : jm_H} {H H' : Heap} {a k : Nat} (hP : jm_P G B U h H) (h1 : h'.1 = h.1) (h2 : jm_n h' = jm_n h) (hg : ∀ t b j, ¬ (b = a ∧ j = k) → jm_g t h' b j = jm_g t h b j) (hz : H'.size = H.size) (hq : ∀ q : Nat, q ≠ a → H'[q]? = H[q]?) (ho : jm_OK G B U h' H' a) : jm_P G B U h' H' := by
  refine ⟨by rw [hz, h2]; exact hP.1, fun b => ?_⟩
  by_cases hb : b = a
  · subst hb; exact ho
  · exact (hP.2 b).kept (Vm.Alike.refl U.vm) (by rw [h1]) (fun t j => hg t b j (fun e => hb e.1)) (fun _ => hq b hb)
/-- a cell is made -/
theorem jm_P.new {G : jm_T} {B : jm_B} {U : State} {h : jm_H} {H H' : Heap} {kd : Nat ⊕ (Nat × Nat)} (hP : jm_P G B U h H) (hz : H'.size = H.size + 1) (hq : ∀ q : Nat, q < H.size → H'[q]? = H[q]?) (ho : jm_OK G B U (jm_nw h kd) H' H.size) : jm_P G B U (jm_nw h kd) H' := by
  refine ⟨by rw [hz, hP.1]; rfl, fun b => ?_⟩
  by_cases hb : b = H.size
  · subst hb; exact ho
  · have hb' : ¬ b = jm_n h := by rw [← hP.1]; exact hb
    have hk : (jm_nw h kd).1 b = h.1 b := if_neg hb'
    refine (hP.2 b).kept (Vm.Alike.refl U.vm) hk (fun t j => ?_) (fun hn => hq b ((hP.2 b).lt hn))
    have e1 : jm_i (jm_nw h kd) b j = jm_i h b j := if_neg hb'
    have e2 : jm_r (jm_nw h kd) b j = jm_r h b j := if_neg hb'
    have e3 : jm_l (jm_nw h kd) b j = jm_l h b j := if_neg hb'
    unfold jm_g
    split <;> simp only [e1, e2, e3]
theorem jm_nw_g (h : jm_H) (kd : Nat ⊕ (Nat × Nat)) (ty : FieldType) (t j : Nat) (ht : jm_tyc ty = t) (h9 : t < 4) : defaultValue ty = jm_v (jm_g t (jm_nw h kd) (jm_n h) j) := by
  have e1 : jm_i (jm_nw h kd) (jm_n h) j = 0 := if_pos rfl
  have e2 : jm_r (jm_nw h kd) (jm_n h) j = none := if_pos rfl
  have e3 : jm_l (jm_nw h kd) (jm_n h) j = 0 := if_pos rfl
  subst ht
  cases ty <;> simp [jm_tyc] at h9 <;> simp [jm_tyc, jm_g, jm_v, defaultValue, e1, e2, e3, va_rf]
/-- what the tables must be -/
def jm_TT (G : jm_T) : Prop := ∀ (ci : Nat) (r : vw_C), G.1[ci]? = some r → (∀ w ∈ u_ws r.1 r.2.1 r.2.2, w ∈ jm_Ts G) ∧ (∃ ty : Nat → FieldType, ∀ k, k < r.2.2 → parseFieldDescriptor (r.2.1 k).2.2.1 = some (ty k) ∧ jm_tyc (ty k) = G.2.1 ci k ∧ G.2.1 ci k < 4) ∧ (∀ a, a < r.2.2 → ∀ b, b < r.2.2 → a ≠ b → (r.2.1 a).2.1 ≠ (r.2.1 b).2.1) ∧ Cond.instantiable r.1 r.2.2 ∈ jm_Ts G ∧ Cond.initialized r.1 ∈ jm_Ts G
