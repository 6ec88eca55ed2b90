/-! what holds at the law's entry, and the first picture -/
theorem lw_hA (s : State) : ∀ a : Nat, a < s.heap.size → ¬ s.heap.size ≤ a := fun a h1 h2 => absurd h1 (Nat.not_lt.mpr h2)
theorem lw_sta {args : Array Value} {s : State} {C n : String} {f : Nat → Int} {z0 z1 z2 : Int32} (h1 : (Cond.arrayOf (.static C n "[I") .int).before args s = true) (h2 : (Cond.eq (.length (.static C n "[I")) (.int 3)).before args s = true) (e0 : (Cond.eq (.elem (.static C n "[I") (.int 0)) (.int z0)).before args s = true) (e1 : (Cond.eq (.elem (.static C n "[I") (.int 1)) (.int z1)).before args s = true) (e2 : (Cond.eq (.elem (.static C n "[I") (.int 2)) (.int z2)).before args s = true) (hl : (Cond.laysStatic C n "[I").before args s = true) (hini : (Cond.initialized C).before args s = true) (hf : z0 = Int32.ofInt (f 0) ∧ z1 = Int32.ofInt (f 1) ∧ z2 = Int32.ofInt (f 2)) :
    ∃ t : Nat, va_Z C n "[I" (.ref t) (fun q => s.heap.size ≤ q) s s.heap ∧ va_T .int t 3 (fun j => .int (Int32.ofInt (f j))) (fun q => s.heap.size ≤ q) s s.heap := by
  obtain ⟨rfl, rfl, rfl⟩ := hf
  obtain ⟨t, ht, hv⟩ := va_Tof (N := 3) (f := fun j => Value.int (Int32.ofInt (f j))) (A := fun q => s.heap.size ≤ q) (by decide) h1 (va_eqt h2) (fun j hj => by
    match j, hj with
    | 0, _ => exact va_eqt e0
    | 1, _ => exact va_eqt e1
    | 2, _ => exact va_eqt e2
    | j + 3, h => exact absurd h (by omega)) (lw_hA s)
  exact ⟨t, va_Zof hl hini ht (lw_hA s), hv⟩
theorem lw_env {s : State} {b : Nat} (hts : ∀ w ∈ lw_tbl, w.before #[Value.ref b] s = true) (hgv : (Jvm.Cond.and given_1 narrow_1).before #[Value.ref b] s = true) :
    ∃ B : jm_B, B.2.1 = s.heap.size ∧ jm_E gG B s ∧ XW s ∧ ∀ i, i < 4 → va_T .int (B.2.2 i) 3 (fun j => .int (Int32.ofInt (if i % 2 = 0 then KP j else AS j))) (fun q => s.heap.size ≤ q) s s.heap := by
  have hf := flat_of_before _ hgv
  have hT : ∀ w ∈ jm_Ts gG, w.before #[Value.ref b] s = true := fun w hw => hts w (List.mem_filter.mp hw).1
  have hK : ∀ c : Nat, ∃ x : ClassId × (Nat → Nat), ∀ q : vw_C, gcl[c]? = some q → u_Kn s q.1 q.2.1 q.2.2 x.1 x.2 := fun c => by
    cases hc : gcl[c]? with
    | none => exact ⟨((0 : Nat), fun _ => 0), fun q h => by cases h⟩
    | some r =>
      obtain ⟨h1, -, -, h4, -⟩ := gTT c r hc
      obtain ⟨cC, iS, hk⟩ := u_known hT h1 (hT _ h4)
      exact ⟨(cC, iS), fun q h => by cases h; exact hk⟩
  obtain ⟨t0, z0, v0⟩ := lw_sta (C := "CraneSite") (n := "KEEPERS") (f := KP) (hf _ (by decide +kernel)) (hf _ (by decide +kernel)) (z0 := 0) (z1 := 0) (z2 := 1) (hf _ (by decide +kernel)) (hf _ (by decide +kernel)) (hf _ (by decide +kernel)) (hts _ (by decide +kernel)) (hts _ (by decide +kernel)) ⟨by decide, by decide, by decide⟩
  obtain ⟨t1, z1, v1⟩ := lw_sta (C := "CraneSite") (n := "ASKERS") (f := AS) (hf _ (by decide +kernel)) (hf _ (by decide +kernel)) (z0 := 1) (z1 := 2) (z2 := 2) (hf _ (by decide +kernel)) (hf _ (by decide +kernel)) (hf _ (by decide +kernel)) (hts _ (by decide +kernel)) (hts _ (by decide +kernel)) ⟨by decide, by decide, by decide⟩
  obtain ⟨t2, z2, v2⟩ := lw_sta (C := "CraneSiteModel") (n := "KEEPER") (f := KP) (hf _ (by decide +kernel)) (hf _ (by decide +kernel)) (z0 := 0) (z1 := 0) (z2 := 1) (hf _ (by decide +kernel)) (hf _ (by decide +kernel)) (hf _ (by decide +kernel)) (hts _ (by decide +kernel)) (hts _ (by decide +kernel)) ⟨by decide, by decide, by decide⟩
  obtain ⟨t3, z3, v3⟩ := lw_sta (C := "CraneSiteModel") (n := "ASKER") (f := AS) (hf _ (by decide +kernel)) (hf _ (by decide +kernel)) (z0 := 1) (z1 := 2) (z2 := 2) (hf _ (by decide +kernel)) (hf _ (by decide +kernel)) (hf _ (by decide +kernel)) (hts _ (by decide +kernel)) (hts _ (by decide +kernel)) ⟨by decide, by decide, by decide⟩
  have hN : ∀ q ∈ gnest, Cond.methodLinkNest q.1 q.2.1 q.2.2.1 q.2.2.2 ∈ lw_tbl := by decide +kernel
  have hO : ∀ C ∈ gao, Cond.arrayOver (.object C) ∈ lw_tbl := by decide +kernel
  refine ⟨((fun c => (Classical.choose (hK c)).1, fun c => (Classical.choose (hK c)).2), s.heap.size, fun i => if i = 0 then t0 else if i = 1 then t1 else if i = 2 then t2 else t3), rfl, ⟨fun c q hc => Classical.choose_spec (hK c) q hc, fun q hq => va_Nw.of rfl (hts _ (hN q hq)), fun C hC => va_AO.of (hts _ (hO C hC)), ?_, ?_, ?_, Nat.le_refl _⟩, ⟨va_Nw.of rfl (hts _ (by decide +kernel)), va_Nw.of rfl (hts _ (by decide +kernel)), va_Nw.of rfl (hts _ (by decide +kernel)), va_Nw.of rfl (hts _ (by decide +kernel)), va_Nw.of rfl (hts _ (by decide +kernel)), va_Nc.of (hf _ (by decide +kernel))⟩, ?_⟩
  · intro i q hi
    match i, hi with
    | 0, hi => cases hi; exact z0
    | 1, hi => cases hi; exact z1
    | 2, hi => cases hi; exact z2
    | 3, hi => cases hi; exact z3
    | k + 4, hi => simp [gG, gsf] at hi
  · exact vx_Zqof (hts _ (by decide +kernel)) (hts _ (by decide +kernel)) (hf _ (by decide +kernel)) (lw_hA s)
  · exact vx_Zqof (hts _ (by decide +kernel)) (hts _ (by decide +kernel)) (hf _ (by decide +kernel)) (lw_hA s)
  · intro i hi
    match i, hi with
    | 0, _ => exact v0
    | 1, _ => exact v1
    | 2, _ => exact v2
    | 3, _ => exact v3
    | k + 4, hi => exact absurd hi (by omega)
def lw_rd (o : Option Value) : Int32 := match o with
  | some (.int v) => v
  | _ => 0
def lw_h0 (s : State) (b L : Nat) (t : Nat → Nat) : jm_H := (fun a => if a = b then some (.inr (1, L)) else if a = t 0 ∨ a = t 1 ∨ a = t 2 ∨ a = t 3 then some (.inr (1, 3)) else none, fun a j => lw_rd ((s.heap[a]?).bind (fun c => c.slots[j]?)), fun _ _ => none, fun _ _ => 0, s.heap.size)
theorem lw_h0i {s : State} {b L a j : Nat} {t : Nat → Nat} {cell : Cell} {x : Int32} (h1 : s.heap[a]? = some cell) (h2 : cell.slots[j]? = some (.int x)) : jm_i (lw_h0 s b L t) a j = x := by
  show lw_rd ((s.heap[a]?).bind (fun c => c.slots[j]?)) = x
  rw [h1]
  show lw_rd (cell.slots[j]?) = x
  rw [h2]
  rfl
theorem lw_len {n : Nat} (hn : n ≤ 3072) (h : n.toInt32 = Int32.ofNat 3) : n = 3 := by
  have h1 : (Int32.ofNat n).toInt = (Int32.ofNat 3).toInt := congrArg Int32.toInt h
  rw [Int32.toInt_ofNat_of_lt (by omega), Int32.toInt_ofNat_of_lt (by omega)] at h1
  omega
theorem whole_start {p : Program} {e : Env} {s : State} {m : MethodId} {below : List Frame} {meth : Method} {c : Code} (l : Launch) (hl0 : l.stackTraces = false) (hyn : meth.name = "law") {b L : Nat} {xs : Nat → Int32} (hL : L ≤ 3072) (C0 : lw_At p s m meth c b L xs) : W p l e room_1 s m #[Value.ref b] below meth c s.heap [] 0 0 (lw_Z below #[Value.ref b] s) (entryFrame m ([Value.ref b] : List Value).toArray 7) := by
  obtain ⟨hx, hb, hr, hml, hown, hts, hX, hbl, hlk, hgv⟩ := C0
  obtain ⟨B, hB, hE, hXW, hT⟩ := lw_env hts hgv
  obtain ⟨scr, x1, x2, x3, x4, x5⟩ := hX
  have tb : ∀ i, i < 4 → B.2.2 i = b → L = 3 := fun i hi hq => by
    obtain ⟨cell, c1, -, -, -, c5, -⟩ := hT i hi
    rw [hq] at c1
    cases x1.symm.trans c1
    rw [x4] at c5
    exact lw_len hL c5
  have kt : ∀ i, i < 4 → jm_k (lw_h0 s b L B.2.2) (B.2.2 i) = some (.inr (1, 3)) := fun i hi => by
    show (if B.2.2 i = b then some (Sum.inr (1, L)) else if B.2.2 i = B.2.2 0 ∨ B.2.2 i = B.2.2 1 ∨ B.2.2 i = B.2.2 2 ∨ B.2.2 i = B.2.2 3 then some (Sum.inr (1, 3)) else none) = _
    by_cases q : B.2.2 i = b
    · rw [if_pos q, tb i hi q]
    · rw [if_neg q, if_pos (by
        match i, hi with
        | 0, _ => exact Or.inl rfl
        | 1, _ => exact Or.inr (Or.inl rfl)
        | 2, _ => exact Or.inr (Or.inr (Or.inl rfl))
        | 3, _ => exact Or.inr (Or.inr (Or.inr rfl))
        | k + 4, h => exact absurd h (by omega))]
  have kb : jm_k (lw_h0 s b L B.2.2) b = some (.inr (1, L)) := if_pos rfl
  have ar : ∀ i, i < 4 → jm_AR gG B s (lw_h0 s b L B.2.2) s.heap (B.2.2 i) 1 3 := fun i hi => by
    obtain ⟨cell, c1, c2, c3, c4, c5, c6, c7⟩ := hT i hi
    exact ⟨fun h => (by cases h), cell, c1, c2, c3, trivial, c4, c5, fun j hj => by rw [c6 j hj]; show some (Value.int _) = some (Value.int (jm_i (lw_h0 s b L B.2.2) (B.2.2 i) j)); rw [lw_h0i c1 (c6 j hj)]⟩
  have hP : jm_P gG B s (lw_h0 s b L B.2.2) s.heap := by
    refine ⟨rfl, fun a => ?_⟩
    by_cases q : a = b
    · subst q
      unfold jm_OK
      rw [show (lw_h0 s a L B.2.2).1 a = some (.inr (1, L)) from kb]
      exact ⟨fun h => (by cases h), scr, x1, x2, x3, trivial, by rw [x4]; exact Nat.le_refl _, by rw [x4], fun j hj => by rw [x5 j hj]; show some (Value.int _) = some (Value.int (jm_i (lw_h0 s a L B.2.2) a j)); rw [lw_h0i x1 (x5 j hj)]⟩
    · by_cases q2 : a = B.2.2 0 ∨ a = B.2.2 1 ∨ a = B.2.2 2 ∨ a = B.2.2 3
      · have h3 : ∃ i, i < 4 ∧ a = B.2.2 i := by
          rcases q2 with h | h | h | h
          · exact ⟨0, by omega, h⟩
          · exact ⟨1, by omega, h⟩
          · exact ⟨2, by omega, h⟩
          · exact ⟨3, by omega, h⟩
        obtain ⟨i, hi, rfl⟩ := h3
        unfold jm_OK
        rw [show (lw_h0 s b L B.2.2).1 (B.2.2 i) = some (.inr (1, 3)) from kt i hi]
        exact ar i hi
      · unfold jm_OK
        rw [show (lw_h0 s b L B.2.2).1 a = none from (if_neg q).trans (if_neg q2)]
        exact trivial
  exact lw_run (ys := fun j => (xs j).toInt) (h0 := lw_h0 s b L B.2.2) (Ln := L) hl0 hL (fun j => ⟨Int32.le_toInt _, Int32.toInt_lt _⟩) ⟨hx, hb, hml, hown, fun w hw => hts w (List.mem_filter.mp hw).1, hE, hlk⟩ hXW hyn hr hB hP
    (fun i hi => ⟨by
      obtain ⟨cell, c1, -⟩ := hT i hi
      exact (Array.getElem?_eq_some_iff.mp c1).1, kt i hi, fun j hj => by
      obtain ⟨cell, c1, c2, c3, c4, c5, c6, c7⟩ := hT i hi
      exact lw_h0i c1 (c6 j hj)⟩) ⟨hbl, kb, fun j hj => by rw [Int32.ofInt_toInt]; exact lw_h0i x1 (x5 j hj)⟩
