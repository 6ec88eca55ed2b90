/-! an exception that is caught -/
theorem lw_row {Qh : Handler → Pre} {E : CtlPost} {e : Env} {d : Bool} {acts : List Action} {S : State} {f : JFrame} {a : Addr} {x : ExceptionTableEntry} {t : List ExceptionTableEntry} {k : ClassId} {cell : Cell} (hx : covers x f.pc = true) (h0 : x.catchType ≠ 0) (hl : S.vm.ClassLinks e.platform f.method.cls x.catchType k) (hcell : S.heap[a]? = some cell) (hobj : ∀ z, cell.vm ≠ .statics z) (h1 : ∃ z, S.vm.classes[cell.cls]? = some z) (h2 : ∃ z, S.vm.classes[k]? = some z) :
    wp (findHandler.go f a (x :: t)) Qh E e d acts S ↔ (if S.vm.assignable cell.cls k = true then Qh (.found x.handlerPc) d acts (S.setVm (S.vm.noted f.method.cls x.catchType (.cls k))) else wp (findHandler.go f a t) Qh E e d acts (S.setVm (S.vm.noted f.method.cls x.catchType (.cls k)))) := by
  have r := (resolveClass_links e.toSetting hl).op (op := VmOp.resolveClass f.method.cls x.catchType) rfl
  have al : S.vm.Alike (S.vm.noted f.method.cls x.catchType (.cls k)) := (Vm.Alike.refl S.vm).noted _ _ _
  obtain ⟨z1, g1⟩ := h1
  obtain ⟨z2, g2⟩ := h2
  obtain ⟨y1, w1, -⟩ := al.2.2 _ _ g1
  obtain ⟨y2, w2, -⟩ := al.2.2 _ _ g2
  have ea := al.assignable cell.cls k
  have hx' := hx
  simp only [covers] at hx'
  by_cases q : S.vm.assignable cell.cls k = true
  · rw [if_pos q]
    rw [q] at ea
    simp [findHandler.go, hx', h0, r.1, r.2, hcell, hobj, w1, w2, ea, VmOp.dirties, VmOp.acts]
  · rw [if_neg q]
    rw [Bool.not_eq_true] at q
    rw [q] at ea
    simp [findHandler.go, hx', h0, r.1, r.2, hcell, hobj, w1, w2, ea, VmOp.dirties, VmOp.acts]
/-- a step of the thread on which a lies thrown: into the frame's handler -/
theorem lw_step {tb : Tables} {e : Env} {T target : State} {g : JFrame} {c : Code} {below : List Frame} {a : Addr} (hA : At T g.method c below) {pc : Nat} {vm' : Vm}
    (hf : ∀ (Qh : Handler → Pre) (E : CtlPost) (d : Bool) (acts : List Action), wp (findHandler g a) Qh E e d acts ((T.setTop g).pushFrame (.throwing a)) ↔ Qh (.found pc) d acts (((T.setTop g).pushFrame (.throwing a)).setVm vm'))
    (go : Steps tb e below ((T.setVm vm').setTop { g with pc := pc, stack := [.ref a] }) target) : Steps tb e below ((T.setTop g).pushFrame (.throwing a)) target := by
  obtain ⟨w1, w2⟩ := hA.throwing a
  refine Steps.head w1 w2 ?_
  obtain ⟨g0, hg0⟩ := Option.isSome_iff_exists.mp hA.top
  obtain ⟨r, hr⟩ := State.topJava?_eq_some.mp hg0
  have one : (stepThrowing e ((T.setTop g).pushFrame (.throwing a)) a (.java g :: T.frames.tail)).Is ((((T.setTop g).pushFrame (.throwing a)).setVm vm').setFrames (.java { g with pc := pc, stack := [.ref a] } :: T.frames.tail)) [] := by
    simp only [stepThrowing, searchFrame, vmDo]
    generalize hq : Sem.go _ e false [] ((T.setTop g).pushFrame (.throwing a)) = res
    obtain ⟨as, rfl, ha⟩ := Sem.eq_ok_of hq (a := Handler.found pc) (s' := ((T.setTop g).pushFrame (.throwing a)).setVm vm') (acts' := []) (by simp [hf _ _ _ _])
    exact ⟨rfl, ha⟩
  rw [stepThread_throwing (frames_entered hA.top _), one.1]
  have hr2 : (T.setVm vm').frames = .java g0 :: r := hr
  rw [State.setTop_of_frames _ hr2] at go
  have e1 : (((T.setTop g).pushFrame (.throwing a)).setVm vm').setFrames (.java { g with pc := pc, stack := [.ref a] } :: T.frames.tail) = (T.setVm vm').setFrames (.java { g with pc := pc, stack := [.ref a] } :: r) := by
    rw [hr, List.tail_cons, State.pushFrame, State.setTop_of_frames _ hr]
    show (((T.setVm vm').setFrames _).setFrames _).setFrames _ = _
    rw [State.setFrames_setFrames, State.setFrames_setFrames]
  rw [e1]
  exact go
section
variable {p : Program} {l : Launch} {e : Env} {R : Room} {s : State} {m : MethodId} {args : Array Value} {below : List Frame} {meth : Method} {c : Code} {H : Heap} {locs : List Loc} {cells slots : Nat} {Q : State → Prop} {ls : Array Slot} {rest : List Value} {pc : Nat}
/-- by the first row of the table -/
theorem lw_catch1 {own E : String} {ce : Cell} {q : Addr} (hown : s.vm.findClass own = some m.cls) {x : ExceptionTableEntry} {suf : List ExceptionTableEntry} (ht : c.exceptionTable.toList = x :: suf) (hx : covers x pc = true) (h0 : x.catchType ≠ 0) (hlink : (Cond.classLink own x.catchType E).before args s = true) (hcast : va_Nw (.castable E E) s) (hcell : H[q]? = some ce) (hv : ce.vm = .none) (hcl : s.vm.findClass E = some ce.cls)
    (kk : W p l e R s m args below meth c H locs cells slots Q (F0 m x.handlerPc ls [.ref q])) : vx_W p l e R s m args below meth c H locs cells slots Q (F0 m pc ls rest) q := by
  intro T hT X
  have hpl : e.platform.magicAccessors = ({} : Platform).magicAccessors := by rw [X.admits.platform]
  obtain ⟨k1, k2, e1, e2, ha⟩ := Cond.castable_spec (va_Nw.use (A := args) rfl hcast)
  cases Option.some.inj (e1.symm.trans hcl)
  cases Option.some.inj (e2.symm.trans hcl)
  obtain ⟨k3, e3, hlk⟩ := Cond.classLink_spec hown hlink e.platform hpl
  cases Option.some.inj (e3.symm.trans hcl)
  obtain ⟨dk, _, _, kt, hd, _, _, _, _, hkt, _, hopen⟩ := hlk.here
  obtain ⟨kt2, hkt2, -⟩ := X.warmed.alike.2.2 _ _ hkt
  have hW2 : s.WarmedH (T.vm.noted m.cls x.catchType (.cls ce.cls)) := X.warmed.noted hd hopen (State.rightAt_cls hlk)
  obtain ⟨t, a1, b1⟩ := kk (T.setVm (T.vm.noted m.cls x.catchType (.cls ce.cls))) hT (X.noted hW2)
  refine ⟨t, lw_step (c := c) (pc := x.handlerPc) (vm' := T.vm.noted m.cls x.catchType (.cls ce.cls)) X.here (fun Qh E d acts => ?_) a1, b1⟩
  rw [W.findHandler_eq (meth := meth) (code := c) X.method' X.code, ht, lw_row (S := (T.setTop (F0 m pc ls rest)).pushFrame (.throwing q)) (f := F0 m pc ls rest) (a := q) (k := ce.cls) (cell := ce) hx h0 (X.warmed.classLinks hlk) (by show T.heap[q]? = some ce; rw [hT]; exact hcell) (VmData.ne_statics_of (by rw [hv]; rfl)) ⟨kt2, hkt2⟩ ⟨kt2, hkt2⟩]
  rw [if_pos (by show T.vm.assignable ce.cls ce.cls = true; rw [X.warmed.alike.assignable]; exact ha)]
  exact Iff.rfl
/-- by the second, the first one names another class -/
theorem lw_catch2 {own E F : String} {ce : Cell} {q : Addr} (hown : s.vm.findClass own = some m.cls) {x y : ExceptionTableEntry} {suf : List ExceptionTableEntry} (ht : c.exceptionTable.toList = y :: x :: suf) (hy : covers y pc = true) (hy0 : y.catchType ≠ 0) (hylink : (Cond.classLink own y.catchType F).before args s = true) (hno : va_Nc E F s) (hx : covers x pc = true) (h0 : x.catchType ≠ 0) (hlink : (Cond.classLink own x.catchType E).before args s = true) (hcast : va_Nw (.castable E E) s) (hcell : H[q]? = some ce) (hv : ce.vm = .none) (hcl : s.vm.findClass E = some ce.cls)
    (kk : W p l e R s m args below meth c H locs cells slots Q (F0 m x.handlerPc ls [.ref q])) : vx_W p l e R s m args below meth c H locs cells slots Q (F0 m pc ls rest) q := by
  intro T hT X
  have hpl : e.platform.magicAccessors = ({} : Platform).magicAccessors := by rw [X.admits.platform]
  obtain ⟨k1, k2, e1, e2, ha⟩ := Cond.castable_spec (va_Nw.use (A := args) rfl hcast)
  cases Option.some.inj (e1.symm.trans hcl)
  cases Option.some.inj (e2.symm.trans hcl)
  obtain ⟨k3, e3, hlk⟩ := Cond.classLink_spec hown hlink e.platform hpl
  cases Option.some.inj (e3.symm.trans hcl)
  obtain ⟨kF, e4, hlF⟩ := Cond.classLink_spec hown hylink e.platform hpl
  obtain ⟨n1, n2, u1, u2, u3⟩ := hno
  cases Option.some.inj (u1.symm.trans hcl)
  cases Option.some.inj (u2.symm.trans e4)
  obtain ⟨dk, _, _, kt, hd, _, _, _, _, hkt, _, hopen⟩ := id hlk.here
  obtain ⟨dF, _, _, kf, hdF, _, _, _, _, hkf, _, hopenF⟩ := id hlF.here
  obtain ⟨kt2, hkt2, -⟩ := X.warmed.alike.2.2 _ _ hkt
  obtain ⟨kf2, hkf2, -⟩ := X.warmed.alike.2.2 _ _ hkf
  have hW1 : s.WarmedH (T.vm.noted m.cls y.catchType (.cls kF)) := X.warmed.noted hdF hopenF (State.rightAt_cls hlF)
  have hW2 : s.WarmedH ((T.vm.noted m.cls y.catchType (.cls kF)).noted m.cls x.catchType (.cls ce.cls)) := hW1.noted hd hopen (State.rightAt_cls hlk)
  obtain ⟨kt3, hkt3, -⟩ := hW1.alike.2.2 _ _ hkt
  obtain ⟨t, a1, b1⟩ := kk (T.setVm ((T.vm.noted m.cls y.catchType (.cls kF)).noted m.cls x.catchType (.cls ce.cls))) hT (X.noted hW2)
  refine ⟨t, lw_step (c := c) (pc := x.handlerPc) (vm' := (T.vm.noted m.cls y.catchType (.cls kF)).noted m.cls x.catchType (.cls ce.cls)) X.here (fun Qh E d acts => ?_) a1, b1⟩
  rw [W.findHandler_eq (meth := meth) (code := c) X.method' X.code, ht, lw_row (S := (T.setTop (F0 m pc ls rest)).pushFrame (.throwing q)) (f := F0 m pc ls rest) (a := q) (k := kF) (cell := ce) hy hy0 (X.warmed.classLinks hlF) (by show T.heap[q]? = some ce; rw [hT]; exact hcell) (VmData.ne_statics_of (by rw [hv]; rfl)) ⟨kt2, hkt2⟩ ⟨kf2, hkf2⟩]
  rw [if_neg (by show ¬ T.vm.assignable ce.cls kF = true; rw [X.warmed.alike.assignable, u3]; decide)]
  show wp (findHandler.go (F0 m pc ls rest) q (x :: suf)) Qh E e d acts (((T.setTop (F0 m pc ls rest)).pushFrame (.throwing q)).setVm (T.vm.noted m.cls y.catchType (.cls kF))) ↔ _
  rw [lw_row (S := ((T.setTop (F0 m pc ls rest)).pushFrame (.throwing q)).setVm (T.vm.noted m.cls y.catchType (.cls kF))) (f := F0 m pc ls rest) (a := q) (k := ce.cls) (cell := ce) hx h0 (hW1.classLinks hlk) (by show T.heap[q]? = some ce; rw [hT]; exact hcell) (VmData.ne_statics_of (by rw [hv]; rfl)) ⟨kt3, hkt3⟩ ⟨kt3, hkt3⟩]
  rw [if_pos (by show (T.vm.noted m.cls y.catchType (.cls kF)).assignable ce.cls ce.cls = true; rw [hW1.alike.assignable]; exact ha)]
  exact Iff.rfl
end
