/-! instructions: address, whether it heads a loop, instruction, length, what it speaks of, places of its words -/
abbrev jm_I : Type := Nat × Bool × Instr × Nat × List Nat × List Nat
/-- methods: name, code, locals, answer's type, frames, locals' room, cells, slots -/
abbrev jm_M : Type := MethodName × ByteArray × Nat × Option FieldType × Nat × Nat × Nat × Nat
def jm_drop : Nat → List jm_I → List jm_I
  | 0, l => l
  | _ + 1, [] => []
  | n + 1, _ :: l => jm_drop n l
def jm_ii (st : List jm_V) (K : Int32 → Int32 → List jm_V → Prop) : Prop := match st with
  | .inl y :: .inl x :: r => K x y r
  | _ => False
def jm_i1 (st : List jm_V) (K : Int32 → List jm_V → Prop) : Prop := match st with
  | .inl x :: r => K x r
  | _ => False
def jm_ll (st : List jm_V) (K : Int64 → Int64 → List jm_V → Prop) : Prop := match st with
  | .inr (.inr y) :: .inr (.inr x) :: r => K x y r
  | _ => False
def jm_r1 (st : List jm_V) (K : Option Nat → List jm_V → Prop) : Prop := match st with
  | .inr (.inl o) :: r => K o r
  | _ => False
def jm_v1 (st : List jm_V) (K : jm_V → List jm_V → Prop) : Prop := match st with
  | .inl x :: r => K (.inl x) r
  | .inr (.inl o) :: r => K (.inr (.inl o)) r
  | _ => False
def jm_vr (st : List jm_V) (K : jm_V → Option Nat → List jm_V → Prop) : Prop := match st with
  | v :: .inr (.inl o) :: r => K v o r
  | _ => False
def jm_ix (st : List jm_V) (K : Int32 → Option Nat → List jm_V → Prop) : Prop := match st with
  | .inl i :: .inr (.inl o) :: r => K i o r
  | _ => False
def jm_vx (st : List jm_V) (K : jm_V → Int32 → Option Nat → List jm_V → Prop) : Prop := match st with
  | v :: .inl i :: .inr (.inl o) :: r => K v i o r
  | _ => False
def jm_so (o : Option Nat) (K : Nat → Prop) : Prop := match o with
  | some a => K a
  | none => False
def jm_vi (v : jm_V) (K : Int32 → Prop) : Prop := match v with
  | .inl x => K x
  | _ => False
def jm_vl (v : jm_V) (K : Int64 → Prop) : Prop := match v with
  | .inr (.inr x) => K x
  | _ => False
def jm_vo (v : jm_V) (K : Option Nat → Prop) : Prop := match v with
  | .inr (.inl x) => K x
  | _ => False
def jm_li (L : List (Option jm_V)) (i : Nat) (K : Int32 → Prop) : Prop := match jm_nth L i with
  | some (some (.inl x)) => K x
  | _ => False
def jm_lr (L : List (Option jm_V)) (i : Nat) (K : Option Nat → Prop) : Prop := match jm_nth L i with
  | some (some (.inr (.inl o))) => K o
  | _ => False
def jm_c0 (c : ClassFile.Cond) (x : Int32) : Prop := match c with
  | .eq => x = 0
  | .ne => ¬ x = 0
  | .lt => x < 0
  | .ge => 0 ≤ x
  | .gt => 0 < x
  | .le => x ≤ 0
def jm_c2 (c : ClassFile.Cond) (x y : Int32) : Prop := match c with
  | .eq => x = y
  | .ne => ¬ x = y
  | .lt => x < y
  | .ge => y ≤ x
  | .gt => y < x
  | .le => x ≤ y
def jm_ia (kd : jm_K) (K : Nat → Prop) : Prop := match kd with
  | some (.inr (0, n)) => K n
  | some (.inr (1, n)) => K n
  | _ => False
def jm_na (t : Nat) (kd : jm_K) (K : Nat → Prop) : Prop := match kd with
  | some (.inr (u, n)) => u = t ∧ K n
  | _ => False
def jm_qa (kd : jm_K) (K : Nat → Nat → Prop) : Prop := match kd with
  | some (.inr (t + 4, n)) => K t n
  | _ => False
def jm_aa (kd : jm_K) (K : Nat → Prop) : Prop := match kd with
  | some (.inr (_, n)) => K n
  | _ => False
def jm_asg (h : jm_H) (t : Nat) (o : Option Nat) : Prop := match o with
  | none => True
  | some v => jm_k h v = some (.inl t)
def jm_tk : Nat → List jm_V → List jm_V → (List jm_V → List jm_V → Prop) → Prop
  | 0, acc, st, K => K acc st
  | n + 1, acc, v :: st, K => jm_tk n (v :: acc) st K
  | _ + 1, _, [], _ => False
def jm_l4 (r : List jm_V) : Prop := match r with
  | [] => True
  | [_] => True
  | [_, _] => True
  | [_, _, _] => True
  | [_, _, _, _] => True
  | _ => False
def jm_rcv (kind ci : Nat) (h : jm_H) (as : List jm_V) : Prop := match kind with
  | 0 => True
  | 1 => match as with
    | .inr (.inl (some a)) :: _ => jm_k h a = some (.inl ci)
    | _ => False
  | _ => match as with
    | .inr (.inl (some _)) :: _ => True
    | _ => False
def jm_cr (rc : Nat) (post : jm_V → jm_H → Prop) (K : List jm_V → jm_H → Prop) : Prop := match rc with
  | 0 => ∀ h', post (.inr (.inr 0)) h' → K [] h'
  | 1 => ∀ y h', post (.inl y) h' → K [.inl y] h'
  | _ => ∀ o h', post (.inr (.inl o)) h' → K [.inr (.inl o)] h'
/-- a switch's branches from lo on -/
def jm_sw (x : Int32) : Int → List Nat → (Nat → Prop) → Prop
  | _, [], _ => True
  | lo, t :: ts, K => (x = Int32.ofInt lo → K t) ∧ jm_sw x (lo + 1) ts K
def jm_sn (x : Int32) : Int → List Nat → Prop
  | _, [] => True
  | lo, _ :: ts => ¬ x = Int32.ofInt lo ∧ jm_sn x (lo + 1) ts
/-- Math's max, min, abs -/
def jm_mth (j : Nat) (st : List jm_V) (K : Int32 → List jm_V → Prop) : Prop := match j with
  | 0 => jm_ii st (fun a b r => K (if a < b then b else a) r)
  | 1 => jm_ii st (fun a b r => K (if b < a then b else a) r)
  | _ => jm_i1 st (fun a r => K (if 0 ≤ a then a else 0 - a) r)
def jm_mn (j : Nat) : MethodName × ByteArray × Nat := match j with
  | 0 => (Lib.Math.max.name, Lib.Math.max.code, 2)
  | 1 => (Lib.Math.min.name, Lib.Math.min.code, 2)
  | _ => (Lib.Math.abs.name, Lib.Math.abs.code, 1)
/-- what one instruction asks -/
def jm_st (B : jm_B) (Rc Rs : Nat) (Cal : Nat → List jm_V → jm_H → (jm_V → jm_H → Prop) → Prop) (Kr : jm_V → jm_H → Nat → Nat → Prop) (Kx : Nat → jm_H → Nat → Nat → Prop) (i : Instr) (x : List Nat) (L : List (Option jm_V)) (st : List jm_V) (h : jm_H) (ce sl : Nat)
    (k : Option Nat → List (Option jm_V) → List jm_V → jm_H → Nat → Nat → Prop) : Prop := match i with
  | .iconst n => k none L (.inl (Int32.ofInt n) :: st) h ce sl
  | .bipush n => k none L (.inl (Int32.ofInt n) :: st) h ce sl
  | .sipush n => k none L (.inl (Int32.ofInt n) :: st) h ce sl
  | .aconst_null => k none L (.inr (.inl none) :: st) h ce sl
  | .iload_n _ => match x with
    | [j] => jm_li L j (fun y => k none L (.inl y :: st) h ce sl)
    | _ => False
  | .iload j => jm_li L j (fun y => k none L (.inl y :: st) h ce sl)
  | .aload_n _ => match x with
    | [j] => jm_lr L j (fun y => k none L (.inr (.inl y) :: st) h ce sl)
    | _ => False
  | .aload j => jm_lr L j (fun y => k none L (.inr (.inl y) :: st) h ce sl)
  | .istore_n _ => match x with
    | [j] => jm_i1 st (fun y r => k none (jm_set L j (some (.inl y))) r h ce sl)
    | _ => False
  | .istore j => jm_i1 st (fun y r => k none (jm_set L j (some (.inl y))) r h ce sl)
  | .astore_n _ => match x with
    | [j] => jm_r1 st (fun y r => k none (jm_set L j (some (.inr (.inl y)))) r h ce sl)
    | _ => False
  | .astore j => jm_r1 st (fun y r => k none (jm_set L j (some (.inr (.inl y)))) r h ce sl)
  | .iinc j n => jm_li L j (fun y => k none (jm_set L j (some (.inl (y + Int32.ofInt n)))) st h ce sl)
  | .iadd => jm_ii st (fun a b r => k none L (.inl (a + b) :: r) h ce sl)
  | .isub => jm_ii st (fun a b r => k none L (.inl (a - b) :: r) h ce sl)
  | .imul => jm_ii st (fun a b r => k none L (.inl (a * b) :: r) h ce sl)
  | .iand => jm_ii st (fun a b r => k none L (.inl (a &&& b) :: r) h ce sl)
  | .ior => jm_ii st (fun a b r => k none L (.inl (a ||| b) :: r) h ce sl)
  | .ixor => jm_ii st (fun a b r => k none L (.inl (a ^^^ b) :: r) h ce sl)
  | .ishr => jm_ii st (fun a b r => k none L (.inl (a >>> (b &&& 31)) :: r) h ce sl)
  | .iushr => jm_ii st (fun a b r => k none L (.inl ((a.toUInt32 >>> (b.toUInt32 &&& Int32.toUInt32 31)).toInt32) :: r) h ce sl)
  | .idiv => jm_ii st (fun a b r => ¬ b = 0 ∧ k none L (.inl (a / b) :: r) h ce sl)
  | .irem => jm_ii st (fun a b r => ¬ b = 0 ∧ k none L (.inl (a - a / b * b) :: r) h ce sl)
  | .ineg => jm_i1 st (fun a r => k none L (.inl (-a) :: r) h ce sl)
  | .i2l => jm_i1 st (fun a r => k none L (.inr (.inr a.toInt64) :: r) h ce sl)
  | .lcmp => jm_ll st (fun a b r => k none L (.inl (lg_cmp a b) :: r) h ce sl)
  | .dup => jm_v1 st (fun v r => k none L (v :: v :: r) h ce sl)
  | .pop => jm_v1 st (fun _ r => k none L r h ce sl)
  | .dup2 => jm_v1 st (fun v r => jm_v1 r (fun w r => k none L (v :: w :: v :: w :: r) h ce sl))
  | .ifCond c _ => match x with
    | [t] => jm_i1 st (fun a r => (jm_c0 c a → k (some t) L r h ce sl) ∧ (¬ jm_c0 c a → k none L r h ce sl))
    | _ => False
  | .if_icmp c _ => match x with
    | [t] => jm_ii st (fun a b r => (jm_c2 c a b → k (some t) L r h ce sl) ∧ (¬ jm_c2 c a b → k none L r h ce sl))
    | _ => False
  | .ifnonnull _ => match x with
    | [t] => jm_r1 st (fun o r => (¬ o = none → k (some t) L r h ce sl) ∧ (o = none → k none L r h ce sl))
    | _ => False
  | .goto _ => match x with
    | [t] => k (some t) L st h ce sl
    | _ => False
  | .tableswitch _ lo _ _ => match x with
    | d :: ts => jm_i1 st (fun a r => jm_sw a lo ts (fun t => k (some t) L r h ce sl) ∧ (jm_sn a lo ts → k (some d) L r h ce sl))
    | _ => False
  | .lookupswitch _ _ => match x with
    | d :: lo :: ts => jm_i1 st (fun a r => jm_sw a (Int.ofNat lo) ts (fun t => k (some t) L r h ce sl) ∧ (jm_sn a (Int.ofNat lo) ts → k (some d) L r h ce sl))
    | _ => False
  | .getfield _ => match x with
    | [ci, f, cd] => jm_r1 st (fun o r => jm_so o (fun a => jm_k h a = some (.inl ci) ∧ k none L (jm_g cd h a f :: r) h ce sl))
    | _ => False
  | .putfield _ => match x with
    | [ci, f, cd] => jm_vr st (fun v o r => jm_so o (fun a => jm_k h a = some (.inl ci) ∧ jm_pt cd h a f v (fun h' => k none L r h' ce sl)))
    | _ => False
  | .getstatic _ => match x with
    | [j] => k none L (.inr (.inl (some (B.2.2 j))) :: st) h ce sl
    | _ => False
  | .new _ => match x with
    | [ci, N] => ce + 1 ≤ Rc ∧ sl + N ≤ Rs ∧ k none L (.inr (.inl (some (jm_n h))) :: st) (jm_nw h (.inl ci)) (ce + 1) (sl + N)
    | [E] => Kx E h ce sl
    | _ => False
  | .newarray _ => match x with
    | [t] => jm_i1 st (fun n r => ¬ n < 0 ∧ n.toNatClampNeg ≤ 10000 ∧ ce + 1 ≤ Rc ∧ sl + n.toNatClampNeg ≤ Rs ∧ k none L (.inr (.inl (some (jm_n h))) :: r) (jm_nw h (.inr (t, n.toNatClampNeg))) (ce + 1) (sl + n.toNatClampNeg))
    | _ => False
  | .anewarray _ => match x with
    | [t] => jm_i1 st (fun n r => ¬ n < 0 ∧ n.toNatClampNeg ≤ 10000 ∧ ce + 1 ≤ Rc ∧ sl + n.toNatClampNeg ≤ Rs ∧ k none L (.inr (.inl (some (jm_n h))) :: r) (jm_nw h (.inr (t + 4, n.toNatClampNeg))) (ce + 1) (sl + n.toNatClampNeg))
    | _ => False
  | .arraylength => jm_r1 st (fun o r => jm_so o (fun a => jm_aa (jm_k h a) (fun n => k none L (.inl (Int32.ofNat n) :: r) h ce sl)))
  | .iaload => jm_ix st (fun j o r => jm_so o (fun a => jm_ia (jm_k h a) (fun n => vp_in j n ∧ k none L (.inl (jm_i h a j.toNatClampNeg) :: r) h ce sl)))
  | .baload => jm_ix st (fun j o r => jm_so o (fun a => jm_na 3 (jm_k h a) (fun n => vp_in j n ∧ k none L (.inl (jm_i h a j.toNatClampNeg) :: r) h ce sl)))
  | .laload => jm_ix st (fun j o r => jm_so o (fun a => jm_na 2 (jm_k h a) (fun n => vp_in j n ∧ k none L (.inr (.inr (jm_l h a j.toNatClampNeg)) :: r) h ce sl)))
  | .aaload => jm_ix st (fun j o r => jm_so o (fun a => jm_qa (jm_k h a) (fun _ n => vp_in j n ∧ k none L (.inr (.inl (jm_r h a j.toNatClampNeg)) :: r) h ce sl)))
  | .iastore => jm_vx st (fun v j o r => jm_vi v (fun y => jm_so o (fun a => jm_na 0 (jm_k h a) (fun n => vp_in j n ∧ k none L r (jm_si h a j.toNatClampNeg y) ce sl))))
  | .bastore => jm_vx st (fun v j o r => jm_vi v (fun y => jm_so o (fun a => jm_na 3 (jm_k h a) (fun n => (y = 0 ∨ y = 1) ∧ vp_in j n ∧ k none L r (jm_si h a j.toNatClampNeg y) ce sl))))
  | .lastore => jm_vx st (fun v j o r => jm_vl v (fun y => jm_so o (fun a => jm_na 2 (jm_k h a) (fun n => vp_in j n ∧ k none L r (jm_sl h a j.toNatClampNeg y) ce sl))))
  | .aastore => jm_vx st (fun v j o r => jm_vo v (fun y => jm_so o (fun a => jm_qa (jm_k h a) (fun t n => jm_asg h t y ∧ vp_in j n ∧ k none L r (jm_sr h a j.toNatClampNeg y) ce sl))))
  | .invokestatic _ => match x with
    | [j, _] => ce ≤ Rc ∧ sl ≤ Rs ∧ jm_mth j st (fun y r => jm_l4 r ∧ k none L (.inl y :: r) h ce sl)
    | [mi, na, rc, mc, ms] => jm_tk na [] st (fun as r => jm_l4 r ∧ ce + mc ≤ Rc ∧ sl + ms ≤ Rs ∧ ∃ post, Cal mi as h post ∧ jm_cr rc post (fun vs h' => k none L (vs ++ r) h' (ce + mc) (sl + ms)))
    | _ => False
  | .invokevirtual _ => match x with
    | [mi, na, rc, mc, ms, ci] => jm_tk na [] st (fun as r => jm_l4 r ∧ jm_rcv 1 ci h as ∧ ce + mc ≤ Rc ∧ sl + ms ≤ Rs ∧ ∃ post, Cal mi as h post ∧ jm_cr rc post (fun vs h' => k none L (vs ++ r) h' (ce + mc) (sl + ms)))
    | _ => False
  | .invokespecial _ => match x with
    | [] => jm_r1 st (fun o r => jm_so o (fun _ => jm_l4 r ∧ k none L r h ce sl))
    | [mi, na, rc, mc, ms, _] => jm_tk na [] st (fun as r => jm_l4 r ∧ jm_rcv 2 0 h as ∧ ce + mc ≤ Rc ∧ sl + ms ≤ Rs ∧ ∃ post, Cal mi as h post ∧ jm_cr rc post (fun vs h' => k none L (vs ++ r) h' (ce + mc) (sl + ms)))
    | _ => False
  | .ireturn => match st with
    | [.inl y] => Kr (.inl y) h ce sl
    | _ => False
  | .areturn => match st with
    | [.inr (.inl y)] => Kr (.inr (.inl y)) h ce sl
    | _ => False
  | .return_ => match st with
    | [] => Kr (.inr (.inr 0)) h ce sl
    | _ => False
  | _ => False
def jm_go (Kc : Nat → List (Option jm_V) → List jm_V → jm_H → Nat → Nat → Prop) (run : List jm_I → List (Option jm_V) → List jm_V → jm_H → Nat → Nat → Prop) (cs : List jm_I) (L : List (Option jm_V)) (st : List jm_V) (h : jm_H) (ce sl : Nat) : Prop := match cs with
  | [] => False
  | (pc, true, _) :: _ => Kc pc L st h ce sl
  | e :: r => run (e :: r) L st h ce sl
def jm_wp (B : jm_B) (Rc Rs : Nat) (Cal : Nat → List jm_V → jm_H → (jm_V → jm_H → Prop) → Prop) (Kr : jm_V → jm_H → Nat → Nat → Prop) (Kx : Nat → jm_H → Nat → Nat → Prop) (Kc : Nat → List (Option jm_V) → List jm_V → jm_H → Nat → Nat → Prop) (code : List jm_I) : Nat → List jm_I → List (Option jm_V) → List jm_V → jm_H → Nat → Nat → Prop
  | 0, _, _, _, _, _, _ => False
  | _ + 1, [], _, _, _, _, _ => False
  | n + 1, (_, _, i, _, x, _) :: cs, L, st, h, ce, sl => jm_st B Rc Rs Cal Kr Kx i x L st h ce sl (fun t L st h ce sl => jm_go Kc (jm_wp B Rc Rs Cal Kr Kx Kc code n) (match t with | none => cs | some j => jm_drop j code) L st h ce sl)
/-! when a method's list of instructions is its code -/
abbrev jm_big (G : jm_T) : List Cond := G.2.2.1
def jm_hw (big : List Cond) (pos : Nat) (w : Cond) : Bool := decide (big[pos]? = some w) && goodWord w
def jm_hd (code : List jm_I) (t pc : Nat) (off : Int) : Bool := match jm_drop t code with
  | [] => false
  | e :: _ => decide ((pc : Int) + off = (e.1 : Int))
def jm_sv (code : List jm_I) (pc : Nat) : List Nat → List Int → Bool
  | [], [] => true
  | t :: ts, o :: os => jm_hd code t pc o && jm_sv code pc ts os
  | _, _ => false
/-- places of a callee's own words: its code, instance or static, selects, initialized -/
def jm_mv (big : List Cond) (M : jm_M) (kind na fr lo : Nat) (C : String) (q : List Nat) : Bool :=
  decide (M.1.cls ≠ "java/lang/invoke/MethodHandle") && decide (M.1.cls ≠ "java/lang/invoke/VarHandle") && decide (M.2.2.2.2.1 + 1 ≤ fr) && decide (8 + (M.2.2.1 + 11) + M.2.2.2.2.2.1 ≤ lo) && (match q with
    | [qc, qi, qs, qn] => jm_hw big qc (.code M.1 M.2.1 M.2.2.1 M.2.2.2.1) && (match kind with
      | 0 => jm_hw big qi (.static M.1) && jm_hw big qn (.initialized M.1.cls) && decide ((parseMethodDescriptor M.1.desc).map (fun d => d.parameters.length) = some na)
      | 1 => jm_hw big qi (.instanceMethod M.1) && jm_hw big qs (.selects C M.1 M.1) && jm_hw big qn (.initialized C) && decide (M.1.cls = C) && decide ((parseMethodDescriptor M.1.desc).map (fun d => d.parameters.length + 1) = some na)
      | _ => jm_hw big qi (.instanceMethod M.1) && jm_hw big qn (.initialized M.1.cls) && decide (M.1.name = "<init>") && decide (M.2.2.2.1 = none) && decide ((parseMethodDescriptor M.1.desc).map (fun d => d.parameters.length + 1) = some na))
    | _ => false)
def jm_rc (ret : Option FieldType) : Nat := match ret with
  | none => 0
  | some .int => 1
  | some .boolean => 1
  | some (.object _) => 2
  | some (.array _) => 2
  | _ => 9
def jm_ve (G : jm_T) (mt : Nat → jm_M) (own yn : String) (cc : ByteArray) (R : Room) (nL : Nat) (code : List jm_I) (e : jm_I) : Bool := match e with
  | (pc, _, i, len, x, q) => decide (decode cc pc = .ok (i, len)) && (match i with
    | .iconst _ => decide (len = 1)
    | .bipush n => decide (len = 2) && decide ((Int8.ofInt n).toInt32 = Int32.ofInt n)
    | .sipush n => decide (len = 3) && decide ((Int16.ofInt n).toInt32 = Int32.ofInt n)
    | .aconst_null => decide (len = 1)
    | .iload_n j => decide (len = 1) && decide (x = [j.val])
    | .iload _ => decide (len = 2)
    | .aload_n j => decide (len = 1) && decide (x = [j.val])
    | .aload _ => decide (len = 2)
    | .istore_n j => decide (len = 1) && decide (j.val < nL) && decide (x = [j.val])
    | .istore j => decide (len = 2) && decide (j < nL)
    | .astore_n j => decide (len = 1) && decide (j.val < nL) && decide (x = [j.val])
    | .astore j => decide (len = 2) && decide (j < nL)
    | .iinc j _ => decide (len = 3) && decide (j < nL)
    | .ifCond _ off => decide (len = 3) && (match x with | [t] => jm_hd code t pc off | _ => false)
    | .if_icmp _ off => decide (len = 3) && (match x with | [t] => jm_hd code t pc off | _ => false)
    | .ifnonnull off => decide (len = 3) && (match x with | [t] => jm_hd code t pc off | _ => false)
    | .goto off => decide (len = 3) && (match x with | [t] => jm_hd code t pc off | _ => false)
    | .tableswitch dflt lo hi offs => (match x with | d :: ts => jm_hd code d pc dflt && jm_sv code pc ts offs.toList && decide (0 ≤ lo) && decide (hi < 1000) && decide (lo + ts.length = hi + 1) | _ => false)
    | .lookupswitch dflt ps => (match x with | d :: lo :: ts => jm_hd code d pc dflt && jm_sv code pc ts (ps.toList.map (fun a => a.2)) && decide (lo + ts.length < 1000) && decide (ps.toList.map (fun a => a.1) = (List.range ts.length).map (fun j => Int.ofNat (lo + j))) && decide ((ps.toList.zip (ps.toList.drop 1)).all (fun (a, next) => a.1 < next.1) = true) | _ => false)
    | .getfield idx => decide (len = 3) && (match x, q with
      | [ci, f, cd], [pl] => (match G.1[ci]? with
        | some r => decide (f < r.2.2) && decide (G.2.1 ci f = cd) && jm_hw (jm_big G) pl (.fieldLink own idx (r.2.1 f).1 (r.2.1 f).2.1 (r.2.1 f).2.2.1)
        | none => false)
      | _, _ => false)
    | .putfield idx => decide (len = 3) && (match x, q with
      | [ci, f, cd], [pl] => (match G.1[ci]? with
        | some r => decide (f < r.2.2) && decide (G.2.1 ci f = cd) && jm_hw (jm_big G) pl (.fieldLink own idx (r.2.1 f).1 (r.2.1 f).2.1 (r.2.1 f).2.2.1) && (!(r.2.1 f).2.2.2 || (decide (yn = "<init>") && decide ((r.2.1 f).1 = own)))
        | none => false)
      | _, _ => false)
    | .getstatic idx => decide (len = 3) && (match x, q with
      | [j], [pl] => (match G.2.2.2.2.2[j]? with
        | some r => jm_hw (jm_big G) pl (.fieldLink own idx r.1 r.2.1 r.2.2)
        | none => false)
      | _, _ => false)
    | .new idx => decide (len = 3) && (match x, q with
      | [ci, N], [pl] => (match G.1[ci]? with
        | some r => decide (r.2.2 = N) && jm_hw (jm_big G) pl (.classLink own idx r.1)
        | none => false)
      | [_], [ic] => decide (decode cc (pc + 3) = .ok (.dup, 1)) && decide (decode cc (pc + 4) = .ok (.invokespecial ic, 3)) && decide (decode cc (pc + 7) = .ok (.athrow, 1))
      | _, _ => false)
    | .newarray a => decide (len = 2) && (match x, q with
      | [t], [pl] => jm_hw (jm_big G) pl (.arrayClass (newarray.typeOf a)) && decide ((jm_tA G t).1 = newarray.typeOf a) && decide (t < 4)
      | _, _ => false)
    | .anewarray idx => decide (len = 3) && (match x, q with
      | [t], [pl] => (match G.1[t]? with
        | some r => jm_hw (jm_big G) pl (.classLink own idx r.1) && decide (r.1 ∈ G.2.2.2.2.1)
        | none => false)
      | _, _ => false)
    | .invokestatic idx => decide (len = 3) && (match x, q with
      | [j, _], [ql, qs, qi, qc] => jm_hw (jm_big G) ql (.methodLink own idx (jm_mn j).1) && jm_hw (jm_big G) qs (.static (jm_mn j).1) && jm_hw (jm_big G) qi (.initialized "java/lang/Math") && jm_hw (jm_big G) qc (.code (jm_mn j).1 (jm_mn j).2.1 (jm_mn j).2.2 (some .int)) && decide (1 ≤ R.frames) && decide (21 ≤ R.locals)
      | [mi, na, rc, mc, ms], ql :: qm => jm_hw (jm_big G) ql (.methodLink own idx (mt mi).1) && jm_mv (jm_big G) (mt mi) 0 na R.frames R.locals "" qm && decide (jm_rc (mt mi).2.2.2.1 = rc) && decide (rc < 3) && decide ((mt mi).2.2.2.2.2.2.1 = mc) && decide ((mt mi).2.2.2.2.2.2.2 = ms)
      | _, _ => false)
    | .invokevirtual idx => decide (len = 3) && (match x, q with
      | [mi, na, rc, mc, ms, ci], ql :: qm => (match G.1[ci]? with
        | some r => jm_hw (jm_big G) ql (.methodLink own idx (mt mi).1) && jm_mv (jm_big G) (mt mi) 1 na R.frames R.locals r.1 qm && decide (jm_rc (mt mi).2.2.2.1 = rc) && decide (rc < 3) && decide ((mt mi).2.2.2.2.2.2.1 = mc) && decide ((mt mi).2.2.2.2.2.2.2 = ms)
        | none => false)
      | _, _ => false)
    | .invokespecial idx => decide (len = 3) && (match x, q with
      | [_], _ => true
      | [], [ql, qi, qc] => jm_hw (jm_big G) ql (.methodLink own idx Lib.objectInit) && jm_hw (jm_big G) qi (.instanceMethod Lib.objectInit) && jm_hw (jm_big G) qc (.code Lib.objectInit ⟨#[0xb1]⟩ 1 none) && decide (1 ≤ R.frames) && decide (20 ≤ R.locals)
      | [mi, na, rc, mc, ms, nest], ql :: qm => (if nest = 0 then jm_hw (jm_big G) ql (.methodLink own idx (mt mi).1) else decide (∃ r ∈ G.2.2.2.1, r.1 = own ∧ r.2.1 = idx ∧ r.2.2.1 = (mt mi).1)) && jm_mv (jm_big G) (mt mi) 2 na R.frames R.locals "" qm && decide (jm_rc (mt mi).2.2.2.1 = rc) && decide (rc = 0) && decide ((mt mi).2.2.2.2.2.2.1 = mc) && decide ((mt mi).2.2.2.2.2.2.2 = ms)
      | _, _ => false)
    | _ => decide (len = 1))
def jm_chain : List jm_I → Bool
  | a :: b :: r => decide (a.1 + a.2.2.2.1 = b.1) && jm_chain (b :: r)
  | _ => true
def jm_vc (G : jm_T) (mt : Nat → jm_M) (own yn : String) (cc : ByteArray) (R : Room) (nL : Nat) (code : List jm_I) : Bool := jm_chain code && code.all (jm_ve G mt own yn cc R nL code)
theorem jm_hw_in {G : jm_T} {pos : Nat} {w : Cond} (h : jm_hw (jm_big G) pos w = true) : w ∈ jm_Ts G := by
  simp only [jm_hw, Bool.and_eq_true, decide_eq_true_eq] at h
  exact List.mem_filter.mpr ⟨List.mem_of_getElem? h.1, h.2⟩
theorem jm_goodIn {G : jm_T} {ws : List Cond} (h : ∀ w ∈ ws, w ∈ jm_Ts G) : GoodIn (jm_Ts G) ws := fun w hw => ⟨h w hw, good_of_word (List.mem_filter.mp (h w hw)).2⟩
/-! contracts -/
def jm_ws (G : jm_T) (M : jm_M) : List Cond := .code M.1 M.2.1 M.2.2.1 M.2.2.2.1 :: jm_Ts G
def jm_rm (M : jm_M) : Room := { frames := M.2.2.2.2.1, cells := M.2.2.2.2.2.2.1, slots := M.2.2.2.2.2.2.2, locals := M.2.2.2.2.2.1 }
def jm_vs (rc : Nat) (v : jm_V) : List jm_V := match rc with
  | 0 => []
  | _ => [v]
def jm_okv (rc : Nat) (v : jm_V) : Prop := match rc with
  | 0 => v = .inr (.inr 0)
  | 1 => ∃ x, v = .inl x
  | _ => ∃ o, v = .inr (.inl o)
def jm_rv (rc : Nat) (v : jm_V) : Option Value := match rc with
  | 0 => none
  | _ => some (jm_v v)
def jm_Pc (G : jm_T) (B : jm_B) (as : List jm_V) (h : jm_H) : Array Value → State → Prop := va_Pc (as.map jm_v) (fun U => jm_E G B U ∧ jm_P G B U h U.heap)
def jm_Qc (G : jm_T) (B : jm_B) (rc : Nat) (post : jm_V → jm_H → Prop) : Array Value → State → Outcome → State → Prop := fun _ st oc t => (∃ (v : jm_V) (h' : jm_H), oc = .returned (jm_rv rc v) ∧ jm_okv rc v ∧ post v h' ∧ jm_P G B t h' t.heap) ∧ va_F (jm_A B) st t
def jm_Ct (G : jm_T) (B : jm_B) (l : Launch) (M : jm_M) (as : List jm_V) (h : jm_H) (post : jm_V → jm_H → Prop) : Prop :=
  Met l M.1 (jm_ws G M) (jm_rm M) (jm_Pc G B as h) (jm_Qc G B (jm_rc M.2.2.2.1) post) M.2.2.2.2.2.2.1 M.2.2.2.2.2.2.2 (jm_A B)
