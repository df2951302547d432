/-! THE RULES: Go = 'from this abstract place of a method the machine comes to the end that QQ tells'. A rule an instruction that touches the world, one rule for a run of those that touch locals and stack alone. -/
/-- a method: its name, code, locals, answer, how deep its calls go, how many exceptions it may make, its table -/
abbrev MI : Type := MethodName × ByteArray × Nat × Option FieldType × Nat × Nat × List (Nat × Nat × Nat × Nat)
abbrev MI.y (M : MI) : MethodName := M.1
abbrev MI.b (M : MI) : ByteArray := M.2.1
abbrev MI.mL (M : MI) : Nat := M.2.2.1
abbrev MI.ret (M : MI) : Option FieldType := M.2.2.2.1
abbrev MI.rk (M : MI) : Nat := M.2.2.2.2.1
abbrev MI.mc (M : MI) : Nat := M.2.2.2.2.2.1
abbrev MI.hh (M : MI) : List (Nat × Nat × Nat × Nat) := M.2.2.2.2.2.2
def rmk (M : MI) : Room := { frames := M.rk, cells := M.mc, slots := 6 * M.mc, locals := 38 * M.rk }
def codeW (M : MI) : Cond := match M.hh with
  | [] => Cond.code M.y M.b M.mL M.ret
  | hh => Cond.codeWith M.y M.b M.mL M.ret hh
def wsM (M : MI) : List Cond := codeW M :: GT
def Fx (ad : Nat → Nat) (M : MI) (p : Program) (s : State) (m : MethodId) (args : Array Value) (meth : Method) (c : Code) : Prop :=
  p.tables.exec = Jvm.exec ∧ c.code = M.b ∧ meth.sig.returnType = M.ret ∧ c.maxLocals = M.mL ∧ s.vm.findClass M.y.cls = some m.cls ∧ (∀ w ∈ GT, w.before args s = true) ∧ (M.rk < 12 → c.exceptionTable.toList = tableOf M.hh) ∧ meth.locks = false ∧ Ev ad (AA ad s.heap.size) s s.heap
theorem Fx.ev {ad : Nat → Nat} {M : MI} {p : Program} {s : State} {m : MethodId} {args : Array Value} {meth : Method} {c : Code} (F : Fx ad M p s m args meth c) : Ev ad (AA ad s.heap.size) s s.heap := F.2.2.2.2.2.2.2.2
def Go (l : Launch) (D : va_G) (ad : Nat → Nat) (aC : Nat → ClassId) (R : Room) (QQ : List Frame → Array Value → State → State → Prop) (M : MI) (pc : Nat) (ls : List (Option Value)) (st : List Value) (h : HP) (k n : Nat) : Prop :=
  ∀ (p : Program) (e : Env) (s : State) (m : MethodId) (args : Array Value) (below : List Frame) (meth : Method) (c : Code) (H : Heap) (locs : List Loc) (cs : Array Slot),
    Fx ad M p s m args meth c → va_S (AA ad s.heap.size) s.heap H locs → Wd D ad aC h s H → LV ad cs M.mL ls →
    W p l e R s m args below meth c H locs k n (QQ below args s) (F0 m pc cs (st.map (cv ad)))
/-- answers: a value (or none), or the exception's class -/
abbrev Res : Type := (Option Value) ⊕ String
def QR (D : va_G) (ad : Nat → Nat) (aC : Nat → ClassId) (res : Res) (h' : HP) (sz : Nat) : Array Value → State → Outcome → State → Prop := fun _ st o t =>
  (∃ v, res = .inl v ∧ o = .returned (v.map (cv ad))) ∧ va_P D clsL (wl ad aC h') t.heap ∧ va_F (AA ad sz) st t
def QX (D : va_G) (ad : Nat → Nat) (aC : Nat → ClassId) (res : Res) (h' : HP) (sz : Nat) : String → State → State → Prop := fun E st t =>
  res = .inr E ∧ va_P D clsL (wl ad aC h') t.heap ∧ va_F (AA ad sz) st t
def QM (D : va_G) (ad : Nat → Nat) (aC : Nat → ClassId) (M : MI) (res : Res) (h' : HP) : List Frame → Array Value → State → State → Prop := fun below args s =>
  vx_MQ below (QR D ad aC res h' s.heap.size) (QX D ad aC res h' s.heap.size) args s M.mc (6 * M.mc) (AA ad s.heap.size)
/-- the contract: called with as in the world h, the method ends with res, the world is h' -/
def CT (l : Launch) (D : va_G) (ad : Nat → Nat) (aC : Nat → ClassId) (M : MI) (as : List Value) (h : HP) (res : Res) (h' : HP) : Prop :=
  ∀ sz : Nat, vx_Met l M.y (wsM M) (rmk M) (va_Pc (as.map (cv ad)) (fun U => U.heap.size = sz ∧ Wd D ad aC h U U.heap ∧ Ev ad (AA ad sz) U U.heap)) (QR D ad aC res h' sz) (QX D ad aC res h' sz) M.mc (6 * M.mc) (AA ad sz)
theorem fx_ofW {l : Launch} {y : MethodName} {ws ws' : List Cond} {rm : Room} {Pc : Array Value → State → Prop} {Qc : Array Value → State → Outcome → State → Prop} {XC : String → State → State → Prop} {mc ms : Nat} {free : Addr → Prop} {cc : ByteArray} {maxL : Nat} {ret : Option FieldType}
    (hy : plainFor y = true) (hw : ws = Cond.code y cc maxL ret :: ws')
    (body : ∀ p e s m args below meth c s₁, BodyLoose p l y (headSpec ws rm) cc maxL ret e s m args below meth c s₁ → c.maxLocals = maxL → (∀ x ∈ c.exceptionTable.toList, False) → Pc args s →
      W p l e (headSpec ws rm).room s m args below meth c s.heap [] 0 0 (vx_MQ below Qc XC args s mc ms free) (entryFrame m args maxL)) : vx_Met l y ws rm Pc Qc XC mc ms free := by
  refine MetFree.of_bodySF (code := cc) (maxLocals := maxL) (ret := ret) hy ?_ ?_
  · intro args s m h hn
    obtain ⟨meth, c, h1, h2, h3, h4, h5, h6, -, -⟩ := Cond.code_spec hn (atoms_spec (ws := ws) h _ (by rw [hw]; exact List.mem_cons_self))
    exact ⟨meth, c, h1, h2, h3, h4, h5, h6⟩
  · intro p e s m args below meth c s₁ B hml hP _
    have hh0 : s₁.heap = s.heap := by rw [B.state]; rfl
    have ht : ∀ x ∈ c.exceptionTable.toList, False := by
      obtain ⟨meth9, c9, h1, h2, -, -, -, -, h7, -⟩ := Cond.code_spec B.named (atoms_spec (ws := ws) B.pre _ (by rw [hw]; exact List.mem_cons_self))
      cases Option.some.inj (h1.symm.trans B.method)
      cases Option.some.inj (h2.symm.trans (Stand.of_body B).code)
      intro x hx
      rw [Array.isEmpty_iff.mp h7] at hx
      cases hx
    obtain ⟨t, a1, o, b1, b2, b3⟩ := body p e s m args below meth c s₁ B hml ht hP s₁ hh0 (Stand.of_body B)
    exact ⟨t, o, a1, b1, b2, b3⟩
section RULES
variable {l : Launch} {D : va_G} {ad : Nat → Nat} {aC : Nat → ClassId} {R : Room} {QQ : List Frame → Array Value → State → State → Prop} {M : MI} {pc k n : Nat} {ls : List (Option Value)} {st rest : List Value} {h h' : HP}
theorem gtGood {w : Cond} (hw : w ∈ GT) : (w.onTables && w.keeps) = true ∨ ∃ ty, w = .arrayClass ty := good_of_word (List.mem_filter.mp hw).2
theorem CT.ofGo {as : List Value} {res : Res} (hy : plainFor M.y = true) (hh : M.hh = []) (hL : (ini as).length ≤ M.mL) (g : Go l D ad aC (rmk M) (QM D ad aC M res h') M 0 (inil as M.mL) [] h 0 0) : CT l D ad aC M as h res h' := by
  intro sz
  have hcw : wsM M = Cond.code M.y M.b M.mL M.ret :: GT := by unfold wsM codeW; rw [hh]
  refine fx_ofW (cc := M.b) (maxL := M.mL) (ret := M.ret) hy hcw ?_
  intro p e s m args below meth c s₁ B hml hx0 hv
  obtain ⟨rfl, hsz, hw, hev⟩ := hv
  subst hsz
  have hts := atoms_spec (ws := wsM M) B.pre
  rw [lg_entry_eq]
  have hemp : c.exceptionTable.toList = [] := List.eq_nil_iff_forall_not_mem.mpr fun x hx => hx0 x hx
  exact g p e s m _ below meth c s.heap [] _ ⟨B.exec, B.bytes, B.returns, hml, findClass_of_methodNamed B.named, fun w hw => hts w (List.mem_cons_of_mem _ hw), fun _ => by rw [hh]; exact hemp, B.notSynchronized, hev⟩ va_S.rf hw (LV.entry ad as hL)
theorem CT.ofGoH {as : List Value} {res : Res} {x : Nat × Nat × Nat × Nat} {hs : List (Nat × Nat × Nat × Nat)} (hy : plainName M.y.cls = true) (hh : M.hh = x :: hs) (hL : (ini as).length ≤ M.mL) (g : Go l D ad aC (rmk M) (QM D ad aC M res h') M 0 (inil as M.mL) [] h 0 0) : CT l D ad aC M as h res h' := by
  intro sz
  have hcw : wsM M = Cond.codeWith M.y M.b M.mL M.ret M.hh :: GT := by unfold wsM codeW; rw [hh]
  refine vx_ofWH (cc := M.b) (maxL := M.mL) (ret := M.ret) (hh := M.hh) hy hcw ?_
  intro p e s m args below meth c s₁ B hml hv
  obtain ⟨rfl, hsz, hw, hev⟩ := hv
  subst hsz
  have hts := atoms_spec (ws := wsM M) B.pre
  rw [lg_entry_eq]
  exact g p e s m _ below meth c s.heap [] _ ⟨B.exec, B.bytes, B.returns, hml, findClass_of_methodNamed B.named, fun w hw => hts w (List.mem_cons_of_mem _ hw), fun _ => vx_table (x := M.y) (y := M.y) B (hts _ (by rw [hcw]; exact List.mem_cons_self)), B.notSynchronized, hev⟩ va_S.rf hw (LV.entry ad as hL)
/-! simple instructions -/
def sI2 (f : Int32 → Int32 → Int32) (st : List Value) : Option (List Value) := match st with
  | .int y :: .int x :: r => some (.int (f x y) :: r)
  | _ => none
def sD2 (f : Int32 → Int32 → Int32) (st : List Value) : Option (List Value) := match st with
  | .int y :: .int x :: r => if y = 0 then none else some (.int (f x y) :: r)
  | _ => none
def sL2 (f : Int64 → Int64 → Int64) (st : List Value) : Option (List Value) := match st with
  | .long y :: .long x :: r => some (.long (f x y) :: r)
  | _ => none
def sM2 (f : Int64 → Int64 → Int64) (st : List Value) : Option (List Value) := match st with
  | .long y :: .long x :: r => if y = 0 then none else some (.long (f x y) :: r)
  | _ => none
def ldI (ls : List (Option Value)) (i : Nat) (st : List Value) : Option (List (Option Value) × List Value) := match ls[i]? with
  | some (some (.int x)) => some (ls, .int x :: st)
  | _ => none
def ldL (ls : List (Option Value)) (i : Nat) (st : List Value) : Option (List (Option Value) × List Value) := match ls[i]? with
  | some (some (.long x)) => some (ls, .long x :: st)
  | _ => none
def ldA (ls : List (Option Value)) (i : Nat) (st : List Value) : Option (List (Option Value) × List Value) := match ls[i]? with
  | some (some (.ref x)) => some (ls, .ref x :: st)
  | _ => none
def stI (ls : List (Option Value)) (i : Nat) (st : List Value) : Option (List (Option Value) × List Value) := match st with
  | .int x :: r => if okS ls i = true then some (ls.set i (some (.int x)), r) else none
  | _ => none
def stL (ls : List (Option Value)) (i : Nat) (st : List Value) : Option (List (Option Value) × List Value) := match st with
  | .long x :: r => if okS ls i = true then (if Nat.blt (i + 1) ls.length = true then some ((ls.set i (some (.long x))).set (i + 1) none, r) else none) else none
  | _ => none
def stA (ls : List (Option Value)) (i : Nat) (st : List Value) : Option (List (Option Value) × List Value) := match st with
  | .ref x :: r => if okS ls i = true then some (ls.set i (some (.ref x)), r) else none
  | _ => none
def inc (ls : List (Option Value)) (i : Nat) (v : Int) (st : List Value) : Option (List (Option Value) × List Value) := match ls[i]? with
  | some (some (.int x)) => if okS ls i = true then some (ls.set i (some (.int (x + Int32.ofInt v))), st) else none
  | _ => none
def up2 (ls : List (Option Value)) (o : Option (List Value)) : Option (List (Option Value) × List Value) := match o with
  | some st => some (ls, st)
  | none => none
def sI2L (st : List Value) : Option (List Value) := match st with
  | .int x :: r => some (.long x.toInt64 :: r)
  | _ => none
def sL2I (st : List Value) : Option (List Value) := match st with
  | .long x :: r => some (.int x.toInt32 :: r)
  | _ => none
def sI2C (st : List Value) : Option (List Value) := match st with
  | .int x :: r => some (.int (x.toUInt32 % 65536).toInt32 :: r)
  | _ => none
def sLush (st : List Value) : Option (List Value) := match st with
  | .int y :: .long x :: r => some (.long (x.toUInt64 >>> (y.toInt64.toUInt64 &&& Int64.toUInt64 63)).toInt64 :: r)
  | _ => none
def sLshl (st : List Value) : Option (List Value) := match st with
  | .int y :: .long x :: r => some (.long (x <<< (y.toInt64 &&& 63)) :: r)
  | _ => none
def sLcmp (st : List Value) : Option (List Value) := match st with
  | .long y :: .long x :: r => some (.int (lg_cmp x y) :: r)
  | _ => none
def sDup (st : List Value) : Option (List Value) := match st with
  | v :: r => if v.category = 1 then some (v :: v :: r) else none
  | _ => none
def sDup2 (st : List Value) : Option (List Value) := match st with
  | v :: w :: r => if v.category = 1 then (if w.category = 1 then some (v :: w :: v :: w :: r) else none) else none
  | _ => none
def sPop (st : List Value) : Option (List Value) := match st with
  | v :: r => if v.category = 1 then some r else none
  | _ => none
def sem1 (i : Instr) (ls : List (Option Value)) (st : List Value) : Option (List (Option Value) × List Value) := match i with
  | .iconst v => some (ls, .int (Int32.ofInt v) :: st)
  | .bipush v => some (ls, .int (Int8.ofInt v).toInt32 :: st)
  | .sipush v => some (ls, .int (Int16.ofInt v).toInt32 :: st)
  | .lconst v => some (ls, .long (Int64.ofNat (v : Nat)) :: st)
  | .iload_n j => ldI ls j st
  | .iload j => ldI ls j st
  | .lload_n j => ldL ls j st
  | .lload j => ldL ls j st
  | .aload_n j => ldA ls j st
  | .aload j => ldA ls j st
  | .istore_n j => stI ls j st
  | .istore j => stI ls j st
  | .lstore_n j => stL ls j st
  | .lstore j => stL ls j st
  | .astore_n j => stA ls j st
  | .astore j => stA ls j st
  | .iinc j v => inc ls j v st
  | .iadd => up2 ls (sI2 (fun x y => x + y) st)
  | .isub => up2 ls (sI2 (fun x y => x - y) st)
  | .ishr => up2 ls (sI2 (fun x y => x >>> (y &&& 31)) st)
  | .imul => up2 ls (sI2 (fun x y => x * y) st)
  | .iand => up2 ls (sI2 (fun x y => x &&& y) st)
  | .ixor => up2 ls (sI2 (fun x y => x ^^^ y) st)
  | .idiv => up2 ls (sD2 (fun x y => x / y) st)
  | .irem => up2 ls (sD2 (fun x y => x - x / y * y) st)
  | .ladd => up2 ls (sL2 (fun x y => x + y) st)
  | .lsub => up2 ls (sL2 (fun x y => x - y) st)
  | .lmul => up2 ls (sL2 (fun x y => x * y) st)
  | .land => up2 ls (sL2 (fun x y => x &&& y) st)
  | .lor => up2 ls (sL2 (fun x y => x ||| y) st)
  | .ldiv => up2 ls (sM2 (fun x y => x / y) st)
  | .lrem => up2 ls (sM2 (fun x y => x - x / y * y) st)
  | .i2l => up2 ls (sI2L st)
  | .l2i => up2 ls (sL2I st)
  | .i2c => up2 ls (sI2C st)
  | .lushr => up2 ls (sLush st)
  | .lshl => up2 ls (sLshl st)
  | .lcmp => up2 ls (sLcmp st)
  | .dup => up2 ls (sDup st)
  | .dup2 => up2 ls (sDup2 st)
  | .pop => up2 ls (sPop st)
  | _ => none
def len1 (i : Instr) : Nat := match i with
  | .bipush _ => 2
  | .sipush _ => 3
  | .iload _ => 2
  | .lload _ => 2
  | .aload _ => 2
  | .istore _ => 2
  | .lstore _ => 2
  | .astore _ => 2
  | .iinc _ _ => 3
  | _ => 1
end RULES
