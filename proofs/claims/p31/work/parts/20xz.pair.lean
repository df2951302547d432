/-! two objects at once: each one's world as before, the other's beside it; the places of the law's methods that know both -/
def adz (a1 a2 : Nat → Nat) (i : Nat) : Nat := if i < 1000 then a1 i else a2 (i - 1000)
abbrev HP2 : Type := HP × HP
def AZ (a1 a2 : Nat → Nat) (sz : Nat) : Nat → Prop := fun q => AA a1 sz q ∨ AA a2 sz q
theorem AZ_sub {a1 a2 : Nat → Nat} {a b : Nat} (h : a ≤ b) : ∀ q, AZ a1 a2 b q → AZ a1 a2 a q := fun q hq => hq.elim (fun z => Or.inl (AA_sub h q z)) (fun z => Or.inr (AA_sub h q z))
def FZ (a1 a2 : Nat → Nat) (M : MI) (p : Program) (s : State) (m : MethodId) (args : Array Value) (meth : Method) (c : Code) : Prop :=
  p.tables.exec = Jvm.exec ∧ c.code = M.b ∧ meth.sig.returnType = M.ret ∧ c.maxLocals = M.mL ∧ s.vm.findClass M.y.cls = some m.cls ∧ (∀ w ∈ GT, w.before args s = true) ∧ (M.rk < 12 → c.exceptionTable.toList = tableOf M.hh) ∧ meth.locks = false ∧ Ev a1 (AZ a1 a2 s.heap.size) s s.heap ∧ Ev a2 (AZ a1 a2 s.heap.size) s s.heap
theorem FZ.x1 {a1 a2 : Nat → Nat} {M : MI} {p : Program} {s : State} {m : MethodId} {args : Array Value} {meth : Method} {c : Code} (F : FZ a1 a2 M p s m args meth c) : Fx a1 M p s m args meth c :=
  ⟨F.1, F.2.1, F.2.2.1, F.2.2.2.1, F.2.2.2.2.1, F.2.2.2.2.2.1, F.2.2.2.2.2.2.1, F.2.2.2.2.2.2.2.1, F.2.2.2.2.2.2.2.2.1.narrow (fun _ h => Or.inl h)⟩
theorem FZ.x2 {a1 a2 : Nat → Nat} {M : MI} {p : Program} {s : State} {m : MethodId} {args : Array Value} {meth : Method} {c : Code} (F : FZ a1 a2 M p s m args meth c) : Fx a2 M p s m args meth c :=
  ⟨F.1, F.2.1, F.2.2.1, F.2.2.2.1, F.2.2.2.2.1, F.2.2.2.2.2.1, F.2.2.2.2.2.2.1, F.2.2.2.2.2.2.2.1, F.2.2.2.2.2.2.2.2.2.narrow (fun _ h => Or.inr h)⟩
def WZ (D : va_G) (a1 a2 : Nat → Nat) (c1 c2 : Nat → ClassId) (h : HP2) (U : State) (H : Heap) : Prop := Wd D a1 c1 h.1 U H ∧ Wd D a2 c2 h.2 U H
/-- the two worlds lie apart -/
def IZ (a1 a2 : Nat → Nat) : Prop := Inj a1 ∧ Inj a2 ∧ (∀ i j, i < 200 → j < 200 → a1 i ≠ a2 j) ∧ ∀ i, 212 ≤ i → i < 218 → a1 i = a2 i
def Gz (l : Launch) (D : va_G) (a1 a2 : Nat → Nat) (c1 c2 : Nat → ClassId) (R : Room) (QQ : List Frame → Array Value → State → State → Prop) (M : MI) (pc : Nat) (ls : List (Option Value)) (st : List Value) (h : HP2) (k n : Nat) : Prop :=
  ∀ (p : Program) (e : Env) (s : State) (m : MethodId) (args : Array Value) (below : List Frame) (meth : Method) (c : Code) (H : Heap) (locs : List Loc) (cs : Array Slot),
    FZ a1 a2 M p s m args meth c → va_S (AZ a1 a2 s.heap.size) s.heap H locs → WZ D a1 a2 c1 c2 h s H → LV (adz a1 a2) cs M.mL ls →
    W p l e R s m args below meth c H locs k n (QQ below args s) (F0 m pc cs (st.map (cv (adz a1 a2))))
def QRz (D : va_G) (a1 a2 : Nat → Nat) (c1 c2 : Nat → ClassId) (res : Res) (h' : HP2) (sz : Nat) : Array Value → State → Outcome → State → Prop := fun _ st o t =>
  (∃ v, res = .inl v ∧ o = .returned (v.map (cv (adz a1 a2)))) ∧ (va_P D clsL (wl a1 c1 h'.1) t.heap ∧ va_P D clsL (wl a2 c2 h'.2) t.heap) ∧ va_F (AZ a1 a2 sz) st t
def QXz (res : Res) : String → State → State → Prop := fun E _ _ => res = .inr E
def QMz (D : va_G) (a1 a2 : Nat → Nat) (c1 c2 : Nat → ClassId) (M : MI) (res : Res) (h' : HP2) : List Frame → Array Value → State → State → Prop := fun below args s =>
  vx_MQ below (QRz D a1 a2 c1 c2 res h' s.heap.size) (QXz res) args s M.mc (6 * M.mc) (AZ a1 a2 s.heap.size)
def CTz (l : Launch) (D : va_G) (a1 a2 : Nat → Nat) (c1 c2 : Nat → ClassId) (M : MI) (as : List Value) (h : HP2) (res : Res) (h' : HP2) : Prop :=
  ∀ sz : Nat, vx_Met l M.y (wsM M) (rmk M) (va_Pc (as.map (cv (adz a1 a2))) (fun U => U.heap.size = sz ∧ WZ D a1 a2 c1 c2 h U U.heap ∧ Ev a1 (AZ a1 a2 sz) U U.heap ∧ Ev a2 (AZ a1 a2 sz) U U.heap)) (QRz D a1 a2 c1 c2 res h' sz) (QXz res) M.mc (6 * M.mc) (AZ a1 a2 sz)
section PAIR
variable {l : Launch} {D : va_G} {a1 a2 : Nat → Nat} {c1 c2 : Nat → ClassId} {R : Room} {QQ : List Frame → Array Value → State → State → Prop} {M M2 : MI} {pc k n idx : Nat} {ls ls' : List (Option Value)} {st st' rest as : List Value} {h h' : HP2} {h1 : HP} {res : Res}
theorem CTz.ofGz {as : List Value} (hy : plainFor M.y = true) (hh : M.hh = []) (hL : (ini as).length ≤ M.mL) (g : Gz l D a1 a2 c1 c2 (rmk M) (QMz D a1 a2 c1 c2 M res h') M 0 (inil as M.mL) [] h 0 0) : CTz l D a1 a2 c1 c2 M as h res h' := by
  intro sz
  have hcw : wsM M = Cond.code M.y M.b M.mL M.ret :: GT := by unfold wsM codeW; rw [hh]
  refine fx_ofW (cc := M.b) (maxL := M.mL) (ret := M.ret) hy hcw ?_
  intro p e s m args below meth c s₁ B hml hx0 hv
  obtain ⟨rfl, hsz, hw, hev1, hev2⟩ := hv
  subst hsz
  have hts := atoms_spec (ws := wsM M) B.pre
  rw [lg_entry_eq]
  have hemp : c.exceptionTable.toList = [] := List.eq_nil_iff_forall_not_mem.mpr fun x hx => hx0 x hx
  exact g p e s m _ below meth c s.heap [] _ ⟨B.exec, B.bytes, B.returns, hml, findClass_of_methodNamed B.named, fun w hw => hts w (List.mem_cons_of_mem _ hw), fun _ => by rw [hh]; exact hemp, B.notSynchronized, hev1, hev2⟩ va_S.rf hw (LV.entry (adz a1 a2) as hL)
theorem Gz.stepS {i : Instr} (hs : sem1 i ls st = some (ls', st')) (hd : decode M.b pc = .ok (i, len1 i)) (g : Gz l D a1 a2 c1 c2 R QQ M (pc + len1 i) ls' st' h k n) : Gz l D a1 a2 c1 c2 R QQ M pc ls st h k n := by
  intro p e s m args below meth c H locs cs F hS hW hl
  have G := g p e s m args below meth c H locs
  obtain ⟨hx, hb, -⟩ := id F
  cases i <;> try (exfalso; simp [sem1] at hs; done)
  case iconst v =>
    simp only [sem1, Option.some.injEq, Prod.mk.injEq] at hs; obtain ⟨rfl, rfl⟩ := hs
    exact lv_iconst hx hb hd rfl (G cs F hS hW hl)
  case bipush v =>
    simp only [sem1, Option.some.injEq, Prod.mk.injEq] at hs; obtain ⟨rfl, rfl⟩ := hs
    exact lv_bipush hx hb hd rfl (G cs F hS hW hl)
  case sipush v =>
    simp only [sem1, Option.some.injEq, Prod.mk.injEq] at hs; obtain ⟨rfl, rfl⟩ := hs
    exact lv_sipush hx hb hd rfl (G cs F hS hW hl)
  case lconst v =>
    simp only [sem1, Option.some.injEq, Prod.mk.injEq] at hs; obtain ⟨rfl, rfl⟩ := hs
    exact lv_lconst hx hb hd rfl (G cs F hS hW hl)
  case iload_n j =>
    obtain ⟨x, hv, rfl, rfl⟩ := ldI_inv hs
    exact lv_iload_n hx hb hd rfl (hl.get hv) (G cs F hS hW hl)
  case iload j =>
    obtain ⟨x, hv, rfl, rfl⟩ := ldI_inv hs
    exact lv_iload hx hb hd (hl.get hv) (G cs F hS hW hl)
  case lload_n j =>
    obtain ⟨x, hv, rfl, rfl⟩ := ldL_inv hs
    exact lv_lload_n hx hb hd rfl (hl.get hv) (G cs F hS hW hl)
  case lload j =>
    obtain ⟨x, hv, rfl, rfl⟩ := ldL_inv hs
    exact lv_lload hx hb hd (hl.get hv) (G cs F hS hW hl)
  case aload_n j =>
    obtain ⟨x, hv, rfl, rfl⟩ := ldA_inv hs
    exact lv_aload_n hx hb hd rfl (hl.get hv) (G cs F hS hW hl)
  case aload j =>
    obtain ⟨x, hv, rfl, rfl⟩ := ldA_inv hs
    exact lv_aload hx hb hd (hl.get hv) (G cs F hS hW hl)
  case istore_n j =>
    obtain ⟨x, r, rfl, ho, rfl, rfl⟩ := stI_inv hs
    exact lv_istore_n hx hb hd rfl hl.2 (by rw [← hl.1]; exact okS_lt ho) rfl (fun cs' hl' => G cs' F hS hW (LV.set1 hl.1 ho hl'))
  case istore j =>
    obtain ⟨x, r, rfl, ho, rfl, rfl⟩ := stI_inv hs
    exact lv_istore hx hb hd hl.2 (by rw [← hl.1]; exact okS_lt ho) rfl (fun cs' hl' => G cs' F hS hW (LV.set1 hl.1 ho hl'))
  case lstore_n j =>
    obtain ⟨x, r, rfl, ho, h1, rfl, rfl⟩ := stL_inv hs
    exact lv_lstore_n hx hb hd rfl hl.2 (by rw [← hl.1]; exact h1) rfl (fun cs' hl' => G cs' F hS hW (LV.set2 (v := .long x) hl.1 ho hl'))
  case lstore j =>
    obtain ⟨x, r, rfl, ho, h1, rfl, rfl⟩ := stL_inv hs
    exact lv_lstore hx hb hd hl.2 (by rw [← hl.1]; exact h1) rfl (fun cs' hl' => G cs' F hS hW (LV.set2 (v := .long x) hl.1 ho hl'))
  case astore_n j =>
    obtain ⟨x, r, rfl, ho, rfl, rfl⟩ := stA_inv hs
    exact lv_astore_n hx hb hd rfl hl.2 (by rw [← hl.1]; exact okS_lt ho) rfl (fun cs' hl' => G cs' F hS hW (LV.set1 (v := .ref x) hl.1 ho hl'))
  case astore j =>
    obtain ⟨x, r, rfl, ho, rfl, rfl⟩ := stA_inv hs
    exact lv_astore hx hb hd hl.2 (by rw [← hl.1]; exact okS_lt ho) rfl (fun cs' hl' => G cs' F hS hW (LV.set1 (v := .ref x) hl.1 ho hl'))
  case iinc j v =>
    obtain ⟨x, hv, ho, rfl, rfl⟩ := inc_inv hs
    obtain ⟨kk, hkk⟩ := hl.ix hv
    exact lv_iinc hx hb hd hl.2 hkk rfl (by rw [← hl.1]; exact okS_lt ho) rfl (fun cs' hl' => G cs' F hS hW (LV.set1 (v := .int _) hl.1 ho hl'))
  case iadd =>
    obtain ⟨rfl, h2⟩ := up2_inv hs; obtain ⟨y, x, r, rfl, rfl⟩ := sI2_inv h2
    exact lv_iadd hx hb hd (G cs F hS hW hl)
  case ishr =>
    obtain ⟨rfl, h2⟩ := up2_inv hs; obtain ⟨y, x, r, rfl, rfl⟩ := sI2_inv h2
    exact lv_ishr hx hb hd (G cs F hS hW hl)
  case isub =>
    obtain ⟨rfl, h2⟩ := up2_inv hs; obtain ⟨y, x, r, rfl, rfl⟩ := sI2_inv h2
    exact lv_isub hx hb hd (G cs F hS hW hl)
  case imul =>
    obtain ⟨rfl, h2⟩ := up2_inv hs; obtain ⟨y, x, r, rfl, rfl⟩ := sI2_inv h2
    exact lv_imul hx hb hd (G cs F hS hW hl)
  case iand =>
    obtain ⟨rfl, h2⟩ := up2_inv hs; obtain ⟨y, x, r, rfl, rfl⟩ := sI2_inv h2
    exact lv_iand hx hb hd (G cs F hS hW hl)
  case ixor =>
    obtain ⟨rfl, h2⟩ := up2_inv hs; obtain ⟨y, x, r, rfl, rfl⟩ := sI2_inv h2
    exact lv_ixor hx hb hd (G cs F hS hW hl)
  case idiv =>
    obtain ⟨rfl, h2⟩ := up2_inv hs; obtain ⟨y, x, r, h0, rfl, rfl⟩ := sD2_inv h2
    exact lv_idiv hx hb hd h0 (G cs F hS hW hl)
  case irem =>
    obtain ⟨rfl, h2⟩ := up2_inv hs; obtain ⟨y, x, r, h0, rfl, rfl⟩ := sD2_inv h2
    exact lv_irem hx hb hd h0 (G cs F hS hW hl)
  case ladd =>
    obtain ⟨rfl, h2⟩ := up2_inv hs; obtain ⟨y, x, r, rfl, rfl⟩ := sL2_inv h2
    exact lv_ladd hx hb hd (G cs F hS hW hl)
  case lsub =>
    obtain ⟨rfl, h2⟩ := up2_inv hs; obtain ⟨y, x, r, rfl, rfl⟩ := sL2_inv h2
    exact lv_lsub hx hb hd (G cs F hS hW hl)
  case lmul =>
    obtain ⟨rfl, h2⟩ := up2_inv hs; obtain ⟨y, x, r, rfl, rfl⟩ := sL2_inv h2
    exact lv_lmul hx hb hd (G cs F hS hW hl)
  case land =>
    obtain ⟨rfl, h2⟩ := up2_inv hs; obtain ⟨y, x, r, rfl, rfl⟩ := sL2_inv h2
    exact lv_land hx hb hd (G cs F hS hW hl)
  case lor =>
    obtain ⟨rfl, h2⟩ := up2_inv hs; obtain ⟨y, x, r, rfl, rfl⟩ := sL2_inv h2
    exact lv_lor hx hb hd (G cs F hS hW hl)
  case ldiv =>
    obtain ⟨rfl, h2⟩ := up2_inv hs; obtain ⟨y, x, r, h0, rfl, rfl⟩ := sM2_inv h2
    exact lv_ldiv hx hb hd h0 (G cs F hS hW hl)
  case lrem =>
    obtain ⟨rfl, h2⟩ := up2_inv hs; obtain ⟨y, x, r, h0, rfl, rfl⟩ := sM2_inv h2
    exact lv_lrem hx hb hd h0 (G cs F hS hW hl)
  case i2l =>
    obtain ⟨rfl, h2⟩ := up2_inv hs; unfold sI2L at h2; split at h2 <;> cases h2
    exact lv_i2l hx hb hd rfl (G cs F hS hW hl)
  case l2i =>
    obtain ⟨rfl, h2⟩ := up2_inv hs; unfold sL2I at h2; split at h2 <;> cases h2
    exact lv_l2i hx hb hd rfl (G cs F hS hW hl)
  case i2c =>
    obtain ⟨rfl, h2⟩ := up2_inv hs; unfold sI2C at h2; split at h2 <;> cases h2
    exact lv_i2c hx hb hd rfl (G cs F hS hW hl)
  case lushr =>
    obtain ⟨rfl, h2⟩ := up2_inv hs; unfold sLush at h2; split at h2 <;> cases h2
    exact lv_lushr hx hb hd rfl (G cs F hS hW hl)
  case lshl =>
    obtain ⟨rfl, h2⟩ := up2_inv hs; unfold sLshl at h2; split at h2 <;> cases h2
    exact lv_lshl hx hb hd rfl (G cs F hS hW hl)
  case lcmp =>
    obtain ⟨rfl, h2⟩ := up2_inv hs; unfold sLcmp at h2; split at h2 <;> cases h2
    exact W.lcmp hx hb hd (G cs F hS hW hl)
  case dup =>
    obtain ⟨rfl, h2⟩ := up2_inv hs; unfold sDup at h2; split at h2
    · split at h2 <;> cases h2
      exact lv_dup hx hb hd (by rw [cv_cat]; assumption) (G cs F hS hW hl)
    · cases h2
  case dup2 =>
    obtain ⟨rfl, h2⟩ := up2_inv hs; unfold sDup2 at h2; split at h2
    · split at h2
      · split at h2 <;> cases h2
        exact lv_dup2_11 hx hb hd (by rw [cv_cat]; assumption) (by rw [cv_cat]; assumption) (G cs F hS hW hl)
      · cases h2
    · cases h2
  case pop =>
    obtain ⟨rfl, h2⟩ := up2_inv hs; unfold sPop at h2; split at h2
    · split at h2 <;> cases h2
      exact lv_pop hx hb hd (by rw [cv_cat]; assumption) (G cs F hS hW hl)
    · cases h2
/-- a run of simple instructions -/
theorem Gz.runX : ∀ (is : List Instr) {pc : Nat} {ls : List (Option Value)} {st : List Value}, decs M.b pc is = true → runS is ls st = some (ls', st') → Gz l D a1 a2 c1 c2 R QQ M (pc + lenS is) ls' st' h k n → Gz l D a1 a2 c1 c2 R QQ M pc ls st h k n := by
  intro is
  induction is with
  | nil =>
    intro pc ls st _ hr g
    simp only [runS, Option.some.injEq, Prod.mk.injEq] at hr
    obtain ⟨rfl, rfl⟩ := hr
    exact g
  | cons i r ih =>
    intro pc ls st hd hr g
    simp only [decs, Bool.and_eq_true, decide_eq_true_eq] at hd
    simp only [runS] at hr
    split at hr
    · rename_i l1 s1 he
      refine Gz.stepS he hd.1 (ih hd.2 hr ?_)
      rw [Nat.add_assoc]
      exact g
    · cases hr
theorem Gz.run {pc' : Nat} (is : List Instr) (hd : decs M.b pc is = true) (hr : runS is ls st = some (ls', st')) (hp : pc + lenS is = pc') (g : Gz l D a1 a2 c1 c2 R QQ M pc' ls' st' h k n) : Gz l D a1 a2 c1 c2 R QQ M pc ls st h k n := by
  subst hp
  exact Gz.runX is hd hr g
theorem Gz.goto {off : Int} {tgt : Nat} (hd : decode M.b pc = .ok (.goto off, 3)) (ht : (pc : Int) + off = (tgt : Int)) (g : Gz l D a1 a2 c1 c2 R QQ M tgt ls st h k n) : Gz l D a1 a2 c1 c2 R QQ M pc ls st h k n :=
  fun p e s m args below meth c H locs cs F hS hW hl => lv_goto F.1 F.2.1 hd ht (g p e s m args below meth c H locs cs F hS hW hl)
theorem Gz.if_eq {off : Int} {tgt : Nat} {x : Int32} (hd : decode M.b pc = .ok (.ifCond .eq off, 3)) (ht : (pc : Int) + off = (tgt : Int)) (a : x = 0 → Gz l D a1 a2 c1 c2 R QQ M tgt ls st h k n) (b : ¬ x = 0 → Gz l D a1 a2 c1 c2 R QQ M (pc + 3) ls st h k n) : Gz l D a1 a2 c1 c2 R QQ M pc ls (.int x :: st) h k n :=
  fun p e s m args below meth c H locs cs F hS hW hl => lv_if_eq F.1 F.2.1 hd ht (fun z => a z p e s m args below meth c H locs cs F hS hW hl) (fun z => b z p e s m args below meth c H locs cs F hS hW hl)
theorem Gz.if_ne {off : Int} {tgt : Nat} {x : Int32} (hd : decode M.b pc = .ok (.ifCond .ne off, 3)) (ht : (pc : Int) + off = (tgt : Int)) (a : ¬ x = 0 → Gz l D a1 a2 c1 c2 R QQ M tgt ls st h k n) (b : x = 0 → Gz l D a1 a2 c1 c2 R QQ M (pc + 3) ls st h k n) : Gz l D a1 a2 c1 c2 R QQ M pc ls (.int x :: st) h k n :=
  fun p e s m args below meth c H locs cs F hS hW hl => lv_if_ne F.1 F.2.1 hd ht (fun z => a z p e s m args below meth c H locs cs F hS hW hl) (fun z => b z p e s m args below meth c H locs cs F hS hW hl)
theorem Gz.if_lt {off : Int} {tgt : Nat} {x : Int32} (hd : decode M.b pc = .ok (.ifCond .lt off, 3)) (ht : (pc : Int) + off = (tgt : Int)) (a : x < 0 → Gz l D a1 a2 c1 c2 R QQ M tgt ls st h k n) (b : ¬ x < 0 → Gz l D a1 a2 c1 c2 R QQ M (pc + 3) ls st h k n) : Gz l D a1 a2 c1 c2 R QQ M pc ls (.int x :: st) h k n :=
  fun p e s m args below meth c H locs cs F hS hW hl => lv_if_lt F.1 F.2.1 hd ht (fun z => a z p e s m args below meth c H locs cs F hS hW hl) (fun z => b z p e s m args below meth c H locs cs F hS hW hl)
theorem Gz.if_ge {off : Int} {tgt : Nat} {x : Int32} (hd : decode M.b pc = .ok (.ifCond .ge off, 3)) (ht : (pc : Int) + off = (tgt : Int)) (a : 0 ≤ x → Gz l D a1 a2 c1 c2 R QQ M tgt ls st h k n) (b : ¬ 0 ≤ x → Gz l D a1 a2 c1 c2 R QQ M (pc + 3) ls st h k n) : Gz l D a1 a2 c1 c2 R QQ M pc ls (.int x :: st) h k n :=
  fun p e s m args below meth c H locs cs F hS hW hl => lv_if_ge F.1 F.2.1 hd ht (fun z => a z p e s m args below meth c H locs cs F hS hW hl) (fun z => b z p e s m args below meth c H locs cs F hS hW hl)
theorem Gz.if_gt {off : Int} {tgt : Nat} {x : Int32} (hd : decode M.b pc = .ok (.ifCond .gt off, 3)) (ht : (pc : Int) + off = (tgt : Int)) (a : 0 < x → Gz l D a1 a2 c1 c2 R QQ M tgt ls st h k n) (b : ¬ 0 < x → Gz l D a1 a2 c1 c2 R QQ M (pc + 3) ls st h k n) : Gz l D a1 a2 c1 c2 R QQ M pc ls (.int x :: st) h k n :=
  fun p e s m args below meth c H locs cs F hS hW hl => lv_if_gt F.1 F.2.1 hd ht (fun z => a z p e s m args below meth c H locs cs F hS hW hl) (fun z => b z p e s m args below meth c H locs cs F hS hW hl)
theorem Gz.if_le {off : Int} {tgt : Nat} {x : Int32} (hd : decode M.b pc = .ok (.ifCond .le off, 3)) (ht : (pc : Int) + off = (tgt : Int)) (a : x ≤ 0 → Gz l D a1 a2 c1 c2 R QQ M tgt ls st h k n) (b : ¬ x ≤ 0 → Gz l D a1 a2 c1 c2 R QQ M (pc + 3) ls st h k n) : Gz l D a1 a2 c1 c2 R QQ M pc ls (.int x :: st) h k n :=
  fun p e s m args below meth c H locs cs F hS hW hl => lv_if_le F.1 F.2.1 hd ht (fun z => a z p e s m args below meth c H locs cs F hS hW hl) (fun z => b z p e s m args below meth c H locs cs F hS hW hl)
theorem Gz.ic_eq {off : Int} {tgt : Nat} {x y : Int32} (hd : decode M.b pc = .ok (.if_icmp .eq off, 3)) (ht : (pc : Int) + off = (tgt : Int)) (a : x = y → Gz l D a1 a2 c1 c2 R QQ M tgt ls st h k n) (b : ¬ x = y → Gz l D a1 a2 c1 c2 R QQ M (pc + 3) ls st h k n) : Gz l D a1 a2 c1 c2 R QQ M pc ls (.int y :: .int x :: st) h k n :=
  fun p e s m args below meth c H locs cs F hS hW hl => lv_icmp_eq F.1 F.2.1 hd ht (fun z => a z p e s m args below meth c H locs cs F hS hW hl) (fun z => b z p e s m args below meth c H locs cs F hS hW hl)
theorem Gz.ic_ne {off : Int} {tgt : Nat} {x y : Int32} (hd : decode M.b pc = .ok (.if_icmp .ne off, 3)) (ht : (pc : Int) + off = (tgt : Int)) (a : ¬ x = y → Gz l D a1 a2 c1 c2 R QQ M tgt ls st h k n) (b : x = y → Gz l D a1 a2 c1 c2 R QQ M (pc + 3) ls st h k n) : Gz l D a1 a2 c1 c2 R QQ M pc ls (.int y :: .int x :: st) h k n :=
  fun p e s m args below meth c H locs cs F hS hW hl => lv_icmp_ne F.1 F.2.1 hd ht (fun z => a z p e s m args below meth c H locs cs F hS hW hl) (fun z => b z p e s m args below meth c H locs cs F hS hW hl)
theorem Gz.ic_lt {off : Int} {tgt : Nat} {x y : Int32} (hd : decode M.b pc = .ok (.if_icmp .lt off, 3)) (ht : (pc : Int) + off = (tgt : Int)) (a : x < y → Gz l D a1 a2 c1 c2 R QQ M tgt ls st h k n) (b : ¬ x < y → Gz l D a1 a2 c1 c2 R QQ M (pc + 3) ls st h k n) : Gz l D a1 a2 c1 c2 R QQ M pc ls (.int y :: .int x :: st) h k n :=
  fun p e s m args below meth c H locs cs F hS hW hl => lv_icmp_lt F.1 F.2.1 hd ht (fun z => a z p e s m args below meth c H locs cs F hS hW hl) (fun z => b z p e s m args below meth c H locs cs F hS hW hl)
theorem Gz.ic_ge {off : Int} {tgt : Nat} {x y : Int32} (hd : decode M.b pc = .ok (.if_icmp .ge off, 3)) (ht : (pc : Int) + off = (tgt : Int)) (a : y ≤ x → Gz l D a1 a2 c1 c2 R QQ M tgt ls st h k n) (b : ¬ y ≤ x → Gz l D a1 a2 c1 c2 R QQ M (pc + 3) ls st h k n) : Gz l D a1 a2 c1 c2 R QQ M pc ls (.int y :: .int x :: st) h k n :=
  fun p e s m args below meth c H locs cs F hS hW hl => lv_icmp_ge F.1 F.2.1 hd ht (fun z => a z p e s m args below meth c H locs cs F hS hW hl) (fun z => b z p e s m args below meth c H locs cs F hS hW hl)
theorem Gz.ic_gt {off : Int} {tgt : Nat} {x y : Int32} (hd : decode M.b pc = .ok (.if_icmp .gt off, 3)) (ht : (pc : Int) + off = (tgt : Int)) (a : y < x → Gz l D a1 a2 c1 c2 R QQ M tgt ls st h k n) (b : ¬ y < x → Gz l D a1 a2 c1 c2 R QQ M (pc + 3) ls st h k n) : Gz l D a1 a2 c1 c2 R QQ M pc ls (.int y :: .int x :: st) h k n :=
  fun p e s m args below meth c H locs cs F hS hW hl => lv_icmp_gt F.1 F.2.1 hd ht (fun z => a z p e s m args below meth c H locs cs F hS hW hl) (fun z => b z p e s m args below meth c H locs cs F hS hW hl)
theorem Gz.ic_le {off : Int} {tgt : Nat} {x y : Int32} (hd : decode M.b pc = .ok (.if_icmp .le off, 3)) (ht : (pc : Int) + off = (tgt : Int)) (a : x ≤ y → Gz l D a1 a2 c1 c2 R QQ M tgt ls st h k n) (b : ¬ x ≤ y → Gz l D a1 a2 c1 c2 R QQ M (pc + 3) ls st h k n) : Gz l D a1 a2 c1 c2 R QQ M pc ls (.int y :: .int x :: st) h k n :=
  fun p e s m args below meth c H locs cs F hS hW hl => lv_icmp_le F.1 F.2.1 hd ht (fun z => a z p e s m args below meth c H locs cs F hS hW hl) (fun z => b z p e s m args below meth c H locs cs F hS hW hl)
theorem Gz.ldc2 {idx : Nat} {v : Int64} (hw : Cond.constantLong M.y.cls idx v ∈ GT) (hd : decode M.b pc = .ok (.ldc2_w idx, 3)) (g : Gz l D a1 a2 c1 c2 R QQ M (pc + 3) ls (.long v :: st) h k n) : Gz l D a1 a2 c1 c2 R QQ M pc ls st h k n :=
  fun p e s m args below meth c H locs cs F hS hW hl => lv_ldc2 F.1 F.2.1 F.2.2.2.2.1 (F.2.2.2.2.2.1 _ hw) hd (g p e s m args below meth c H locs cs F hS hW hl)
theorem Gz.ldcI {idx : Nat} {v : Int32} (hw : Cond.constant M.y.cls idx v ∈ GT) (hd : decode M.b pc = .ok (.ldc idx, 2)) (g : Gz l D a1 a2 c1 c2 R QQ M (pc + 2) ls (.int v :: st) h k n) : Gz l D a1 a2 c1 c2 R QQ M pc ls st h k n :=
  fun p e s m args below meth c H locs cs F hS hW hl => lv_ldc F.1 F.2.1 F.2.2.2.2.1 (F.2.2.2.2.2.1 _ hw) hd (g p e s m args below meth c H locs cs F hS hW hl)
theorem Gz.ldcwI {idx : Nat} {v : Int32} (hw : Cond.constant M.y.cls idx v ∈ GT) (hd : decode M.b pc = .ok (.ldc_w idx, 3)) (g : Gz l D a1 a2 c1 c2 R QQ M (pc + 3) ls (.int v :: st) h k n) : Gz l D a1 a2 c1 c2 R QQ M pc ls st h k n :=
  fun p e s m args below meth c H locs cs F hS hW hl => lv_ldcw F.1 F.2.1 F.2.2.2.2.1 (F.2.2.2.2.2.1 _ hw) hd (g p e s m args below meth c H locs cs F hS hW hl)
/-- forgetting locals -/
theorem Gz.wk (hlen : ls'.length = ls.length) (hs : ∀ (i : Nat) (v : Value), ls'[i]? = some (some v) → ls[i]? = some (some v)) (g : Gz l D a1 a2 c1 c2 R QQ M pc ls' st h k n) : Gz l D a1 a2 c1 c2 R QQ M pc ls st h k n :=
  fun p e s m args below meth c H locs cs F hS hW hl => g p e s m args below meth c H locs cs F hS hW (hl.wk hlen hs)
theorem Gz.wid {k' n' : Nat} (h1 : k ≤ k') (h2 : n ≤ n') (g : Gz l D a1 a2 c1 c2 R QQ M pc ls st h k' n') : Gz l D a1 a2 c1 c2 R QQ M pc ls st h k n :=
  fun p e s m args below meth c H locs cs F hS hW hl => W.widen h1 h2 (g p e s m args below meth c H locs cs F hS hW hl)
theorem Gz.back1 {p : Program} {e : Env} {s : State} {m : MethodId} {args : Array Value} {below : List Frame} {meth : Method} {c : Code} {H : Heap} {locs : List Loc} {cs : Array Slot} {v w : Option Value} {a : Array Value} {st0 : List Value} {mc ms : Nat} (hI : IZ a1 a2)
    (F : FZ a1 a2 M p s m args meth c) (hS : va_S (AZ a1 a2 s.heap.size) s.heap H locs) (hW : WZ D a1 a2 c1 c2 h s H) (hl : LV (adz a1 a2) cs M.mL ls)
    (hr : vx_Run p l e R s m args below meth c H locs k n mc ms (F0 m pc cs st0) (rest.map (cv (adz a1 a2))) (QR D a1 c1 (.inl v) h1 H.size a) (QX D a1 c1 (.inl v) h1 H.size) (AA a1 H.size)) (hv : v.map (cv a1) = w.map (cv (adz a1 a2)))
    (g : Gz l D a1 a2 c1 c2 R QQ M (pc + 3) ls (w.toList ++ rest) (h1, h.2) (k + mc) (n + ms)) : W p l e R s m args below meth c H locs k n (QQ below args s) (F0 m pc cs st0) := by
  intro T hT X
  rcases hr T hT X with ⟨v2, st₀, t, T', L, h0, X', hL, e1, e2, ⟨⟨v3, hv3, hv2⟩, hP, hF⟩, stp⟩ | ⟨q, st₀, t, T', L, E, ce, h0, X', hL, e1, e2, ⟨hv2, -, -⟩, -, -, -, -⟩
  · cases hv3
    cases hv2
    obtain ⟨k1, k2, k3⟩ := vx_keep (A0 := AZ a1 a2 s.heap.size) (H0 := s.heap) (free := AA a1 H.size) h0 e1 hS (fun q _ hq => AZ_sub hS.1 q (Or.inl hq)) (fun q hq => AZ_sub hS.1 q (Or.inl hq)) hL hF
    have w2 : va_P D clsL (wl a2 c2 h.2) T'.heap := fun i q hq => by
      obtain ⟨hi, hqe⟩ := wl_get hq
      have hlt := (hW.2.1 i q hq).lt
      refine (hW.2.1 i q hq).kept (k2 q.1 hlt ?_)
      rintro (⟨j, hj, e⟩ | z)
      · rw [hqe] at e
        exact hI.2.2.1 j i hj hi e.symm
      · omega
    have G := g p e s m args below meth c T'.heap (locs ++ L) cs F k3 ⟨⟨by rw [e1]; exact hP, hW.1.2⟩, ⟨w2, hW.2.2⟩⟩ hl
    have hst : (w.toList ++ rest).map (cv (adz a1 a2)) = (v.map (cv a1)).toList ++ rest.map (cv (adz a1 a2)) := by rw [hv]; cases w <;> rfl
    rw [hst] at G
    obtain ⟨t2, b1, b2⟩ := G T' rfl X'
    exact ⟨t2, stp t2 b1, b2⟩
  · cases hv2
theorem givenZ1 {s : State} {H : Heap} {locs : List Loc} {as : List Value} (hev : Ev a1 (AZ a1 a2 s.heap.size) s s.heap) (hS : va_S (AZ a1 a2 s.heap.size) s.heap H locs) (hW : Wd D a1 c1 h1 s H) : ∀ U : State, U.heap = H → s.WarmedH U.vm → va_Pc (as.map (cv a1)) (fun U => U.heap.size = H.size ∧ Wd D a1 c1 h1 U U.heap ∧ Ev a1 (AA a1 H.size) U U.heap) (as.map (cv a1)).toArray U := by
  intro U hU hw
  refine ⟨rfl, by rw [hU], by rw [hU]; exact hW.moved hw.alike, ?_⟩
  rw [hU]
  exact ((hev.kept hS.2.1).narrow (fun q hq => AZ_sub hS.1 q (Or.inl hq))).warm hw
theorem Gz.call1S {nn : Nat} {v w : Option Value} {as' : List Value} (hI : IZ a1 a2) (hct : CT l D a1 c1 M2 as h.1 (.inl v) h1) (hw : WS M.y.cls idx M2 nn) (hd : decode M.b pc = .ok (.invokestatic idx, 3)) (ha : as'.map (cv (adz a1 a2)) = as.map (cv a1)) (hv : v.map (cv a1) = w.map (cv (adz a1 a2))) (hst : st = as'.reverse ++ rest) (hn : as.length = nn) (hR : RoomOK R M2 k n) (hcat : (rest.map fun v => v.category).sum ≤ 8)
    (g : Gz l D a1 a2 c1 c2 R QQ M (pc + 3) ls (w.toList ++ rest) (h1, h.2) (k + M2.mc) (n + 6 * M2.mc)) : Gz l D a1 a2 c1 c2 R QQ M pc ls st h k n := by
  intro p e s m args below meth c0 H locs cs F hS hW hl
  have hts := F.2.2.2.2.2.1
  have hstk : st.map (cv (adz a1 a2)) = (as.map (cv a1)).reverse ++ rest.map (cv (adz a1 a2)) := by
    rw [hst, map_app_cv, List.map_reverse, ha]
  rw [hstk]
  exact Gz.back1 hI F hS hW hl (vx_runS (As := as.map (cv a1)) (rest := rest.map (cv (adz a1 a2))) (nL := M.mL) (Ts := GT) (own := M.y.cls) (cc := M.b) ⟨F.1, F.2.1, F.2.2.2.1, F.2.2.2.2.1, hts⟩ (hct H.size) ⟨callB_ok F.x1 hw.1 hR, hts _ hw.2⟩ ⟨blindP, givenZ1 F.2.2.2.2.2.2.2.2.1 hS hW.1⟩ rfl (by rw [List.length_map]; exact hn) hl.2.1 rfl (lv_room (by rw [cat_cv]; exact hcat)) hd hR.2) hv g
theorem Gz.call1H {nn : Nat} {v w : Option Value} {as' : List Value} (hI : IZ a1 a2) (hct : CT l D a1 c1 M2 as h.1 (.inl v) h1) (hw : WH M.y.cls idx M2 nn) (hd : decode M.b pc = .ok (.invokestatic idx, 3)) (ha : as'.map (cv (adz a1 a2)) = as.map (cv a1)) (hv : v.map (cv a1) = w.map (cv (adz a1 a2))) (hst : st = as'.reverse ++ rest) (hn : as.length = nn) (hR : RoomOK R M2 k n) (hcat : (rest.map fun v => v.category).sum ≤ 8)
    (g : Gz l D a1 a2 c1 c2 R QQ M (pc + 3) ls (w.toList ++ rest) (h1, h.2) (k + M2.mc) (n + 6 * M2.mc)) : Gz l D a1 a2 c1 c2 R QQ M pc ls st h k n := by
  intro p e s m args below meth c0 H locs cs F hS hW hl
  have hts := F.2.2.2.2.2.1
  obtain ⟨w1, w2, w3, w4, w5, w6, w7⟩ := hw
  have hc := codeW_h w4
  have hstk : st.map (cv (adz a1 a2)) = (as.map (cv a1)).reverse ++ rest.map (cv (adz a1 a2)) := by
    rw [hst, map_app_cv, List.map_reverse, ha]
  rw [hstk]
  refine Gz.back1 hI F hS hW hl (vx_runSX (hh := M2.hh) (bytes := M2.b) (maxL := M2.mL) (ret := M2.ret) (n := nn) (As := as.map (cv a1)) (rest := rest.map (cv (adz a1 a2))) (nL := M.mL) (Ts := GT) (own := M.y.cls) (cc := M.b) ⟨F.1, F.2.1, F.2.2.2.1, F.2.2.2.2.1, hts⟩ (hct H.size) ⟨⟨rfl, rfl, hR.1.1, hR.1.2, payM hts w3, by rw [← hc]; exact List.mem_cons_self⟩, by rw [← hc]; exact hts _ w3, hts _ w2, w5, fun sig hs => ?_, hts _ w1, hts _ w7⟩ ⟨blindP, givenZ1 F.2.2.2.2.2.2.2.2.1 hS hW.1⟩ rfl (by rw [List.length_map]; exact hn) hl.2.1 rfl (lv_room (by rw [cat_cv]; exact hcat)) hd hR.2) hv g
  rw [hs] at w6
  exact (Option.some.inj w6).symm
theorem Gz.call1V {b ck nn b' : Nat} {v w : Option Value} {as' : List Value} (hI : IZ a1 a2) (hct : CT l D a1 c1 M2 (.ref b :: as) h.1 (.inl v) h1) (hw : WV M.y.cls idx M2 nn) (hka : knd b = ck) (hkc : KC ck M2.y.cls) (hd : decode M.b pc = .ok (.invokevirtual idx, 3)) (ha : as'.map (cv (adz a1 a2)) = as.map (cv a1)) (hb : adz a1 a2 b' = a1 b) (hv : v.map (cv a1) = w.map (cv (adz a1 a2))) (hst : st = as'.reverse ++ .ref b' :: rest) (hn : as.length = nn) (hR : RoomOK R M2 k n) (hcat : (rest.map fun v => v.category).sum ≤ 8)
    (g : Gz l D a1 a2 c1 c2 R QQ M (pc + 3) ls (w.toList ++ rest) (h1, h.2) (k + M2.mc) (n + 6 * M2.mc)) : Gz l D a1 a2 c1 c2 R QQ M pc ls st h k n := by
  intro p e s m args below meth c0 H locs cs F hS hW hl
  obtain ⟨k0, k10, T, N, hcl⟩ := hkc
  have hts := F.2.2.2.2.2.1
  have hstk : st.map (cv (adz a1 a2)) = (as.map (cv a1)).reverse ++ .ref (a1 b) :: rest.map (cv (adz a1 a2)) := by
    rw [hst, map_app_cv, List.map_reverse, ha, ← hb]
    rfl
  rw [hstk]
  exact Gz.back1 hI F hS hW hl (vx_runV (As := as.map (cv a1)) (rest := rest.map (cv (adz a1 a2))) (C := M2.y.cls) (nL := M.mL) (Ts := GT) (own := M.y.cls) (cc := M.b) ⟨F.1, F.2.1, F.2.2.2.1, F.2.2.2.2.1, hts⟩ (hct H.size) ⟨callB_ok F.x1 hw.1 hR, hts _ hw.2.1, hts _ hw.2.2⟩ ⟨blindP, recvP hW.1 hka hcl k0 k10, givenZ1 (as := .ref b :: as) F.2.2.2.2.2.2.2.2.1 hS hW.1⟩ rfl (by rw [List.length_map]; exact hn) hl.2.1 rfl (lv_room (by rw [cat_cv]; exact hcat)) hd hR.2) hv g
theorem Gz.back2 {p : Program} {e : Env} {s : State} {m : MethodId} {args : Array Value} {below : List Frame} {meth : Method} {c : Code} {H : Heap} {locs : List Loc} {cs : Array Slot} {v w : Option Value} {a : Array Value} {st0 : List Value} {mc ms : Nat} (hI : IZ a1 a2)
    (F : FZ a1 a2 M p s m args meth c) (hS : va_S (AZ a1 a2 s.heap.size) s.heap H locs) (hW : WZ D a1 a2 c1 c2 h s H) (hl : LV (adz a1 a2) cs M.mL ls)
    (hr : vx_Run p l e R s m args below meth c H locs k n mc ms (F0 m pc cs st0) (rest.map (cv (adz a1 a2))) (QR D a2 c2 (.inl v) h1 H.size a) (QX D a2 c2 (.inl v) h1 H.size) (AA a2 H.size)) (hv : v.map (cv a2) = w.map (cv (adz a1 a2)))
    (g : Gz l D a1 a2 c1 c2 R QQ M (pc + 3) ls (w.toList ++ rest) (h.1, h1) (k + mc) (n + ms)) : W p l e R s m args below meth c H locs k n (QQ below args s) (F0 m pc cs st0) := by
  intro T hT X
  rcases hr T hT X with ⟨v2, st₀, t, T', L, h0, X', hL, e1, e2, ⟨⟨v3, hv3, hv2⟩, hP, hF⟩, stp⟩ | ⟨q, st₀, t, T', L, E, ce, h0, X', hL, e1, e2, ⟨hv2, -, -⟩, -, -, -, -⟩
  · cases hv3
    cases hv2
    obtain ⟨k1, k2, k3⟩ := vx_keep (A0 := AZ a1 a2 s.heap.size) (H0 := s.heap) (free := AA a2 H.size) h0 e1 hS (fun q _ hq => AZ_sub hS.1 q (Or.inr hq)) (fun q hq => AZ_sub hS.1 q (Or.inr hq)) hL hF
    have w2 : va_P D clsL (wl a1 c1 h.1) T'.heap := fun i q hq => by
      obtain ⟨hi, hqe⟩ := wl_get hq
      have hlt := (hW.1.1 i q hq).lt
      refine (hW.1.1 i q hq).kept (k2 q.1 hlt ?_)
      rintro (⟨j, hj, e⟩ | z)
      · rw [hqe] at e
        exact hI.2.2.1 i j hi hj e
      · omega
    have G := g p e s m args below meth c T'.heap (locs ++ L) cs F k3 ⟨⟨w2, hW.1.2⟩, ⟨by rw [e1]; exact hP, hW.2.2⟩⟩ hl
    have hst : (w.toList ++ rest).map (cv (adz a1 a2)) = (v.map (cv a2)).toList ++ rest.map (cv (adz a1 a2)) := by rw [hv]; cases w <;> rfl
    rw [hst] at G
    obtain ⟨t2, b1, b2⟩ := G T' rfl X'
    exact ⟨t2, stp t2 b1, b2⟩
  · cases hv2
theorem givenZ2 {s : State} {H : Heap} {locs : List Loc} {as : List Value} (hev : Ev a2 (AZ a1 a2 s.heap.size) s s.heap) (hS : va_S (AZ a1 a2 s.heap.size) s.heap H locs) (hW : Wd D a2 c2 h1 s H) : ∀ U : State, U.heap = H → s.WarmedH U.vm → va_Pc (as.map (cv a2)) (fun U => U.heap.size = H.size ∧ Wd D a2 c2 h1 U U.heap ∧ Ev a2 (AA a2 H.size) U U.heap) (as.map (cv a2)).toArray U := by
  intro U hU hw
  refine ⟨rfl, by rw [hU], by rw [hU]; exact hW.moved hw.alike, ?_⟩
  rw [hU]
  exact ((hev.kept hS.2.1).narrow (fun q hq => AZ_sub hS.1 q (Or.inr hq))).warm hw
theorem Gz.call2S {nn : Nat} {v w : Option Value} {as' : List Value} (hI : IZ a1 a2) (hct : CT l D a2 c2 M2 as h.2 (.inl v) h1) (hw : WS M.y.cls idx M2 nn) (hd : decode M.b pc = .ok (.invokestatic idx, 3)) (ha : as'.map (cv (adz a1 a2)) = as.map (cv a2)) (hv : v.map (cv a2) = w.map (cv (adz a1 a2))) (hst : st = as'.reverse ++ rest) (hn : as.length = nn) (hR : RoomOK R M2 k n) (hcat : (rest.map fun v => v.category).sum ≤ 8)
    (g : Gz l D a1 a2 c1 c2 R QQ M (pc + 3) ls (w.toList ++ rest) (h.1, h1) (k + M2.mc) (n + 6 * M2.mc)) : Gz l D a1 a2 c1 c2 R QQ M pc ls st h k n := by
  intro p e s m args below meth c0 H locs cs F hS hW hl
  have hts := F.2.2.2.2.2.1
  have hstk : st.map (cv (adz a1 a2)) = (as.map (cv a2)).reverse ++ rest.map (cv (adz a1 a2)) := by
    rw [hst, map_app_cv, List.map_reverse, ha]
  rw [hstk]
  exact Gz.back2 hI F hS hW hl (vx_runS (As := as.map (cv a2)) (rest := rest.map (cv (adz a1 a2))) (nL := M.mL) (Ts := GT) (own := M.y.cls) (cc := M.b) ⟨F.1, F.2.1, F.2.2.2.1, F.2.2.2.2.1, hts⟩ (hct H.size) ⟨callB_ok F.x2 hw.1 hR, hts _ hw.2⟩ ⟨blindP, givenZ2 F.2.2.2.2.2.2.2.2.2 hS hW.2⟩ rfl (by rw [List.length_map]; exact hn) hl.2.1 rfl (lv_room (by rw [cat_cv]; exact hcat)) hd hR.2) hv g
theorem Gz.call2H {nn : Nat} {v w : Option Value} {as' : List Value} (hI : IZ a1 a2) (hct : CT l D a2 c2 M2 as h.2 (.inl v) h1) (hw : WH M.y.cls idx M2 nn) (hd : decode M.b pc = .ok (.invokestatic idx, 3)) (ha : as'.map (cv (adz a1 a2)) = as.map (cv a2)) (hv : v.map (cv a2) = w.map (cv (adz a1 a2))) (hst : st = as'.reverse ++ rest) (hn : as.length = nn) (hR : RoomOK R M2 k n) (hcat : (rest.map fun v => v.category).sum ≤ 8)
    (g : Gz l D a1 a2 c1 c2 R QQ M (pc + 3) ls (w.toList ++ rest) (h.1, h1) (k + M2.mc) (n + 6 * M2.mc)) : Gz l D a1 a2 c1 c2 R QQ M pc ls st h k n := by
  intro p e s m args below meth c0 H locs cs F hS hW hl
  have hts := F.2.2.2.2.2.1
  obtain ⟨w1, w2, w3, w4, w5, w6, w7⟩ := hw
  have hc := codeW_h w4
  have hstk : st.map (cv (adz a1 a2)) = (as.map (cv a2)).reverse ++ rest.map (cv (adz a1 a2)) := by
    rw [hst, map_app_cv, List.map_reverse, ha]
  rw [hstk]
  refine Gz.back2 hI F hS hW hl (vx_runSX (hh := M2.hh) (bytes := M2.b) (maxL := M2.mL) (ret := M2.ret) (n := nn) (As := as.map (cv a2)) (rest := rest.map (cv (adz a1 a2))) (nL := M.mL) (Ts := GT) (own := M.y.cls) (cc := M.b) ⟨F.1, F.2.1, F.2.2.2.1, F.2.2.2.2.1, hts⟩ (hct H.size) ⟨⟨rfl, rfl, hR.1.1, hR.1.2, payM hts w3, by rw [← hc]; exact List.mem_cons_self⟩, by rw [← hc]; exact hts _ w3, hts _ w2, w5, fun sig hs => ?_, hts _ w1, hts _ w7⟩ ⟨blindP, givenZ2 F.2.2.2.2.2.2.2.2.2 hS hW.2⟩ rfl (by rw [List.length_map]; exact hn) hl.2.1 rfl (lv_room (by rw [cat_cv]; exact hcat)) hd hR.2) hv g
  rw [hs] at w6
  exact (Option.some.inj w6).symm
theorem Gz.call2V {b ck nn b' : Nat} {v w : Option Value} {as' : List Value} (hI : IZ a1 a2) (hct : CT l D a2 c2 M2 (.ref b :: as) h.2 (.inl v) h1) (hw : WV M.y.cls idx M2 nn) (hka : knd b = ck) (hkc : KC ck M2.y.cls) (hd : decode M.b pc = .ok (.invokevirtual idx, 3)) (ha : as'.map (cv (adz a1 a2)) = as.map (cv a2)) (hb : adz a1 a2 b' = a2 b) (hv : v.map (cv a2) = w.map (cv (adz a1 a2))) (hst : st = as'.reverse ++ .ref b' :: rest) (hn : as.length = nn) (hR : RoomOK R M2 k n) (hcat : (rest.map fun v => v.category).sum ≤ 8)
    (g : Gz l D a1 a2 c1 c2 R QQ M (pc + 3) ls (w.toList ++ rest) (h.1, h1) (k + M2.mc) (n + 6 * M2.mc)) : Gz l D a1 a2 c1 c2 R QQ M pc ls st h k n := by
  intro p e s m args below meth c0 H locs cs F hS hW hl
  obtain ⟨k0, k10, T, N, hcl⟩ := hkc
  have hts := F.2.2.2.2.2.1
  have hstk : st.map (cv (adz a1 a2)) = (as.map (cv a2)).reverse ++ .ref (a2 b) :: rest.map (cv (adz a1 a2)) := by
    rw [hst, map_app_cv, List.map_reverse, ha, ← hb]
    rfl
  rw [hstk]
  exact Gz.back2 hI F hS hW hl (vx_runV (As := as.map (cv a2)) (rest := rest.map (cv (adz a1 a2))) (C := M2.y.cls) (nL := M.mL) (Ts := GT) (own := M.y.cls) (cc := M.b) ⟨F.1, F.2.1, F.2.2.2.1, F.2.2.2.2.1, hts⟩ (hct H.size) ⟨callB_ok F.x2 hw.1 hR, hts _ hw.2.1, hts _ hw.2.2⟩ ⟨blindP, recvP hW.2 hka hcl k0 k10, givenZ2 (as := .ref b :: as) F.2.2.2.2.2.2.2.2.2 hS hW.2⟩ rfl (by rw [List.length_map]; exact hn) hl.2.1 rfl (lv_room (by rw [cat_cv]; exact hcat)) hd hR.2) hv g
theorem blindPz {as : List Value} {sz : Nat} : FrameBlind (va_Pc as (fun U => U.heap.size = sz ∧ WZ D a1 a2 c1 c2 h U U.heap ∧ Ev a1 (AZ a1 a2 sz) U U.heap ∧ Ev a2 (AZ a1 a2 sz) U U.heap)) := by
  intro a U g mk q
  obtain ⟨q0, q1, q2, q3, q4⟩ := q
  exact ⟨q0, q1, ⟨q2.1.moved (U := U.calling g mk a) (Vm.Alike.refl U.vm), q2.2.moved (U := U.calling g mk a) (Vm.Alike.refl U.vm)⟩, Ev.same (s := U) (U := U.calling g mk a) (H := U.heap) rfl q3, Ev.same (s := U) (U := U.calling g mk a) (H := U.heap) rfl q4⟩
theorem callB_okz {p : Program} {s : State} {m : MethodId} {args : Array Value} {meth : Method} {c : Code} {nn : Nat} (F : FZ a1 a2 M p s m args meth c) (w : WB M.y.cls idx M2 nn) (r : RoomOK R M2 k n) : CallB R s args M.y.cls idx M2.y M2.b M2.mL M2.ret (wsM M2) (rmk M2) M2.mc (6 * M2.mc) nn := callB_ok F.x1 w r
/-- a static callee that knows both -/
theorem Gz.callZ {nn : Nat} {v : Option Value} (hct : CTz l D a1 a2 c1 c2 M2 as h (.inl v) h') (hw : WS M.y.cls idx M2 nn) (hd : decode M.b pc = .ok (.invokestatic idx, 3)) (hst : st = as.reverse ++ rest) (hn : as.length = nn) (hR : RoomOK R M2 k n) (hcat : (rest.map fun v => v.category).sum ≤ 8)
    (g : Gz l D a1 a2 c1 c2 R QQ M (pc + 3) ls (v.toList ++ rest) h' (k + M2.mc) (n + 6 * M2.mc)) : Gz l D a1 a2 c1 c2 R QQ M pc ls st h k n := by
  intro p e s m args below meth c0 H locs cs F hS hW hl
  have hts := F.2.2.2.2.2.1
  have hstk : st.map (cv (adz a1 a2)) = (as.map (cv (adz a1 a2))).reverse ++ rest.map (cv (adz a1 a2)) := by
    rw [hst, map_app_cv, List.map_reverse]
  rw [hstk]
  have hg : ∀ U : State, U.heap = H → s.WarmedH U.vm → va_Pc (as.map (cv (adz a1 a2))) (fun U => U.heap.size = H.size ∧ WZ D a1 a2 c1 c2 h U U.heap ∧ Ev a1 (AZ a1 a2 H.size) U U.heap ∧ Ev a2 (AZ a1 a2 H.size) U U.heap) (as.map (cv (adz a1 a2))).toArray U := by
    intro U hU hw
    refine ⟨rfl, by rw [hU], ⟨by rw [hU]; exact hW.1.moved hw.alike, by rw [hU]; exact hW.2.moved hw.alike⟩, ?_, ?_⟩
    · rw [hU]
      exact ((F.2.2.2.2.2.2.2.2.1.kept hS.2.1).narrow (AZ_sub hS.1)).warm hw
    · rw [hU]
      exact ((F.2.2.2.2.2.2.2.2.2.kept hS.2.1).narrow (AZ_sub hS.1)).warm hw
  have hr := vx_runS (As := as.map (cv (adz a1 a2))) (rest := rest.map (cv (adz a1 a2))) (nL := M.mL) (Ts := GT) (own := M.y.cls) (cc := M.b) (g := F0 m pc cs ((as.map (cv (adz a1 a2))).reverse ++ rest.map (cv (adz a1 a2)))) (p := p) (l := l) (e := e) (below := below) (meth := meth) (locs := locs) (cells := k) (slots := n) ⟨F.1, F.2.1, F.2.2.2.1, F.2.2.2.2.1, hts⟩ (hct H.size) ⟨callB_okz F hw.1 hR, hts _ hw.2⟩ ⟨blindPz, hg⟩ rfl (by rw [List.length_map]; exact hn) hl.2.1 rfl (lv_room (by rw [cat_cv]; exact hcat)) hd hR.2
  intro T hT X
  rcases hr T hT X with ⟨v2, st₀, t, T', L, h0, X', hL, e1, e2, ⟨⟨v3, hv3, hv⟩, hP, hF⟩, stp⟩ | ⟨q, st₀, t, T', L, E, ce, h0, X', hL, e1, e2, hv, -, -, -, -⟩
  · cases hv3
    cases hv
    obtain ⟨k1, k2, k3⟩ := vx_keep (A0 := AZ a1 a2 s.heap.size) (H0 := s.heap) (free := AZ a1 a2 H.size) h0 e1 hS (fun q _ hq => AZ_sub hS.1 q hq) (AZ_sub hS.1) hL hF
    have G := g p e s m args below meth c0 T'.heap (locs ++ L) cs F k3 ⟨⟨by rw [e1]; exact hP.1, hW.1.2⟩, ⟨by rw [e1]; exact hP.2, hW.2.2⟩⟩ hl
    have hst2 : (v.toList ++ rest).map (cv (adz a1 a2)) = (v.map (cv (adz a1 a2))).toList ++ rest.map (cv (adz a1 a2)) := by cases v <;> rfl
    rw [hst2] at G
    obtain ⟨t2, b1, b2⟩ := G T' rfl X'
    exact ⟨t2, stp t2 b1, b2⟩
  · cases hv
theorem QRz_of {s t : State} {H : Heap} {locs : List Loc} {a : Array Value} {v : Option Value} (hS : va_S (AZ a1 a2 s.heap.size) s.heap H locs) (hW : WZ D a1 a2 c1 c2 h s H) (ht : t.heap = H) : QRz D a1 a2 c1 c2 (.inl v) h s.heap.size a s (.returned (v.map (cv (adz a1 a2)))) t :=
  ⟨⟨v, rfl, rfl⟩, ⟨by rw [ht]; exact hW.1.1, by rw [ht]; exact hW.2.1⟩, hS.F ht⟩
theorem Gz.zret {x : Int32} {ty : FieldType} (hr : M.ret = some ty) (hx : narrow ty (.int x) = .int x) (hk : k ≤ M.mc) (hn : n ≤ 6 * M.mc) (hd : decode M.b pc = .ok (.ireturn, 1)) : Gz l D a1 a2 c1 c2 R (QMz D a1 a2 c1 c2 M (.inl (some (.int x))) h) M pc ls [.int x] h k n :=
  fun p e s m args below meth c H locs cs F hS hW hl => W.widen hk hn (vx_ret (W.zret F.1 F.2.1 (F.2.2.1.trans hr) hx (fun t ht _ => QRz_of hS hW ht) hS.2.2 hd F.2.2.2.2.2.2.2.1))
theorem Gz.wk' (w : WK ls' ls) (g : Gz l D a1 a2 c1 c2 R QQ M pc ls' st h k n) : Gz l D a1 a2 c1 c2 R QQ M pc ls st h k n := Gz.wk w.1 w.2 g
end PAIR
