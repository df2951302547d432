/-- a constructor's (or a maker's) contract: the cells ws come in, others go out -/
def kRm (M : MI) (mc ms : Nat) : Room := { frames := M.rk, cells := mc, slots := ms, locals := 38 * M.rk }
abbrev KU : Type := va_W × List (ClassId × FieldType)
def kX : String → State → State → Prop := vx_X (fun _ : Unit => False) (fun _ _ _ => True) (fun _ => False)
/-- what is known all along, with the class of arrays of State -/
def EvK (ad : Nat → Nat) (A : Nat → Prop) (U : State) (H : Heap) : Prop := Ev ad A U H ∧ va_AO "FairWalls$State" U
theorem EvK.warm {ad : Nat → Nat} {A : Nat → Prop} {s U : State} {H : Heap} (hW : s.WarmedH U.vm) (h : EvK ad A s H) : EvK ad A U H := ⟨Ev.warm hW h.1, va_AO.moved hW.alike h.2⟩
theorem EvK.same {ad : Nat → Nat} {A : Nat → Prop} {s U : State} {H : Heap} (hv : s.vm = U.vm) (h : EvK ad A s H) : EvK ad A U H := ⟨Ev.same hv h.1, va_AO.moved (by rw [hv]; exact Vm.Alike.refl _) h.2⟩
theorem EvK.kept {ad : Nat → Nat} {A : Nat → Prop} {U : State} {H H1 : Heap} (h : EvK ad A U H) (hq : ∀ a : Nat, a < H.size → ¬ A a → H1[a]? = H[a]?) : EvK ad A U H1 := ⟨h.1.kept hq, h.2⟩
theorem EvK.narrow {ad : Nat → Nat} {A B : Nat → Prop} {U : State} {H : Heap} (h : EvK ad A U H) (hAB : ∀ q, B q → A q) : EvK ad B U H := ⟨h.1.narrow hAB, h.2⟩
def KC' (l : Launch) (D : va_G) (ad : Nat → Nat) (M : MI) (mc ms : Nat) (av : List Value) (ws : va_W) (tys : List (ClassId × FieldType)) (post : KU → Prop) : Prop :=
  ∀ sz : Nat, vx_Met l M.y (wsM M) (kRm M mc ms) (va_Pc av (fun U => U.heap.size = sz ∧ va_P D clsL ws U.heap ∧ va_K D clsL tys U ∧ va_D (fun _ => True) ws ∧ EvK ad (va_A ws sz) U U.heap)) (va_Qv post (fun u t => va_P D clsL u.1 t.heap ∧ va_K D clsL u.2 t ∧ va_D (va_A ws sz) u.1) (va_A ws sz)) kX mc ms (va_A ws sz)
theorem va_K.mem {D : va_G} {cl : List vw_C} {tys tys' : List (ClassId × FieldType)} {U : State} (h : va_K D cl tys U) (hs : ∀ q ∈ tys', q ∈ tys) : va_K D cl tys' U :=
  ⟨h.1, fun k q hk => by
    obtain ⟨i, hi⟩ := List.getElem?_of_mem (hs q (List.mem_of_getElem? hk))
    exact h.2 i q hi⟩
section KCALL
variable {p : Program} {l : Launch} {e : Env} {R : Room} {s : State} {m : MethodId} {args : Array Value} {below : List Frame} {meth : Method} {c : Code} {H : Heap} {locs : List Loc} {Q : State → Prop} {cc : ByteArray} {ad : Nat → Nat} {pc k n nL : Nat} {ls ls' : List (Option Value)} {st st' rest : List Value} {cs : Array Slot} {D : va_G} {A : Nat → Prop} {M M2 : MI} {mc ms : Nat}
/-- what a maker's body is given -/
def FK (ad : Nat → Nat) (M : MI) (p : Program) (s : State) (m : MethodId) (args : Array Value) (meth : Method) (c : Code) (A : Nat → Prop) : Prop :=
  p.tables.exec = Jvm.exec ∧ c.code = M.b ∧ meth.sig.returnType = M.ret ∧ c.maxLocals = M.mL ∧ s.vm.findClass M.y.cls = some m.cls ∧ (∀ w ∈ GT, w.before args s = true) ∧ meth.locks = false ∧ EvK ad A s s.heap ∧ (∀ q, s.heap.size ≤ q → A q) ∧ (M.y.name = "<init>" → meth.name = "<init>")
theorem KC'.ofW {av : List Value} {ws : va_W} {tys : List (ClassId × FieldType)} {post : KU → Prop} (hy : plainFor M.y = true) (hh : M.hh = []) (hav : av.map (cv aid) = av) (hL : (ini av).length ≤ M.mL)
    (body : ∀ (p : Program) (e : Env) (s : State) (m : MethodId) (args : Array Value) (below : List Frame) (meth : Method) (c : Code) (cs : Array Slot), FK ad M p s m args meth c (va_A ws s.heap.size) → va_P D clsL ws s.heap → va_K D clsL tys s → va_D (va_A ws s.heap.size) ws → LV aid cs M.mL (inil av M.mL) →
      W p l e (kRm M mc ms) s m args below meth c s.heap [] 0 0 (MQ below (va_Qv post (fun u t => va_P D clsL u.1 t.heap ∧ va_K D clsL u.2 t ∧ va_D (va_A ws s.heap.size) u.1) (va_A ws s.heap.size)) args s mc ms (va_A ws s.heap.size)) (F0 m 0 cs [])) : KC' l D ad M mc ms av ws tys post := by
  intro sz
  have hcw : wsM M = Cond.code M.y M.b M.mL M.ret :: GT := by unfold wsM codeW; rw [hh]
  refine fx_ofW (cc := M.b) (maxL := M.mL) (ret := M.ret) hy hcw ?_
  intro p e s m args below meth c s₁ B hml hx0 hv
  obtain ⟨rfl, hsz, hP, hK, hD, hev⟩ := hv
  subst hsz
  have hts := atoms_spec (ws := wsM M) B.pre
  rw [lg_entry_eq]
  have hl := LV.entry aid av hL
  rw [hav] at hl
  refine vx_ret (body p e s m _ below meth c _ ⟨B.exec, B.bytes, B.returns, hml, findClass_of_methodNamed B.named, fun w hw => hts w (List.mem_cons_of_mem _ hw), B.notSynchronized, hev, fun q hq => Or.inr hq, fun hn => ((name_of_methodNamed B.named B.method).1).trans hn⟩ hP hK hD.self hl)
/-- behind a call of a maker -/
theorem k_c {wc wr ws : va_W} {tys : List (ClassId × FieldType)} {post : KU → Prop} {a : Array Value} {st0 : List Value} (hK : va_K D clsL tys s) (hP : va_P D clsL ws H) (hD : va_D A ws) (hS : va_S A s.heap H locs) (hA : ∀ q, s.heap.size ≤ q → A q) (isC isR : List Nat) (hC : isC.map (fun i => ws[i]?) = wc.map some) (hR : isR.map (fun i => ws[i]?) = wr.map some) (hn : va_nd isR = true) (hdis : ∀ i ∈ isR, i ∉ isC)
    (hr : vx_Run p l e R s m args below meth c H locs k n mc ms (F0 m pc cs st0) rest (va_Qv post (fun u t => va_P D clsL u.1 t.heap ∧ va_K D clsL u.2 t ∧ va_D (va_A wc H.size) u.1) (va_A wc H.size) a) kX (va_A wc H.size))
    (kk : ∀ (u : KU) (H1 : Heap) (locs1 : List Loc), post u → va_K D clsL (tys ++ u.2) s → va_P D clsL (wr ++ u.1) H1 → va_D A (wr ++ u.1) → va_S A s.heap H1 locs1 → W p l e R s m args below meth c H1 locs1 (k + mc) (n + ms) Q (F0 m (pc + 3) cs rest)) : W p l e R s m args below meth c H locs k n Q (F0 m pc cs st0) := by
  have hFc := va_free (wc := wc) hD hS hA isC hC
  refine vx_callv hr hS (fun q _ h => hFc q h) hFc (fun q _ h => h.elim) (fun E ce q9 u t H1 locs1 _ _ hpx _ _ _ _ _ _ _ => hpx.elim) (fun u t H1 locs1 ht hvm hw hB hz1 hk1 hS1 => ?_)
  obtain ⟨hP1, hK1, hD1⟩ := hB
  rw [ht] at hP1
  have hK1 := va_K.moved hvm.symm hK1
  obtain ⟨hP2, hD2⟩ := va_join hP hD isC isR hC hR hn hdis hk1 hFc hP1 hD1
  exact kk u H1 locs1 hw (hK.app hK1) hP2 hD2 hS1
theorem blindK {av : List Value} {ws : va_W} {tys : List (ClassId × FieldType)} {sz : Nat} : FrameBlind (va_Pc av (fun U => U.heap.size = sz ∧ va_P D clsL ws U.heap ∧ va_K D clsL tys U ∧ va_D (fun _ => True) ws ∧ EvK ad (va_A ws sz) U U.heap)) := by
  intro a U g mk q
  obtain ⟨q0, q1, q2, q3, q4, q5⟩ := q
  exact ⟨q0, q1, q2, va_K.moved (u := U) (U := U.calling g mk a) (Vm.Alike.refl U.vm) q3, q4, EvK.same (s := U) (U := U.calling g mk a) (H := U.heap) rfl q5⟩
theorem givenK {av : List Value} {ws wc : va_W} {tys tysc : List (ClassId × FieldType)} (hev : EvK ad A s s.heap) (hS : va_S A s.heap H locs) (hA : ∀ q, s.heap.size ≤ q → A q) (hK : va_K D clsL tys s) (hP : va_P D clsL ws H) (hD : va_D A ws) (isC : List Nat) (hC : isC.map (fun i => ws[i]?) = wc.map some) (hCn : va_nd isC = true) (hT : ∀ q ∈ tysc, q ∈ tys) : ∀ U : State, U.heap = H → s.WarmedH U.vm → va_Pc av (fun U => U.heap.size = H.size ∧ va_P D clsL wc U.heap ∧ va_K D clsL tysc U ∧ va_D (fun _ => True) wc ∧ EvK ad (va_A wc H.size) U U.heap) av.toArray U := by
  intro U hU hw
  have hFc := va_free (wc := wc) hD hS hA isC hC
  have hPc : va_P D clsL wc H := by
    intro i q hq
    have h1 : (isC.map (fun i => ws[i]?))[i]? = some (some q) := by rw [hC, List.getElem?_map, hq]; rfl
    rw [List.getElem?_map] at h1
    cases hi : isC[i]? with
    | none => rw [hi] at h1; cases h1
    | some j => rw [hi] at h1; exact hP j q (Option.some.inj h1)
  refine ⟨rfl, by rw [hU], by rw [hU]; exact hPc, va_K.moved hw.alike (hK.mem hT), (hD.sub isC hCn hC).weaken (fun _ _ _ _ => trivial), ?_⟩
  rw [hU]
  exact ((hev.kept hS.2.1).narrow hFc).warm hw
def kRoomOK (R : Room) (M2 : MI) (mc ms k n : Nat) : Prop := (M2.rk + 1 ≤ R.frames ∧ 8 + (M2.mL + 11) + 38 * M2.rk ≤ R.locals) ∧ (k + mc ≤ R.cells ∧ n + ms ≤ R.slots)
theorem callB_k {nn idx : Nat} (F : FK ad M p s m args meth c A) (w : WB M.y.cls idx M2 nn) (r : kRoomOK R M2 mc ms k n) : CallB R s args M.y.cls idx M2.y M2.b M2.mL M2.ret (wsM M2) (kRm M2 mc ms) mc ms nn := by
  obtain ⟨h1, h2, h3, h4, h5, h6⟩ := w
  have hts := F.2.2.2.2.2.1
  have e := codeW_0 h4
  refine ⟨rfl, rfl, r.1.1, r.1.2, payM hts h3, ?_, ?_, hts _ h2, h5, fun sig hs => ?_, hts _ h1⟩
  · rw [← e]; exact List.mem_cons_self
  · rw [← e]; exact hts _ h3
  · rw [hs] at h6
    exact (Option.some.inj h6).symm
/-- static -/
theorem k_S {wc wr ws : va_W} {tys tysc : List (ClassId × FieldType)} {post : KU → Prop} {As st0 : List Value} {idx nn : Nat} (hm : KC' l D ad M2 mc ms As wc tysc post) (F : FK ad M p s m args meth c A) (hw : WS M.y.cls idx M2 nn) (hl : LV aid cs M.mL ls) (hK : va_K D clsL tys s) (hP : va_P D clsL ws H) (hD : va_D A ws) (hS : va_S A s.heap H locs) (isC isR : List Nat) (hC : isC.map (fun i => ws[i]?) = wc.map some) (hCn : va_nd isC = true) (hR : isR.map (fun i => ws[i]?) = wr.map some) (hn : va_nd isR = true) (hdis : ∀ i ∈ isR, i ∉ isC) (hT : ∀ q ∈ tysc, q ∈ tys)
    (hd : decode M.b pc = .ok (.invokestatic idx, 3)) (hst : st0 = As.reverse ++ rest) (hnn : As.length = nn) (hRm : kRoomOK R M2 mc ms k n) (hcat : (rest.map fun v => v.category).sum ≤ 8)
    (kk : ∀ (u : KU) (H1 : Heap) (locs1 : List Loc), post u → va_K D clsL (tys ++ u.2) s → va_P D clsL (wr ++ u.1) H1 → va_D A (wr ++ u.1) → va_S A s.heap H1 locs1 → W p l e R s m args below meth c H1 locs1 (k + mc) (n + ms) Q (F0 m (pc + 3) cs rest)) : W p l e R s m args below meth c H locs k n Q (F0 m pc cs st0) := by
  subst hst
  have hts := F.2.2.2.2.2.1
  exact k_c hK hP hD hS F.2.2.2.2.2.2.2.2.1 isC isR hC hR hn hdis (vx_runS (As := As) (rest := rest) (nL := M.mL) (Ts := GT) (own := M.y.cls) (cc := M.b) ⟨F.1, F.2.1, F.2.2.2.1, F.2.2.2.2.1, hts⟩ (hm H.size) ⟨callB_k F hw.1 hRm, hts _ hw.2⟩ ⟨blindK, givenK F.2.2.2.2.2.2.2.1 hS F.2.2.2.2.2.2.2.2.1 hK hP hD isC hC hCn hT⟩ rfl hnn hl.2.1 rfl (lv_room hcat) hd hRm.2) kk
/-- virtual -/
theorem k_V {wc wr ws : va_W} {tys tysc : List (ClassId × FieldType)} {post : KU → Prop} {As st0 : List Value} {idx nn b ci q0 : Nat} {fs : List Value} {T : u_T} {N : Nat} (hm : KC' l D ad M2 mc ms (.ref b :: As) wc tysc post) (F : FK ad M p s m args meth c A) (hw : WV M.y.cls idx M2 nn) (hl : LV aid cs M.mL ls) (hK : va_K D clsL tys s) (hP : va_P D clsL ws H) (hD : va_D A ws) (hS : va_S A s.heap H locs) (hb : ws[q0]? = some (b, .inr (ci, fs))) (hc : clsL[ci]? = some (M2.y.cls, T, N)) (isC isR : List Nat) (hC : isC.map (fun i => ws[i]?) = wc.map some) (hCn : va_nd isC = true) (hR : isR.map (fun i => ws[i]?) = wr.map some) (hn : va_nd isR = true) (hdis : ∀ i ∈ isR, i ∉ isC) (hT : ∀ q ∈ tysc, q ∈ tys)
    (hd : decode M.b pc = .ok (.invokevirtual idx, 3)) (hst : st0 = As.reverse ++ .ref b :: rest) (hnn : As.length = nn) (hRm : kRoomOK R M2 mc ms k n) (hcat : (rest.map fun v => v.category).sum ≤ 8)
    (kk : ∀ (u : KU) (H1 : Heap) (locs1 : List Loc), post u → va_K D clsL (tys ++ u.2) s → va_P D clsL (wr ++ u.1) H1 → va_D A (wr ++ u.1) → va_S A s.heap H1 locs1 → W p l e R s m args below meth c H1 locs1 (k + mc) (n + ms) Q (F0 m (pc + 3) cs rest)) : W p l e R s m args below meth c H locs k n Q (F0 m pc cs st0) := by
  subst hst
  have hts := F.2.2.2.2.2.1
  exact k_c hK hP hD hS F.2.2.2.2.2.2.2.2.1 isC isR hC hR hn hdis (vx_runV (As := As) (rest := rest) (C := M2.y.cls) (nL := M.mL) (Ts := GT) (own := M.y.cls) (cc := M.b) ⟨F.1, F.2.1, F.2.2.2.1, F.2.2.2.2.1, hts⟩ (hm H.size) ⟨callB_k F hw.1 hRm, hts _ hw.2.1, hts _ hw.2.2⟩ ⟨blindK, va_recv (q := (M2.y.cls, T, N)) hK hP hc hb, givenK F.2.2.2.2.2.2.2.1 hS F.2.2.2.2.2.2.2.2.1 hK hP hD isC hC hCn hT⟩ rfl hnn hl.2.1 rfl (lv_room hcat) hd hRm.2) kk
/-- a constructor -/
theorem k_I {wc wr ws : va_W} {tys tysc : List (ClassId × FieldType)} {post : KU → Prop} {st0 : List Value} {idx b : Nat} (hm : KC' l D ad M2 mc ms [.ref b] wc tysc post) (F : FK ad M p s m args meth c A) (hw : WB M.y.cls idx M2 0) (hret : M2.ret = none) (hin : M2.y.name = "<init>") (hinst : Cond.instanceMethod M2.y ∈ GT) (hl : LV aid cs M.mL ls) (hK : va_K D clsL tys s) (hP : va_P D clsL ws H) (hD : va_D A ws) (hS : va_S A s.heap H locs) (isC isR : List Nat) (hC : isC.map (fun i => ws[i]?) = wc.map some) (hCn : va_nd isC = true) (hR : isR.map (fun i => ws[i]?) = wr.map some) (hn : va_nd isR = true) (hdis : ∀ i ∈ isR, i ∉ isC) (hT : ∀ q ∈ tysc, q ∈ tys)
    (hd : decode M.b pc = .ok (.invokespecial idx, 3)) (hst : st0 = .ref b :: rest) (hRm : kRoomOK R M2 mc ms k n) (hcat : (rest.map fun v => v.category).sum ≤ 8)
    (kk : ∀ (u : KU) (H1 : Heap) (locs1 : List Loc), post u → va_K D clsL (tys ++ u.2) s → va_P D clsL (wr ++ u.1) H1 → va_D A (wr ++ u.1) → va_S A s.heap H1 locs1 → W p l e R s m args below meth c H1 locs1 (k + mc) (n + ms) Q (F0 m (pc + 3) cs rest)) : W p l e R s m args below meth c H locs k n Q (F0 m pc cs st0) := by
  subst hst
  have hts := F.2.2.2.2.2.1
  have hcb := callB_k F hw hRm
  rw [hret] at hcb
  exact k_c hK hP hD hS F.2.2.2.2.2.2.2.2.1 isC isR hC hR hn hdis (vx_runI (As := []) (rest := rest) (nL := M.mL) (Ts := GT) (own := M.y.cls) (cc := M.b) ⟨F.1, F.2.1, F.2.2.2.1, F.2.2.2.2.1, hts⟩ (hm H.size) ⟨hcb, hin, hts _ hinst⟩ ⟨blindK, givenK F.2.2.2.2.2.2.2.1 hS F.2.2.2.2.2.2.2.2.1 hK hP hD isC hC hCn hT⟩ rfl rfl hl.2.1 rfl (lv_room hcat) hd hRm.2) kk
/-- a private constructor of a nest mate -/
theorem k_N {wc wr ws : va_W} {tys tysc : List (ClassId × FieldType)} {post : KU → Prop} {st0 : List Value} {idx b : Nat} {host : String} (hm : KC' l D ad M2 mc ms [.ref b] wc tysc post) (F : FK ad M p s m args meth c A) (hlk : Cond.methodLinkNest M.y.cls idx M2.y host ∈ NWs) (hini : Cond.initialized M2.y.cls ∈ GT) (hcw : codeW M2 ∈ GT) (hh : M2.hh = []) (hcls : M2.y.cls ≠ "java/lang/invoke/MethodHandle" ∧ M2.y.cls ≠ "java/lang/invoke/VarHandle") (hpar : (parseMethodDescriptor M2.y.desc).map (fun d => d.parameters.length) = some 0) (hret : M2.ret = none) (hin : M2.y.name = "<init>") (hinst : Cond.instanceMethod M2.y ∈ GT) (hl : LV aid cs M.mL ls) (hK : va_K D clsL tys s) (hP : va_P D clsL ws H) (hD : va_D A ws) (hS : va_S A s.heap H locs) (isC isR : List Nat) (hC : isC.map (fun i => ws[i]?) = wc.map some) (hCn : va_nd isC = true) (hR : isR.map (fun i => ws[i]?) = wr.map some) (hn : va_nd isR = true) (hdis : ∀ i ∈ isR, i ∉ isC) (hT : ∀ q ∈ tysc, q ∈ tys)
    (hd : decode M.b pc = .ok (.invokespecial idx, 3)) (hst : st0 = .ref b :: rest) (hRm : kRoomOK R M2 mc ms k n) (hcat : (rest.map fun v => v.category).sum ≤ 8)
    (kk : ∀ (u : KU) (H1 : Heap) (locs1 : List Loc), post u → va_K D clsL (tys ++ u.2) s → va_P D clsL (wr ++ u.1) H1 → va_D A (wr ++ u.1) → va_S A s.heap H1 locs1 → W p l e R s m args below meth c H1 locs1 (k + mc) (n + ms) Q (F0 m (pc + 3) cs rest)) : W p l e R s m args below meth c H locs k n Q (F0 m pc cs st0) := by
  subst hst
  have hts := F.2.2.2.2.2.1
  have hG : GoodIn GT (wsM M2) := fun w hw => by
    have hg : w ∈ GT := by
      rcases List.mem_cons.mp hw with rfl | h
      · exact hcw
      · exact h
    exact ⟨hg, gtGood hg⟩
  exact k_c hK hP hD hS F.2.2.2.2.2.2.2.2.1 isC isR hC hR hn hdis (vx_runIN (As := []) (rest := rest) (nL := M.mL) (Ts := GT) (own := M.y.cls) (cc := M.b) (host := host) ⟨F.1, F.2.1, F.2.2.2.1, F.2.2.2.2.1, hts⟩ (hm H.size) ⟨va_cnB (ws' := GT) (bytes := M2.b) (maxL := M2.mL) (ret := none) 0 hts hG (by unfold wsM; rw [codeW_0 hh, hret]) rfl rfl (F.2.2.2.2.2.2.2.1.1.1 _ hlk) (hts _ hini) ⟨hcls.1, hcls.2, hpar⟩ hRm.1, hin, hts _ hinst⟩ ⟨blindK, givenK F.2.2.2.2.2.2.2.1 hS F.2.2.2.2.2.2.2.2.1 hK hP hD isC hC hCn hT⟩ rfl rfl hl.2.1 rfl (lv_room hcat) hd hRm.2) kk
end KCALL
