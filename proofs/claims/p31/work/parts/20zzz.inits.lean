section KLAST
variable {p : Program} {l : Launch} {e : Env} {R : Room} {s : State} {m : MethodId} {args : Array Value} {below : List Frame} {meth : Method} {c : Code} {H : Heap} {locs : List Loc} {Q : State → Prop} {cc : ByteArray} {ad : Nat → Nat} {pc k n nL : Nat} {ls ls' : List (Option Value)} {st st' rest : List Value} {cs : Array Slot} {D : va_G} {A : Nat → Prop} {M M2 : MI} {mc ms : Nat}
theorem nd_of {l : List Nat} (h : l.Nodup) : va_nd l = true := by
  induction l with
  | nil => rfl
  | cons a l ih =>
    rw [List.nodup_cons] at h
    simp only [va_nd, Bool.and_eq_true, decide_eq_true_eq]
    exact ⟨h.1, ih h.2⟩
theorem last_C (wr : va_W) (x : Nat × va_E) : [wr.length].map (fun i => (wr ++ [x])[i]?) = [x].map some := by simp
theorem last_R (wr : va_W) (x : Nat × va_E) : (List.range wr.length).map (fun i => (wr ++ [x])[i]?) = wr.map some := by
  apply List.ext_getElem?
  intro i
  by_cases hi : i < wr.length
  · simp [hi]
    rw [List.getElem?_append_left hi, List.getElem?_eq_getElem hi]
  · rw [List.getElem?_eq_none (by simp; omega), List.getElem?_eq_none (by simp; omega)]
theorem last_d (wr : va_W) : ∀ i ∈ List.range wr.length, i ∉ [wr.length] := by
  intro i hi h
  rw [List.mem_singleton] at h
  rw [h] at hi
  simp at hi
/-- Object.<init> -/
theorem ow_code : Cond.code Lib.objectInit ⟨#[0xb1]⟩ 1 none ∈ GT := gtb 30 (by decide +kernel) (by decide +kernel)
theorem ow_inst : Cond.instanceMethod Lib.objectInit ∈ GT := gtb 29 (by decide +kernel) (by decide +kernel)
theorem ac_int : Cond.arrayClass .int ∈ GT := gtb 132 (by decide +kernel) (by decide +kernel)
theorem ac_boolean : Cond.arrayClass .boolean ∈ GT := gtb 194 (by decide +kernel) (by decide +kernel)
theorem ac_char : Cond.arrayClass .char ∈ GT := gtb 217 (by decide +kernel) (by decide +kernel)
theorem k_obj {idx b : Nat} (F : FK ad M p s m args meth c A) (hl : LV aid cs M.mL ls) (hlk : Cond.methodLink M.y.cls idx Lib.objectInit ∈ GT) (hd : decode M.b pc = .ok (.invokespecial idx, 3)) (hfr : 1 ≤ R.frames) (hlo : (rest.map fun v => v.category).sum + 12 ≤ R.locals)
    (g : W p l e R s m args below meth c H locs k n Q (F0 m (pc + 3) cs rest)) : W p l e R s m args below meth c H locs k n Q (F0 m pc cs (.ref b :: rest)) :=
  W.objInit F.1 F.2.1 F.2.2.2.2.1 (F.2.2.2.2.2.1 _ hlk) (F.2.2.2.2.2.1 _ ow_inst) (F.2.2.2.2.2.1 _ ow_code) rfl (by rw [F.2.2.2.1]; exact hl.2.1) rfl hd hfr (by show 2 * 0 + _ + 12 ≤ _; omega) g
/-- new C(): the object comes last, its maker is called -/
theorem k_newI {ws : va_W} {tys : List (ClassId × FieldType)} {post : Nat → KU → Prop} {ix idx ci N : Nat} {C : String} {T : u_T} {fs : List Value} (hm : ∀ q : Nat, KC' l D ad M2 mc ms [.ref q] [(q, .inr (ci, fs))] [] (post q)) (F : FK ad M p s m args meth c A) (hl : LV aid cs M.mL ls)
    (hin : ∀ w ∈ u_ws C T N, w ∈ GT) (ty : Nat → FieldType) (hty : ∀ k, k < N → parseFieldDescriptor (T k).2.2.1 = some (ty k)) (hcl : Cond.classLink M.y.cls ix C ∈ GT) (hinst : Cond.instantiable C N ∈ GT) (hini : Cond.initialized C ∈ GT) (hc : clsL[ci]? = some (C, T, N)) (hfs : ∀ j, j < N → defaultValue (ty j) = vp_V fs j)
    (hcall : (WB M.y.cls idx M2 0) ∨ ((∃ host : String, Cond.methodLinkNest M.y.cls idx M2.y host ∈ NWs) ∧ Cond.initialized M2.y.cls ∈ GT ∧ codeW M2 ∈ GT ∧ M2.hh = [] ∧ (M2.y.cls ≠ "java/lang/invoke/MethodHandle" ∧ M2.y.cls ≠ "java/lang/invoke/VarHandle") ∧ (parseMethodDescriptor M2.y.desc).map (fun d => d.parameters.length) = some 0)) (hret : M2.ret = none) (hname : M2.y.name = "<init>") (hinst2 : Cond.instanceMethod M2.y ∈ GT)
    (hK : va_K D clsL tys s) (hP : va_P D clsL ws H) (hD : va_D A ws) (hS : va_S A s.heap H locs)
    (d0 : decode M.b pc = .ok (.new ix, 3)) (d3 : decode M.b (pc + 3) = .ok (.dup, 1)) (d4 : decode M.b (pc + 4) = .ok (.invokespecial idx, 3)) (hcells : k + 1 ≤ R.cells) (hslots : n + N ≤ R.slots) (hRm : kRoomOK R M2 mc ms (k + 1) (n + N)) (hcat : ((rest.map fun v => v.category).sum) + 1 ≤ 8)
    (kk : ∀ (q : Nat) (u : KU) (H1 : Heap) (locs1 : List Loc), post q u → va_K D clsL (tys ++ u.2) s → va_P D clsL (ws ++ u.1) H1 → va_D A (ws ++ u.1) → va_S A s.heap H1 locs1 → W p l e R s m args below meth c H1 locs1 (k + 1 + mc) (n + N + ms) Q (F0 m (pc + 7) cs (.ref q :: rest))) : W p l e R s m args below meth c H locs k n Q (F0 m pc cs rest) := by
  have hts := F.2.2.2.2.2.1
  refine va_new (c0 := c) (ci := ci) (fs := fs) (C := C) (T := T) (N := N) F.1 F.2.1 hts hin ty hty F.2.2.2.2.1 (hts _ hcl) (hts _ hinst) (hts _ hini) hK hP hD hS F.2.2.2.2.2.2.2.2.1 hc hfs hcells hslots d0 (fun q H1 hP1 hD1 hS1 => ?_)
  refine lv_dup F.1 F.2.1 d3 rfl ?_
  have hc2 : ((Value.ref q :: rest).map fun v => v.category).sum ≤ 8 := by
    show 1 + (rest.map fun v => v.category).sum ≤ 8
    omega
  rcases hcall with hw | ⟨⟨host, h1⟩, h2, h3, h4, h5, h6⟩
  · exact k_I (wc := [(q, .inr (ci, fs))]) (wr := ws) (rest := .ref q :: rest) (hm q) F hw hret hname hinst2 hl hK hP1 hD1 hS1 [ws.length] (List.range ws.length) (last_C _ _) (nd_of (by simp)) (last_R _ _) (nd_of List.nodup_range) (last_d _) (fun z hz => nomatch hz) d4 rfl hRm hc2 (fun u H2 locs2 hu hK2 hP2 hD2 hS2 => kk q u H2 locs2 hu hK2 hP2 hD2 hS2)
  · exact k_N (wc := [(q, .inr (ci, fs))]) (wr := ws) (rest := .ref q :: rest) (hm q) F h1 h2 h3 h4 h5 h6 hret hname hinst2 hl hK hP1 hD1 hS1 [ws.length] (List.range ws.length) (last_C _ _) (nd_of (by simp)) (last_R _ _) (nd_of List.nodup_range) (last_d _) (fun z hz => nomatch hz) d4 rfl hRm hc2 (fun u H2 locs2 hu hK2 hP2 hD2 hS2 => kk q u H2 locs2 hu hK2 hP2 hD2 hS2)
end KLAST
/-! what the makers make -/
def zer : Nat → Int32 := fun _ => 0
def stF (i : Nat) : Nat → Int32 := if i = 6 then fil 10 (-1) zer else if i = 7 then fil 10 (-1) zer else if i = 9 then cpy0 (sarr 212) zer 6 else fil (sT.getD i 0) 0 zer
def stE (f : Nat → Nat) (cA : Nat → ClassId) (i : Nat) : va_E := if i = 0 then .inr (6, [.ref (f 1), .ref (f 2), .ref (f 3), .ref (f 4), .ref (f 5), .ref (f 6), .ref (f 7), .ref (f 8), .ref (f 9), .int 0, .int 0, .int 0, .int 0, .int 0]) else .inl (cA i, sT.getD i 0, .inl (stF i))
def stC (f : Nat → Nat) (cA : Nat → ClassId) : va_W := (List.range 10).map (fun i => (f i, stE f cA i))
def postS (h0 : Nat) : KU → Prop := fun u => ∃ (f : Nat → Nat) (cA : Nat → ClassId), f 0 = h0 ∧ u.1 = stC f cA ∧ ∀ i, 1 ≤ i → i < 10 → (cA i, FieldType.int) ∈ u.2
def pwN (i : Nat) : Nat := [0, 120, 30, 10].getD i 0
def pwE (f : Nat → Nat) (cA : Nat → ClassId) (i : Nat) : va_E := if i = 0 then .inr (4, [.ref (f 1), .ref (f 2), .ref (f 3)]) else .inl (cA i, pwN i, .inl zer)
def pwC (f : Nat → Nat) (cA : Nat → ClassId) : va_W := (List.range 4).map (fun i => (f i, pwE f cA i))
def postW (h0 : Nat) : KU → Prop := fun u => ∃ (f : Nat → Nat) (cA : Nat → ClassId), f 0 = h0 ∧ u.1 = pwC f cA ∧ ∀ i, 1 ≤ i → i < 4 → (cA i, FieldType.int) ∈ u.2
def txE (f : Nat → Nat) (cA : Nat → ClassId) (i : Nat) : va_E := if i = 0 then .inr (2, [.ref (f 1), .ref (f 2), .int 0, .int 0, .int 0]) else .inl (cA i, [0, 120, 3].getD i 0, .inl zer)
def txC (f : Nat → Nat) (cA : Nat → ClassId) : va_W := (List.range 3).map (fun i => (f i, txE f cA i))
def postT (h0 : Nat) : KU → Prop := fun u => ∃ (f : Nat → Nat) (cA : Nat → ClassId), f 0 = h0 ∧ u.1 = txC f cA ∧ (cA 1, FieldType.char) ∈ u.2 ∧ (cA 2, FieldType.int) ∈ u.2
def tb (l : List Nat) : Nat → Nat := fun i => l.getD i 0
def m_S_init : MI := (⟨"FairWalls$State", "<init>", "()V"⟩, prog_8_method_1_code, 1, (Option.none : Option Jvm.ClassFile.FieldType), 2, 0, [])
theorem cw_S_init : codeW m_S_init ∈ GT := gtb 41 (by decide +kernel) (by decide +kernel)
theorem iw_S_init : Cond.initialized m_S_init.y.cls ∈ GT := gtb 3 (by decide +kernel) (by decide +kernel)
theorem nw_S_init : Cond.instanceMethod m_S_init.y ∈ GT := gtb 40 (by decide +kernel) (by decide +kernel)
set_option maxHeartbeats 4000000 in
theorem c_S_init (l : Launch) (D : va_G) (ad : Nat → Nat) (h0 : Nat) : KC' l D ad m_S_init 9 190 [.ref h0] [(h0, .inr (6, [.null, .null, .null, .null, .null, .null, .null, .null, .null, .int 0, .int 0, .int 0, .int 0, .int 0]))] [] (postS h0) := by
  refine KC'.ofW (by decide +kernel) rfl rfl (Nat.le_of_ble_eq_true rfl) (fun p e s m args below meth c cs F hP hK hD hl => ?_)
  have hS : va_S (va_A [(h0, .inr (6, [.null, .null, .null, .null, .null, .null, .null, .null, .null, .int 0, .int 0, .int 0, .int 0, .int 0]))] s.heap.size) s.heap s.heap [] := va_S.rf
  generalize va_A [(h0, .inr (6, [.null, .null, .null, .null, .null, .null, .null, .null, .null, .int 0, .int 0, .int 0, .int 0, .int 0]))] s.heap.size = A at F hD hS ⊢
  refine k_run (pc' := 1) (st := []) [.aload_n 0] F.1 F.2.1 (by decide +kernel) rfl rfl hl rfl (fun cs hl => ?_)
  refine k_obj (idx := 3) F hl (gtb 42 (by decide +kernel) (by decide +kernel)) (by decide +kernel) (by decide) (Nat.le_of_ble_eq_true rfl) ?_
  refine k_run (pc' := 6) (st := []) [.aload_n 0, .iconst 4] F.1 F.2.1 (by decide +kernel) rfl rfl hl rfl (fun cs hl => ?_)
  refine k_newF (own := "FairWalls$State") (T := TX6) (N := 14) (ci := 6) (idx := 9) (j := 0) (at9 := .int) (ty := .int) (N' := 4) (R0 := []) (rest := []) F.1 F.2.1 F.2.2.2.2.2.1 (gdT inTX6 gdTX6) tyX6 tyX6_ok nmX6 F.2.2.2.2.1 ac_int rfl (by simp) hK hP hD hS F.2.2.2.2.2.2.2.2.1 rfl (by decide) (gtb 55 (by decide +kernel) (by decide +kernel)) rfl rfl (F.2.2.2.2.2.2.2.2.2 rfl) rfl (Nat.le_of_ble_eq_true rfl) (by decide) rfl (by decide) (Nat.le_of_ble_eq_true rfl) (Nat.le_of_ble_eq_true rfl) (by decide +kernel) (by decide +kernel) (fun q1 c1 H locs hK hP hD hS => ?_)
  have hP : va_P D clsL [(h0, .inr (6, [.ref q1, .null, .null, .null, .null, .null, .null, .null, .null, .int 0, .int 0, .int 0, .int 0, .int 0])), (q1, .inl (c1, 4, .inl (fun _ => 0)))] H := hP
  have hD : va_D A [(h0, .inr (6, [.ref q1, .null, .null, .null, .null, .null, .null, .null, .null, .int 0, .int 0, .int 0, .int 0, .int 0])), (q1, .inl (c1, 4, .inl (fun _ => 0)))] := hD
  have hK : va_K D clsL [(c1, .int)] s := hK
  refine k_run (pc' := 14) (st := []) [.aload_n 0, .bipush (120)] F.1 F.2.1 (by decide +kernel) rfl rfl hl rfl (fun cs hl => ?_)
  refine k_newF (own := "FairWalls$State") (T := TX6) (N := 14) (ci := 6) (idx := 15) (j := 1) (at9 := .int) (ty := .int) (N' := 120) (R0 := [(q1, .inl (c1, 4, .inl (fun _ => 0)))]) (rest := []) F.1 F.2.1 F.2.2.2.2.2.1 (gdT inTX6 gdTX6) tyX6 tyX6_ok nmX6 F.2.2.2.2.1 ac_int rfl (by simp) hK hP hD hS F.2.2.2.2.2.2.2.2.1 rfl (by decide) (gtb 58 (by decide +kernel) (by decide +kernel)) rfl rfl (F.2.2.2.2.2.2.2.2.2 rfl) rfl (Nat.le_of_ble_eq_true rfl) (by decide) rfl (by decide) (Nat.le_of_ble_eq_true rfl) (Nat.le_of_ble_eq_true rfl) (by decide +kernel) (by decide +kernel) (fun q2 c2 H locs hK hP hD hS => ?_)
  have hP : va_P D clsL [(h0, .inr (6, [.ref q1, .ref q2, .null, .null, .null, .null, .null, .null, .null, .int 0, .int 0, .int 0, .int 0, .int 0])), (q1, .inl (c1, 4, .inl (fun _ => 0))), (q2, .inl (c2, 120, .inl (fun _ => 0)))] H := hP
  have hD : va_D A [(h0, .inr (6, [.ref q1, .ref q2, .null, .null, .null, .null, .null, .null, .null, .int 0, .int 0, .int 0, .int 0, .int 0])), (q1, .inl (c1, 4, .inl (fun _ => 0))), (q2, .inl (c2, 120, .inl (fun _ => 0)))] := hD
  have hK : va_K D clsL [(c1, .int), (c2, .int)] s := hK
  refine k_run (pc' := 22) (st := []) [.aload_n 0, .bipush (10)] F.1 F.2.1 (by decide +kernel) rfl rfl hl rfl (fun cs hl => ?_)
  refine k_newF (own := "FairWalls$State") (T := TX6) (N := 14) (ci := 6) (idx := 18) (j := 2) (at9 := .int) (ty := .int) (N' := 10) (R0 := [(q1, .inl (c1, 4, .inl (fun _ => 0))), (q2, .inl (c2, 120, .inl (fun _ => 0)))]) (rest := []) F.1 F.2.1 F.2.2.2.2.2.1 (gdT inTX6 gdTX6) tyX6 tyX6_ok nmX6 F.2.2.2.2.1 ac_int rfl (by simp) hK hP hD hS F.2.2.2.2.2.2.2.2.1 rfl (by decide) (gtb 61 (by decide +kernel) (by decide +kernel)) rfl rfl (F.2.2.2.2.2.2.2.2.2 rfl) rfl (Nat.le_of_ble_eq_true rfl) (by decide) rfl (by decide) (Nat.le_of_ble_eq_true rfl) (Nat.le_of_ble_eq_true rfl) (by decide +kernel) (by decide +kernel) (fun q3 c3 H locs hK hP hD hS => ?_)
  have hP : va_P D clsL [(h0, .inr (6, [.ref q1, .ref q2, .ref q3, .null, .null, .null, .null, .null, .null, .int 0, .int 0, .int 0, .int 0, .int 0])), (q1, .inl (c1, 4, .inl (fun _ => 0))), (q2, .inl (c2, 120, .inl (fun _ => 0))), (q3, .inl (c3, 10, .inl (fun _ => 0)))] H := hP
  have hD : va_D A [(h0, .inr (6, [.ref q1, .ref q2, .ref q3, .null, .null, .null, .null, .null, .null, .int 0, .int 0, .int 0, .int 0, .int 0])), (q1, .inl (c1, 4, .inl (fun _ => 0))), (q2, .inl (c2, 120, .inl (fun _ => 0))), (q3, .inl (c3, 10, .inl (fun _ => 0)))] := hD
  have hK : va_K D clsL [(c1, .int), (c2, .int), (c3, .int)] s := hK
  refine k_run (pc' := 30) (st := []) [.aload_n 0, .bipush (10)] F.1 F.2.1 (by decide +kernel) rfl rfl hl rfl (fun cs hl => ?_)
  refine k_newF (own := "FairWalls$State") (T := TX6) (N := 14) (ci := 6) (idx := 21) (j := 3) (at9 := .int) (ty := .int) (N' := 10) (R0 := [(q1, .inl (c1, 4, .inl (fun _ => 0))), (q2, .inl (c2, 120, .inl (fun _ => 0))), (q3, .inl (c3, 10, .inl (fun _ => 0)))]) (rest := []) F.1 F.2.1 F.2.2.2.2.2.1 (gdT inTX6 gdTX6) tyX6 tyX6_ok nmX6 F.2.2.2.2.1 ac_int rfl (by simp) hK hP hD hS F.2.2.2.2.2.2.2.2.1 rfl (by decide) (gtb 64 (by decide +kernel) (by decide +kernel)) rfl rfl (F.2.2.2.2.2.2.2.2.2 rfl) rfl (Nat.le_of_ble_eq_true rfl) (by decide) rfl (by decide) (Nat.le_of_ble_eq_true rfl) (Nat.le_of_ble_eq_true rfl) (by decide +kernel) (by decide +kernel) (fun q4 c4 H locs hK hP hD hS => ?_)
  have hP : va_P D clsL [(h0, .inr (6, [.ref q1, .ref q2, .ref q3, .ref q4, .null, .null, .null, .null, .null, .int 0, .int 0, .int 0, .int 0, .int 0])), (q1, .inl (c1, 4, .inl (fun _ => 0))), (q2, .inl (c2, 120, .inl (fun _ => 0))), (q3, .inl (c3, 10, .inl (fun _ => 0))), (q4, .inl (c4, 10, .inl (fun _ => 0)))] H := hP
  have hD : va_D A [(h0, .inr (6, [.ref q1, .ref q2, .ref q3, .ref q4, .null, .null, .null, .null, .null, .int 0, .int 0, .int 0, .int 0, .int 0])), (q1, .inl (c1, 4, .inl (fun _ => 0))), (q2, .inl (c2, 120, .inl (fun _ => 0))), (q3, .inl (c3, 10, .inl (fun _ => 0))), (q4, .inl (c4, 10, .inl (fun _ => 0)))] := hD
  have hK : va_K D clsL [(c1, .int), (c2, .int), (c3, .int), (c4, .int)] s := hK
  refine k_run (pc' := 38) (st := []) [.aload_n 0, .bipush (10)] F.1 F.2.1 (by decide +kernel) rfl rfl hl rfl (fun cs hl => ?_)
  refine k_newF (own := "FairWalls$State") (T := TX6) (N := 14) (ci := 6) (idx := 24) (j := 4) (at9 := .int) (ty := .int) (N' := 10) (R0 := [(q1, .inl (c1, 4, .inl (fun _ => 0))), (q2, .inl (c2, 120, .inl (fun _ => 0))), (q3, .inl (c3, 10, .inl (fun _ => 0))), (q4, .inl (c4, 10, .inl (fun _ => 0)))]) (rest := []) F.1 F.2.1 F.2.2.2.2.2.1 (gdT inTX6 gdTX6) tyX6 tyX6_ok nmX6 F.2.2.2.2.1 ac_int rfl (by simp) hK hP hD hS F.2.2.2.2.2.2.2.2.1 rfl (by decide) (gtb 68 (by decide +kernel) (by decide +kernel)) rfl rfl (F.2.2.2.2.2.2.2.2.2 rfl) rfl (Nat.le_of_ble_eq_true rfl) (by decide) rfl (by decide) (Nat.le_of_ble_eq_true rfl) (Nat.le_of_ble_eq_true rfl) (by decide +kernel) (by decide +kernel) (fun q5 c5 H locs hK hP hD hS => ?_)
  have hP : va_P D clsL [(h0, .inr (6, [.ref q1, .ref q2, .ref q3, .ref q4, .ref q5, .null, .null, .null, .null, .int 0, .int 0, .int 0, .int 0, .int 0])), (q1, .inl (c1, 4, .inl (fun _ => 0))), (q2, .inl (c2, 120, .inl (fun _ => 0))), (q3, .inl (c3, 10, .inl (fun _ => 0))), (q4, .inl (c4, 10, .inl (fun _ => 0))), (q5, .inl (c5, 10, .inl (fun _ => 0)))] H := hP
  have hD : va_D A [(h0, .inr (6, [.ref q1, .ref q2, .ref q3, .ref q4, .ref q5, .null, .null, .null, .null, .int 0, .int 0, .int 0, .int 0, .int 0])), (q1, .inl (c1, 4, .inl (fun _ => 0))), (q2, .inl (c2, 120, .inl (fun _ => 0))), (q3, .inl (c3, 10, .inl (fun _ => 0))), (q4, .inl (c4, 10, .inl (fun _ => 0))), (q5, .inl (c5, 10, .inl (fun _ => 0)))] := hD
  have hK : va_K D clsL [(c1, .int), (c2, .int), (c3, .int), (c4, .int), (c5, .int)] s := hK
  refine k_run (pc' := 46) (st := []) [.aload_n 0, .bipush (10)] F.1 F.2.1 (by decide +kernel) rfl rfl hl rfl (fun cs hl => ?_)
  refine k_newF (own := "FairWalls$State") (T := TX6) (N := 14) (ci := 6) (idx := 27) (j := 5) (at9 := .int) (ty := .int) (N' := 10) (R0 := [(q1, .inl (c1, 4, .inl (fun _ => 0))), (q2, .inl (c2, 120, .inl (fun _ => 0))), (q3, .inl (c3, 10, .inl (fun _ => 0))), (q4, .inl (c4, 10, .inl (fun _ => 0))), (q5, .inl (c5, 10, .inl (fun _ => 0)))]) (rest := []) F.1 F.2.1 F.2.2.2.2.2.1 (gdT inTX6 gdTX6) tyX6 tyX6_ok nmX6 F.2.2.2.2.1 ac_int rfl (by simp) hK hP hD hS F.2.2.2.2.2.2.2.2.1 rfl (by decide) (gtb 72 (by decide +kernel) (by decide +kernel)) rfl rfl (F.2.2.2.2.2.2.2.2.2 rfl) rfl (Nat.le_of_ble_eq_true rfl) (by decide) rfl (by decide) (Nat.le_of_ble_eq_true rfl) (Nat.le_of_ble_eq_true rfl) (by decide +kernel) (by decide +kernel) (fun q6 c6 H locs hK hP hD hS => ?_)
  have hP : va_P D clsL [(h0, .inr (6, [.ref q1, .ref q2, .ref q3, .ref q4, .ref q5, .ref q6, .null, .null, .null, .int 0, .int 0, .int 0, .int 0, .int 0])), (q1, .inl (c1, 4, .inl (fun _ => 0))), (q2, .inl (c2, 120, .inl (fun _ => 0))), (q3, .inl (c3, 10, .inl (fun _ => 0))), (q4, .inl (c4, 10, .inl (fun _ => 0))), (q5, .inl (c5, 10, .inl (fun _ => 0))), (q6, .inl (c6, 10, .inl (fun _ => 0)))] H := hP
  have hD : va_D A [(h0, .inr (6, [.ref q1, .ref q2, .ref q3, .ref q4, .ref q5, .ref q6, .null, .null, .null, .int 0, .int 0, .int 0, .int 0, .int 0])), (q1, .inl (c1, 4, .inl (fun _ => 0))), (q2, .inl (c2, 120, .inl (fun _ => 0))), (q3, .inl (c3, 10, .inl (fun _ => 0))), (q4, .inl (c4, 10, .inl (fun _ => 0))), (q5, .inl (c5, 10, .inl (fun _ => 0))), (q6, .inl (c6, 10, .inl (fun _ => 0)))] := hD
  have hK : va_K D clsL [(c1, .int), (c2, .int), (c3, .int), (c4, .int), (c5, .int), (c6, .int)] s := hK
  refine k_run (pc' := 54) (st := []) [.aload_n 0, .bipush (10)] F.1 F.2.1 (by decide +kernel) rfl rfl hl rfl (fun cs hl => ?_)
  refine k_newF (own := "FairWalls$State") (T := TX6) (N := 14) (ci := 6) (idx := 30) (j := 6) (at9 := .int) (ty := .int) (N' := 10) (R0 := [(q1, .inl (c1, 4, .inl (fun _ => 0))), (q2, .inl (c2, 120, .inl (fun _ => 0))), (q3, .inl (c3, 10, .inl (fun _ => 0))), (q4, .inl (c4, 10, .inl (fun _ => 0))), (q5, .inl (c5, 10, .inl (fun _ => 0))), (q6, .inl (c6, 10, .inl (fun _ => 0)))]) (rest := []) F.1 F.2.1 F.2.2.2.2.2.1 (gdT inTX6 gdTX6) tyX6 tyX6_ok nmX6 F.2.2.2.2.1 ac_int rfl (by simp) hK hP hD hS F.2.2.2.2.2.2.2.2.1 rfl (by decide) (gtb 76 (by decide +kernel) (by decide +kernel)) rfl rfl (F.2.2.2.2.2.2.2.2.2 rfl) rfl (Nat.le_of_ble_eq_true rfl) (by decide) rfl (by decide) (Nat.le_of_ble_eq_true rfl) (Nat.le_of_ble_eq_true rfl) (by decide +kernel) (by decide +kernel) (fun q7 c7 H locs hK hP hD hS => ?_)
  have hP : va_P D clsL [(h0, .inr (6, [.ref q1, .ref q2, .ref q3, .ref q4, .ref q5, .ref q6, .ref q7, .null, .null, .int 0, .int 0, .int 0, .int 0, .int 0])), (q1, .inl (c1, 4, .inl (fun _ => 0))), (q2, .inl (c2, 120, .inl (fun _ => 0))), (q3, .inl (c3, 10, .inl (fun _ => 0))), (q4, .inl (c4, 10, .inl (fun _ => 0))), (q5, .inl (c5, 10, .inl (fun _ => 0))), (q6, .inl (c6, 10, .inl (fun _ => 0))), (q7, .inl (c7, 10, .inl (fun _ => 0)))] H := hP
  have hD : va_D A [(h0, .inr (6, [.ref q1, .ref q2, .ref q3, .ref q4, .ref q5, .ref q6, .ref q7, .null, .null, .int 0, .int 0, .int 0, .int 0, .int 0])), (q1, .inl (c1, 4, .inl (fun _ => 0))), (q2, .inl (c2, 120, .inl (fun _ => 0))), (q3, .inl (c3, 10, .inl (fun _ => 0))), (q4, .inl (c4, 10, .inl (fun _ => 0))), (q5, .inl (c5, 10, .inl (fun _ => 0))), (q6, .inl (c6, 10, .inl (fun _ => 0))), (q7, .inl (c7, 10, .inl (fun _ => 0)))] := hD
  have hK : va_K D clsL [(c1, .int), (c2, .int), (c3, .int), (c4, .int), (c5, .int), (c6, .int), (c7, .int)] s := hK
  refine k_run (pc' := 62) (st := []) [.aload_n 0, .bipush (10)] F.1 F.2.1 (by decide +kernel) rfl rfl hl rfl (fun cs hl => ?_)
  refine k_newF (own := "FairWalls$State") (T := TX6) (N := 14) (ci := 6) (idx := 33) (j := 7) (at9 := .int) (ty := .int) (N' := 10) (R0 := [(q1, .inl (c1, 4, .inl (fun _ => 0))), (q2, .inl (c2, 120, .inl (fun _ => 0))), (q3, .inl (c3, 10, .inl (fun _ => 0))), (q4, .inl (c4, 10, .inl (fun _ => 0))), (q5, .inl (c5, 10, .inl (fun _ => 0))), (q6, .inl (c6, 10, .inl (fun _ => 0))), (q7, .inl (c7, 10, .inl (fun _ => 0)))]) (rest := []) F.1 F.2.1 F.2.2.2.2.2.1 (gdT inTX6 gdTX6) tyX6 tyX6_ok nmX6 F.2.2.2.2.1 ac_int rfl (by simp) hK hP hD hS F.2.2.2.2.2.2.2.2.1 rfl (by decide) (gtb 80 (by decide +kernel) (by decide +kernel)) rfl rfl (F.2.2.2.2.2.2.2.2.2 rfl) rfl (Nat.le_of_ble_eq_true rfl) (by decide) rfl (by decide) (Nat.le_of_ble_eq_true rfl) (Nat.le_of_ble_eq_true rfl) (by decide +kernel) (by decide +kernel) (fun q8 c8 H locs hK hP hD hS => ?_)
  have hP : va_P D clsL [(h0, .inr (6, [.ref q1, .ref q2, .ref q3, .ref q4, .ref q5, .ref q6, .ref q7, .ref q8, .null, .int 0, .int 0, .int 0, .int 0, .int 0])), (q1, .inl (c1, 4, .inl (fun _ => 0))), (q2, .inl (c2, 120, .inl (fun _ => 0))), (q3, .inl (c3, 10, .inl (fun _ => 0))), (q4, .inl (c4, 10, .inl (fun _ => 0))), (q5, .inl (c5, 10, .inl (fun _ => 0))), (q6, .inl (c6, 10, .inl (fun _ => 0))), (q7, .inl (c7, 10, .inl (fun _ => 0))), (q8, .inl (c8, 10, .inl (fun _ => 0)))] H := hP
  have hD : va_D A [(h0, .inr (6, [.ref q1, .ref q2, .ref q3, .ref q4, .ref q5, .ref q6, .ref q7, .ref q8, .null, .int 0, .int 0, .int 0, .int 0, .int 0])), (q1, .inl (c1, 4, .inl (fun _ => 0))), (q2, .inl (c2, 120, .inl (fun _ => 0))), (q3, .inl (c3, 10, .inl (fun _ => 0))), (q4, .inl (c4, 10, .inl (fun _ => 0))), (q5, .inl (c5, 10, .inl (fun _ => 0))), (q6, .inl (c6, 10, .inl (fun _ => 0))), (q7, .inl (c7, 10, .inl (fun _ => 0))), (q8, .inl (c8, 10, .inl (fun _ => 0)))] := hD
  have hK : va_K D clsL [(c1, .int), (c2, .int), (c3, .int), (c4, .int), (c5, .int), (c6, .int), (c7, .int), (c8, .int)] s := hK
  refine k_run (pc' := 70) (st := []) [.aload_n 0, .bipush (6)] F.1 F.2.1 (by decide +kernel) rfl rfl hl rfl (fun cs hl => ?_)
  refine k_newF (own := "FairWalls$State") (T := TX6) (N := 14) (ci := 6) (idx := 36) (j := 8) (at9 := .int) (ty := .int) (N' := 6) (R0 := [(q1, .inl (c1, 4, .inl (fun _ => 0))), (q2, .inl (c2, 120, .inl (fun _ => 0))), (q3, .inl (c3, 10, .inl (fun _ => 0))), (q4, .inl (c4, 10, .inl (fun _ => 0))), (q5, .inl (c5, 10, .inl (fun _ => 0))), (q6, .inl (c6, 10, .inl (fun _ => 0))), (q7, .inl (c7, 10, .inl (fun _ => 0))), (q8, .inl (c8, 10, .inl (fun _ => 0)))]) (rest := []) F.1 F.2.1 F.2.2.2.2.2.1 (gdT inTX6 gdTX6) tyX6 tyX6_ok nmX6 F.2.2.2.2.1 ac_int rfl (by simp) hK hP hD hS F.2.2.2.2.2.2.2.2.1 rfl (by decide) (gtb 83 (by decide +kernel) (by decide +kernel)) rfl rfl (F.2.2.2.2.2.2.2.2.2 rfl) rfl (Nat.le_of_ble_eq_true rfl) (by decide) rfl (by decide) (Nat.le_of_ble_eq_true rfl) (Nat.le_of_ble_eq_true rfl) (by decide +kernel) (by decide +kernel) (fun q9 c9 H locs hK hP hD hS => ?_)
  have hP : va_P D clsL [(h0, .inr (6, [.ref q1, .ref q2, .ref q3, .ref q4, .ref q5, .ref q6, .ref q7, .ref q8, .ref q9, .int 0, .int 0, .int 0, .int 0, .int 0])), (q1, .inl (c1, 4, .inl (fun _ => 0))), (q2, .inl (c2, 120, .inl (fun _ => 0))), (q3, .inl (c3, 10, .inl (fun _ => 0))), (q4, .inl (c4, 10, .inl (fun _ => 0))), (q5, .inl (c5, 10, .inl (fun _ => 0))), (q6, .inl (c6, 10, .inl (fun _ => 0))), (q7, .inl (c7, 10, .inl (fun _ => 0))), (q8, .inl (c8, 10, .inl (fun _ => 0))), (q9, .inl (c9, 6, .inl (fun _ => 0)))] H := hP
  have hD : va_D A [(h0, .inr (6, [.ref q1, .ref q2, .ref q3, .ref q4, .ref q5, .ref q6, .ref q7, .ref q8, .ref q9, .int 0, .int 0, .int 0, .int 0, .int 0])), (q1, .inl (c1, 4, .inl (fun _ => 0))), (q2, .inl (c2, 120, .inl (fun _ => 0))), (q3, .inl (c3, 10, .inl (fun _ => 0))), (q4, .inl (c4, 10, .inl (fun _ => 0))), (q5, .inl (c5, 10, .inl (fun _ => 0))), (q6, .inl (c6, 10, .inl (fun _ => 0))), (q7, .inl (c7, 10, .inl (fun _ => 0))), (q8, .inl (c8, 10, .inl (fun _ => 0))), (q9, .inl (c9, 6, .inl (fun _ => 0)))] := hD
  have hK : va_K D clsL [(c1, .int), (c2, .int), (c3, .int), (c4, .int), (c5, .int), (c6, .int), (c7, .int), (c8, .int), (c9, .int)] s := hK
  refine k_run (pc' := 76) (st := []) [.aload_n 0] F.1 F.2.1 (by decide +kernel) rfl rfl hl rfl (fun cs hl => ?_)
  refine k_V (idx := 39) (As := []) (rest := []) (wc := [(h0, .inr (6, [.ref q1, .ref q2, .ref q3, .ref q4, .ref q5, .ref q6, .ref q7, .ref q8, .ref q9, .int 0, .int 0, .int 0, .int 0, .int 0])), (q1, .inl (c1, 4, .inl (fun _ => 0))), (q2, .inl (c2, 120, .inl (fun _ => 0))), (q3, .inl (c3, 10, .inl (fun _ => 0))), (q4, .inl (c4, 10, .inl (fun _ => 0))), (q5, .inl (c5, 10, .inl (fun _ => 0))), (q6, .inl (c6, 10, .inl (fun _ => 0))), (q7, .inl (c7, 10, .inl (fun _ => 0))), (q8, .inl (c8, 10, .inl (fun _ => 0))), (q9, .inl (c9, 6, .inl (fun _ => 0)))]) (wr := []) (b := h0) (c_clear l D ad (f1 := fun _ => 0) (f2 := fun _ => 0) (f3 := fun _ => 0) (f4 := fun _ => 0) (f5 := fun _ => 0) (f6 := fun _ => 0) (f7 := fun _ => 0) (f8 := fun _ => 0) (f9 := fun _ => 0)) F ⟨⟨gtb 43 (by decide +kernel) (by decide +kernel), iw_S_clear, cw_S_clear, rfl, by decide +kernel, by decide +kernel⟩, nw_S_clear, vw_S_clear⟩ hl hK hP hD hS (q0 := 0) rfl rfl [0, 1, 2, 3, 4, 5, 6, 7, 8, 9] [] rfl (by decide) rfl (by decide) (fun z hz => nomatch hz) (fun z hz => hz) (by decide +kernel) rfl rfl ⟨⟨Nat.le_of_ble_eq_true rfl, Nat.le_of_ble_eq_true rfl⟩, ⟨Nat.le_of_ble_eq_true rfl, Nat.le_of_ble_eq_true rfl⟩⟩ (Nat.le_of_ble_eq_true rfl) (fun u H locs hu hK hP hD hS => ?_)
  subst hu
  refine k_ret (u := (_, [(c1, .int), (c2, .int), (c3, .int), (c4, .int), (c5, .int), (c6, .int), (c7, .int), (c8, .int), (c9, .int)])) F rfl hS hP (hK.mem (fun q hq => List.mem_append_left _ hq)) hD ?_ (by decide) (by decide) (by decide +kernel)
  refine ⟨tb [h0, q1, q2, q3, q4, q5, q6, q7, q8, q9], tb [0, c1, c2, c3, c4, c5, c6, c7, c8, c9], rfl, rfl, fun i h1 h2 => ?_⟩
  rcases (by omega : i = 1 ∨ i = 2 ∨ i = 3 ∨ i = 4 ∨ i = 5 ∨ i = 6 ∨ i = 7 ∨ i = 8 ∨ i = 9) with rfl | rfl | rfl | rfl | rfl | rfl | rfl | rfl | rfl <;> simp [tb]
def m_W_init : MI := (⟨"FairWalls$Power", "<init>", "()V"⟩, prog_6_method_1_code, 1, (Option.none : Option Jvm.ClassFile.FieldType), 1, 0, [])
theorem cw_W_init : codeW m_W_init ∈ GT := gtb 137 (by decide +kernel) (by decide +kernel)
theorem iw_W_init : Cond.initialized m_W_init.y.cls ∈ GT := gtb 6 (by decide +kernel) (by decide +kernel)
theorem nw_W_init : Cond.instanceMethod m_W_init.y ∈ GT := gtb 136 (by decide +kernel) (by decide +kernel)
set_option maxHeartbeats 4000000 in
theorem c_W_init (l : Launch) (D : va_G) (ad : Nat → Nat) (h0 : Nat) : KC' l D ad m_W_init 3 160 [.ref h0] [(h0, .inr (4, [.null, .null, .null]))] [] (postW h0) := by
  refine KC'.ofW (by decide +kernel) rfl rfl (Nat.le_of_ble_eq_true rfl) (fun p e s m args below meth c cs F hP hK hD hl => ?_)
  have hS : va_S (va_A [(h0, .inr (4, [.null, .null, .null]))] s.heap.size) s.heap s.heap [] := va_S.rf
  generalize va_A [(h0, .inr (4, [.null, .null, .null]))] s.heap.size = A at F hD hS ⊢
  refine k_run (pc' := 1) (st := []) [.aload_n 0] F.1 F.2.1 (by decide +kernel) rfl rfl hl rfl (fun cs hl => ?_)
  refine k_obj (idx := 3) F hl (gtb 138 (by decide +kernel) (by decide +kernel)) (by decide +kernel) (by decide) (Nat.le_of_ble_eq_true rfl) ?_
  refine k_run (pc' := 7) (st := []) [.aload_n 0, .bipush (120)] F.1 F.2.1 (by decide +kernel) rfl rfl hl rfl (fun cs hl => ?_)
  refine k_newF (own := "FairWalls$Power") (T := TX4) (N := 3) (ci := 4) (idx := 9) (j := 0) (at9 := .int) (ty := .int) (N' := 120) (R0 := []) (rest := []) F.1 F.2.1 F.2.2.2.2.2.1 (gdT inTX4 gdTX4) tyX4 tyX4_ok nmX4 F.2.2.2.2.1 ac_int rfl (by simp) hK hP hD hS F.2.2.2.2.2.2.2.2.1 rfl (by decide) (gtb 139 (by decide +kernel) (by decide +kernel)) rfl rfl (F.2.2.2.2.2.2.2.2.2 rfl) rfl (Nat.le_of_ble_eq_true rfl) (by decide) rfl (by decide) (Nat.le_of_ble_eq_true rfl) (Nat.le_of_ble_eq_true rfl) (by decide +kernel) (by decide +kernel) (fun q1 c1 H locs hK hP hD hS => ?_)
  have hP : va_P D clsL [(h0, .inr (4, [.ref q1, .null, .null])), (q1, .inl (c1, 120, .inl (fun _ => 0)))] H := hP
  have hD : va_D A [(h0, .inr (4, [.ref q1, .null, .null])), (q1, .inl (c1, 120, .inl (fun _ => 0)))] := hD
  have hK : va_K D clsL [(c1, .int)] s := hK
  refine k_run (pc' := 15) (st := []) [.aload_n 0, .bipush (30)] F.1 F.2.1 (by decide +kernel) rfl rfl hl rfl (fun cs hl => ?_)
  refine k_newF (own := "FairWalls$Power") (T := TX4) (N := 3) (ci := 4) (idx := 15) (j := 1) (at9 := .int) (ty := .int) (N' := 30) (R0 := [(q1, .inl (c1, 120, .inl (fun _ => 0)))]) (rest := []) F.1 F.2.1 F.2.2.2.2.2.1 (gdT inTX4 gdTX4) tyX4 tyX4_ok nmX4 F.2.2.2.2.1 ac_int rfl (by simp) hK hP hD hS F.2.2.2.2.2.2.2.2.1 rfl (by decide) (gtb 140 (by decide +kernel) (by decide +kernel)) rfl rfl (F.2.2.2.2.2.2.2.2.2 rfl) rfl (Nat.le_of_ble_eq_true rfl) (by decide) rfl (by decide) (Nat.le_of_ble_eq_true rfl) (Nat.le_of_ble_eq_true rfl) (by decide +kernel) (by decide +kernel) (fun q2 c2 H locs hK hP hD hS => ?_)
  have hP : va_P D clsL [(h0, .inr (4, [.ref q1, .ref q2, .null])), (q1, .inl (c1, 120, .inl (fun _ => 0))), (q2, .inl (c2, 30, .inl (fun _ => 0)))] H := hP
  have hD : va_D A [(h0, .inr (4, [.ref q1, .ref q2, .null])), (q1, .inl (c1, 120, .inl (fun _ => 0))), (q2, .inl (c2, 30, .inl (fun _ => 0)))] := hD
  have hK : va_K D clsL [(c1, .int), (c2, .int)] s := hK
  refine k_run (pc' := 23) (st := []) [.aload_n 0, .bipush (10)] F.1 F.2.1 (by decide +kernel) rfl rfl hl rfl (fun cs hl => ?_)
  refine k_newF (own := "FairWalls$Power") (T := TX4) (N := 3) (ci := 4) (idx := 18) (j := 2) (at9 := .int) (ty := .int) (N' := 10) (R0 := [(q1, .inl (c1, 120, .inl (fun _ => 0))), (q2, .inl (c2, 30, .inl (fun _ => 0)))]) (rest := []) F.1 F.2.1 F.2.2.2.2.2.1 (gdT inTX4 gdTX4) tyX4 tyX4_ok nmX4 F.2.2.2.2.1 ac_int rfl (by simp) hK hP hD hS F.2.2.2.2.2.2.2.2.1 rfl (by decide) (gtb 141 (by decide +kernel) (by decide +kernel)) rfl rfl (F.2.2.2.2.2.2.2.2.2 rfl) rfl (Nat.le_of_ble_eq_true rfl) (by decide) rfl (by decide) (Nat.le_of_ble_eq_true rfl) (Nat.le_of_ble_eq_true rfl) (by decide +kernel) (by decide +kernel) (fun q3 c3 H locs hK hP hD hS => ?_)
  have hP : va_P D clsL [(h0, .inr (4, [.ref q1, .ref q2, .ref q3])), (q1, .inl (c1, 120, .inl (fun _ => 0))), (q2, .inl (c2, 30, .inl (fun _ => 0))), (q3, .inl (c3, 10, .inl (fun _ => 0)))] H := hP
  have hD : va_D A [(h0, .inr (4, [.ref q1, .ref q2, .ref q3])), (q1, .inl (c1, 120, .inl (fun _ => 0))), (q2, .inl (c2, 30, .inl (fun _ => 0))), (q3, .inl (c3, 10, .inl (fun _ => 0)))] := hD
  have hK : va_K D clsL [(c1, .int), (c2, .int), (c3, .int)] s := hK
  refine k_ret (u := ([(h0, .inr (4, [.ref q1, .ref q2, .ref q3])), (q1, .inl (c1, 120, .inl (fun _ => 0))), (q2, .inl (c2, 30, .inl (fun _ => 0))), (q3, .inl (c3, 10, .inl (fun _ => 0)))], [(c1, .int), (c2, .int), (c3, .int)])) F rfl hS hP hK hD ?_ (by decide) (by decide) (by decide +kernel)
  refine ⟨tb [h0, q1, q2, q3], tb [0, c1, c2, c3], rfl, rfl, fun i h1 h2 => ?_⟩
  rcases (by omega : i = 1 ∨ i = 2 ∨ i = 3) with rfl | rfl | rfl <;> simp [tb]
def m_T_init : MI := (⟨"FairWalls$FairText", "<init>", "()V"⟩, prog_4_method_1_code, 1, (Option.none : Option Jvm.ClassFile.FieldType), 1, 0, [])
theorem cw_T_init : codeW m_T_init ∈ GT := gtb 199 (by decide +kernel) (by decide +kernel)
theorem iw_T_init : Cond.initialized m_T_init.y.cls ∈ GT := gtb 9 (by decide +kernel) (by decide +kernel)
theorem nw_T_init : Cond.instanceMethod m_T_init.y ∈ GT := gtb 198 (by decide +kernel) (by decide +kernel)
set_option maxHeartbeats 4000000 in
theorem c_T_init (l : Launch) (D : va_G) (ad : Nat → Nat) (h0 : Nat) : KC' l D ad m_T_init 2 123 [.ref h0] [(h0, .inr (2, [.null, .null, .int 0, .int 0, .int 0]))] [] (postT h0) := by
  refine KC'.ofW (by decide +kernel) rfl rfl (Nat.le_of_ble_eq_true rfl) (fun p e s m args below meth c cs F hP hK hD hl => ?_)
  have hS : va_S (va_A [(h0, .inr (2, [.null, .null, .int 0, .int 0, .int 0]))] s.heap.size) s.heap s.heap [] := va_S.rf
  generalize va_A [(h0, .inr (2, [.null, .null, .int 0, .int 0, .int 0]))] s.heap.size = A at F hD hS ⊢
  refine k_run (pc' := 1) (st := []) [.aload_n 0] F.1 F.2.1 (by decide +kernel) rfl rfl hl rfl (fun cs hl => ?_)
  refine k_obj (idx := 3) F hl (gtb 200 (by decide +kernel) (by decide +kernel)) (by decide +kernel) (by decide) (Nat.le_of_ble_eq_true rfl) ?_
  refine k_run (pc' := 7) (st := []) [.aload_n 0, .bipush (120)] F.1 F.2.1 (by decide +kernel) rfl rfl hl rfl (fun cs hl => ?_)
  refine k_newF (own := "FairWalls$FairText") (T := TX2) (N := 5) (ci := 2) (idx := 9) (j := 0) (at9 := .char) (ty := .char) (N' := 120) (R0 := []) (rest := []) F.1 F.2.1 F.2.2.2.2.2.1 (gdT inTX2 gdTX2) tyX2 tyX2_ok nmX2 F.2.2.2.2.1 ac_char rfl (by simp) hK hP hD hS F.2.2.2.2.2.2.2.2.1 rfl (by decide) (gtb 201 (by decide +kernel) (by decide +kernel)) rfl rfl (F.2.2.2.2.2.2.2.2.2 rfl) rfl (Nat.le_of_ble_eq_true rfl) (by decide) rfl (by decide) (Nat.le_of_ble_eq_true rfl) (Nat.le_of_ble_eq_true rfl) (by decide +kernel) (by decide +kernel) (fun q1 c1 H locs hK hP hD hS => ?_)
  have hP : va_P D clsL [(h0, .inr (2, [.ref q1, .null, .int 0, .int 0, .int 0])), (q1, .inl (c1, 120, .inl (fun _ => 0)))] H := hP
  have hD : va_D A [(h0, .inr (2, [.ref q1, .null, .int 0, .int 0, .int 0])), (q1, .inl (c1, 120, .inl (fun _ => 0)))] := hD
  have hK : va_K D clsL [(c1, .char)] s := hK
  refine k_run (pc' := 14) (st := []) [.aload_n 0, .iconst 3] F.1 F.2.1 (by decide +kernel) rfl rfl hl rfl (fun cs hl => ?_)
  refine k_newF (own := "FairWalls$FairText") (T := TX2) (N := 5) (ci := 2) (idx := 15) (j := 1) (at9 := .int) (ty := .int) (N' := 3) (R0 := [(q1, .inl (c1, 120, .inl (fun _ => 0)))]) (rest := []) F.1 F.2.1 F.2.2.2.2.2.1 (gdT inTX2 gdTX2) tyX2 tyX2_ok nmX2 F.2.2.2.2.1 ac_int rfl (by simp) hK hP hD hS F.2.2.2.2.2.2.2.2.1 rfl (by decide) (gtb 202 (by decide +kernel) (by decide +kernel)) rfl rfl (F.2.2.2.2.2.2.2.2.2 rfl) rfl (Nat.le_of_ble_eq_true rfl) (by decide) rfl (by decide) (Nat.le_of_ble_eq_true rfl) (Nat.le_of_ble_eq_true rfl) (by decide +kernel) (by decide +kernel) (fun q2 c2 H locs hK hP hD hS => ?_)
  have hP : va_P D clsL [(h0, .inr (2, [.ref q1, .ref q2, .int 0, .int 0, .int 0])), (q1, .inl (c1, 120, .inl (fun _ => 0))), (q2, .inl (c2, 3, .inl (fun _ => 0)))] H := hP
  have hD : va_D A [(h0, .inr (2, [.ref q1, .ref q2, .int 0, .int 0, .int 0])), (q1, .inl (c1, 120, .inl (fun _ => 0))), (q2, .inl (c2, 3, .inl (fun _ => 0)))] := hD
  have hK : va_K D clsL [(c1, .char), (c2, .int)] s := hK
  refine k_ret (u := ([(h0, .inr (2, [.ref q1, .ref q2, .int 0, .int 0, .int 0])), (q1, .inl (c1, 120, .inl (fun _ => 0))), (q2, .inl (c2, 3, .inl (fun _ => 0)))], [(c1, .char), (c2, .int)])) F rfl hS hP hK hD ?_ (by decide) (by decide) (by decide +kernel)
  exact ⟨tb [h0, q1, q2], tb [0, c1, c2], rfl, rfl, by simp [tb], by simp [tb]⟩
section KPUT
variable {p : Program} {l : Launch} {e : Env} {R : Room} {s : State} {m : MethodId} {args : Array Value} {below : List Frame} {meth : Method} {c : Code} {H : Heap} {locs : List Loc} {Q : State → Prop} {ad : Nat → Nat} {pc k n : Nat} {rest : List Value} {cs : Array Slot} {D : va_G} {A : Nat → Prop} {M : MI}
theorem k_putH {tys : List (ClassId × FieldType)} {T : u_T} {N ci idx j h0 q : Nat} {fs : List Value} {R0 : va_W} {C2 : FieldType} (F : FK ad M p s m args meth c A) (hin : ∀ w ∈ u_ws M.y.cls T N, w ∈ GT) (ty0 : Nat → FieldType) (hty : ∀ k, k < N → parseFieldDescriptor (T k).2.2.1 = some (ty0 k)) (hnm : ∀ a, a < N → ∀ b, b < N → a ≠ b → (T a).2.1 ≠ (T b).2.1)
    (hK : va_K D clsL tys s) (hP : va_P D clsL ((h0, .inr (ci, fs)) :: R0) H) (hD : va_D A ((h0, .inr (ci, fs)) :: R0)) (hS : va_S A s.heap H locs) (hc : clsL[ci]? = some (M.y.cls, T, N)) (hj : j < N) (hlink : Cond.fieldLink M.y.cls idx M.y.cls (T j).2.1 (T j).2.2.1 ∈ GT) (hT1 : (T j).1 = M.y.cls) (hfin : (T j).2.2.2 = true) (hin2 : meth.name = "<init>") (hfd : ty0 j = C2) (hn : narrow C2 (.ref q) = .ref q) (hfit : fits C2 (.ref q) = true) (hlen : j < fs.length)
    (df : decode M.b pc = .ok (.putfield idx, 3))
    (kk : ∀ (H1 : Heap) (locs1 : List Loc), va_P D clsL ((h0, .inr (ci, fs.set j (.ref q))) :: R0) H1 → va_D A ((h0, .inr (ci, fs.set j (.ref q))) :: R0) → va_S A s.heap H1 locs1 → W p l e R s m args below meth c H1 locs1 k n Q (F0 m (pc + 3) cs rest)) : W p l e R s m args below meth c H locs k n Q (F0 m pc cs (.ref q :: .ref h0 :: rest)) :=
  va_putF (ref := M.y.cls) (v := .ref q) (ty := C2) F.1 F.2.1 F.2.2.2.2.2.1 hin ty0 hty hnm F.2.2.2.2.1 hK hP hD hS 0 rfl hc j hj (F.2.2.2.2.2.1 _ hlink) (fun x9 h9 => by rw [hT1] at h9; exact h9) hfin hin2 hT1 (by rw [← hfd]; exact hty j hj) hn hfit hlen df kk
end KPUT
def frC (h0 : Nat) (f : Nat → Nat) (cA : Nat → ClassId) (g : Nat → Nat) (cB : Nat → ClassId) : va_W := (h0, .inr (1, [.ref (f 0), .ref (g 0)])) :: (stC f cA ++ pwC g cB)
def postA (h0 : Nat) : KU → Prop := fun u => ∃ (f : Nat → Nat) (cA : Nat → ClassId) (g : Nat → Nat) (cB : Nat → ClassId), u.1 = frC h0 f cA g cB ∧ (∀ i, 1 ≤ i → i < 10 → (cA i, FieldType.int) ∈ u.2) ∧ (∀ i, 1 ≤ i → i < 4 → (cB i, FieldType.int) ∈ u.2)
def m_A_init : MI := (⟨"FairWalls$Fair", "<init>", "()V"⟩, prog_3_method_1_code, 1, (Option.none : Option Jvm.ClassFile.FieldType), 3, 0, [])
theorem cw_A_init : codeW m_A_init ∈ GT := gtb 35 (by decide +kernel) (by decide +kernel)
theorem iw_A_init : Cond.initialized m_A_init.y.cls ∈ GT := gtb 2 (by decide +kernel) (by decide +kernel)
theorem nw_A_init : Cond.instanceMethod m_A_init.y ∈ GT := gtb 34 (by decide +kernel) (by decide +kernel)
set_option maxHeartbeats 4000000 in
theorem c_A_init (l : Launch) (D : va_G) (ad : Nat → Nat) (h0 : Nat) : KC' l D ad m_A_init 14 367 [.ref h0] [(h0, .inr (1, [.null, .null]))] [] (postA h0) := by
  refine KC'.ofW (by decide +kernel) rfl rfl (Nat.le_of_ble_eq_true rfl) (fun p e s m args below meth c cs F hP hK hD hl => ?_)
  have hS : va_S (va_A [(h0, .inr (1, [.null, .null]))] s.heap.size) s.heap s.heap [] := va_S.rf
  generalize va_A [(h0, .inr (1, [.null, .null]))] s.heap.size = A at F hD hS ⊢
  refine k_run (pc' := 1) (st := []) [.aload_n 0] F.1 F.2.1 (by decide +kernel) rfl rfl hl rfl (fun cs hl => ?_)
  refine k_obj (idx := 3) F hl (gtb 36 (by decide +kernel) (by decide +kernel)) (by decide +kernel) (by decide) (Nat.le_of_ble_eq_true rfl) ?_
  refine k_run (pc' := 5) (st := []) [.aload_n 0] F.1 F.2.1 (by decide +kernel) rfl rfl hl rfl (fun cs hl => ?_)
  refine k_newI (ws := [(h0, .inr (1, [.null, .null]))]) (rest := [.ref h0]) (ix := 9) (idx := 11) (ci := 6) (N := 14) (C := "FairWalls$State") (T := TX6) (fs := [.null, .null, .null, .null, .null, .null, .null, .null, .null, .int 0, .int 0, .int 0, .int 0, .int 0]) (fun q => c_S_init l D ad q) F hl (gdT inTX6 gdTX6) tyX6 tyX6_ok (gtb 37 (by decide +kernel) (by decide +kernel)) (gtb 38 (by decide +kernel) (by decide +kernel)) (gtb 3 (by decide +kernel) (by decide +kernel)) rfl (fun j hj => by rcases (by omega : j = 0 ∨ j = 1 ∨ j = 2 ∨ j = 3 ∨ j = 4 ∨ j = 5 ∨ j = 6 ∨ j = 7 ∨ j = 8 ∨ j = 9 ∨ j = 10 ∨ j = 11 ∨ j = 12 ∨ j = 13) with rfl | rfl | rfl | rfl | rfl | rfl | rfl | rfl | rfl | rfl | rfl | rfl | rfl | rfl <;> rfl) (Or.inl ⟨gtb 39 (by decide +kernel) (by decide +kernel), iw_S_init, cw_S_init, rfl, by decide +kernel, by decide +kernel⟩) rfl rfl nw_S_init hK hP hD hS (by decide +kernel) (by decide +kernel) (by decide +kernel) (Nat.le_of_ble_eq_true rfl) (Nat.le_of_ble_eq_true rfl) ⟨⟨Nat.le_of_ble_eq_true rfl, Nat.le_of_ble_eq_true rfl⟩, ⟨Nat.le_of_ble_eq_true rfl, Nat.le_of_ble_eq_true rfl⟩⟩ (Nat.le_of_ble_eq_true rfl) (fun q u H locs hu hK hP hD hS => ?_)
  obtain ⟨u1, u2⟩ := u
  obtain ⟨f, cA, rfl, rfl, hcA⟩ := hu
  refine k_putH (idx := 12) (j := 0) (R0 := stC f cA) (rest := []) F (gdT inTX1 gdTX1) tyX1 tyX1_ok nmX1 hK hP hD hS rfl (by decide) (gtb 149 (by decide +kernel) (by decide +kernel)) rfl rfl (F.2.2.2.2.2.2.2.2.2 rfl) rfl rfl rfl (Nat.le_of_ble_eq_true rfl) (by decide +kernel) (fun H locs hP hD hS => ?_)
  have hP : va_P D clsL ((h0, .inr (1, [.ref (f 0), .null])) :: stC f cA) H := hP
  have hD : va_D A ((h0, .inr (1, [.ref (f 0), .null])) :: stC f cA) := hD
  refine k_run (pc' := 16) (st := []) [.aload_n 0] F.1 F.2.1 (by decide +kernel) rfl rfl hl rfl (fun cs hl => ?_)
  refine k_newI (ws := ((h0, .inr (1, [.ref (f 0), .null])) :: stC f cA)) (rest := [.ref h0]) (ix := 18) (idx := 20) (ci := 4) (N := 3) (C := "FairWalls$Power") (T := TX4) (fs := [.null, .null, .null]) (fun q => c_W_init l D ad q) F hl (gdT inTX4 gdTX4) tyX4 tyX4_ok (gtb 133 (by decide +kernel) (by decide +kernel)) (gtb 134 (by decide +kernel) (by decide +kernel)) (gtb 6 (by decide +kernel) (by decide +kernel)) rfl (fun j hj => by rcases (by omega : j = 0 ∨ j = 1 ∨ j = 2) with rfl | rfl | rfl <;> rfl) (Or.inr ⟨⟨"FairWalls", nwt 135 (by decide +kernel) (by decide +kernel)⟩, iw_W_init, cw_W_init, rfl, by decide +kernel, by decide +kernel⟩) rfl rfl nw_W_init hK hP hD hS (by decide +kernel) (by decide +kernel) (by decide +kernel) (Nat.le_of_ble_eq_true rfl) (Nat.le_of_ble_eq_true rfl) ⟨⟨Nat.le_of_ble_eq_true rfl, Nat.le_of_ble_eq_true rfl⟩, ⟨Nat.le_of_ble_eq_true rfl, Nat.le_of_ble_eq_true rfl⟩⟩ (Nat.le_of_ble_eq_true rfl) (fun q v H locs hv hK hP hD hS => ?_)
  obtain ⟨v1, v2⟩ := v
  obtain ⟨g, cB, rfl, rfl, hcB⟩ := hv
  refine k_putH (idx := 21) (j := 1) (R0 := stC f cA ++ pwC g cB) (rest := []) F (gdT inTX1 gdTX1) tyX1 tyX1_ok nmX1 hK hP hD hS rfl (by decide) (gtb 152 (by decide +kernel) (by decide +kernel)) rfl rfl (F.2.2.2.2.2.2.2.2.2 rfl) rfl rfl rfl (Nat.le_of_ble_eq_true rfl) (by decide +kernel) (fun H locs hP hD hS => ?_)
  refine k_ret (u := (frC h0 f cA g cB, [] ++ u2 ++ v2)) F rfl hS hP hK hD ?_ (by decide) (by decide) (by decide +kernel)
  exact ⟨f, cA, g, cB, rfl, fun i h1 h2 => List.mem_append_left _ (hcA i h1 h2), fun i h1 h2 => List.mem_append_right _ (hcB i h1 h2)⟩
def stR (n : Nat) (G : Nat → Nat → Nat) : Nat → Option Nat := fun j => if j < n then some (G j 0) else none
def stLs (n : Nat) (G : Nat → Nat → Nat) (cA : Nat → Nat → ClassId) : va_W := (List.range n).flatMap (fun j => stC (G j) (cA j))
theorem stLs_s (n : Nat) (G : Nat → Nat → Nat) (cA : Nat → Nat → ClassId) (f : Nat → Nat) (c : Nat → ClassId) : stLs n G cA ++ stC f c = stLs (n + 1) (fun j => if j = n then f else G j) (fun j => if j = n then c else cA j) := by
  unfold stLs
  rw [List.range_succ, List.flatMap_append, List.flatMap_singleton]
  simp only [if_true]
  congr 1
  rw [List.flatMap_def, List.flatMap_def]
  congr 1
  refine List.map_congr_left (fun j hj => ?_)
  have hlt : j < n := List.mem_range.mp hj
  have hne : ¬ j = n := by omega
  simp only [hne, if_false]
theorem stR_s (n : Nat) (G : Nat → Nat → Nat) (f : Nat → Nat) : va_up (stR n G) n (some (f 0)) = stR (n + 1) (fun j => if j = n then f else G j) := by
  funext j
  unfold va_up stR
  by_cases h : j = n
  · subst h
    simp
  · have h3 : (j < n + 1) = (j < n) := by apply propext; omega
    simp only [h, h3, if_false]
def postP (N : Nat) (o : Nat → va_E) (B : Nat → ClassId → va_W) (bt : ClassId → List (ClassId × FieldType)) (h0 : Nat) : KU → Prop := fun u => ∃ (qa qb : Nat) (cq cb : ClassId) (G : Nat → Nat → Nat) (cA : Nat → Nat → ClassId), u.1 = (h0, o qa) :: (qa, .inl (cq, N, .inr (.inr (.inr (.inr (stR N G)))))) :: (B qb cb ++ stLs N G cA) ∧ (cq, FieldType.object "FairWalls$State") ∈ u.2 ∧ (∀ q ∈ bt cb, q ∈ u.2) ∧ ∀ j, j < N → ∀ i, 1 ≤ i → i < 10 → (cA j i, FieldType.int) ∈ u.2
def oP (qa : Nat) : va_E := .inr (3, [.ref qa, .int 0, .int 0])
def m_P_init : MI := (⟨"FairWalls$Past", "<init>", "()V"⟩, prog_5_method_1_code, 2, (Option.none : Option Jvm.ClassFile.FieldType), 3, 0, [])
theorem cw_P_init : codeW m_P_init ∈ GT := gtb 164 (by decide +kernel) (by decide +kernel)
theorem iw_P_init : Cond.initialized m_P_init.y.cls ∈ GT := gtb 7 (by decide +kernel) (by decide +kernel)
theorem nw_P_init : Cond.instanceMethod m_P_init.y ∈ GT := gtb 163 (by decide +kernel) (by decide +kernel)
set_option maxHeartbeats 4000000 in
theorem c_P_init (l : Launch) (D : va_G) (ad : Nat → Nat) (h0 : Nat) : KC' l D ad m_P_init 141 2870 [.ref h0] [(h0, .inr (3, [.null, .int 0, .int 0]))] [] (postP 14 oP (fun _ _ => []) (fun _ => []) h0) := by
  refine KC'.ofW (by decide +kernel) rfl rfl (Nat.le_of_ble_eq_true rfl) (fun p e s m args below meth c cs F hP hK hD hl => ?_)
  have hS : va_S (va_A [(h0, .inr (3, [.null, .int 0, .int 0]))] s.heap.size) s.heap s.heap [] := va_S.rf
  generalize va_A [(h0, .inr (3, [.null, .int 0, .int 0]))] s.heap.size = A at F hD hS ⊢
  refine k_run (pc' := 1) (st := []) [.aload_n 0] F.1 F.2.1 (by decide +kernel) rfl rfl hl rfl (fun cs hl => ?_)
  refine k_obj (idx := 3) F hl (gtb 165 (by decide +kernel) (by decide +kernel)) (by decide +kernel) (by decide) (Nat.le_of_ble_eq_true rfl) ?_
  refine k_run (pc' := 7) (st := []) [.aload_n 0, .bipush (14)] F.1 F.2.1 (by decide +kernel) rfl rfl hl rfl (fun cs hl => ?_)
  refine va_newq (N' := 14) (C := "FairWalls$State") (index := 9) F.1 F.2.1 F.2.2.2.2.1 (F.2.2.2.2.2.1 _ (gtb 166 (by decide +kernel) (by decide +kernel))) F.2.2.2.2.2.2.2.1.2 hK hP hD hS F.2.2.2.2.2.2.2.2.1 (by decide) rfl (by decide) (Nat.le_of_ble_eq_true rfl) (Nat.le_of_ble_eq_true rfl) (by decide +kernel) (fun qa cq H hK hP hD hS => ?_)
  refine k_putH (idx := 11) (j := 0) (R0 := [(qa, .inl (cq, 14, .inr (.inr (.inr (.inr (fun _ => none))))))]) (rest := []) F (gdT inTX3 gdTX3) tyX3 tyX3_ok nmX3 hK hP hD hS rfl (by decide) (gtb 169 (by decide +kernel) (by decide +kernel)) rfl rfl (F.2.2.2.2.2.2.2.2.2 rfl) rfl rfl rfl (Nat.le_of_ble_eq_true rfl) (by decide +kernel) (fun H locs hP hD hS => ?_)
  have e0 : (fun _ => none : Nat → Option Nat) = stR 0 (fun _ _ => 0) := by funext j; unfold stR; rw [if_neg (Nat.not_lt_zero _)]
  rw [e0] at hP hD
  have hB : ∃ (qb : Nat) (cb : ClassId), qb = 0 ∧ cb = 0 := ⟨0, 0, rfl, rfl⟩
  obtain ⟨qb, cb, -, -⟩ := hB
  have loop : ∀ (d i : Nat) (H : Heap) (locs : List Loc) (cs : Array Slot) (G : Nat → Nat → Nat) (cA : Nat → Nat → ClassId) (T9 : List (ClassId × FieldType)), i + d = 14 → va_K D clsL ((cq, .object "FairWalls$State") :: T9) s → va_P D clsL ((h0, oP qa) :: (qa, .inl (cq, 14, .inr (.inr (.inr (.inr (stR i G)))))) :: (([] : va_W) ++ stLs i G cA)) H → va_D A ((h0, oP qa) :: (qa, .inl (cq, 14, .inr (.inr (.inr (.inr (stR i G)))))) :: (([] : va_W) ++ stLs i G cA)) → va_S A s.heap H locs → (∀ q ∈ ([] : List (ClassId × FieldType)), q ∈ T9) → (∀ j, j < i → ∀ a, 1 ≤ a → a < 10 → (cA j a, FieldType.int) ∈ T9) → LV aid cs 2 [some (.ref h0), some (.int (nI i))] →
      W p l e (kRm m_P_init 141 2870) s m args below meth c H locs (1 + 10 * i) (14 + 204 * i) (MQ below (va_Qv (postP 14 oP (fun _ _ => []) (fun _ => []) h0) (fun u t => va_P D clsL u.1 t.heap ∧ va_K D clsL u.2 t ∧ va_D A u.1) A) args s 141 2870 A) (F0 m 15 cs []) := by
    intro d
    induction d with
    | zero =>
      intro i H locs cs G cA T9 hi hK hP hD hS hB hT hl
      have ei : i = 14 := by omega
      subst ei
      refine k_run (pc' := 18) (st := []) [.iload_n 1, .bipush (14)] F.1 F.2.1 (by decide +kernel) rfl rfl hl rfl (fun cs hl => ?_)
      refine lv_icmp_ge (off := 22) (tgt := 40) F.1 F.2.1 (by decide +kernel) (by decide) (fun _ => ?_) (fun z => absurd (by decide) z)
      refine k_ret (u := ((h0, oP qa) :: (qa, .inl (cq, 14, .inr (.inr (.inr (.inr (stR 14 G)))))) :: (([] : va_W) ++ stLs 14 G cA), (cq, .object "FairWalls$State") :: T9)) F rfl hS hP hK hD ?_ (by decide) (by decide) (by decide +kernel)
      exact ⟨qa, qb, cq, cb, G, cA, rfl, List.mem_cons_self, fun q hq => List.mem_cons_of_mem _ (hB q hq), fun j hj a h1 h2 => List.mem_cons_of_mem _ (hT j hj a h1 h2)⟩
    | succ d ih =>
      intro i H locs cs G cA T9 hi hK hP hD hS hB hT hl
      have hlt : i < 14 := by omega
      refine k_run (pc' := 18) (st := []) [.iload_n 1, .bipush (14)] F.1 F.2.1 (by decide +kernel) rfl rfl hl rfl (fun cs hl => ?_)
      refine lv_icmp_ge (off := 22) (tgt := 40) F.1 F.2.1 (by decide +kernel) (by decide) (fun z => absurd z (by show ¬ nI 14 ≤ nI i; exact nI_ge hlt (by decide))) (fun _ => ?_)
      refine k_run (pc' := 22) (st := []) [.aload_n 0] F.1 F.2.1 (by decide +kernel) rfl rfl hl rfl (fun cs hl => ?_)
      refine va_get (D := D) (cl := clsL) (ref := "FairWalls$Past") (own := "FairWalls$Past") (ci := 3) (C := "FairWalls$Past") (T := TX3) (N := 3) (index := 11) (v := .ref qa) F.1 F.2.1 F.2.2.2.2.2.1 (gdT inTX3 gdTX3) F.2.2.2.2.1 hK hP 0 rfl rfl 0 (by decide) (F.2.2.2.2.2.1 _ (gtb 169 (by decide +kernel) (by decide +kernel))) (fun _ z => z) rfl (by decide +kernel) ?_
      refine k_run (pc' := 26) (st := [.ref qa]) [.iload_n 1] F.1 F.2.1 (by decide +kernel) rfl rfl hl rfl (fun cs hl => ?_)
      refine k_newI (ws := ((h0, oP qa) :: (qa, .inl (cq, 14, .inr (.inr (.inr (.inr (stR i G)))))) :: (([] : va_W) ++ stLs i G cA))) (rest := [.int (nI i), .ref qa]) (ix := 9) (idx := 17) (ci := 6) (N := 14) (C := "FairWalls$State") (T := TX6) (fs := [.null, .null, .null, .null, .null, .null, .null, .null, .null, .int 0, .int 0, .int 0, .int 0, .int 0]) (fun q => c_S_init l D ad q) F hl (gdT inTX6 gdTX6) tyX6 tyX6_ok (gtb 166 (by decide +kernel) (by decide +kernel)) (gtb 38 (by decide +kernel) (by decide +kernel)) (gtb 3 (by decide +kernel) (by decide +kernel)) rfl (fun j hj => by rcases (by omega : j = 0 ∨ j = 1 ∨ j = 2 ∨ j = 3 ∨ j = 4 ∨ j = 5 ∨ j = 6 ∨ j = 7 ∨ j = 8 ∨ j = 9 ∨ j = 10 ∨ j = 11 ∨ j = 12 ∨ j = 13) with rfl | rfl | rfl | rfl | rfl | rfl | rfl | rfl | rfl | rfl | rfl | rfl | rfl | rfl <;> rfl) (Or.inl ⟨gtb 168 (by decide +kernel) (by decide +kernel), iw_S_init, cw_S_init, rfl, by decide +kernel, by decide +kernel⟩) rfl rfl nw_S_init hK hP hD hS (by decide +kernel) (by decide +kernel) (by decide +kernel) (by show 1 + 10 * i + 1 ≤ 141; omega) (by show 14 + 204 * i + 14 ≤ 2870; omega) ⟨⟨Nat.le_of_ble_eq_true rfl, Nat.le_of_ble_eq_true rfl⟩, ⟨by show 1 + 10 * i + 1 + 9 ≤ 141; omega, by show 14 + 204 * i + 14 + 190 ≤ 2870; omega⟩⟩ (Nat.le_of_ble_eq_true rfl) (fun q u H locs hu hK hP hD hS => ?_)
      obtain ⟨u1, u2⟩ := u
      obtain ⟨f, cF, rfl, rfl, hcF⟩ := hu
      refine va_astq (D := D) (cl := clsL) (r := ("FairWalls$State", TX6, 14)) (ci := 6) F.1 F.2.1 hK hP hD hS 1 0 (2 + (([] : va_W) ++ stLs i G cA).length) (v := f 0) (vs := [.ref (f 1), .ref (f 2), .ref (f 3), .ref (f 4), .ref (f 5), .ref (f 6), .ref (f 7), .ref (f 8), .ref (f 9), .int 0, .int 0, .int 0, .int 0, .int 0]) rfl rfl ?_ rfl (i := nI i) (vp_in_nI hlt (by decide)) (by decide +kernel) (fun H locs hP hD hS => ?_)
      · rw [List.getElem?_append_right (by simp; omega)]
        rw [show 2 + (([] : va_W) ++ stLs i G cA).length - ((h0, oP qa) :: (qa, .inl (cq, 14, .inr (.inr (.inr (.inr (stR i G)))))) :: (([] : va_W) ++ stLs i G cA)).length = 0 by simp only [List.length_cons]; omega]
        rfl
      · rw [nI_clamp (by omega), stR_s] at hP hD
        refine k_run (pc' := 37) (st := []) [.iinc 1 1] F.1 F.2.1 (by decide +kernel) rfl rfl hl rfl (fun cs hl => ?_)
        refine lv_goto (off := -22) (tgt := 15) F.1 F.2.1 (by decide +kernel) (by decide) ?_
        have e1 : (([] : va_W) ++ stLs i G cA) ++ stC f cF = ([] : va_W) ++ stLs (i + 1) (fun j => if j = i then f else G j) (fun j => if j = i then cF else cA j) := by rw [List.append_assoc, stLs_s]
        refine W.eq (g2 := F0 m 15 cs []) rfl ?_
        refine W.cs (cells' := 1 + 10 * (i + 1)) (slots' := 14 + 204 * (i + 1)) (by omega) (by omega) ?_
        refine ih (i + 1) H locs cs (fun j => if j = i then f else G j) (fun j => if j = i then cF else cA j) (T9 ++ u2) (by omega) hK ?_ ?_ hS (fun q hq => List.mem_append_left _ (hB q hq)) ?_ ?_
        · rw [← e1]; exact hP
        · rw [← e1]; exact hD
        · intro j hj a h1 h2
          by_cases ej : j = i
          · rw [if_pos ej]; exact List.mem_append_right _ (hcF a h1 h2)
          · rw [if_neg ej]; exact List.mem_append_left _ (hT j (by omega) a h1 h2)
        · rw [nI_succ]; exact hl
  refine k_run (pc' := 15) (st := []) [.iconst 0, .istore_n 1] F.1 F.2.1 (by decide +kernel) rfl rfl hl rfl (fun cs hl => ?_)
  exact loop 14 0 H locs cs (fun _ _ => 0) (fun _ _ => 0) [] rfl hK hP hD hS (fun q hq => hq) (fun j hj => absurd hj (Nat.not_lt_zero _)) hl
def oL (qb : Nat) (qa : Nat) : va_E := .inr (5, [.ref qa, .ref qb])
def postL (h0 : Nat) : KU → Prop := fun u => ∃ (qa qb : Nat) (cq cb : ClassId) (G : Nat → Nat → Nat) (cA : Nat → Nat → ClassId), u.1 = (h0, oL qb qa) :: (qa, .inl (cq, 2, .inr (.inr (.inr (.inr (stR 2 G)))))) :: ([(qb, .inl (cb, 2, .inl (fun _ => 0)))] ++ stLs 2 G cA) ∧ (cq, FieldType.object "FairWalls$State") ∈ u.2 ∧ (∀ q ∈ [(cb, FieldType.boolean)], q ∈ u.2) ∧ ∀ j, j < 2 → ∀ i, 1 ≤ i → i < 10 → (cA j i, FieldType.int) ∈ u.2
def m_L_init : MI := (⟨"FairWalls$Slots", "<init>", "()V"⟩, prog_7_method_1_code, 2, (Option.none : Option Jvm.ClassFile.FieldType), 3, 0, [])
theorem cw_L_init : codeW m_L_init ∈ GT := gtb 183 (by decide +kernel) (by decide +kernel)
theorem iw_L_init : Cond.initialized m_L_init.y.cls ∈ GT := gtb 8 (by decide +kernel) (by decide +kernel)
theorem nw_L_init : Cond.instanceMethod m_L_init.y ∈ GT := gtb 182 (by decide +kernel) (by decide +kernel)
set_option maxHeartbeats 4000000 in
theorem c_L_init (l : Launch) (D : va_G) (ad : Nat → Nat) (h0 : Nat) : KC' l D ad m_L_init 22 412 [.ref h0] [(h0, .inr (5, [.null, .null]))] [] (postL h0) := by
  refine KC'.ofW (by decide +kernel) rfl rfl (Nat.le_of_ble_eq_true rfl) (fun p e s m args below meth c cs F hP hK hD hl => ?_)
  have hS : va_S (va_A [(h0, .inr (5, [.null, .null]))] s.heap.size) s.heap s.heap [] := va_S.rf
  generalize va_A [(h0, .inr (5, [.null, .null]))] s.heap.size = A at F hD hS ⊢
  refine k_run (pc' := 1) (st := []) [.aload_n 0] F.1 F.2.1 (by decide +kernel) rfl rfl hl rfl (fun cs hl => ?_)
  refine k_obj (idx := 3) F hl (gtb 184 (by decide +kernel) (by decide +kernel)) (by decide +kernel) (by decide) (Nat.le_of_ble_eq_true rfl) ?_
  refine k_run (pc' := 6) (st := []) [.aload_n 0, .iconst 2] F.1 F.2.1 (by decide +kernel) rfl rfl hl rfl (fun cs hl => ?_)
  refine va_newq (N' := 2) (C := "FairWalls$State") (index := 9) F.1 F.2.1 F.2.2.2.2.1 (F.2.2.2.2.2.1 _ (gtb 185 (by decide +kernel) (by decide +kernel))) F.2.2.2.2.2.2.2.1.2 hK hP hD hS F.2.2.2.2.2.2.2.2.1 (by decide) rfl (by decide) (Nat.le_of_ble_eq_true rfl) (Nat.le_of_ble_eq_true rfl) (by decide +kernel) (fun qa cq H hK hP hD hS => ?_)
  refine k_putH (idx := 11) (j := 0) (R0 := [(qa, .inl (cq, 2, .inr (.inr (.inr (.inr (fun _ => none))))))]) (rest := []) F (gdT inTX5 gdTX5) tyX5 tyX5_ok nmX5 hK hP hD hS rfl (by decide) (gtb 187 (by decide +kernel) (by decide +kernel)) rfl rfl (F.2.2.2.2.2.2.2.2.2 rfl) rfl rfl rfl (Nat.le_of_ble_eq_true rfl) (by decide +kernel) (fun H locs hP hD hS => ?_)
  have e0 : (fun _ => none : Nat → Option Nat) = stR 0 (fun _ _ => 0) := by funext j; unfold stR; rw [if_neg (Nat.not_lt_zero _)]
  rw [e0] at hP hD
  refine k_run (pc' := 14) (st := []) [.aload_n 0, .iconst 2] F.1 F.2.1 (by decide +kernel) rfl rfl hl rfl (fun cs hl => ?_)
  refine k_newF (own := "FairWalls$Slots") (T := TX5) (N := 2) (ci := 5) (idx := 17) (j := 1) (at9 := .boolean) (ty := .boolean) (N' := 2) (R0 := [(qa, .inl (cq, 2, .inr (.inr (.inr (.inr (stR 0 (fun _ _ => 0)))))))]) (rest := []) F.1 F.2.1 F.2.2.2.2.2.1 (gdT inTX5 gdTX5) tyX5 tyX5_ok nmX5 F.2.2.2.2.1 ac_boolean rfl (by simp) hK hP hD hS F.2.2.2.2.2.2.2.2.1 rfl (by decide) (gtb 188 (by decide +kernel) (by decide +kernel)) rfl rfl (F.2.2.2.2.2.2.2.2.2 rfl) rfl (Nat.le_of_ble_eq_true rfl) (by decide) rfl (by decide) (Nat.le_of_ble_eq_true rfl) (Nat.le_of_ble_eq_true rfl) (by decide +kernel) (by decide +kernel) (fun qb cb H locs hK hP hD hS => ?_)
  have loop : ∀ (d i : Nat) (H : Heap) (locs : List Loc) (cs : Array Slot) (G : Nat → Nat → Nat) (cA : Nat → Nat → ClassId) (T9 : List (ClassId × FieldType)), i + d = 2 → va_K D clsL ((cq, .object "FairWalls$State") :: T9) s → va_P D clsL ((h0, oL qb qa) :: (qa, .inl (cq, 2, .inr (.inr (.inr (.inr (stR i G)))))) :: (([(qb, .inl (cb, 2, .inl (fun _ => 0)))] : va_W) ++ stLs i G cA)) H → va_D A ((h0, oL qb qa) :: (qa, .inl (cq, 2, .inr (.inr (.inr (.inr (stR i G)))))) :: (([(qb, .inl (cb, 2, .inl (fun _ => 0)))] : va_W) ++ stLs i G cA)) → va_S A s.heap H locs → (∀ q ∈ [(cb, FieldType.boolean)], q ∈ T9) → (∀ j, j < i → ∀ a, 1 ≤ a → a < 10 → (cA j a, FieldType.int) ∈ T9) → LV aid cs 2 [some (.ref h0), some (.int (nI i))] →
      W p l e (kRm m_L_init 22 412) s m args below meth c H locs (2 + 10 * i) (4 + 204 * i) (MQ below (va_Qv (postL h0) (fun u t => va_P D clsL u.1 t.heap ∧ va_K D clsL u.2 t ∧ va_D A u.1) A) args s 22 412 A) (F0 m 21 cs []) := by
    intro d
    induction d with
    | zero =>
      intro i H locs cs G cA T9 hi hK hP hD hS hB hT hl
      have ei : i = 2 := by omega
      subst ei
      refine k_run (pc' := 23) (st := []) [.iload_n 1, .iconst 2] F.1 F.2.1 (by decide +kernel) rfl rfl hl rfl (fun cs hl => ?_)
      refine lv_icmp_ge (off := 22) (tgt := 45) F.1 F.2.1 (by decide +kernel) (by decide) (fun _ => ?_) (fun z => absurd (by decide) z)
      refine k_ret (u := ((h0, oL qb qa) :: (qa, .inl (cq, 2, .inr (.inr (.inr (.inr (stR 2 G)))))) :: (([(qb, .inl (cb, 2, .inl (fun _ => 0)))] : va_W) ++ stLs 2 G cA), (cq, .object "FairWalls$State") :: T9)) F rfl hS hP hK hD ?_ (by decide) (by decide) (by decide +kernel)
      exact ⟨qa, qb, cq, cb, G, cA, rfl, List.mem_cons_self, fun q hq => List.mem_cons_of_mem _ (hB q hq), fun j hj a h1 h2 => List.mem_cons_of_mem _ (hT j hj a h1 h2)⟩
    | succ d ih =>
      intro i H locs cs G cA T9 hi hK hP hD hS hB hT hl
      have hlt : i < 2 := by omega
      refine k_run (pc' := 23) (st := []) [.iload_n 1, .iconst 2] F.1 F.2.1 (by decide +kernel) rfl rfl hl rfl (fun cs hl => ?_)
      refine lv_icmp_ge (off := 22) (tgt := 45) F.1 F.2.1 (by decide +kernel) (by decide) (fun z => absurd z (by show ¬ nI 2 ≤ nI i; exact nI_ge hlt (by decide))) (fun _ => ?_)
      refine k_run (pc' := 27) (st := []) [.aload_n 0] F.1 F.2.1 (by decide +kernel) rfl rfl hl rfl (fun cs hl => ?_)
      refine va_get (D := D) (cl := clsL) (ref := "FairWalls$Slots") (own := "FairWalls$Slots") (ci := 5) (C := "FairWalls$Slots") (T := TX5) (N := 2) (index := 11) (v := .ref qa) F.1 F.2.1 F.2.2.2.2.2.1 (gdT inTX5 gdTX5) F.2.2.2.2.1 hK hP 0 rfl rfl 0 (by decide) (F.2.2.2.2.2.1 _ (gtb 187 (by decide +kernel) (by decide +kernel))) (fun _ z => z) rfl (by decide +kernel) ?_
      refine k_run (pc' := 31) (st := [.ref qa]) [.iload_n 1] F.1 F.2.1 (by decide +kernel) rfl rfl hl rfl (fun cs hl => ?_)
      refine k_newI (ws := ((h0, oL qb qa) :: (qa, .inl (cq, 2, .inr (.inr (.inr (.inr (stR i G)))))) :: (([(qb, .inl (cb, 2, .inl (fun _ => 0)))] : va_W) ++ stLs i G cA))) (rest := [.int (nI i), .ref qa]) (ix := 9) (idx := 21) (ci := 6) (N := 14) (C := "FairWalls$State") (T := TX6) (fs := [.null, .null, .null, .null, .null, .null, .null, .null, .null, .int 0, .int 0, .int 0, .int 0, .int 0]) (fun q => c_S_init l D ad q) F hl (gdT inTX6 gdTX6) tyX6 tyX6_ok (gtb 185 (by decide +kernel) (by decide +kernel)) (gtb 38 (by decide +kernel) (by decide +kernel)) (gtb 3 (by decide +kernel) (by decide +kernel)) rfl (fun j hj => by rcases (by omega : j = 0 ∨ j = 1 ∨ j = 2 ∨ j = 3 ∨ j = 4 ∨ j = 5 ∨ j = 6 ∨ j = 7 ∨ j = 8 ∨ j = 9 ∨ j = 10 ∨ j = 11 ∨ j = 12 ∨ j = 13) with rfl | rfl | rfl | rfl | rfl | rfl | rfl | rfl | rfl | rfl | rfl | rfl | rfl | rfl <;> rfl) (Or.inl ⟨gtb 186 (by decide +kernel) (by decide +kernel), iw_S_init, cw_S_init, rfl, by decide +kernel, by decide +kernel⟩) rfl rfl nw_S_init hK hP hD hS (by decide +kernel) (by decide +kernel) (by decide +kernel) (by show 2 + 10 * i + 1 ≤ 22; omega) (by show 4 + 204 * i + 14 ≤ 412; omega) ⟨⟨Nat.le_of_ble_eq_true rfl, Nat.le_of_ble_eq_true rfl⟩, ⟨by show 2 + 10 * i + 1 + 9 ≤ 22; omega, by show 4 + 204 * i + 14 + 190 ≤ 412; omega⟩⟩ (Nat.le_of_ble_eq_true rfl) (fun q u H locs hu hK hP hD hS => ?_)
      obtain ⟨u1, u2⟩ := u
      obtain ⟨f, cF, rfl, rfl, hcF⟩ := hu
      refine va_astq (D := D) (cl := clsL) (r := ("FairWalls$State", TX6, 14)) (ci := 6) F.1 F.2.1 hK hP hD hS 1 0 (2 + (([(qb, .inl (cb, 2, .inl (fun _ => 0)))] : va_W) ++ stLs i G cA).length) (v := f 0) (vs := [.ref (f 1), .ref (f 2), .ref (f 3), .ref (f 4), .ref (f 5), .ref (f 6), .ref (f 7), .ref (f 8), .ref (f 9), .int 0, .int 0, .int 0, .int 0, .int 0]) rfl rfl ?_ rfl (i := nI i) (vp_in_nI hlt (by decide)) (by decide +kernel) (fun H locs hP hD hS => ?_)
      · rw [List.getElem?_append_right (by simp; omega)]
        rw [show 2 + (([(qb, .inl (cb, 2, .inl (fun _ => 0)))] : va_W) ++ stLs i G cA).length - ((h0, oL qb qa) :: (qa, .inl (cq, 2, .inr (.inr (.inr (.inr (stR i G)))))) :: (([(qb, .inl (cb, 2, .inl (fun _ => 0)))] : va_W) ++ stLs i G cA)).length = 0 by simp only [List.length_cons]; omega]
        rfl
      · rw [nI_clamp (by omega), stR_s] at hP hD
        refine k_run (pc' := 42) (st := []) [.iinc 1 1] F.1 F.2.1 (by decide +kernel) rfl rfl hl rfl (fun cs hl => ?_)
        refine lv_goto (off := -21) (tgt := 21) F.1 F.2.1 (by decide +kernel) (by decide) ?_
        have e1 : (([(qb, .inl (cb, 2, .inl (fun _ => 0)))] : va_W) ++ stLs i G cA) ++ stC f cF = ([(qb, .inl (cb, 2, .inl (fun _ => 0)))] : va_W) ++ stLs (i + 1) (fun j => if j = i then f else G j) (fun j => if j = i then cF else cA j) := by rw [List.append_assoc, stLs_s]
        refine W.eq (g2 := F0 m 21 cs []) rfl ?_
        refine W.cs (cells' := 2 + 10 * (i + 1)) (slots' := 4 + 204 * (i + 1)) (by omega) (by omega) ?_
        refine ih (i + 1) H locs cs (fun j => if j = i then f else G j) (fun j => if j = i then cF else cA j) (T9 ++ u2) (by omega) hK ?_ ?_ hS (fun q hq => List.mem_append_left _ (hB q hq)) ?_ ?_
        · rw [← e1]; exact hP
        · rw [← e1]; exact hD
        · intro j hj a h1 h2
          by_cases ej : j = i
          · rw [if_pos ej]; exact List.mem_append_right _ (hcF a h1 h2)
          · rw [if_neg ej]; exact List.mem_append_left _ (hT j (by omega) a h1 h2)
        · rw [nI_succ]; exact hl
  refine k_run (pc' := 21) (st := []) [.iconst 0, .istore_n 1] F.1 F.2.1 (by decide +kernel) rfl rfl hl rfl (fun cs hl => ?_)
  exact loop 2 0 H locs cs (fun _ _ => 0) (fun _ _ => 0) [(cb, .boolean)] rfl hK hP hD hS (fun q hq => hq) (fun j hj => absurd hj (Nat.not_lt_zero _)) hl
