/-! rules for calls and ends -/
section CALLR
variable {l : Launch} {D : va_G} {ad : Nat → Nat} {aC : Nat → ClassId} {R : Room} {QQ : List Frame → Array Value → State → State → Prop} {M M2 : MI} {pc k n idx : Nat} {ls ls' : List (Option Value)} {st st' rest as : List Value} {h h1 : HP}
/-- the words of a call of M2 from the class own, by its place idx -/
def WB (own : String) (idx : Nat) (M2 : MI) (n : Nat) : Prop :=
  Cond.methodLink own idx M2.y ∈ GT ∧ Cond.initialized M2.y.cls ∈ GT ∧ codeW M2 ∈ GT ∧ M2.hh = [] ∧ (M2.y.cls ≠ "java/lang/invoke/MethodHandle" ∧ M2.y.cls ≠ "java/lang/invoke/VarHandle") ∧ (parseMethodDescriptor M2.y.desc).map (fun d => d.parameters.length) = some n
def WV (own : String) (idx : Nat) (M2 : MI) (n : Nat) : Prop := WB own idx M2 n ∧ Cond.instanceMethod M2.y ∈ GT ∧ Cond.selects M2.y.cls M2.y M2.y ∈ GT
def WS (own : String) (idx : Nat) (M2 : MI) (n : Nat) : Prop := WB own idx M2 n ∧ Cond.static M2.y ∈ GT
theorem codeW_0 (hh : M2.hh = []) : codeW M2 = Cond.code M2.y M2.b M2.mL M2.ret := by unfold codeW; rw [hh]
theorem payM {args : Array Value} {s : State} (hts : ∀ w ∈ GT, w.before args s = true) (hc : codeW M2 ∈ GT) : ∀ w ∈ wsM M2, ∀ (a' : Array Value) (U : State), s.WarmedH U.vm → w.before a' U = true := by
  intro w hw a' U hW
  have hg : w ∈ GT := by
    rcases List.mem_cons.mp hw with rfl | h
    · exact hc
    · exact h
  exact word_at hW (gtGood hg) (hts w hg)
def RoomOK (R : Room) (M2 : MI) (k n : Nat) : Prop := (M2.rk + 1 ≤ R.frames ∧ 8 + (M2.mL + 11) + 38 * M2.rk ≤ R.locals) ∧ (k + M2.mc ≤ R.cells ∧ n + 6 * M2.mc ≤ R.slots)
theorem callB_ok {p : Program} {s : State} {m : MethodId} {args : Array Value} {meth : Method} {c : Code} {nn : Nat} (F : Fx ad M p s m args meth c) (w : WB M.y.cls idx M2 nn) (r : RoomOK R M2 k n) : CallB R s args M.y.cls idx M2.y M2.b M2.mL M2.ret (wsM M2) (rmk M2) M2.mc (6 * M2.mc) nn := by
  obtain ⟨h1, h2, h3, h4, h5, h6⟩ := w
  have hts := F.2.2.2.2.2.1
  have e := codeW_0 h4
  refine ⟨rfl, rfl, r.1.1, r.1.2, payM hts h3, ?_, ?_, hts _ h2, h5, fun sig hs => ?_, hts _ h1⟩
  · rw [← e]; exact List.mem_cons_self
  · rw [← e]; exact hts _ h3
  · rw [hs] at h6
    exact (Option.some.inj h6).symm
theorem blindP {as : List Value} {sz : Nat} : FrameBlind (va_Pc as (fun U => U.heap.size = sz ∧ Wd D ad aC h U U.heap ∧ Ev ad (AA ad sz) U U.heap)) := by
  intro a U g mk q
  obtain ⟨q0, q1, q2, q3⟩ := q
  exact ⟨q0, q1, q2.moved (U := U.calling g mk a) (Vm.Alike.refl U.vm), Ev.same (s := U) (U := U.calling g mk a) (H := U.heap) rfl q3⟩
/-- what a callee is given -/
theorem givenP {as : List Value} {s : State} {H : Heap} {locs : List Loc} (hev : Ev ad (AA ad s.heap.size) s s.heap) (hS : va_S (AA ad s.heap.size) s.heap H locs) (hW : Wd D ad aC h s H) : ∀ U : State, U.heap = H → s.WarmedH U.vm → va_Pc as (fun U => U.heap.size = H.size ∧ Wd D ad aC h U U.heap ∧ Ev ad (AA ad H.size) U U.heap) as.toArray U := by
  intro U hU hw
  refine ⟨rfl, by rw [hU], by rw [hU]; exact hW.moved hw.alike, ?_⟩
  rw [hU]
  exact ((hev.kept hS.2.1).narrow (AA_sub hS.1)).warm hw
/-- behind the call: a return -/
theorem backR {p : Program} {e : Env} {s : State} {m : MethodId} {args : Array Value} {below : List Frame} {meth : Method} {c : Code} {H : Heap} {locs : List Loc} {cs : Array Slot} {v : Option Value} {a : Array Value} {st0 : List Value} {mc ms : Nat}
    (F : Fx ad M p s m args meth c) (hS : va_S (AA ad s.heap.size) s.heap H locs) (hW : Wd D ad aC h s H) (hl : LV ad cs M.mL ls)
    (hr : vx_Run p l e R s m args below meth c H locs k n mc ms (F0 m pc cs st0) (rest.map (cv ad)) (QR D ad aC (.inl v) h1 H.size a) (QX D ad aC (.inl v) h1 H.size) (AA ad H.size))
    (g : Go l D ad aC R QQ M (pc + 3) ls (v.toList ++ rest) h1 (k + mc) (n + ms)) : W p l e R s m args below meth c H locs k n (QQ below args s) (F0 m pc cs st0) := by
  intro T hT X
  rcases hr T hT X with ⟨v2, st₀, t, T', L, h0, X', hL, e1, e2, ⟨⟨v3, hv3, hv⟩, hP, hF⟩, stp⟩ | ⟨q, st₀, t, T', L, E, ce, h0, X', hL, e1, e2, ⟨hv, -, -⟩, -, -, -, -⟩
  · cases hv3
    cases hv
    obtain ⟨k1, k2, k3⟩ := vx_keep (A0 := AA ad s.heap.size) (H0 := s.heap) (free := AA ad H.size) h0 e1 hS (fun q _ hq => AA_sub hS.1 q hq) (AA_sub hS.1) hL hF
    have G := g p e s m args below meth c T'.heap (locs ++ L) cs F k3 ⟨by rw [e1]; exact hP, hW.2⟩ hl
    have hst : (v.toList ++ rest).map (cv ad) = (v.map (cv ad)).toList ++ rest.map (cv ad) := by cases v <;> rfl
    rw [hst] at G
    obtain ⟨t2, a1, b1⟩ := G T' rfl X'
    exact ⟨t2, stp t2 a1, b1⟩
  · cases hv
theorem recvP {s : State} {H : Heap} {a c : Nat} {C : String} {T : u_T} {N : Nat} (hW : Wd D ad aC h s H) (hk : knd a = c) (hc : clsL[c]? = some (C, T, N)) (h0 : 0 < c) (h10 : c < 10) : ∃ cell : Cell, H[ad a]? = some cell ∧ cell.vm.isStatics = false ∧ s.vm.findClass C = some cell.cls :=
  va_recv (q := (C, T, N)) hW.2.1 hW.1 hc (q0 := a) (by rw [wl_at ad aC h (knd_in hk (by omega) (by omega)), ent_o hk h10])
theorem map_app_cv (a b : List Value) : (a ++ b).map (cv ad) = a.map (cv ad) ++ b.map (cv ad) := List.map_append
theorem cat_cv (r : List Value) : ((r.map (cv ad)).map fun v => v.category) = r.map fun v => v.category := by
  rw [List.map_map]
  exact List.map_congr_left fun v _ => cv_cat ad v
def KC (c : Nat) (C : String) : Prop := 0 < c ∧ c < 10 ∧ ∃ (T : u_T) (N : Nat), clsL[c]? = some (C, T, N)
theorem Go.callV {a c nn : Nat} {v : Option Value} (hct : CT l D ad aC M2 (.ref a :: as) h (.inl v) h1) (hw : WV M.y.cls idx M2 nn) (hka : knd a = c) (hkc : KC c M2.y.cls) (hd : decode M.b pc = .ok (.invokevirtual idx, 3)) (hst : st = as.reverse ++ .ref a :: rest) (hn : as.length = nn) (hR : RoomOK R M2 k n) (hcat : (rest.map fun v => v.category).sum ≤ 8)
    (g : Go l D ad aC R QQ M (pc + 3) ls (v.toList ++ rest) h1 (k + M2.mc) (n + 6 * M2.mc)) : Go l D ad aC R QQ M pc ls st h k n := by
  intro p e s m args below meth c0 H locs cs F hS hW hl
  obtain ⟨k0, k10, T, N, hcl⟩ := hkc
  have hts := F.2.2.2.2.2.1
  have hstk : st.map (cv ad) = (as.map (cv ad)).reverse ++ .ref (ad a) :: rest.map (cv ad) := by
    rw [hst, map_app_cv, List.map_reverse]; rfl
  rw [hstk]
  refine backR F hS hW hl (vx_runV (As := as.map (cv ad)) (rest := rest.map (cv ad)) (C := M2.y.cls) (nL := M.mL) (Ts := GT) (own := M.y.cls) (cc := M.b) ⟨F.1, F.2.1, F.2.2.2.1, F.2.2.2.2.1, hts⟩ (hct H.size) ⟨callB_ok F hw.1 hR, hts _ hw.2.1, hts _ hw.2.2⟩ ⟨blindP, recvP hW hka hcl k0 k10, givenP F.ev hS hW⟩ rfl (by rw [List.length_map]; exact hn) hl.2.1 rfl (lv_room (by rw [cat_cv]; exact hcat)) hd hR.2) g
theorem Go.callS {nn : Nat} {v : Option Value} (hct : CT l D ad aC M2 as h (.inl v) h1) (hw : WS M.y.cls idx M2 nn) (hd : decode M.b pc = .ok (.invokestatic idx, 3)) (hst : st = as.reverse ++ rest) (hn : as.length = nn) (hR : RoomOK R M2 k n) (hcat : (rest.map fun v => v.category).sum ≤ 8)
    (g : Go l D ad aC R QQ M (pc + 3) ls (v.toList ++ rest) h1 (k + M2.mc) (n + 6 * M2.mc)) : Go l D ad aC R QQ M pc ls st h k n := by
  intro p e s m args below meth c0 H locs cs F hS hW hl
  have hts := F.2.2.2.2.2.1
  have hstk : st.map (cv ad) = (as.map (cv ad)).reverse ++ rest.map (cv ad) := by
    rw [hst, map_app_cv, List.map_reverse]
  rw [hstk]
  refine backR F hS hW hl (vx_runS (As := as.map (cv ad)) (rest := rest.map (cv ad)) (nL := M.mL) (Ts := GT) (own := M.y.cls) (cc := M.b) ⟨F.1, F.2.1, F.2.2.2.1, F.2.2.2.2.1, hts⟩ (hct H.size) ⟨callB_ok F hw.1 hR, hts _ hw.2⟩ ⟨blindP, givenP F.ev hS hW⟩ rfl (by rw [List.length_map]; exact hn) hl.2.1 rfl (lv_room (by rw [cat_cv]; exact hcat)) hd hR.2) g
/-- a private static method of a nest mate -/
def WN (own : String) (idx : Nat) (M2 : MI) (n : Nat) : Prop := (∃ host : String, Cond.methodLinkNest own idx M2.y host ∈ NWs) ∧ Cond.initialized M2.y.cls ∈ GT ∧ codeW M2 ∈ GT ∧ M2.hh = [] ∧ (M2.y.cls ≠ "java/lang/invoke/MethodHandle" ∧ M2.y.cls ≠ "java/lang/invoke/VarHandle") ∧ (parseMethodDescriptor M2.y.desc).map (fun d => d.parameters.length) = some n ∧ Cond.static M2.y ∈ GT
theorem Go.callN {nn : Nat} {v : Option Value} (hct : CT l D ad aC M2 as h (.inl v) h1) (hw : WN M.y.cls idx M2 nn) (hd : decode M.b pc = .ok (.invokestatic idx, 3)) (hst : st = as.reverse ++ rest) (hn : as.length = nn) (hR : RoomOK R M2 k n) (hcat : (rest.map fun v => v.category).sum ≤ 8)
    (g : Go l D ad aC R QQ M (pc + 3) ls (v.toList ++ rest) h1 (k + M2.mc) (n + 6 * M2.mc)) : Go l D ad aC R QQ M pc ls st h k n := by
  intro p e s m args below meth c0 H locs cs F hS hW hl
  have hts := F.2.2.2.2.2.1
  obtain ⟨⟨host, hln⟩, h2, h3, h4, h5, h6, h7⟩ := hw
  have hG : GoodIn GT (wsM M2) := fun w hw => by
    have hg : w ∈ GT := by
      rcases List.mem_cons.mp hw with rfl | h
      · exact h3
      · exact h
    exact ⟨hg, gtGood hg⟩
  have hstk : st.map (cv ad) = (as.map (cv ad)).reverse ++ rest.map (cv ad) := by
    rw [hst, map_app_cv, List.map_reverse]
  rw [hstk]
  refine backR F hS hW hl (vx_runSN (As := as.map (cv ad)) (rest := rest.map (cv ad)) (nL := M.mL) (Ts := GT) (own := M.y.cls) (cc := M.b) (host := host) ⟨F.1, F.2.1, F.2.2.2.1, F.2.2.2.2.1, hts⟩ (hct H.size) ⟨va_cnB (ws' := GT) (bytes := M2.b) (maxL := M2.mL) (ret := M2.ret) nn hts hG (by unfold wsM; rw [codeW_0 h4]) rfl rfl (F.ev.1 _ hln) (hts _ h2) ⟨h5.1, h5.2, h6⟩ hR.1, hts _ h7, trivial⟩ ⟨blindP, givenP F.ev hS hW⟩ rfl (by rw [List.length_map]; exact hn) hl.2.1 rfl (lv_room (by rw [cat_cv]; exact hcat)) hd hR.2) g
/-! ends -/
theorem QR_of {s t : State} {H : Heap} {locs : List Loc} {a : Array Value} {v : Option Value} (hS : va_S (AA ad s.heap.size) s.heap H locs) (hW : Wd D ad aC h s H) (ht : t.heap = H) : QR D ad aC (.inl v) h s.heap.size a s (.returned (v.map (cv ad))) t :=
  ⟨⟨v, rfl, rfl⟩, by rw [ht]; exact hW.1, hS.F ht⟩
theorem Go.iret {x : Int32} (hr : M.ret = some .int) (hk : k ≤ M.mc) (hn : n ≤ 6 * M.mc) (hd : decode M.b pc = .ok (.ireturn, 1)) : Go l D ad aC R (QM D ad aC M (.inl (some (.int x))) h) M pc ls [.int x] h k n :=
  fun p e s m args below meth c H locs cs F hS hW hl => W.widen hk hn (vx_ret (W.iret F.1 F.2.1 (F.2.2.1.trans hr) (fun t ht _ => QR_of hS hW ht) hS.2.2 hd F.2.2.2.2.2.2.2.1))
theorem Go.zret {x : Int32} {ty : FieldType} (hr : M.ret = some ty) (hx : narrow ty (.int x) = .int x) (hk : k ≤ M.mc) (hn : n ≤ 6 * M.mc) (hd : decode M.b pc = .ok (.ireturn, 1)) : Go l D ad aC R (QM D ad aC M (.inl (some (.int x))) h) M pc ls [.int x] h k n :=
  fun p e s m args below meth c H locs cs F hS hW hl => W.widen hk hn (vx_ret (W.zret F.1 F.2.1 (F.2.2.1.trans hr) hx (fun t ht _ => QR_of hS hW ht) hS.2.2 hd F.2.2.2.2.2.2.2.1))
theorem Go.lret {x : Int64} (hr : M.ret = some .long) (hk : k ≤ M.mc) (hn : n ≤ 6 * M.mc) (hd : decode M.b pc = .ok (.lreturn, 1)) : Go l D ad aC R (QM D ad aC M (.inl (some (.long x))) h) M pc ls [.long x] h k n :=
  fun p e s m args below meth c H locs cs F hS hW hl => W.widen hk hn (vx_ret (W.lret F.1 F.2.1 (F.2.2.1.trans hr) (fun t ht _ => QR_of (v := some (.long x)) hS hW ht) hS.2.2 hd F.2.2.2.2.2.2.2.1))
theorem Go.vret (hr : M.ret = none) (hk : k ≤ M.mc) (hn : n ≤ 6 * M.mc) (hd : decode M.b pc = .ok (.return_, 1)) : Go l D ad aC R (QM D ad aC M (.inl none) h) M pc ls [] h k n :=
  fun p e s m args below meth c H locs cs F hS hW hl => W.widen hk hn (vx_ret (W.vret F.1 F.2.1 (F.2.2.1.trans hr) (fun t ht _ => QR_of (v := none) hS hW ht) hS.2.2 hd F.2.2.2.2.2.2.2.1))
theorem Go.aret {x : Nat} {rt : FieldType} (hr : M.ret = some rt) (hrt : (∃ n, rt = .object n) ∨ ∃ t, rt = .array t) (hk : k ≤ M.mc) (hn : n ≤ 6 * M.mc) (hd : decode M.b pc = .ok (.areturn, 1)) : Go l D ad aC R (QM D ad aC M (.inl (some (.ref x))) h) M pc ls [.ref x] h k n :=
  fun p e s m args below meth c H locs cs F hS hW hl => W.widen hk hn (vx_ret (W.aret F.1 F.2.1 (F.2.2.1.trans hr) hrt (Or.inr ⟨_, rfl⟩) (fun t ht _ => QR_of (v := some (.ref x)) hS hW ht) hS.2.2 hd F.2.2.2.2.2.2.2.1))
end CALLR
