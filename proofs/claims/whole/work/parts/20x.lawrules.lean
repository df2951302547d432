/-! rules of the law's own body: the script, the end -/
def SX (ad : Nat → Nat) (L : Nat) (xs : Nat → Int32) (args : Array Value) (s : State) : Prop := args = #[Value.ref (ad 217)] ∧ va_X (ad 217) L xs s s.heap ∧ ad 217 < s.heap.size ∧ ∀ i, i < 212 → s.heap.size ≤ ad i
def QL (ad : Nat → Nat) (L : Nat) (xs : Nat → Int32) : List Frame → Array Value → State → State → Prop := fun below args s t => SX ad L xs args s → lw_Z below args s t
section LAWR
variable {l : Launch} {D : va_G} {ad : Nat → Nat} {aC : Nat → ClassId} {M M2 : MI} {pc k n idx L : Nat} {xs : Nat → Int32} {ls ls' : List (Option Value)} {st st' rest as : List Value} {h h1 : HP}
theorem W_vac {p : Program} {e : Env} {R : Room} {s : State} {m : MethodId} {args : Array Value} {below : List Frame} {meth : Method} {c : Code} {H : Heap} {locs : List Loc} {g : JFrame} (hn : ¬ SX ad L xs args s) : W p l e R s m args below meth c H locs k n (QL ad L xs below args s) g :=
  fun T _ _ => ⟨T.setTop g, Steps.refl _, fun q => absurd q hn⟩
theorem W_mono {p : Program} {e : Env} {R : Room} {s : State} {m : MethodId} {args : Array Value} {below : List Frame} {meth : Method} {c : Code} {H : Heap} {locs : List Loc} {Q Q' : State → Prop} {g : JFrame} (hq : ∀ t, Q t → Q' t) (w : W p l e R s m args below meth c H locs k n Q g) : W p l e R s m args below meth c H locs k n Q' g :=
  fun T hT X => by
    obtain ⟨t, a, b⟩ := w T hT X
    exact ⟨t, a, hq t b⟩
theorem SX_out {args : Array Value} {s : State} (hX : SX ad L xs args s) : ¬ AA ad s.heap.size (ad 217) := by
  rintro (⟨i, hi, e⟩ | q)
  · have := hX.2.2.2 i hi
    have := hX.2.2.1
    omega
  · have := hX.2.2.1
    omega
theorem goSld {j : Int32} {R : Room} (hj : ib j L = true) (hd : decode M.b pc = .ok (.iaload, 1)) (g : Go l D ad aC R (QL ad L xs) M (pc + 1) ls (.int (xs j.toNatClampNeg) :: st) h k n) : Go l D ad aC R (QL ad L xs) M pc ls (.int j :: .ref 217 :: st) h k n := by
  intro p e s m args below meth c H locs cs F hS hW hl
  by_cases hX : SX ad L xs args s
  · exact va_sld F.1 F.2.1 hX.2.1 hX.2.2.1 (SX_out hX) hS (ib_in hj) hd (g p e s m args below meth c H locs cs F hS hW hl)
  · exact W_vac hX
theorem goSlen {R : Room} (hd : decode M.b pc = .ok (.arraylength, 1)) (g : Go l D ad aC R (QL ad L xs) M (pc + 1) ls (.int (nI L) :: st) h k n) : Go l D ad aC R (QL ad L xs) M pc ls (.ref 217 :: st) h k n := by
  intro p e s m args below meth c H locs cs F hS hW hl
  by_cases hX : SX ad L xs args s
  · exact va_slen F.1 F.2.1 hX.2.1 hX.2.2.1 (SX_out hX) hS hd (g p e s m args below meth c H locs cs F hS hW hl)
  · exact W_vac hX
/-- a static method with a table of its own -/
def WH (own : String) (idx : Nat) (M2 : MI) (n : Nat) : Prop := Cond.methodLink own idx M2.y ∈ GT ∧ Cond.initialized M2.y.cls ∈ GT ∧ codeW M2 ∈ GT ∧ M2.hh ≠ [] ∧ (M2.y.cls ≠ "java/lang/invoke/MethodHandle" ∧ M2.y.cls ≠ "java/lang/invoke/VarHandle") ∧ (parseMethodDescriptor M2.y.desc).map (fun d => d.parameters.length) = some n ∧ Cond.static M2.y ∈ GT
theorem codeW_h (hh : M2.hh ≠ []) : codeW M2 = Cond.codeWith M2.y M2.b M2.mL M2.ret M2.hh := by
  unfold codeW
  split
  · rename_i h; exact absurd h hh
  · rfl
theorem Go.callH {R : Room} {QQ : List Frame → Array Value → State → State → Prop} {nn : Nat} {v : Option Value} (hct : CT l D ad aC M2 as h (.inl v) h1) (hw : WH M.y.cls idx M2 nn) (hd : decode M.b pc = .ok (.invokestatic idx, 3)) (hst : st = as.reverse ++ rest) (hn : as.length = nn) (hR : RoomOK R M2 k n) (hcat : (rest.map fun v => v.category).sum ≤ 8)
    (g : Go l D ad aC R QQ M (pc + 3) ls (v.toList ++ rest) h1 (k + M2.mc) (n + 6 * M2.mc)) : Go l D ad aC R QQ M pc ls st h k n := by
  intro p e s m args below meth c0 H locs cs F hS hW hl
  have hts := F.2.2.2.2.2.1
  obtain ⟨w1, w2, w3, w4, w5, w6, w7⟩ := hw
  have hc := codeW_h w4
  have hstk : st.map (cv ad) = (as.map (cv ad)).reverse ++ rest.map (cv ad) := by
    rw [hst, map_app_cv, List.map_reverse]
  rw [hstk]
  refine backR F hS hW hl (vx_runSX (hh := M2.hh) (bytes := M2.b) (maxL := M2.mL) (ret := M2.ret) (n := nn) (As := as.map (cv ad)) (rest := rest.map (cv ad)) (nL := M.mL) (Ts := GT) (own := M.y.cls) (cc := M.b) ⟨F.1, F.2.1, F.2.2.2.1, F.2.2.2.2.1, hts⟩ (hct H.size) ⟨⟨rfl, rfl, hR.1.1, hR.1.2, payM hts w3, by rw [← hc]; exact List.mem_cons_self⟩, by rw [← hc]; exact hts _ w3, hts _ w2, w5, fun sig hs => ?_, hts _ w1, hts _ w7⟩ ⟨blindP, givenP F.ev hS hW⟩ rfl (by rw [List.length_map]; exact hn) hl.2.1 rfl (lv_room (by rw [cat_cv]; exact hcat)) hd hR.2) g
  rw [hs] at w6
  exact (Option.some.inj w6).symm
def m_Q_law : MI := (⟨"FairWallsLaw", "law", "([I)Z"⟩, code, 7, some .boolean, 12, 0, [])
theorem goLawRet (hk : k ≤ 601024) (hn : n ≤ 7293034) (hd : decode code pc = .ok (.ireturn, 1)) : Go l D ad aC room_1 (QL ad L xs) m_Q_law pc ls [.int 1] h k n := by
  intro p e s m args below meth c H locs cs F hS hW hl
  by_cases hX : SX ad L xs args s
  · obtain ⟨rfl, hX2, hX3, hX4⟩ := id hX
    refine W_mono (Q := lw_Z below #[Value.ref (ad 217)] s) (fun t ht _ => ht) ?_
    refine va_forget (fun q hq => ?_) (W.widen hk hn (lw_ret F.1 F.2.1 F.2.2.1 F.2.2.2.2.2.2.2.1 hd))
    rcases hS.2.2 q hq with ⟨i, hi, e1⟩ | z
    · rw [e1]; exact hX4 i hi
    · exact z
  · exact W_vac hX
end LAWR
