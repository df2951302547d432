/-! the law's own body: its script, draw, its end -/
def m_Q_law : MI := (⟨"FairWallsLaw", "law", "([I)Z"⟩, code, 7, some .boolean, 12, 0, [])
def m_Q_draw : MI := (⟨"FairWallsLaw", "draw", "([II)I"⟩, method_2_code, 2, (Option.some Jvm.ClassFile.FieldType.int), 0, 0, [])
theorem cw_Q_draw : codeW m_Q_draw ∈ GT := gtb 239 (by decide +kernel) (by decide +kernel)
theorem sw_Q_draw : Cond.static m_Q_draw.y ∈ GT := gtb 238 (by decide +kernel) (by decide +kernel)
theorem wdraw_200 : WS "FairWallsLaw" 200 m_Q_draw 2 := ⟨⟨gtb 237 (by decide +kernel) (by decide +kernel), iw_Q, cw_Q_draw, rfl, by decide +kernel, by decide +kernel⟩, sw_Q_draw⟩
theorem dc_7 : Cond.constant "FairWallsLaw" 7 15594251 ∈ GT := gtb 240 (by decide +kernel) (by decide +kernel)
theorem dc_8 : Cond.constant "FairWallsLaw" 8 2147483647 ∈ GT := gtb 241 (by decide +kernel) (by decide +kernel)
def drO (L : Nat) (xs : Nat → Int32) (k : Int32) : Option Int32 := if Int32.ofNat L ≤ k then some (((15594251 : Int32) * k + 10853) &&& 2147483647) else if ib k L = true then some (xs k.toNatClampNeg &&& 2147483647) else none
def SXz (a1 a2 : Nat → Nat) (L : Nat) (xs : Nat → Int32) (args : Array Value) (s : State) : Prop := args = #[Value.ref (a1 217)] ∧ va_X (a1 217) L xs s s.heap ∧ a1 217 < s.heap.size ∧ ∀ i, i < 200 → s.heap.size ≤ a1 i ∧ s.heap.size ≤ a2 i
def QLz (a1 a2 : Nat → Nat) (L : Nat) (xs : Nat → Int32) : List Frame → Array Value → State → State → Prop := fun below args s t => SXz a1 a2 L xs args s → lw_Z below args s t
section LAWZ
variable {l : Launch} {D : va_G} {a1 a2 : Nat → Nat} {c1 c2 : Nat → ClassId} {M M2 : MI} {pc k n idx L : Nat} {xs : Nat → Int32} {ls ls' : List (Option Value)} {st st' rest as : List Value} {h h' : HP2} {R : Room}
theorem W_mono {p : Program} {e : Env} {R : Room} {s : State} {m : MethodId} {args : Array Value} {below : List Frame} {meth : Method} {c : Code} {H : Heap} {locs : List Loc} {Q Q' : State → Prop} {g : JFrame} (hq : ∀ t, Q t → Q' t) (w : W p l e R s m args below meth c H locs k n Q g) : W p l e R s m args below meth c H locs k n Q' g :=
  fun T hT X => by
    obtain ⟨t, a, b⟩ := w T hT X
    exact ⟨t, a, hq t b⟩
theorem W_vacz {p : Program} {e : Env} {R : Room} {s : State} {m : MethodId} {args : Array Value} {below : List Frame} {meth : Method} {c : Code} {H : Heap} {locs : List Loc} {g : JFrame} (hn : ¬ SXz a1 a2 L xs args s) : W p l e R s m args below meth c H locs k n (QLz a1 a2 L xs below args s) g :=
  fun T _ _ => ⟨T.setTop g, Steps.refl _, fun q => absurd q hn⟩
theorem SXz_out {args : Array Value} {s : State} (hX : SXz a1 a2 L xs args s) : ¬ AZ a1 a2 s.heap.size (a1 217) := by
  have h3 := hX.2.2.1
  rintro ((⟨i, hi, e⟩ | q) | (⟨i, hi, e⟩ | q))
  · have := (hX.2.2.2 i hi).1
    omega
  · omega
  · have := (hX.2.2.2 i hi).2
    omega
  · omega
theorem met_draw {b : Nat} {x v : Int32} (ed : drO L xs x = some v) : ∀ sz : Nat, vx_Met l m_Q_draw.y (wsM m_Q_draw) (rmk m_Q_draw) (va_Pc [.ref b, .int x] (fun U => U.heap.size = sz ∧ va_X b L xs U U.heap ∧ b < sz)) (fun _ st o t => o = .returned (some (.int v)) ∧ va_F (fun q : Nat => sz ≤ q) st t) (fun _ _ _ => False) 0 0 (fun q : Nat => sz ≤ q) := by
  intro sz
  refine fx_ofW (cc := m_Q_draw.b) (maxL := 2) (ret := some .int) (by decide +kernel) rfl ?_
  intro p e s m args below meth c s₁ B hml hx0 hv
  obtain ⟨rfl, hsz, hX, hbs⟩ := hv
  subst hsz
  have hts := atoms_spec (ws := wsM m_Q_draw) B.pre
  have hgt : ∀ w ∈ GT, w.before _ s = true := fun w hw => hts w (List.mem_cons_of_mem _ hw)
  have hS : va_S (fun q : Nat => s.heap.size ≤ q) s.heap s.heap [] := va_S.rf
  have hbA : ¬ (fun q : Nat => s.heap.size ≤ q) b := fun h => by
    have h2 : s.heap.size ≤ b := h
    omega
  have hown : s.vm.findClass "FairWallsLaw" = some m.cls := findClass_of_methodNamed B.named
  have hx := B.exec
  have hb := B.bytes
  rw [lg_entry_eq]
  have hl := LV.entry aid [.ref b, .int x] (n := 2) (Nat.le_of_ble_eq_true rfl)
  have e1 : ([Value.ref b, .int x]).map (cv aid) = [.ref b, .int x] := rfl
  rw [e1] at hl
  generalize (lg_sl ([.ref b, .int x]) ++ List.replicate (2 - (lg_sl ([.ref b, .int x])).length) Slot.unset).toArray = cs at hl ⊢
  have hl : LV aid cs 2 [some (.ref b), some (.int x)] := hl
  have tail : ∀ (y : Int32) (cs' : Array Slot), LV aid cs' 2 [some (.ref b), some (.int x)] → y &&& 2147483647 = v → W p l e (headSpec (wsM m_Q_draw) (rmk m_Q_draw)).room s m [Value.ref b, .int x].toArray below meth c s.heap [] 0 0 (vx_MQ below (fun _ st o t => o = .returned (some (.int v)) ∧ va_F (fun q : Nat => s.heap.size ≤ q) st t) (fun _ _ _ => False) [Value.ref b, .int x].toArray s 0 0 (fun q : Nat => s.heap.size ≤ q)) (F0 m 20 cs' [.int y]) := by
    intro y cs' hl' hy
    refine lv_ldc hx hb hown (hgt _ dc_8) (by decide +kernel) ?_
    refine lv_iand hx hb (by decide +kernel) ?_
    rw [hy]
    exact vx_ret (W.iret hx hb B.returns (fun t ht _ => ⟨rfl, hS.F ht⟩) hS.2.2 (by decide +kernel) B.notSynchronized)
  refine k_run (pc' := 2) (st := []) (st' := [.ref b, .int x]) [.iload_n 1, .aload_n 0] hx hb (by decide +kernel) rfl rfl hl rfl (fun cs hl => ?_)
  refine va_slen hx hb hX hbs hbA hS (by decide +kernel) ?_
  refine lv_icmp_ge (off := 9) (tgt := 12) hx hb (by decide +kernel) (by decide) (fun c1 => ?_) (fun c1 => ?_)
  · unfold drO at ed
    replace ed := Option.some.inj (ite_t c1 ed)
    refine lv_ldc hx hb hown (hgt _ dc_7) (by decide +kernel) ?_
    refine k_run (pc' := 20) (st := [.int 15594251]) (st' := [.int ((15594251 : Int32) * x + 10853)]) [.iload_n 1, .imul, .sipush (10853), .iadd] hx hb (by decide +kernel) rfl rfl hl rfl (fun cs hl => ?_)
    exact tail _ cs hl ed
  · unfold drO at ed
    replace ed := ite_f c1 ed
    obtain ⟨c2, ed⟩ := gd_inv ed
    replace ed := Option.some.inj ed
    refine k_run (pc' := 8) (st := []) (st' := [.int x, .ref b]) [.aload_n 0, .iload_n 1] hx hb (by decide +kernel) rfl rfl hl rfl (fun cs hl => ?_)
    refine va_sld hx hb hX hbs hbA hS (ib_in c2) (by decide +kernel) ?_
    refine lv_goto (off := 11) (tgt := 20) hx hb (by decide +kernel) (by decide) ?_
    exact tail _ cs hl ed
theorem Gz.draw {x v : Int32} (hI : IZ a1 a2) (ed : drO L xs x = some v) (hw : WS M.y.cls idx m_Q_draw 2) (hd : decode M.b pc = .ok (.invokestatic idx, 3)) (hst : st = .int x :: .ref 217 :: rest) (hR : RoomOK R m_Q_draw k n) (hcat : (rest.map fun v => v.category).sum ≤ 8)
    (g : Gz l D a1 a2 c1 c2 R (QLz a1 a2 L xs) M (pc + 3) ls (.int v :: rest) h k n) : Gz l D a1 a2 c1 c2 R (QLz a1 a2 L xs) M pc ls st h k n := by
  intro p e s m args below meth c0 H locs cs F hS hW hl
  by_cases hX : SXz a1 a2 L xs args s
  · have hts := F.2.2.2.2.2.1
    have hb1 := SXz_out hX
    have hXH : va_X (a1 217) L xs s H := hX.2.1.kept (hS.2.1 _ hX.2.2.1 hb1)
    have hstk : st.map (cv (adz a1 a2)) = ([Value.ref (a1 217), .int x]).reverse ++ rest.map (cv (adz a1 a2)) := by
      rw [hst]; rfl
    rw [hstk]
    have hlt : a1 217 < H.size := Nat.lt_of_lt_of_le hX.2.2.1 hS.1
    have hg : ∀ U : State, U.heap = H → s.WarmedH U.vm → va_Pc [Value.ref (a1 217), .int x] (fun U => U.heap.size = H.size ∧ va_X (a1 217) L xs U U.heap ∧ a1 217 < H.size) [Value.ref (a1 217), .int x].toArray U := by
      intro U hU hw
      exact ⟨rfl, by rw [hU], by rw [hU]; exact hXH.moved hw.alike, hlt⟩
    have hbl : FrameBlind (va_Pc [Value.ref (a1 217), .int x] (fun U => U.heap.size = H.size ∧ va_X (a1 217) L xs U U.heap ∧ a1 217 < H.size)) := by
      intro a U g mk q
      obtain ⟨q0, q1, q2, q3⟩ := q
      exact ⟨q0, q1, q2.moved (U := U.calling g mk a) (Vm.Alike.refl U.vm), q3⟩
    have hr := vx_runS (As := [Value.ref (a1 217), .int x]) (rest := rest.map (cv (adz a1 a2))) (nL := M.mL) (Ts := GT) (own := M.y.cls) (cc := M.b) (g := F0 m pc cs (([Value.ref (a1 217), .int x]).reverse ++ rest.map (cv (adz a1 a2)))) (p := p) (l := l) (e := e) (below := below) (meth := meth) (locs := locs) (cells := k) (slots := n) ⟨F.1, F.2.1, F.2.2.2.1, F.2.2.2.2.1, hts⟩ (met_draw ed H.size) ⟨callB_okz F hw.1 hR, hts _ hw.2⟩ ⟨hbl, hg⟩ rfl rfl hl.2.1 rfl (lv_room (by rw [cat_cv]; exact hcat)) hd hR.2
    intro T hT X
    rcases hr T hT X with ⟨v2, st₀, t, T', L9, h0, X', hL, e1, e2, ⟨hv, hF⟩, stp⟩ | ⟨q, st₀, t, T', L9, E, ce, h0, X', hL, e1, e2, hv, -, -, -, -⟩
    · cases hv
      obtain ⟨k1, k2, k3⟩ := vx_keep (A0 := AZ a1 a2 s.heap.size) (H0 := s.heap) (free := fun q : Nat => H.size ≤ q) h0 e1 hS (fun q h1 h2 => absurd h1 (Nat.not_lt.mpr h2)) (fun q hq => Or.inl (Or.inr (Nat.le_trans hS.1 hq))) hL hF
      have w : ∀ (ad : Nat → Nat) (aC : Nat → ClassId) (hh : HP), Wd D ad aC hh s H → Wd D ad aC hh s T'.heap := fun ad aC hh hW => ⟨fun i q hq => (hW.1 i q hq).kept (k2 q.1 (hW.1 i q hq).lt (Nat.not_le.mpr (hW.1 i q hq).lt)), hW.2⟩
      have G := g p e s m args below meth c0 T'.heap (locs ++ L9) cs F k3 ⟨w _ _ _ hW.1, w _ _ _ hW.2⟩ hl
      obtain ⟨t2, b1, b2⟩ := G T' rfl X'
      exact ⟨t2, stp t2 b1, b2⟩
    · exact hv.elim
  · exact W_vacz hX
theorem gzLawRet (hk : k ≤ 600130) (hn : n ≤ 7301080) (hd : decode code pc = .ok (.ireturn, 1)) : Gz l D a1 a2 c1 c2 room_1 (QLz a1 a2 L xs) m_Q_law pc ls [.int 1] h k n := by
  intro p e s m args below meth c H locs cs F hS hW hl
  by_cases hX : SXz a1 a2 L xs args s
  · obtain ⟨rfl, hX2, hX3, hX4⟩ := id hX
    refine W_mono (Q := lw_Z below #[Value.ref (a1 217)] s) (fun t ht _ => ht) ?_
    refine va_forget (fun q hq => ?_) (W.widen hk hn (lw_ret F.1 F.2.1 F.2.2.1 F.2.2.2.2.2.2.2.1 hd))
    rcases hS.2.2 q hq with (⟨i, hi, e1⟩ | z) | (⟨i, hi, e1⟩ | z)
    · rw [e1]; exact (hX4 i hi).1
    · exact z
    · rw [e1]; exact (hX4 i hi).2
    · exact z
  · exact W_vacz hX
end LAWZ
