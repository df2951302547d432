/-! calls of the law: what a wrapper makes of an answer -/
def xIX : Int64 := (-9000000000000000001)
def xAR : Int64 := (-9000000000000000002)
def xST : Int64 := (-9000000000000000003)
def wrapN (r : Res × HP) : Option (Int64 × HP) := match r.1 with
  | .inl (some (.int v)) => some (v.toInt64, r.2)
  | _ => none
def wrapL (ES : List (String × Int64)) (r : Res × HP) : Option (Int64 × HP) := match r.1 with
  | .inl (some (.int v)) => some (v.toInt64, r.2)
  | .inl _ => none
  | .inr E => if (ES[0]?).map (fun q => q.1) = some E then some ((ES.getD 0 ("", 0)).2, r.2) else if (ES[1]?).map (fun q => q.1) = some E then some ((ES.getD 1 ("", 0)).2, r.2) else none
section LAWC
variable {l : Launch} {D : va_G} {ad : Nat → Nat} {aC : Nat → ClassId} {M M2 : MI} {pc k n idx : Nat} {ls ls' : List (Option Value)} {st st' rest as : List Value} {h h1 : HP} {own : String} {nn : Nat} {res : Res}
/-- a static method with a table of its own -/
def WH (own : String) (idx : Nat) (M2 : MI) (n : Nat) : Prop := Cond.methodLink own idx M2.y ∈ GT ∧ Cond.initialized M2.y.cls ∈ GT ∧ codeW M2 ∈ GT ∧ M2.hh ≠ [] ∧ (M2.y.cls ≠ "java/lang/invoke/MethodHandle" ∧ M2.y.cls ≠ "java/lang/invoke/VarHandle") ∧ (parseMethodDescriptor M2.y.desc).map (fun d => d.parameters.length) = some n ∧ Cond.static M2.y ∈ GT
theorem codeW_h (hh : M2.hh ≠ []) : codeW M2 = Cond.codeWith M2.y M2.b M2.mL M2.ret M2.hh := by
  unfold codeW
  split
  · rename_i h; exact absurd h hh
  · rfl
theorem Go.callH {R : Room} {QQ : List Frame → Array Value → State → State → Prop} {nn : Nat} {v : Option Value} (hct : CT l D ad aC M2 as h (.inl v) h1) (hw : WH M.y.cls idx M2 nn) (hd : decode M.b pc = .ok (.invokestatic idx, 3)) (hst : st = as.reverse ++ rest) (hn : as.length = nn) (hR : RoomOK R M2 k n) (hcat : (rest.map fun v => v.category).sum ≤ 8)
    (g : Go l D ad aC R QQ M (pc + 3) ls (v.toList ++ rest) h1 (k + M2.mc) (n + 6 * M2.mc)) : Go l D ad aC R QQ M pc ls st h k n := by
  intro p e s m args below meth c0 H locs cs F hS hW hl
  have hts := F.2.2.2.2.2.1
  obtain ⟨w1, w2, w3, w4, w5, w6, w7⟩ := hw
  have hc := codeW_h w4
  have hstk : st.map (cv ad) = (as.map (cv ad)).reverse ++ rest.map (cv ad) := by
    rw [hst, map_app_cv, List.map_reverse]
  rw [hstk]
  refine backR F hS hW hl (vx_runSX (hh := M2.hh) (bytes := M2.b) (maxL := M2.mL) (ret := M2.ret) (n := nn) (As := as.map (cv ad)) (rest := rest.map (cv ad)) (nL := M.mL) (Ts := GT) (own := M.y.cls) (cc := M.b) ⟨F.1, F.2.1, F.2.2.2.1, F.2.2.2.2.1, hts⟩ (hct H.size) ⟨⟨rfl, rfl, hR.1.1, hR.1.2, payM hts w3, by rw [← hc]; exact List.mem_cons_self⟩, by rw [← hc]; exact hts _ w3, hts _ w2, w5, fun sig hs => ?_, hts _ w1, hts _ w7⟩ ⟨blindP, givenP F.ev hS hW⟩ rfl (by rw [List.length_map]; exact hn) hl.2.1 rfl (lv_room (by rw [cat_cv]; exact hcat)) hd hR.2) g
  rw [hs] at w6
  exact (Option.some.inj w6).symm
theorem WH.mr (w : WH own idx M nn) : WH own idx (mr M res) nn := w
end LAWC
