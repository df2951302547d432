/-! rules for branches, fields, arrays, statics -/
section HEAPR
variable {l : Launch} {D : va_G} {ad : Nat → Nat} {aC : Nat → ClassId} {R : Room} {QQ : List Frame → Array Value → State → State → Prop} {M : MI} {pc k n : Nat} {ls ls' : List (Option Value)} {st st' rest : List Value} {h h' : HP}
theorem Go.goto {off : Int} {tgt : Nat} (hd : decode M.b pc = .ok (.goto off, 3)) (ht : (pc : Int) + off = (tgt : Int)) (g : Go l D ad aC R QQ M tgt ls st h k n) : Go l D ad aC R QQ M pc ls st h k n :=
  fun p e s m args below meth c H locs cs F hS hW hl => lv_goto F.1 F.2.1 hd ht (g p e s m args below meth c H locs cs F hS hW hl)
theorem Go.if_eq {off : Int} {tgt : Nat} {x : Int32} (hd : decode M.b pc = .ok (.ifCond .eq off, 3)) (ht : (pc : Int) + off = (tgt : Int)) (a : x = 0 → Go l D ad aC R QQ M tgt ls st h k n) (b : ¬ x = 0 → Go l D ad aC R QQ M (pc + 3) ls st h k n) : Go l D ad aC R QQ M pc ls (.int x :: st) h k n :=
  fun p e s m args below meth c H locs cs F hS hW hl => lv_if_eq F.1 F.2.1 hd ht (fun z => a z p e s m args below meth c H locs cs F hS hW hl) (fun z => b z p e s m args below meth c H locs cs F hS hW hl)
theorem Go.if_ne {off : Int} {tgt : Nat} {x : Int32} (hd : decode M.b pc = .ok (.ifCond .ne off, 3)) (ht : (pc : Int) + off = (tgt : Int)) (a : ¬ x = 0 → Go l D ad aC R QQ M tgt ls st h k n) (b : x = 0 → Go l D ad aC R QQ M (pc + 3) ls st h k n) : Go l D ad aC R QQ M pc ls (.int x :: st) h k n :=
  fun p e s m args below meth c H locs cs F hS hW hl => lv_if_ne F.1 F.2.1 hd ht (fun z => a z p e s m args below meth c H locs cs F hS hW hl) (fun z => b z p e s m args below meth c H locs cs F hS hW hl)
theorem Go.if_lt {off : Int} {tgt : Nat} {x : Int32} (hd : decode M.b pc = .ok (.ifCond .lt off, 3)) (ht : (pc : Int) + off = (tgt : Int)) (a : x < 0 → Go l D ad aC R QQ M tgt ls st h k n) (b : ¬ x < 0 → Go l D ad aC R QQ M (pc + 3) ls st h k n) : Go l D ad aC R QQ M pc ls (.int x :: st) h k n :=
  fun p e s m args below meth c H locs cs F hS hW hl => lv_if_lt F.1 F.2.1 hd ht (fun z => a z p e s m args below meth c H locs cs F hS hW hl) (fun z => b z p e s m args below meth c H locs cs F hS hW hl)
theorem Go.if_ge {off : Int} {tgt : Nat} {x : Int32} (hd : decode M.b pc = .ok (.ifCond .ge off, 3)) (ht : (pc : Int) + off = (tgt : Int)) (a : 0 ≤ x → Go l D ad aC R QQ M tgt ls st h k n) (b : ¬ 0 ≤ x → Go l D ad aC R QQ M (pc + 3) ls st h k n) : Go l D ad aC R QQ M pc ls (.int x :: st) h k n :=
  fun p e s m args below meth c H locs cs F hS hW hl => lv_if_ge F.1 F.2.1 hd ht (fun z => a z p e s m args below meth c H locs cs F hS hW hl) (fun z => b z p e s m args below meth c H locs cs F hS hW hl)
theorem Go.if_gt {off : Int} {tgt : Nat} {x : Int32} (hd : decode M.b pc = .ok (.ifCond .gt off, 3)) (ht : (pc : Int) + off = (tgt : Int)) (a : 0 < x → Go l D ad aC R QQ M tgt ls st h k n) (b : ¬ 0 < x → Go l D ad aC R QQ M (pc + 3) ls st h k n) : Go l D ad aC R QQ M pc ls (.int x :: st) h k n :=
  fun p e s m args below meth c H locs cs F hS hW hl => lv_if_gt F.1 F.2.1 hd ht (fun z => a z p e s m args below meth c H locs cs F hS hW hl) (fun z => b z p e s m args below meth c H locs cs F hS hW hl)
theorem Go.if_le {off : Int} {tgt : Nat} {x : Int32} (hd : decode M.b pc = .ok (.ifCond .le off, 3)) (ht : (pc : Int) + off = (tgt : Int)) (a : x ≤ 0 → Go l D ad aC R QQ M tgt ls st h k n) (b : ¬ x ≤ 0 → Go l D ad aC R QQ M (pc + 3) ls st h k n) : Go l D ad aC R QQ M pc ls (.int x :: st) h k n :=
  fun p e s m args below meth c H locs cs F hS hW hl => lv_if_le F.1 F.2.1 hd ht (fun z => a z p e s m args below meth c H locs cs F hS hW hl) (fun z => b z p e s m args below meth c H locs cs F hS hW hl)
theorem Go.ic_eq {off : Int} {tgt : Nat} {x y : Int32} (hd : decode M.b pc = .ok (.if_icmp .eq off, 3)) (ht : (pc : Int) + off = (tgt : Int)) (a : x = y → Go l D ad aC R QQ M tgt ls st h k n) (b : ¬ x = y → Go l D ad aC R QQ M (pc + 3) ls st h k n) : Go l D ad aC R QQ M pc ls (.int y :: .int x :: st) h k n :=
  fun p e s m args below meth c H locs cs F hS hW hl => lv_icmp_eq F.1 F.2.1 hd ht (fun z => a z p e s m args below meth c H locs cs F hS hW hl) (fun z => b z p e s m args below meth c H locs cs F hS hW hl)
theorem Go.ic_ne {off : Int} {tgt : Nat} {x y : Int32} (hd : decode M.b pc = .ok (.if_icmp .ne off, 3)) (ht : (pc : Int) + off = (tgt : Int)) (a : ¬ x = y → Go l D ad aC R QQ M tgt ls st h k n) (b : x = y → Go l D ad aC R QQ M (pc + 3) ls st h k n) : Go l D ad aC R QQ M pc ls (.int y :: .int x :: st) h k n :=
  fun p e s m args below meth c H locs cs F hS hW hl => lv_icmp_ne F.1 F.2.1 hd ht (fun z => a z p e s m args below meth c H locs cs F hS hW hl) (fun z => b z p e s m args below meth c H locs cs F hS hW hl)
theorem Go.ic_lt {off : Int} {tgt : Nat} {x y : Int32} (hd : decode M.b pc = .ok (.if_icmp .lt off, 3)) (ht : (pc : Int) + off = (tgt : Int)) (a : x < y → Go l D ad aC R QQ M tgt ls st h k n) (b : ¬ x < y → Go l D ad aC R QQ M (pc + 3) ls st h k n) : Go l D ad aC R QQ M pc ls (.int y :: .int x :: st) h k n :=
  fun p e s m args below meth c H locs cs F hS hW hl => lv_icmp_lt F.1 F.2.1 hd ht (fun z => a z p e s m args below meth c H locs cs F hS hW hl) (fun z => b z p e s m args below meth c H locs cs F hS hW hl)
theorem Go.ic_ge {off : Int} {tgt : Nat} {x y : Int32} (hd : decode M.b pc = .ok (.if_icmp .ge off, 3)) (ht : (pc : Int) + off = (tgt : Int)) (a : y ≤ x → Go l D ad aC R QQ M tgt ls st h k n) (b : ¬ y ≤ x → Go l D ad aC R QQ M (pc + 3) ls st h k n) : Go l D ad aC R QQ M pc ls (.int y :: .int x :: st) h k n :=
  fun p e s m args below meth c H locs cs F hS hW hl => lv_icmp_ge F.1 F.2.1 hd ht (fun z => a z p e s m args below meth c H locs cs F hS hW hl) (fun z => b z p e s m args below meth c H locs cs F hS hW hl)
theorem Go.ic_gt {off : Int} {tgt : Nat} {x y : Int32} (hd : decode M.b pc = .ok (.if_icmp .gt off, 3)) (ht : (pc : Int) + off = (tgt : Int)) (a : y < x → Go l D ad aC R QQ M tgt ls st h k n) (b : ¬ y < x → Go l D ad aC R QQ M (pc + 3) ls st h k n) : Go l D ad aC R QQ M pc ls (.int y :: .int x :: st) h k n :=
  fun p e s m args below meth c H locs cs F hS hW hl => lv_icmp_gt F.1 F.2.1 hd ht (fun z => a z p e s m args below meth c H locs cs F hS hW hl) (fun z => b z p e s m args below meth c H locs cs F hS hW hl)
theorem Go.ic_le {off : Int} {tgt : Nat} {x y : Int32} (hd : decode M.b pc = .ok (.if_icmp .le off, 3)) (ht : (pc : Int) + off = (tgt : Int)) (a : x ≤ y → Go l D ad aC R QQ M tgt ls st h k n) (b : ¬ x ≤ y → Go l D ad aC R QQ M (pc + 3) ls st h k n) : Go l D ad aC R QQ M pc ls (.int y :: .int x :: st) h k n :=
  fun p e s m args below meth c H locs cs F hS hW hl => lv_icmp_le F.1 F.2.1 hd ht (fun z => a z p e s m args below meth c H locs cs F hS hW hl) (fun z => b z p e s m args below meth c H locs cs F hS hW hl)
theorem Go.tsIn {dflt lo hi : Int} {offs : Array Int} {len : Nat} {x : Int32} {off : Int} {tgt : Nat} (v : Int) (hd : decode M.b pc = .ok (.tableswitch dflt lo hi offs, len)) (hx : x.toInt = v) (h1 : ¬ v < lo) (h2 : ¬ hi < v) (ho : offs[(v - lo).toNat]? = some off) (ht : (pc : Int) + off = (tgt : Int)) (g : Go l D ad aC R QQ M tgt ls st h k n) : Go l D ad aC R QQ M pc ls (.int x :: st) h k n :=
  fun p e s m args below meth c H locs cs F hS hW hl => lv_tableIn F.1 F.2.1 hd (by rw [hx]; exact h1) (by rw [hx]; exact h2) (by rw [hx]; exact ho) ht (g p e s m args below meth c H locs cs F hS hW hl)
theorem Go.tsOut {dflt lo hi : Int} {offs : Array Int} {len : Nat} {x : Int32} {tgt : Nat} (hd : decode M.b pc = .ok (.tableswitch dflt lo hi offs, len)) (hx : x.toInt < lo ∨ hi < x.toInt) (ht : (pc : Int) + dflt = (tgt : Int)) (g : Go l D ad aC R QQ M tgt ls st h k n) : Go l D ad aC R QQ M pc ls (.int x :: st) h k n :=
  fun p e s m args below meth c H locs cs F hS hW hl => lv_tableOut F.1 F.2.1 hd hx ht (g p e s m args below meth c H locs cs F hS hW hl)
theorem Go.lks {dflt : Int} {ps : Array (Int × Int)} {len : Nat} {x : Int32} {off : Int} {tgt : Nat} (hd : decode M.b pc = .ok (.lookupswitch dflt ps, len)) (hp : (ps.toList.zip (ps.toList.drop 1)).all (fun (a, next) => a.1 < next.1) = true) (ho : Op.lookupswitch.offset ps.toList dflt x.toInt = off) (ht : (pc : Int) + off = (tgt : Int)) (g : Go l D ad aC R QQ M tgt ls st h k n) : Go l D ad aC R QQ M pc ls (.int x :: st) h k n :=
  fun p e s m args below meth c H locs cs F hS hW hl => lv_lookup F.1 F.2.1 hd hp ho ht (g p e s m args below meth c H locs cs F hS hW hl)
theorem Go.ldc2 {idx : Nat} {v : Int64} (hw : Cond.constantLong M.y.cls idx v ∈ GT) (hd : decode M.b pc = .ok (.ldc2_w idx, 3)) (g : Go l D ad aC R QQ M (pc + 3) ls (.long v :: st) h k n) : Go l D ad aC R QQ M pc ls st h k n :=
  fun p e s m args below meth c H locs cs F hS hW hl => lv_ldc2 F.1 F.2.1 F.2.2.2.2.1 (F.2.2.2.2.2.1 _ hw) hd (g p e s m args below meth c H locs cs F hS hW hl)
theorem Go.ldcI {idx : Nat} {v : Int32} (hw : Cond.constant M.y.cls idx v ∈ GT) (hd : decode M.b pc = .ok (.ldc idx, 2)) (g : Go l D ad aC R QQ M (pc + 2) ls (.int v :: st) h k n) : Go l D ad aC R QQ M pc ls st h k n :=
  fun p e s m args below meth c H locs cs F hS hW hl => lv_ldc F.1 F.2.1 F.2.2.2.2.1 (F.2.2.2.2.2.1 _ hw) hd (g p e s m args below meth c H locs cs F hS hW hl)
theorem Go.ldcwI {idx : Nat} {v : Int32} (hw : Cond.constant M.y.cls idx v ∈ GT) (hd : decode M.b pc = .ok (.ldc_w idx, 3)) (g : Go l D ad aC R QQ M (pc + 3) ls (.int v :: st) h k n) : Go l D ad aC R QQ M pc ls st h k n :=
  fun p e s m args below meth c H locs cs F hS hW hl => lv_ldcw F.1 F.2.1 F.2.2.2.2.1 (F.2.2.2.2.2.1 _ hw) hd (g p e s m args below meth c H locs cs F hS hW hl)
/-- forgetting locals -/
theorem Go.wk (hlen : ls'.length = ls.length) (hs : ∀ (i : Nat) (v : Value), ls'[i]? = some (some v) → ls[i]? = some (some v)) (g : Go l D ad aC R QQ M pc ls' st h k n) : Go l D ad aC R QQ M pc ls st h k n :=
  fun p e s m args below meth c H locs cs F hS hW hl => g p e s m args below meth c H locs cs F hS hW (hl.wk hlen hs)
theorem Go.wid {k' n' : Nat} (h1 : k ≤ k') (h2 : n ≤ n') (g : Go l D ad aC R QQ M pc ls st h k' n') : Go l D ad aC R QQ M pc ls st h k n :=
  fun p e s m args below meth c H locs cs F hS hW hl => W.widen h1 h2 (g p e s m args below meth c H locs cs F hS hW hl)
def wkB : List (Option Value) → List (Option Value) → Bool
  | [], [] => true
  | none :: a, _ :: b => wkB a b
  | some _ :: a, some _ :: b => wkB a b
  | _, _ => false
/-! fields -/
def FOK (own : String) (idx c j : Nat) (r : Bool) : Prop := ∃ (C : String) (T : u_T) (N : Nat), clsL[c]? = some (C, T, N) ∧ j < N ∧ nF c = N ∧ 0 < c ∧ c < 10 ∧ isR c j = r ∧ (T j).1 = C ∧ (∀ w ∈ u_ws C T N, w ∈ GT) ∧
  ((Cond.fieldLink own idx C (T j).2.1 (T j).2.2.1) ∈ GT ∨ ∃ host : String, (Cond.fieldLinkNest own idx C (T j).2.1 (T j).2.2.1 host) ∈ NWs)
theorem range_map_at {α : Type} (f : Nat → α) {N j : Nat} (hj : j < N) : ((List.range N).map f)[j]? = some (f j) := by simp [hj]
theorem Go.get {c j idx a : Nat} {r : Bool} {v : Value} (hf : FOK M.y.cls idx c j r) (hka : knd a = c) (hv : v = (if r = true then Value.ref (fld a j) else .int (h a j))) (hd : decode M.b pc = .ok (.getfield idx, 3))
    (g : Go l D ad aC R QQ M (pc + 3) ls (v :: st) h k n) : Go l D ad aC R QQ M pc ls (.ref a :: st) h k n := by
  intro p e s m args below meth c0 H locs cs F hS hW hl
  obtain ⟨C, T, N, hc, hj, hN, h0, h10, hr, hT1, hin, hlk⟩ := hf
  have ha : a < 200 := knd_in hka (by omega) (by omega)
  have he : (wl ad aC h)[a]? = some (ad a, .inr (c, (List.range N).map (fun k => if isR c k = true then Value.ref (ad (fld a k)) else .int (h a k)))) := by
    rw [wl_at ad aC h ha, ent_o hka h10, hN]
  have hfv : ((List.range N).map (fun k => if isR c k = true then Value.ref (ad (fld a k)) else Value.int (h a k)))[j]? = some (cv ad v) := by
    rw [range_map_at _ hj, hr, hv]
    cases r <;> rfl
  have G := g p e s m args below meth c0 H locs cs F hS hW hl
  have hK := hW.2.1
  rcases hlk with hlk | ⟨host, hlk⟩
  · exact va_get (ref := C) F.1 F.2.1 F.2.2.2.2.2.1 hin F.2.2.2.2.1 hK hW.1 a he hc j hj (F.2.2.2.2.2.1 _ hlk) (fun x9 h9 => by rw [hT1] at h9; exact h9) hfv hd G
  · exact va_getN (ref := C) (host := host) F.1 F.2.1 F.2.2.2.2.2.1 hin F.2.2.2.2.1 hK hW.1 a he hc j hj (va_Nw.use rfl (F.ev.1 _ hlk)) (fun x9 h9 => by rw [hT1] at h9; exact h9) hfv hd G
theorem Go.getI {c j idx a : Nat} (hf : FOK M.y.cls idx c j false) (hka : knd a = c) (hd : decode M.b pc = .ok (.getfield idx, 3))
    (g : Go l D ad aC R QQ M (pc + 3) ls (.int (h a j) :: st) h k n) : Go l D ad aC R QQ M pc ls (.ref a :: st) h k n := Go.get hf hka rfl hd g
theorem Go.getR {c j idx a : Nat} (hf : FOK M.y.cls idx c j true) (hka : knd a = c) (hd : decode M.b pc = .ok (.getfield idx, 3))
    (g : Go l D ad aC R QQ M (pc + 3) ls (.ref (fld a j) :: st) h k n) : Go l D ad aC R QQ M pc ls (.ref a :: st) h k n := Go.get hf hka rfl hd g
def POK (own : String) (idx c j : Nat) (ty : FieldType) : Prop := ∃ (C : String) (T : u_T) (N : Nat), clsL[c]? = some (C, T, N) ∧ j < N ∧ nF c = N ∧ 0 < c ∧ c < 10 ∧ isR c j = false ∧ (T j).1 = C ∧ (∀ w ∈ u_ws C T N, w ∈ GT) ∧
  ((Cond.fieldLink own idx C (T j).2.1 (T j).2.2.1) ∈ GT ∨ ∃ host : String, (Cond.fieldLinkNest own idx C (T j).2.1 (T j).2.2.1 host) ∈ NWs) ∧
  (∃ ty0 : Nat → FieldType, (∀ k, k < N → parseFieldDescriptor (T k).2.2.1 = some (ty0 k)) ∧ ty0 j = ty) ∧ (∀ a, a < N → ∀ b, b < N → a ≠ b → (T a).2.1 ≠ (T b).2.1) ∧ (T j).2.2.2 = false
theorem Go.put {c j idx a : Nat} {ty : FieldType} {x : Int32} (hI : Inj ad) (hf : POK M.y.cls idx c j ty) (hka : knd a = c) (hn : narrow ty (.int x) = .int x) (hfit : fits ty (.int x) = true) (hd : decode M.b pc = .ok (.putfield idx, 3))
    (g : Go l D ad aC R QQ M (pc + 3) ls st (hset h a j x) k n) : Go l D ad aC R QQ M pc ls (.int x :: .ref a :: st) h k n := by
  intro p e s m args below meth c0 H locs cs F hS hW hl
  obtain ⟨C, T, N, hc, hj, hN, h0, h10, hr, hT1, hin, hlk, ⟨ty0, hty, htj⟩, hnm, hfin⟩ := hf
  have ha : a < 200 := knd_in hka (by omega) (by omega)
  have he : (wl ad aC h)[a]? = some (ad a, .inr (c, (List.range N).map (fun k => if isR c k = true then Value.ref (ad (fld a k)) else .int (h a k)))) := by
    rw [wl_at ad aC h ha, ent_o hka h10, hN]
  have hset1 : ((List.range N).map (fun k => if isR c k = true then Value.ref (ad (fld a k)) else Value.int (h a k))).set j (.int x) = (List.range N).map (fun k => if isR c k = true then Value.ref (ad (fld a k)) else Value.int (upd (h a) j x k)) := by
    apply List.ext_getElem?
    intro i
    rw [List.getElem?_set]
    by_cases hi : i < N
    · by_cases q : j = i
      · subst q
        rw [if_pos rfl, range_map_at _ hi, hr]
        simp [hj, upd]
      · rw [if_neg q, range_map_at _ hi, range_map_at _ hi]
        have : upd (h a) j x i = h a i := by unfold upd; rw [if_neg (fun z => q z.symm)]
        rw [this]
    · have q : ¬ j = i := by omega
      rw [if_neg q, List.getElem?_eq_none (by simp; omega), List.getElem?_eq_none (by simp; omega)]
  have hws : (wl ad aC h).set a (ad a, .inr (c, ((List.range N).map (fun k => if isR c k = true then Value.ref (ad (fld a k)) else Value.int (h a k))).set j (.int x))) = wl ad aC (hset h a j x) := by
    rw [hset_eq]
    refine wl_set ?_
    rw [ent_o hka h10, hset1, hN]
    simp only [hrow_s]
  have hK := hW.2.1
  have kk : ∀ (H1 : Heap) (locs1 : List Loc), va_P D clsL ((wl ad aC h).set a (ad a, .inr (c, ((List.range N).map (fun k => if isR c k = true then Value.ref (ad (fld a k)) else Value.int (h a k))).set j (.int x)))) H1 → va_D (AA ad s.heap.size) ((wl ad aC h).set a (ad a, .inr (c, ((List.range N).map (fun k => if isR c k = true then Value.ref (ad (fld a k)) else Value.int (h a k))).set j (.int x)))) → va_S (AA ad s.heap.size) s.heap H1 locs1 → W p l e R s m args below meth c0 H1 locs1 k n (QQ below args s) (F0 m (pc + 3) cs (st.map (cv ad))) := by
    intro H1 locs1 hP1 _ hS1
    rw [hws] at hP1
    exact g p e s m args below meth c0 H1 locs1 cs F hS1 ⟨hP1, hW.2⟩ hl
  have hfs : j < ((List.range N).map (fun k => if isR c k = true then Value.ref (ad (fld a k)) else Value.int (h a k))).length := by simpa using hj
  rcases hlk with hlk | ⟨host, hlk⟩
  · exact va_put (ref := C) F.1 F.2.1 F.2.2.2.2.2.1 hin ty0 hty hnm F.2.2.2.2.1 hK hW.1 (wl_D hI h _) hS a he hc j hj (F.2.2.2.2.2.1 _ hlk) (fun x9 h9 => by rw [hT1] at h9; exact h9) hfin (by rw [← htj]; exact hty j hj) hn hfit hfs hd kk
  · exact va_putN (ref := C) (host := host) F.1 F.2.1 F.2.2.2.2.2.1 hin ty0 hty hnm F.2.2.2.2.1 hK hW.1 (wl_D hI h _) hS a he hc j hj (va_Nw.use rfl (F.ev.1 _ hlk)) (fun x9 h9 => by rw [hT1] at h9; exact h9) hfin (by rw [← htj]; exact hty j hj) hn hfit hfs hd kk
/-! arrays -/
/-- an index within -/
def ib (j : Int32) (N : Nat) : Bool := !(decide (j < 0)) && Nat.blt j.toNatClampNeg N
theorem ib_in {j : Int32} {N : Nat} (h : ib j N = true) : vp_in j N := by
  simp only [ib, Bool.and_eq_true, Bool.not_eq_true', decide_eq_false_iff_not, Nat.blt_eq] at h
  intro q
  rcases q with q | q
  · exact h.1 q
  · omega
theorem Go.iald {a N : Nat} {j : Int32} (hk : knd a = 10) (hN : alen a = N) (hj : ib j N = true) (hd : decode M.b pc = .ok (.iaload, 1)) (g : Go l D ad aC R QQ M (pc + 1) ls (.int (h a j.toNatClampNeg) :: st) h k n) : Go l D ad aC R QQ M pc ls (.int j :: .ref a :: st) h k n := by
  intro p e s m args below meth c H locs cs F hS hW hl
  have ha : a < 200 := knd_in hk (by omega) (by omega)
  exact va_iald F.1 F.2.1 (hW.2.arr hk (by omega) (by omega)) hW.1 a 0 (by rw [wl_at ad aC h ha, ent_i hk (by omega)]) rfl (by rw [hN]; exact ib_in hj) hd (g p e s m args below meth c H locs cs F hS hW hl)
theorem Go.bald {a N : Nat} {j : Int32} (hk : knd a = 11) (hN : alen a = N) (hj : ib j N = true) (hd : decode M.b pc = .ok (.baload, 1)) (g : Go l D ad aC R QQ M (pc + 1) ls (.int (h a j.toNatClampNeg) :: st) h k n) : Go l D ad aC R QQ M pc ls (.int j :: .ref a :: st) h k n := by
  intro p e s m args below meth c H locs cs F hS hW hl
  have ha : a < 200 := knd_in hk (by omega) (by omega)
  exact va_zald F.1 F.2.1 (hW.2.arr hk (by omega) (by omega)) hW.1 a 0 (by rw [wl_at ad aC h ha, ent_i hk (by omega)]) rfl (by rw [hN]; exact ib_in hj) hd (g p e s m args below meth c H locs cs F hS hW hl)
theorem Go.cald {a N : Nat} {j : Int32} (hk : knd a = 12) (hN : alen a = N) (hj : ib j N = true) (hd : decode M.b pc = .ok (.caload, 1)) (g : Go l D ad aC R QQ M (pc + 1) ls (.int (h a j.toNatClampNeg) :: st) h k n) : Go l D ad aC R QQ M pc ls (.int j :: .ref a :: st) h k n := by
  intro p e s m args below meth c H locs cs F hS hW hl
  have ha : a < 200 := knd_in hk (by omega) (by omega)
  exact va_cald F.1 F.2.1 (hW.2.arr hk (by omega) (by omega)) hW.1 a 0 (by rw [wl_at ad aC h ha, ent_i hk (by omega)]) rfl (by rw [hN]; exact ib_in hj) hd (g p e s m args below meth c H locs cs F hS hW hl)
theorem Go.lald {a N : Nat} {j : Int32} (hk : knd a = 13) (hN : alen a = N) (hj : ib j N = true) (hd : decode M.b pc = .ok (.laload, 1)) (g : Go l D ad aC R QQ M (pc + 1) ls (.long (h a j.toNatClampNeg).toInt64 :: st) h k n) : Go l D ad aC R QQ M pc ls (.int j :: .ref a :: st) h k n := by
  intro p e s m args below meth c H locs cs F hS hW hl
  have ha : a < 200 := knd_in hk (by omega) (by omega)
  exact va_lald (f := fun j => (h a j).toInt64) F.1 F.2.1 (hW.2.arr hk (by omega) (by omega)) hW.1 a 0 (by rw [wl_at ad aC h ha, ent_l hk]) rfl (by rw [hN]; exact ib_in hj) hd (g p e s m args below meth c H locs cs F hS hW hl)
theorem Go.aald {a N : Nat} {j : Int32} (hk : knd a = 14) (hN : alen a = N) (hj : ib j N = true) (hd : decode M.b pc = .ok (.aaload, 1)) (g : Go l D ad aC R QQ M (pc + 1) ls (.ref (fld a j.toNatClampNeg) :: st) h k n) : Go l D ad aC R QQ M pc ls (.int j :: .ref a :: st) h k n := by
  intro p e s m args below meth c H locs cs F hS hW hl
  have ha : a < 200 := knd_in hk (by omega) (by omega)
  exact va_aldq (C := "FairWalls$State") (f := fun j => some (ad (fld a j))) F.1 F.2.1 (hW.2.arr hk (by omega) (by omega)) hW.1 a 0 (by rw [wl_at ad aC h ha, ent_q hk]) rfl (by rw [hN]; exact ib_in hj) hd (g p e s m args below meth c H locs cs F hS hW hl)
theorem wl_row {a c : Nat} {f : Nat → Int32} (hk : knd a = c) (hc : c = 10 ∨ c = 11 ∨ c = 12) : (wl ad aC h).set a (ad a, .inl (aC a, alen a, .inl f)) = wl ad aC (hrow h a f) := wl_set (by rw [ent_i hk hc, hrow_s])
theorem Go.iast {a N : Nat} {j x : Int32} (hI : Inj ad) (hk : knd a = 10) (hN : alen a = N) (hj : ib j N = true) (hd : decode M.b pc = .ok (.iastore, 1)) (g : Go l D ad aC R QQ M (pc + 1) ls st (hset h a j.toNatClampNeg x) k n) : Go l D ad aC R QQ M pc ls (.int x :: .int j :: .ref a :: st) h k n := by
  intro p e s m args below meth c H locs cs F hS hW hl
  have ha : a < 200 := knd_in hk (by omega) (by omega)
  refine va_iast F.1 F.2.1 (hW.2.arr hk (by omega) (by omega)) hW.1 (wl_D hI h _) hS a 0 (by rw [wl_at ad aC h ha, ent_i hk (by omega)]) rfl (by rw [hN]; exact ib_in hj) hd (fun H1 locs1 hP1 _ hS1 => ?_)
  rw [wl_row hk (by omega), ← hset_eq] at hP1
  exact g p e s m args below meth c H1 locs1 cs F hS1 ⟨hP1, hW.2⟩ hl
theorem Go.bast {a N : Nat} {j x : Int32} (hI : Inj ad) (hk : knd a = 11) (hN : alen a = N) (hj : ib j N = true) (hx : vp_nar .boolean x = x) (hd : decode M.b pc = .ok (.bastore, 1)) (g : Go l D ad aC R QQ M (pc + 1) ls st (hset h a j.toNatClampNeg x) k n) : Go l D ad aC R QQ M pc ls (.int x :: .int j :: .ref a :: st) h k n := by
  intro p e s m args below meth c H locs cs F hS hW hl
  have ha : a < 200 := knd_in hk (by omega) (by omega)
  refine va_zast F.1 F.2.1 (hW.2.arr hk (by omega) (by omega)) hW.1 (wl_D hI h _) hS a 0 (by rw [wl_at ad aC h ha, ent_i hk (by omega)]) rfl (by rw [hN]; exact ib_in hj) hd (fun H1 locs1 hP1 _ hS1 => ?_)
  rw [hx, wl_row hk (by omega), ← hset_eq] at hP1
  exact g p e s m args below meth c H1 locs1 cs F hS1 ⟨hP1, hW.2⟩ hl
theorem Go.cast {a N : Nat} {j x : Int32} (hI : Inj ad) (hk : knd a = 12) (hN : alen a = N) (hj : ib j N = true) (hx : vp_nar .char x = x) (hd : decode M.b pc = .ok (.castore, 1)) (g : Go l D ad aC R QQ M (pc + 1) ls st (hset h a j.toNatClampNeg x) k n) : Go l D ad aC R QQ M pc ls (.int x :: .int j :: .ref a :: st) h k n := by
  intro p e s m args below meth c H locs cs F hS hW hl
  have ha : a < 200 := knd_in hk (by omega) (by omega)
  refine va_cast F.1 F.2.1 (hW.2.arr hk (by omega) (by omega)) hW.1 (wl_D hI h _) hS a 0 (by rw [wl_at ad aC h ha, ent_i hk (by omega)]) rfl (by rw [hN]; exact ib_in hj) hd (fun H1 locs1 hP1 _ hS1 => ?_)
  rw [hx, wl_row hk (by omega), ← hset_eq] at hP1
  exact g p e s m args below meth c H1 locs1 cs F hS1 ⟨hP1, hW.2⟩ hl
theorem Go.last {a N : Nat} {j x : Int32} (hI : Inj ad) (hk : knd a = 13) (hN : alen a = N) (hj : ib j N = true) (hd : decode M.b pc = .ok (.lastore, 1)) (g : Go l D ad aC R QQ M (pc + 1) ls st (hset h a j.toNatClampNeg x) k n) : Go l D ad aC R QQ M pc ls (.long x.toInt64 :: .int j :: .ref a :: st) h k n := by
  intro p e s m args below meth c H locs cs F hS hW hl
  have ha : a < 200 := knd_in hk (by omega) (by omega)
  refine va_last (f := fun j => (h a j).toInt64) F.1 F.2.1 (hW.2.arr hk (by omega) (by omega)) hW.1 (wl_D hI h _) hS a 0 (by rw [wl_at ad aC h ha, ent_l hk]) rfl (by rw [hN]; exact ib_in hj) hd (fun H1 locs1 hP1 _ hS1 => ?_)
  have e1 : vp_updL (fun j => (h a j).toInt64) j.toNatClampNeg x.toInt64 = fun i => (upd (h a) j.toNatClampNeg x i).toInt64 := by
    funext i
    unfold vp_updL upd
    by_cases q : i = j.toNatClampNeg
    · rw [if_pos q, if_pos q]
    · rw [if_neg q, if_neg q]
  rw [e1, wl_set (f := upd (h a) j.toNatClampNeg x) (by rw [ent_l hk, hrow_s]), ← hset_eq] at hP1
  exact g p e s m args below meth c H1 locs1 cs F hS1 ⟨hP1, hW.2⟩ hl
/-! static arrays -/
def SOK (own : String) (idx i : Nat) : Prop := 212 ≤ i ∧ i < 215 ∧ Cond.fieldLink own idx (sCN i).1 (sCN i).2 "[I" ∈ GT
theorem Go.gets {i idx : Nat} (hf : SOK M.y.cls idx i) (hd : decode M.b pc = .ok (.getstatic idx, 3)) (g : Go l D ad aC R QQ M (pc + 3) ls (.ref i :: st) h k n) : Go l D ad aC R QQ M pc ls st h k n :=
  fun p e s m args below meth c H locs cs F hS hW hl => va_gets (ref := (sCN i).1) F.1 F.2.1 (F.ev.2.1 i hf.1 hf.2.1).1 hS F.2.2.2.2.1 (F.2.2.2.2.2.1 _ hf.2.2) (fun x9 h9 => h9) hd (g p e s m args below meth c H locs cs F hS hW hl)
theorem Go.sald {i N : Nat} {j : Int32} (h1 : 212 ≤ i) (h2 : i < 215) (hN : alen i = N) (hj : ib j N = true) (hd : decode M.b pc = .ok (.iaload, 1)) (g : Go l D ad aC R QQ M (pc + 1) ls (.int (sarr i j.toNatClampNeg) :: st) h k n) : Go l D ad aC R QQ M pc ls (.int j :: .ref i :: st) h k n :=
  fun p e s m args below meth c H locs cs F hS hW hl => va_ti F.1 F.2.1 (F.ev.2.1 i h1 h2).2 hS (by rw [hN]; exact ib_in hj) rfl hd (g p e s m args below meth c H locs cs F hS hW hl)
theorem Go.slen {i : Nat} {v : Int32} (h1 : 212 ≤ i) (h2 : i < 215) (hN : Int32.ofNat (alen i) = v) (hd : decode M.b pc = .ok (.arraylength, 1)) (g : Go l D ad aC R QQ M (pc + 1) ls (.int v :: st) h k n) : Go l D ad aC R QQ M pc ls (.ref i :: st) h k n :=
  fun p e s m args below meth c H locs cs F hS hW hl => va_tlen F.1 F.2.1 (F.ev.2.1 i h1 h2).2 hS hN hd (g p e s m args below meth c H locs cs F hS hW hl)
end HEAPR
