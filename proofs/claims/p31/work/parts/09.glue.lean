/-! what the printed rows use -/
theorem ite_t {α : Type} {c : Prop} [Decidable c] {a b : Option α} {r : α} (hc : c) (e : (if c then a else b) = some r) : a = some r := by rwa [if_pos hc] at e
theorem ite_f {α : Type} {c : Prop} [Decidable c] {a b : Option α} {r : α} (hc : ¬ c) (e : (if c then a else b) = some r) : b = some r := by rwa [if_neg hc] at e
theorem gd_inv {α : Type} {c : Prop} [Decidable c] {a : Option α} {r : α} (e : (if c then a else none) = some r) : c ∧ a = some r := by
  by_cases hc : c
  · rw [if_pos hc] at e; exact ⟨hc, e⟩
  · rw [if_neg hc] at e; cases e
theorem bd_inv {α β : Type} {o : Option α} {f : α → Option β} {r : β} (e : o.bind f = some r) : ∃ a, o = some a ∧ f a = some r := by
  cases o with
  | none => cases e
  | some a => exact ⟨a, rfl, e⟩
theorem no_none {α : Type} {r : α} {P : Prop} (e : (none : Option α) = some r) : P := nomatch e
def WK (a b : List (Option Value)) : Prop := a.length = b.length ∧ ∀ (i : Nat) (v : Value), a[i]? = some (some v) → b[i]? = some (some v)
theorem wk0 : WK [] [] := ⟨rfl, fun _ _ h => h⟩
theorem wkn {a b : List (Option Value)} {x : Option Value} (h : WK a b) : WK (none :: a) (x :: b) := by
  refine ⟨congrArg (· + 1) h.1, fun i v hv => ?_⟩
  cases i with
  | zero => simp at hv
  | succ i => exact h.2 i v (by simpa using hv)
theorem wks {a b : List (Option Value)} {x : Option Value} (h : WK a b) : WK (x :: a) (x :: b) := by
  refine ⟨congrArg (· + 1) h.1, fun i v hv => ?_⟩
  cases i with
  | zero => exact hv
  | succ i => exact h.2 i v (by simpa using hv)
theorem nar_z0 : narrow .boolean (.int 0) = .int 0 := by decide +kernel
theorem nar_z1 : narrow .boolean (.int 1) = .int 1 := by decide +kernel
theorem fit_z0 : fits .boolean (.int 0) = true := by decide +kernel
theorem fit_z1 : fits .boolean (.int 1) = true := by decide +kernel
theorem nar_i (x : Int32) : narrow .int (.int x) = .int x := rfl
theorem fit_i (x : Int32) : fits .int (.int x) = true := rfl
def isB (x : Int32) : Bool := decide (x = 0) || decide (x = 1)
theorem isB_or {x : Int32} (h : isB x = true) : x = 0 ∨ x = 1 := by simpa [isB] using h
theorem isB_nar {x : Int32} (h : isB x = true) : narrow .boolean (.int x) = .int x := by rcases isB_or h with rfl | rfl; exact nar_z0; exact nar_z1
theorem isB_fit {x : Int32} (h : isB x = true) : fits .boolean (.int x) = true := by rcases isB_or h with rfl | rfl; exact fit_z0; exact fit_z1
theorem isB_vp {x : Int32} (h : isB x = true) : vp_nar .boolean x = x := by rcases isB_or h with rfl | rfl <;> decide +kernel
/-- facts of ids -/
theorem kf_7_0 {t : Nat} (h : knd t = 7) : knd (fld t 0) = 1 := kd (P := fun t => knd (fld t 0) = 1) (by decide) (by decide +kernel) h
theorem kf_7_1 {t : Nat} (h : knd t = 7) : knd (fld t 1) = 1 := kd (P := fun t => knd (fld t 1) = 1) (by decide) (by decide +kernel) h
theorem kf_7_2 {t : Nat} (h : knd t = 7) : knd (fld t 2) = 3 := kd (P := fun t => knd (fld t 2) = 3) (by decide) (by decide +kernel) h
theorem kf_7_3 {t : Nat} (h : knd t = 7) : knd (fld t 3) = 5 := kd (P := fun t => knd (fld t 3) = 5) (by decide) (by decide +kernel) h
theorem kf_7_4 {t : Nat} (h : knd t = 7) : knd (fld t 4) = 2 := kd (P := fun t => knd (fld t 4) = 2) (by decide) (by decide +kernel) h
theorem kf_7_5 {t : Nat} (h : knd t = 7) : knd (fld t 5) = 10 := kd (P := fun t => knd (fld t 5) = 10) (by decide) (by decide +kernel) h
theorem kf_1_0 {t : Nat} (h : knd t = 1) : knd (fld t 0) = 6 := kd (P := fun t => knd (fld t 0) = 6) (by decide) (by decide +kernel) h
theorem kf_1_1 {t : Nat} (h : knd t = 1) : knd (fld t 1) = 4 := kd (P := fun t => knd (fld t 1) = 4) (by decide) (by decide +kernel) h
theorem kf_3_0 {t : Nat} (h : knd t = 3) : knd (fld t 0) = 14 := kd (P := fun t => knd (fld t 0) = 14) (by decide) (by decide +kernel) h
theorem kf_5_0 {t : Nat} (h : knd t = 5) : knd (fld t 0) = 14 := kd (P := fun t => knd (fld t 0) = 14) (by decide) (by decide +kernel) h
theorem kf_5_1 {t : Nat} (h : knd t = 5) : knd (fld t 1) = 11 := kd (P := fun t => knd (fld t 1) = 11) (by decide) (by decide +kernel) h
theorem kf_2_0 {t : Nat} (h : knd t = 2) : knd (fld t 0) = 12 := kd (P := fun t => knd (fld t 0) = 12) (by decide) (by decide +kernel) h
theorem kf_2_1 {t : Nat} (h : knd t = 2) : knd (fld t 1) = 10 := kd (P := fun t => knd (fld t 1) = 10) (by decide) (by decide +kernel) h
theorem kf_8_7 {t : Nat} (h : knd t = 8) : knd (fld t 7) = 11 := kd (P := fun t => knd (fld t 7) = 11) (by decide) (by decide +kernel) h
theorem kf_4 : ∀ i, i < 215 → knd i = 4 → (knd (fld i 0) = 10 ∧ knd (fld i 1) = 10 ∧ knd (fld i 2) = 10 ∧ alen (fld i 0) = 120 ∧ alen (fld i 1) = 30 ∧ alen (fld i 2) = 10) := by decide +kernel
theorem kf_4_0 {t : Nat} (h : knd t = 4) : knd (fld t 0) = 10 := (kd (by decide) kf_4 h).1
theorem kf_4_1 {t : Nat} (h : knd t = 4) : knd (fld t 1) = 10 := (kd (by decide) kf_4 h).2.1
theorem kf_4_2 {t : Nat} (h : knd t = 4) : knd (fld t 2) = 10 := (kd (by decide) kf_4 h).2.2.1
theorem al_4_0 {t : Nat} (h : knd t = 4) : alen (fld t 0) = 120 := (kd (by decide) kf_4 h).2.2.2.1
theorem al_4_1 {t : Nat} (h : knd t = 4) : alen (fld t 1) = 30 := (kd (by decide) kf_4 h).2.2.2.2.1
theorem al_4_2 {t : Nat} (h : knd t = 4) : alen (fld t 2) = 10 := (kd (by decide) kf_4 h).2.2.2.2.2
theorem kf_6 : ∀ i, i < 215 → knd i = 6 → ∀ j, j < 9 → (knd (fld i j) = 10 ∧ alen (fld i j) = [4,120,10,10,10,10,10,10,6].getD j 0) := by decide +kernel
theorem kf_6_j {t : Nat} (j : Nat) (h : knd t = 6) (hj : j < 9) : knd (fld t j) = 10 := (kd (by decide) kf_6 h j hj).1
theorem al_6_j {t N : Nat} (j : Nat) (h : knd t = 6) (hj : j < 9) (hN : [4,120,10,10,10,10,10,10,6].getD j 0 = N) : alen (fld t j) = N := ((kd (by decide) kf_6 h j hj).2).trans hN
theorem kf_8 : ∀ i, i < 215 → knd i = 8 → ∀ j, j < 12 → ((j = 0 ∨ j = 5 ∨ j = 7) ∨ (knd (fld i j) = 10 ∧ alen (fld i j) = [0,196,196,196,2744,0,392,2,120,10,30,120].getD j 0)) := by decide +kernel
theorem kf_8_j {t : Nat} (j : Nat) (h : knd t = 8) (h1 : j < 12) (h2 : ¬ (j = 0 ∨ j = 5 ∨ j = 7)) : knd (fld t j) = 10 := ((kd (by decide) kf_8 h j h1).resolve_left h2).1
theorem al_8_j {t N : Nat} (j : Nat) (h : knd t = 8) (h1 : j < 12) (h2 : ¬ (j = 0 ∨ j = 5 ∨ j = 7)) (hN : [0,196,196,196,2744,0,392,2,120,10,30,120].getD j 0 = N) : alen (fld t j) = N := (((kd (by decide) kf_8 h j h1).resolve_left h2).2).trans hN
theorem al_8_7 {t : Nat} (h : knd t = 8) : alen (fld t 7) = 2 := kd (P := fun t => alen (fld t 7) = 2) (by decide) (by decide +kernel) h
theorem al_7_5 {t : Nat} (h : knd t = 7) : alen (fld t 5) = 3 := kd (P := fun t => alen (fld t 5) = 3) (by decide) (by decide +kernel) h
theorem al_3_0 {t : Nat} (h : knd t = 3) : alen (fld t 0) = 14 := kd (P := fun t => alen (fld t 0) = 14) (by decide) (by decide +kernel) h
theorem al_5_0 {t : Nat} (h : knd t = 5) : alen (fld t 0) = 2 := kd (P := fun t => alen (fld t 0) = 2) (by decide) (by decide +kernel) h
theorem al_5_1 {t : Nat} (h : knd t = 5) : alen (fld t 1) = 2 := kd (P := fun t => alen (fld t 1) = 2) (by decide) (by decide +kernel) h
theorem al_2_0 {t : Nat} (h : knd t = 2) : alen (fld t 0) = 120 := kd (P := fun t => alen (fld t 0) = 120) (by decide) (by decide +kernel) h
theorem al_2_1 {t : Nat} (h : knd t = 2) : alen (fld t 1) = 3 := kd (P := fun t => alen (fld t 1) = 3) (by decide) (by decide +kernel) h
theorem al_13 {t : Nat} (h : knd t = 13) : alen t = 1 := kd (P := fun t => alen t = 1) (by decide) (by decide +kernel) h
theorem ke_14 : ∀ i, i < 215 → knd i = 14 → ∀ j, j < alen i → knd (fld i j) = 6 := by decide +kernel
theorem ke {a N : Nat} {j : Int32} (h : knd a = 14) (hN : alen a = N) (hj : ib j N = true) : knd (fld a j.toNatClampNeg) = 6 := by
  refine kd (by decide) ke_14 h _ ?_
  simp only [ib, Bool.and_eq_true, Nat.blt_eq] at hj
  rw [hN]
  exact hj.2
section GLUE
variable {l : Launch} {D : va_G} {ad : Nat → Nat} {aC : Nat → ClassId} {R : Room} {QQ : List Frame → Array Value → State → State → Prop} {M M2 : MI} {pc k n idx : Nat} {ls ls' : List (Option Value)} {st st' rest as : List Value} {h h1 : HP}
theorem Go.wk' (w : WK ls' ls) (g : Go l D ad aC R QQ M pc ls' st h k n) : Go l D ad aC R QQ M pc ls st h k n := Go.wk w.1 w.2 g
/-- a static callee of this class that throws: it goes on to the caller -/
theorem Go.thrown {nn : Nat} {E : String} (hct : CT l D ad aC M2 as h (.inr E) h1) (hw : WS M.y.cls idx M2 nn) (hd : decode M.b pc = .ok (.invokestatic idx, 3)) (hst : st = as.reverse ++ rest) (hn : as.length = nn) (hR : RoomOK R M2 k n) (hcat : (rest.map fun v => v.category).sum ≤ 8)
    (hh : M.hh = []) (hrk : M.rk < 12) (hk : k + M2.mc ≤ M.mc) (hk2 : n + 6 * M2.mc ≤ 6 * M.mc) : Go l D ad aC R (QM D ad aC M (.inr E) h1) M pc ls st h k n := by
  intro p e s m args below meth c0 H locs cs F hS hW hl
  have hts := F.2.2.2.2.2.1
  have hstk : st.map (cv ad) = (as.map (cv ad)).reverse ++ rest.map (cv ad) := by
    rw [hst, map_app_cv, List.map_reverse]
  rw [hstk]
  have hr := vx_runS (As := as.map (cv ad)) (rest := rest.map (cv ad)) (nL := M.mL) (Ts := GT) (own := M.y.cls) (cc := M.b) (g := F0 m pc cs ((as.map (cv ad)).reverse ++ rest.map (cv ad))) (p := p) (l := l) (e := e) (below := below) (meth := meth) (locs := locs) (cells := k) (slots := n) ⟨F.1, F.2.1, F.2.2.2.1, F.2.2.2.2.1, hts⟩ (hct H.size) ⟨callB_ok F hw.1 hR, hts _ hw.2⟩ ⟨blindP, givenP F.ev hS hW⟩ rfl (by rw [List.length_map]; exact hn) hl.2.1 rfl (lv_room (by rw [cat_cv]; exact hcat)) hd hR.2
  intro T hT X
  rcases hr T hT X with ⟨v2, st₀, t, T', L, h0, X', hL, e1, e2, ⟨⟨v3, hv3, hv⟩, hP, hF⟩, stp⟩ | ⟨q, st₀, t, T', L, E2, ce, h0, X', hL, e1, e2, ⟨hv, hP, hF⟩, hce, hcv, hcl, stp⟩
  · cases hv3
  · cases hv
    obtain ⟨k1, k2, k3⟩ := vx_keep (A0 := AA ad s.heap.size) (H0 := s.heap) (free := AA ad H.size) h0 e1 hS (fun q _ hq => AA_sub hS.1 q hq) (AA_sub hS.1) hL hF
    have hout : ∀ x ∈ c0.exceptionTable.toList, covers x pc = false := by
      have ht := F.2.2.2.2.2.2.1 hrk
      rw [hh] at ht
      rw [ht]
      intro x hx
      cases hx
    have O := vx_out (p := p) (l := l) (e := e) (R := R) (s := s) (m := m) (args := args) (below := below) (meth := meth) (c := c0) (H := T'.heap) (locs := locs ++ L) (ls := cs) (rest := rest.map (cv ad)) (Qc := QR D ad aC (.inr E) h1 s.heap.size) (XC := QX D ad aC (.inr E) h1 s.heap.size) (free := AA ad s.heap.size) (pc := pc) (E := E) (ce := ce) (q := q) hout F.2.2.2.2.2.2.2.1 (by rw [e1]; exact hce) hcv hcl
      (fun t2 ht2 _ => ⟨rfl, by rw [ht2, e1]; exact hP, k3.F ht2⟩) k3.2.2 hk hk2
    obtain ⟨t2, a1, b1⟩ := O T' rfl X'
    exact ⟨t2, stp.trans a1, b1⟩
/-- System.arraycopy of ints, both arrays of the world, from 0 to 0 -/
def cpy0 (f g : Nat → Int32) (N : Nat) : Nat → Int32 := fun j => if j < N then f j else g j
def NOK (own : String) (idx : Nat) : Prop := Cond.methodLink own idx arraycopyName ∈ GT ∧ Cond.native arraycopyName ∈ GT ∧ Cond.static arraycopyName ∈ GT ∧ Cond.initialized "java/lang/System" ∈ GT
theorem va_cpy0 {f g : Nat → Int32} {N : Int32} {N' : Nat} (hN : N.toNatClampNeg = N') : va_cpy f g (0 : Int32).toNatClampNeg (0 : Int32).toNatClampNeg N.toNatClampNeg = cpy0 f g N' := by
  funext j
  have e0 : (0 : Int32).toNatClampNeg = 0 := rfl
  unfold va_cpy cpy0
  rw [hN, e0]
  simp only [Nat.zero_le, true_and, Nat.zero_add, Nat.sub_zero]
theorem Go.copy {a b na nb N' : Nat} {N : Int32} (hI : Inj ad) (hka : knd a = 10) (hna : alen a = na) (hkb : knd b = 10) (hnb : alen b = nb) (hN : N.toNatClampNeg = N') (h0 : ¬ N < 0) (h4 : N' ≤ na) (h5 : N' ≤ nb) (hw : NOK M.y.cls idx) (hfr : 1 ≤ R.frames) (hlo : (rest.map fun v => v.category).sum + (nativeFrameWords "java/lang/System" "arraycopy" 5 + 11) ≤ R.locals)
    (hd : decode M.b pc = .ok (.invokestatic idx, 3)) (g : Go l D ad aC R QQ M (pc + 3) ls rest (hrow h b (cpy0 (h a) (h b) N')) k n) : Go l D ad aC R QQ M pc ls (.int N :: .int 0 :: .ref b :: .int 0 :: .ref a :: rest) h k n := by
  intro p e s m args below meth c H locs cs F hS hW hl
  have hts := F.2.2.2.2.2.1
  have ha : a < 200 := knd_in hka (by omega) (by omega)
  have hb : b < 200 := knd_in hkb (by omega) (by omega)
  have e0 : (0 : Int32).toNatClampNeg = 0 := rfl
  have hK2 : va_K D clsL [(aC a, .int), (aC b, .int)] s := by
    refine ⟨hW.2.1.1, fun i q hq => ?_⟩
    match i, hq with
    | 0, hq => cases hq; exact (hW.2.arr hka (by omega) (by omega)).2 0 _ rfl
    | 1, hq => cases hq; exact (hW.2.arr hkb (by omega) (by omega)).2 0 _ rfl
    | i + 2, hq => simp at hq
  refine va_copyi F.1 F.2.1 (by rw [hl.2.1]; exact F.2.2.2.1) F.2.2.2.2.1 (hts _ hw.1) (hts _ hw.2.1) (hts _ hw.2.2.1) (hts _ hw.2.2.2) hK2 hW.1 (wl_D hI h _) hS a b 0 1 (ty := .int) (by rw [wl_at ad aC h ha, ent_i hka (by omega)]) (by rw [wl_at ad aC h hb, ent_i hkb (by omega)]) rfl rfl (by decide) (by decide) (by decide) h0 (by rw [e0, hN, hna]; omega) (by rw [e0, hN, hnb]; omega) (fun i _ => rfl) hfr (by rw [cat_cv]; exact hlo) hd (fun H1 locs1 hP1 _ hS1 => ?_)
  rw [va_cpy0 hN, wl_row hkb (by omega)] at hP1
  exact g p e s m args below meth c H1 locs1 cs F hS1 ⟨hP1, hW.2⟩ hl
theorem Go.alen {a N : Nat} {v : Int32} (hk : knd a = 10) (hN : alen a = N) (hv : Int32.ofNat N = v) (hd : decode M.b pc = .ok (.arraylength, 1)) (g : Go l D ad aC R QQ M (pc + 1) ls (.int v :: st) h k n) : Go l D ad aC R QQ M pc ls (.ref a :: st) h k n := by
  intro p e s m args below meth c H locs cs F hS hW hl
  have ha : a < 200 := knd_in hk (by omega) (by omega)
  exact va_alen F.1 F.2.1 (hW.2.arr hk (by omega) (by omega)) hW.1 a 0 (by rw [wl_at ad aC h ha, ent_i hk (by omega)]) rfl (by rw [hN]; exact hv) hd (g p e s m args below meth c H locs cs F hS hW hl)
end GLUE
section GLUE2
variable {l : Launch} {D : va_G} {ad : Nat → Nat} {aC : Nat → ClassId} {R : Room} {QQ : List Frame → Array Value → State → State → Prop} {M M2 : MI} {pc k n idx : Nat} {ls ls' : List (Option Value)} {st st' rest as : List Value} {h h1 : HP}
theorem Go.eqH (q : h = h1) (g : Go l D ad aC R QQ M pc ls st h1 k n) : Go l D ad aC R QQ M pc ls st h k n := by rw [q]; exact g
theorem Go.idivn {x y : Int32} (hne : ¬ y = 0) (hd : decode M.b pc = .ok (.idiv, 1)) (g : Go l D ad aC R QQ M (pc + 1) ls (.int (x / y) :: st) h k n) : Go l D ad aC R QQ M pc ls (.int y :: .int x :: st) h k n :=
  fun p e s m args below meth c H locs cs F hS hW hl => lv_idiv F.1 F.2.1 hd hne (g p e s m args below meth c H locs cs F hS hW hl)
theorem Go.iremn {x y : Int32} (hne : ¬ y = 0) (hd : decode M.b pc = .ok (.irem, 1)) (g : Go l D ad aC R QQ M (pc + 1) ls (.int (x - x / y * y) :: st) h k n) : Go l D ad aC R QQ M pc ls (.int y :: .int x :: st) h k n :=
  fun p e s m args below meth c H locs cs F hS hW hl => lv_irem F.1 F.2.1 hd hne (g p e s m args below meth c H locs cs F hS hW hl)
theorem Go.ldivn {x y : Int64} (hne : ¬ y = 0) (hd : decode M.b pc = .ok (.ldiv, 1)) (g : Go l D ad aC R QQ M (pc + 1) ls (.long (x / y) :: st) h k n) : Go l D ad aC R QQ M pc ls (.long y :: .long x :: st) h k n :=
  fun p e s m args below meth c H locs cs F hS hW hl => lv_ldiv F.1 F.2.1 hd hne (g p e s m args below meth c H locs cs F hS hW hl)
theorem Go.lremn {x y : Int64} (hne : ¬ y = 0) (hd : decode M.b pc = .ok (.lrem, 1)) (g : Go l D ad aC R QQ M (pc + 1) ls (.long (x - x / y * y) :: st) h k n) : Go l D ad aC R QQ M pc ls (.long y :: .long x :: st) h k n :=
  fun p e s m args below meth c H locs cs F hS hW hl => lv_lrem F.1 F.2.1 hd hne (g p e s m args below meth c H locs cs F hS hW hl)
theorem Go.ldcS (hM : M.y.cls = "FairWalls$FairText") (hd : decode M.b pc = .ok (.ldc 40, 2)) (g : Go l D ad aC R QQ M (pc + 2) ls (.ref 215 :: st) h k n) : Go l D ad aC R QQ M pc ls st h k n :=
  fun p e s m args below meth c H locs cs F hS hW hl => va_ldcS (own := "FairWalls$FairText") (tx := "wodplsne") F.1 F.2.1 (by rw [← hM]; exact F.2.2.2.2.1) F.ev.2.2.2.1.2.1 hd (g p e s m args below meth c H locs cs F hS hW hl)
/-- "wodplsne".indexOf -/
def lix (c : Int32) : Int32 := if c = 119 then 0 else if c = 111 then 1 else if c = 100 then 2 else if c = 112 then 3 else if c = 108 then 4 else if c = 115 then 5 else if c = 110 then 6 else if c = 101 then 7 else -1
end GLUE2
section CATCH
variable {l : Launch} {D : va_G} {ad : Nat → Nat} {aC : Nat → ClassId} {R : Room} {QQ : List Frame → Array Value → State → State → Prop} {M M2 : MI} {pc k n idx : Nat} {ls ls' : List (Option Value)} {st st' rest as : List Value} {h h1 : HP}
/-- a call that throws, caught by this method's row x -/
theorem Go.caught {a c nn j len : Nat} {E : String} (hct : CT l D ad aC M2 (.ref a :: as) h (.inr E) h1) (hw : WV M.y.cls idx M2 nn) (hka : knd a = c) (hkc : KC c M2.y.cls) (hd : decode M.b pc = .ok (.invokevirtual idx, 3)) (hst : st = as.reverse ++ .ref a :: rest) (hn : as.length = nn) (hR : RoomOK R M2 k n) (hcat : (rest.map fun v => v.category).sum ≤ 8)
    (hrk : M.rk < 12) (pre : List ExceptionTableEntry) (x : ExceptionTableEntry) (suf : List ExceptionTableEntry) (hsplit : tableOf M.hh = pre ++ x :: suf)
    (hpass : ∀ z ∈ pre, covers z pc = false ∨ (z.catchType ≠ 0 ∧ ∃ nm : String, Cond.classLink M.y.cls z.catchType nm ∈ GT ∧ (E, nm) ∈ ncP)) (hx : covers x pc = true) (h0 : x.catchType ≠ 0) (hlink : Cond.classLink M.y.cls x.catchType E ∈ GT) (hcast : Cond.castable E E ∈ NWs)
    (hj : (decode M.b x.handlerPc = .ok (.astore j, 2) ∧ len = 2) ∨ ∃ i : Fin 4, decode M.b x.handlerPc = .ok (.astore_n i, 1) ∧ (i : Nat) = j ∧ len = 1) (ho : okS ls j = true)
    (g : Go l D ad aC R QQ M (x.handlerPc + len) (ls.set j none) [] h1 (k + M2.mc) (n + 6 * M2.mc)) : Go l D ad aC R QQ M pc ls st h k n := by
  intro p e s m args below meth c0 H locs cs F hS hW hl
  obtain ⟨k0, k10, T9, N, hcl⟩ := hkc
  have hts := F.2.2.2.2.2.1
  have hstk : st.map (cv ad) = (as.map (cv ad)).reverse ++ .ref (ad a) :: rest.map (cv ad) := by
    rw [hst, map_app_cv, List.map_reverse]; rfl
  rw [hstk]
  have hr := vx_runV (As := as.map (cv ad)) (rest := rest.map (cv ad)) (C := M2.y.cls) (nL := M.mL) (Ts := GT) (own := M.y.cls) (cc := M.b) (g := F0 m pc cs ((as.map (cv ad)).reverse ++ .ref (ad a) :: rest.map (cv ad))) (p := p) (l := l) (e := e) (below := below) (meth := meth) (locs := locs) (cells := k) (slots := n) ⟨F.1, F.2.1, F.2.2.2.1, F.2.2.2.2.1, hts⟩ (hct H.size) ⟨callB_ok F hw.1 hR, hts _ hw.2.1, hts _ hw.2.2⟩ ⟨blindP, recvP hW hka hcl k0 k10, givenP F.ev hS hW⟩ rfl (by rw [List.length_map]; exact hn) hl.2.1 rfl (lv_room (by rw [cat_cv]; exact hcat)) hd hR.2
  intro T hT X
  rcases hr T hT X with ⟨v2, st₀, t, T', L, h0', X', hL, e1, e2, ⟨⟨v3, hv3, hv⟩, hP, hF⟩, stp⟩ | ⟨q, st₀, t, T', L, E2, ce, h0', X', hL, e1, e2, ⟨hv, hP, hF⟩, hce, hcv, hcl2, stp⟩
  · cases hv3
  · cases hv
    obtain ⟨k1, k2, k3⟩ := vx_keep (A0 := AA ad s.heap.size) (H0 := s.heap) (free := AA ad H.size) h0' e1 hS (fun q _ hq => AA_sub hS.1 q hq) (AA_sub hS.1) hL hF
    have kk : W p l e R s m args below meth c0 T'.heap (locs ++ L) (k + M2.mc) (n + 6 * M2.mc) (QQ below args s) (F0 m x.handlerPc cs [.ref q]) := by
      have G := g p e s m args below meth c0 T'.heap (locs ++ L)
      rcases hj with ⟨d, rfl⟩ | ⟨i, d, hi, rfl⟩
      · exact lv_astore F.1 F.2.1 d hl.2 (by rw [← hl.1]; exact okS_lt ho) rfl (fun cs' hl' => G cs' F k3 ⟨by rw [e1]; exact hP, hW.2⟩ (LV.setN hl.1 ho hl'))
      · exact lv_astore_n F.1 F.2.1 d hi hl.2 (by rw [← hl.1]; exact okS_lt ho) rfl (fun cs' hl' => G cs' F k3 ⟨by rw [e1]; exact hP, hW.2⟩ (LV.setN hl.1 ho hl'))
    have O := vx_catch (p := p) (l := l) (e := e) (R := R) (s := s) (m := m) (args := args) (below := below) (meth := meth) (c := c0) (H := T'.heap) (locs := locs ++ L) (cells := k + M2.mc) (slots := n + 6 * M2.mc) (Q := QQ below args s) (pc := pc) (ls := cs) (rest := rest.map (cv ad)) (own := M.y.cls) (name := E) (E := E) (ce := ce) (q := q) F.2.2.2.2.1 pre x suf (by rw [F.2.2.2.2.2.2.1 hrk]; exact hsplit)
      (fun z hz => (hpass z hz).elim Or.inl (fun ⟨hz0, nm, hl1, hl2⟩ => Or.inr ⟨hz0, nm, hts _ hl1, F.ev.2.2.2.2 _ hl2⟩)) hx h0 (hts _ hlink) (va_Nw.use (Nw_tab hcast) (F.ev.1 _ hcast)) (by rw [e1]; exact hce) hcv hcl2 kk
    obtain ⟨t2, a1, b1⟩ := O T' rfl X'
    exact ⟨t2, stp.trans a1, b1⟩
/-- what a wrapper of the law makes of an answer: its number, the answer in out -/
def wrapR (hs : List String) (out : Nat) (r : Res × HP) : Option (Int32 × HP) := match r.1 with
  | .inl (some (.int v)) => some (0, hset r.2 out 0 v)
  | .inl _ => none
  | .inr E => if hs[0]? = some E then some (1, r.2) else if hs[1]? = some E then some (2, r.2) else none
end CATCH
