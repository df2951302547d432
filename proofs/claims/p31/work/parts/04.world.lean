/-! THE WORLD: every cell that the law makes has a number (an id). What an id is (its class, its length, whom its references name) is fixed for good; what changes are ints alone: HP. -/
abbrev HP : Type := Nat → Nat → Int32
def kT : List Nat := [7,10,1,1,4,10,10,10,4,10,10,10,3,14,5,14,11,2,12,10,0,0,0,0,0,0,0,0,0,0,0,0,20,20,20]
/-- what an id is: 1 Fair, 2 FairText, 3 Past, 4 Power, 5 Slots, 6 State, 7 FairWalls; 10 int[], 11 boolean[], 12 char[], 13 long[], 14 State[]; 20 a static int[] -/
def knd (i : Nat) : Nat := if i < 180 then (if i % 10 = 0 then 6 else 10) else kT.getD (i - 180) 0
def lT : List Nat := [0,3,0,0,0,120,30,10,0,120,30,10,0,14,0,2,2,0,120,3,0,196,196,196,2744,392,2,120,10,30,120,1,6,6,72]
def sT : List Nat := [0,4,120,10,10,10,10,10,10,6]
def alen (i : Nat) : Nat := if i < 180 then sT.getD (i % 10) 0 else lT.getD (i - 180) 0
def fT : List (List Nat) := [[182,183,192,194,197,181],[],[0,184],[10,188],[185,186,187],[],[],[],[189,190,191],[],[],[],[193],[],[195,196],[],[],[198,199],[],[],[0,201,202,203,204,0,205,206,207,208,209,210]]
def fld (i k : Nat) : Nat := if i < 180 then i + 1 + k else if i = 193 then 20 + 10 * k else if i = 195 then 160 + 10 * k else (fT.getD (i - 180) []).getD k 0
def isR (c k : Nat) : Bool := match c with
  | 1 => true
  | 2 => Nat.blt k 2
  | 3 => Nat.blt k 1
  | 4 => true
  | 5 => true
  | 6 => Nat.blt k 9
  | 7 => true
  | 8 => [false, true, true, true, true, false, true, true, true, true, true, true].getD k false
  | _ => false
def nF (c : Nat) : Nat := [0, 2, 5, 3, 3, 2, 14, 6, 16].getD c 0
def aty (c : Nat) : FieldType := match c with
  | 11 => .boolean
  | 12 => .char
  | 13 => .long
  | 14 => .object "FairWalls$State"
  | _ => .int
def sarr (i j : Nat) : Int32 := if i = 212 then ([6, 1, 5, 3, 4, 2] : List Int32).getD j 0 else if i = 213 then ([50, 9, 50, 50, 50, 9] : List Int32).getD j 0 else
  ([2, 4, 30, 0, 0, 0, 0, 0, 0, 1, 0, 3, 2, 0, 29, 1, 0, 4, 1, 0, 5, 1, 1, 9, 1, 0, 3, 1, 0, 9, 1, 0, 3, 2, 0, 29, 1, 0, 9, 0, 0, 0, 0, 0, 0, 1, 0, 9, 1, 0, 9, 0, 0, 0, 2, 1, 60, 0, 0, 0, 0, 0, 0, 1, 0, 5, 2, 0, 50, 0, 0, 0] : List Int32).getD j 0
def cv (ad : Nat → Nat) (v : Value) : Value := match v with
  | .ref i => .ref (ad i)
  | w => w
theorem cv_cat (ad : Nat → Nat) (v : Value) : (cv ad v).category = v.category := by cases v <;> rfl
def ent (ad : Nat → Nat) (aC : Nat → ClassId) (h : HP) (i : Nat) : va_E :=
  if knd i < 10 then .inr (knd i, (List.range (nF (knd i))).map (fun k => if isR (knd i) k = true then Value.ref (ad (fld i k)) else .int (h i k)))
  else .inl (aC i, alen i, if knd i = 13 then .inr (.inl (fun j => (h i j).toInt64)) else if knd i = 14 then .inr (.inr (.inr (.inr (fun j => some (ad (fld i j)))))) else .inl (h i))
def wl (ad : Nat → Nat) (aC : Nat → ClassId) (h : HP) : va_W := (List.range 200).map (fun i => (ad i, ent ad aC h i))
def hset (h : HP) (a k : Nat) (v : Int32) : HP := fun i => if i = a then upd (h a) k v else h i
def hrow (h : HP) (a : Nat) (f : Nat → Int32) : HP := fun i => if i = a then f else h i
theorem hset_eq (h : HP) (a k : Nat) (v : Int32) : hset h a k v = hrow h a (upd (h a) k v) := rfl
theorem hrow_s (h : HP) (a : Nat) (f : Nat → Int32) : hrow h a f a = f := if_pos rfl
theorem hrow_n (h : HP) {a i : Nat} (f : Nat → Int32) (n : i ≠ a) : hrow h a f i = h i := if_neg n
/-- facts about ids, decided over all of them -/
theorem knd_lt {i c : Nat} (h : knd i = c) (hc : c ≠ 0) : i < 215 := by
  rcases Nat.lt_or_ge i 215 with q | q
  · exact q
  · exfalso
    apply hc
    rw [← h]
    unfold knd
    rw [if_neg (by omega)]
    simp only [List.getD_eq_getElem?_getD]
    rw [List.getElem?_eq_none (by simp [kT]; omega)]
    rfl
theorem kd {P : Nat → Prop} {c : Nat} (hc : c ≠ 0) (hd : ∀ i, i < 215 → knd i = c → P i) {i : Nat} (h : knd i = c) : P i := hd i (knd_lt h hc) h
theorem knd_w : ∀ i, i < 215 → knd i ≠ 0 → knd i < 20 → i < 200 := by decide +kernel
theorem knd_in {i c : Nat} (h : knd i = c) (hc : c ≠ 0) (hc2 : c < 20) : i < 200 := knd_w i (knd_lt h hc) (by rw [h]; exact hc) (by rw [h]; exact hc2)
theorem ent_o {ad : Nat → Nat} {aC : Nat → ClassId} {h : HP} {i c : Nat} (hk : knd i = c) (hc : c < 10) : ent ad aC h i = .inr (c, (List.range (nF c)).map (fun k => if isR c k = true then Value.ref (ad (fld i k)) else .int (h i k))) := by
  subst hk
  unfold ent
  rw [if_pos hc]
theorem ent_i {ad : Nat → Nat} {aC : Nat → ClassId} {h : HP} {i c : Nat} (hk : knd i = c) (hc : c = 10 ∨ c = 11 ∨ c = 12) : ent ad aC h i = .inl (aC i, alen i, .inl (h i)) := by
  subst hk
  unfold ent
  rw [if_neg (by omega), if_neg (by omega), if_neg (by omega)]
theorem ent_l {ad : Nat → Nat} {aC : Nat → ClassId} {h : HP} {i : Nat} (hk : knd i = 13) : ent ad aC h i = .inl (aC i, alen i, .inr (.inl (fun j => (h i j).toInt64))) := by
  unfold ent
  rw [if_neg (by omega), if_pos hk]
theorem ent_q {ad : Nat → Nat} {aC : Nat → ClassId} {h : HP} {i : Nat} (hk : knd i = 14) : ent ad aC h i = .inl (aC i, alen i, .inr (.inr (.inr (.inr (fun j => some (ad (fld i j))))))) := by
  unfold ent
  rw [if_neg (by omega), if_neg (by omega), if_pos hk]
theorem ent_c {ad : Nat → Nat} {aC : Nat → ClassId} {h h' : HP} {i : Nat} (e : h i = h' i) : ent ad aC h i = ent ad aC h' i := by
  unfold ent
  rw [e]
theorem wl_len (ad : Nat → Nat) (aC : Nat → ClassId) (h : HP) : (wl ad aC h).length = 200 := by simp [wl]
theorem wl_at (ad : Nat → Nat) (aC : Nat → ClassId) (h : HP) {i : Nat} (hi : i < 200) : (wl ad aC h)[i]? = some (ad i, ent ad aC h i) := by
  simp [wl, hi]
theorem wl_get {ad : Nat → Nat} {aC : Nat → ClassId} {h : HP} {i : Nat} {q : Nat × va_E} (hq : (wl ad aC h)[i]? = some q) : i < 200 ∧ q = (ad i, ent ad aC h i) := by
  have hi : i < 200 := by
    have := (List.getElem?_eq_some_iff.mp hq).1
    rw [wl_len] at this
    exact this
  rw [wl_at ad aC h hi] at hq
  exact ⟨hi, (Option.some.inj hq).symm⟩
theorem wl_set {ad : Nat → Nat} {aC : Nat → ClassId} {h : HP} {a : Nat} {f : Nat → Int32} {e : va_E} (he : e = ent ad aC (hrow h a f) a) : (wl ad aC h).set a (ad a, e) = wl ad aC (hrow h a f) := by
  subst he
  apply List.ext_getElem?
  intro i
  rw [List.getElem?_set]
  by_cases hi : i < 200
  · rw [wl_at _ _ (hrow h a f) hi, wl_at _ _ h hi, wl_len]
    by_cases e : a = i
    · subst e
      rw [if_pos rfl, if_pos hi]
    · rw [if_neg e, ent_c (h' := hrow h a f)]
      rw [hrow_n _ _ (fun q => e q.symm)]
  · have hn : (200 : Nat) ≤ i := by omega
    rw [List.getElem?_eq_none (by rw [wl_len]; exact hn), List.getElem?_eq_none (l := wl ad aC (hrow h a f)) (by rw [wl_len]; exact hn), wl_len]
    by_cases e : a = i
    · rw [if_pos e, if_neg (by omega)]
    · rw [if_neg e]
def Inj (ad : Nat → Nat) : Prop := ∀ i j, i < 200 → j < 200 → ad i = ad j → i = j
/-- what a method may write: the world's cells, and what is new since sz -/
def AA (ad : Nat → Nat) (sz : Nat) : Nat → Prop := fun q => (∃ i, i < 200 ∧ q = ad i) ∨ sz ≤ q
theorem AA_in {ad : Nat → Nat} {sz i : Nat} (hi : i < 200) : AA ad sz (ad i) := Or.inl ⟨i, hi, rfl⟩
theorem AA_new {ad : Nat → Nat} {sz : Nat} : ∀ q : Nat, sz ≤ q → AA ad sz q := fun _ h => Or.inr h
theorem AA_sub {ad : Nat → Nat} {a b : Nat} (h : a ≤ b) : ∀ q, AA ad b q → AA ad a q := fun q hq => hq.elim Or.inl (fun z => Or.inr (Nat.le_trans h z))
theorem wl_D {ad : Nat → Nat} {aC : Nat → ClassId} (hI : Inj ad) (h : HP) (sz : Nat) : va_D (AA ad sz) (wl ad aC h) := by
  refine ⟨fun i j p q hp hq e => ?_, fun k q hq => ?_⟩
  · obtain ⟨h1, rfl⟩ := wl_get hp
    obtain ⟨h2, rfl⟩ := wl_get hq
    exact hI i j h1 h2 e
  · obtain ⟨h1, rfl⟩ := wl_get hq
    exact AA_in h1
/-- words that stand in the tables and hold wherever the method runs -/
def GT : List Cond := lw_tbl.filter goodWord
theorem gt {w : Cond} (h : w ∈ lw_tbl) (g : goodWord w = true) : w ∈ GT := List.mem_filter.mpr ⟨h, g⟩
theorem gtb {w : Cond} (i : Nat) (h : tables_1[i]? = some w) (g : goodWord w = true) : w ∈ GT := gt (List.mem_append_right _ (List.mem_of_getElem? h)) g
theorem gts {w : Cond} (i : Nat) (h : (k2_sels lw_privs)[i]? = some w) (g : goodWord w = true) : w ∈ GT := gt (List.mem_append_left _ (List.mem_of_getElem? h)) g
def isNest (w : Cond) : Bool := match w with
  | .fieldLinkNest _ _ _ _ _ _ => true
  | .methodLinkNest _ _ _ _ => true
  | .castable _ _ => true
  | .declares _ => true
  | _ => false
def NWs : List Cond := tables_1.filter isNest
theorem nwt {w : Cond} (i : Nat) (h : tables_1[i]? = some w) (g : isNest w = true) : w ∈ NWs := List.mem_filter.mpr ⟨List.mem_of_getElem? h, g⟩
def sCN (i : Nat) : String × String := if i = 212 then ("FairWalls$State", "FIRST_SETTINGS") else if i = 213 then ("FairWalls$Fair", "MAX_SETTINGS") else ("FairWalls$FairText", "GRAMMAR")
def txF (i : Nat) : Nat × String := if i = 0 then (327, "no such wall, metre, dealer or save slot") else if i = 1 then (334, "an argument is out of its range") else (339, "the fair is not in a state for this")
def lixB : List Int32 := [119, 111, 100, 112, 108, 115, 110, 101]
/-- the texts -/
def EvS (ad : Nat → Nat) (A : Nat → Prop) (U : State) (H : Heap) : Prop :=
  (∀ i, i < 3 → ∃ a, vk_R "FairWalls" (txF i).1 (txF i).2 a U) ∧ vk_R "FairWalls$FairText" 40 "wodplsne" (ad 215) U ∧ vk_S 1 [8] [lixB] (fun _ => ad 215) (fun _ => ad 216) A U H ∧ va_Z "java/lang/String" "COMPACT_STRINGS" "Z" (.int 1) A U H
theorem EvS.warm {ad : Nat → Nat} {A : Nat → Prop} {s U : State} {H : Heap} (hW : s.WarmedH U.vm) (h : EvS ad A s H) : EvS ad A U H :=
  ⟨fun i hi => (h.1 i hi).imp fun _ q => vk_R.warm hW q, vk_R.warm hW h.2.1, vk_S.moved hW.alike h.2.2.1, va_Z.moved hW.alike h.2.2.2⟩
theorem EvS.same {ad : Nat → Nat} {A : Nat → Prop} {s U : State} {H : Heap} (hv : s.vm = U.vm) (h : EvS ad A s H) : EvS ad A U H := by
  have hal : s.vm.Alike U.vm := by rw [hv]; exact Vm.Alike.refl _
  exact ⟨fun i hi => (h.1 i hi).imp fun _ q => vk_R.same hv.symm q, vk_R.same hv.symm h.2.1, vk_S.moved hal h.2.2.1, va_Z.moved hal h.2.2.2⟩
theorem EvS.kept {ad : Nat → Nat} {A : Nat → Prop} {U : State} {H H1 : Heap} (h : EvS ad A U H) (hq : ∀ a : Nat, a < H.size → ¬ A a → H1[a]? = H[a]?) : EvS ad A U H1 := ⟨h.1, h.2.1, h.2.2.1.kept hq, h.2.2.2.kept hq⟩
theorem EvS.narrow {ad : Nat → Nat} {A B : Nat → Prop} {U : State} {H : Heap} (h : EvS ad A U H) (hAB : ∀ q, B q → A q) : EvS ad B U H := ⟨h.1, h.2.1, h.2.2.1.narrow hAB, h.2.2.2.narrow hAB⟩
def ncP : List (String × String) := [("java/lang/IllegalArgumentException", "java/lang/IllegalStateException"), ("java/lang/IllegalArgumentException", "java/lang/IndexOutOfBoundsException"), ("java/lang/IllegalStateException", "java/lang/IllegalArgumentException"), ("java/lang/IllegalStateException", "java/lang/IndexOutOfBoundsException"), ("java/lang/IndexOutOfBoundsException", "java/lang/IllegalArgumentException"), ("java/lang/IndexOutOfBoundsException", "java/lang/IllegalStateException")]
def EvN (U : State) : Prop := ∀ q ∈ ncP, va_Nc q.1 q.2 U
/-- what the tables and the statics give, all along -/
def Ev (ad : Nat → Nat) (A : Nat → Prop) (U : State) (H : Heap) : Prop :=
  (∀ w ∈ NWs, va_Nw w U) ∧
  (∀ i, 212 ≤ i → i < 215 → va_Z (sCN i).1 (sCN i).2 "[I" (.ref (ad i)) A U H ∧ va_T .int (ad i) (alen i) (fun j => .int (sarr i j)) A U H) ∧
  (vx_Zq Bundle.tN "UNASSIGNED_STACK" Bundle.steD A U H ∧ vx_Zq Bundle.tN "SUPPRESSED_SENTINEL" Bundle.listD A U H) ∧ EvS ad A U H ∧ EvN U
theorem Nw_warm {s U : State} (hW : s.WarmedH U.vm) {w : Cond} (hw : w ∈ NWs) (h : va_Nw w s) : va_Nw w U := by
  have g : isNest w = true := (List.mem_filter.mp hw).2
  cases w <;> first | exact va_Nw.warmF hW h | exact va_Nw.warmM hW h | exact va_Nw.warmC hW h | exact va_Nw.warmD hW h | (exfalso; simp [isNest] at g)
theorem Nw_tab {w : Cond} (hw : w ∈ NWs) : w.onTables = true := by
  have g : isNest w = true := (List.mem_filter.mp hw).2
  cases w <;> first | rfl | (exfalso; simp [isNest] at g)
theorem Ev.warm {ad : Nat → Nat} {A : Nat → Prop} {s U : State} {H : Heap} (hW : s.WarmedH U.vm) (h : Ev ad A s H) : Ev ad A U H :=
  ⟨fun w hw => Nw_warm hW hw (h.1 w hw), fun i h1 h2 => ⟨va_Z.moved hW.alike (h.2.1 i h1 h2).1, va_T.moved hW.alike (h.2.1 i h1 h2).2⟩, ⟨vx_Zq.moved hW.alike h.2.2.1.1, vx_Zq.moved hW.alike h.2.2.1.2⟩, h.2.2.2.1.warm hW, fun q hq => va_Nc.moved hW.alike (h.2.2.2.2 q hq)⟩
theorem Ev.same {ad : Nat → Nat} {A : Nat → Prop} {s U : State} {H : Heap} (hv : s.vm = U.vm) (h : Ev ad A s H) : Ev ad A U H := by
  have hal : s.vm.Alike U.vm := by rw [hv]; exact Vm.Alike.refl _
  exact ⟨fun w hw => va_Nw.same (Nw_tab hw) hv (h.1 w hw), fun i h1 h2 => ⟨va_Z.moved hal (h.2.1 i h1 h2).1, va_T.moved hal (h.2.1 i h1 h2).2⟩, ⟨vx_Zq.moved hal h.2.2.1.1, vx_Zq.moved hal h.2.2.1.2⟩, h.2.2.2.1.same hv, fun q hq => va_Nc.moved hal (h.2.2.2.2 q hq)⟩
theorem Ev.kept {ad : Nat → Nat} {A : Nat → Prop} {U : State} {H H1 : Heap} (h : Ev ad A U H) (hq : ∀ a : Nat, a < H.size → ¬ A a → H1[a]? = H[a]?) : Ev ad A U H1 :=
  ⟨h.1, fun i h1 h2 => ⟨(h.2.1 i h1 h2).1.kept hq, (h.2.1 i h1 h2).2.kept hq⟩, ⟨h.2.2.1.1.kept hq, h.2.2.1.2.kept hq⟩, h.2.2.2.1.kept hq, h.2.2.2.2⟩
theorem Ev.narrow {ad : Nat → Nat} {A B : Nat → Prop} {U : State} {H : Heap} (h : Ev ad A U H) (hAB : ∀ q, B q → A q) : Ev ad B U H :=
  ⟨h.1, fun i h1 h2 => ⟨(h.2.1 i h1 h2).1.narrow hAB, (h.2.1 i h1 h2).2.narrow hAB⟩, ⟨h.2.2.1.1.narrow hAB, h.2.2.1.2.narrow hAB⟩, h.2.2.2.1.narrow hAB, h.2.2.2.2⟩
/-- what is known of classes and array classes -/
def KK (D : va_G) (aC : Nat → ClassId) (U : State) : Prop := va_K D clsL [] U ∧ ∀ i, i < 200 → 10 ≤ knd i → ArrOfT U (aC i) (aty (knd i)) ∧ va_RA U (aC i) (aty (knd i))
theorem KK.moved {D : va_G} {aC : Nat → ClassId} {u U : State} (hvm : u.vm.Alike U.vm) (h : KK D aC u) : KK D aC U :=
  ⟨va_K.moved hvm h.1, fun i h1 h2 => ⟨arrOfT_moved hvm (h.2 i h1 h2).1, (h.2 i h1 h2).2.moved hvm⟩⟩
theorem KK.arr {D : va_G} {aC : Nat → ClassId} {U : State} (h : KK D aC U) {i c : Nat} (hk : knd i = c) (h1 : 10 ≤ c) (h2 : c < 20) : va_K D clsL [(aC i, aty c)] U := by
  refine ⟨h.1.1, fun k q hq => ?_⟩
  cases k with
  | zero =>
    cases hq
    have hi : i < 200 := knd_in hk (by omega) h2
    have := h.2 i hi (by omega)
    rw [hk] at this
    exact this
  | succ k => simp at hq
def Wd (D : va_G) (ad : Nat → Nat) (aC : Nat → ClassId) (h : HP) (U : State) (H : Heap) : Prop := va_P D clsL (wl ad aC h) H ∧ KK D aC U
theorem Wd.moved {D : va_G} {ad : Nat → Nat} {aC : Nat → ClassId} {h : HP} {s U : State} {H : Heap} (hW : s.vm.Alike U.vm) (w : Wd D ad aC h s H) : Wd D ad aC h U H := ⟨w.1, KK.moved hW w.2⟩
/-! locals -/
def asc (ad : Nat → Nat) : Nat → List (Option Value) → List (Nat × Value)
  | _, [] => []
  | i, none :: l => asc ad (i + 1) l
  | i, some v :: l => (i, cv ad v) :: asc ad (i + 1) l
theorem asc_mem {ad : Nat → Nat} : ∀ {ls : List (Option Value)} {i j : Nat} {w : Value}, (j, w) ∈ asc ad i ls ↔ i ≤ j ∧ ∃ v, ls[j - i]? = some (some v) ∧ w = cv ad v := by
  intro ls
  induction ls with
  | nil => intro i j w; simp [asc]
  | cons a l ih =>
    intro i j w
    have step : ((j, w) ∈ asc ad (i + 1) l) ↔ (i + 1 ≤ j ∧ ∃ v, (a :: l)[j - i]? = some (some v) ∧ w = cv ad v) := by
      rw [ih]
      constructor
      · rintro ⟨h1, v, h2, h3⟩
        refine ⟨h1, v, ?_, h3⟩
        rw [show j - i = (j - (i + 1)) + 1 by omega, List.getElem?_cons_succ]
        exact h2
      · rintro ⟨h1, v, h2, h3⟩
        refine ⟨h1, v, ?_, h3⟩
        rw [show j - i = (j - (i + 1)) + 1 by omega, List.getElem?_cons_succ] at h2
        exact h2
    cases a with
    | none =>
      simp only [asc]
      rw [step]
      constructor
      · rintro ⟨h1, v, h2, h3⟩
        exact ⟨by omega, v, h2, h3⟩
      · rintro ⟨h1, v, h2, h3⟩
        refine ⟨?_, v, h2, h3⟩
        rcases Nat.lt_or_ge i j with q | q
        · exact q
        · exfalso
          rw [show j - i = 0 by omega] at h2
          simp at h2
    | some b =>
      simp only [asc, List.mem_cons]
      rw [step]
      constructor
      · rintro (h | ⟨h1, v, h2, h3⟩)
        · cases h
          exact ⟨Nat.le_refl _, b, by simp, rfl⟩
        · exact ⟨by omega, v, h2, h3⟩
      · rintro ⟨h1, v, h2, h3⟩
        rcases Nat.lt_or_ge i j with q | q
        · exact Or.inr ⟨q, v, h2, h3⟩
        · left
          rw [show j - i = 0 by omega] at h2
          simp at h2
          subst h2
          rw [h3, show j = i by omega]
def LV (ad : Nat → Nat) (cs : Array Slot) (nL : Nat) (ls : List (Option Value)) : Prop := ls.length = nL ∧ lv_has cs nL (asc ad 0 ls)
theorem LV.get {ad : Nat → Nat} {cs : Array Slot} {nL : Nat} {ls : List (Option Value)} (h : LV ad cs nL ls) {i : Nat} {v : Value} (hv : ls[i]? = some (some v)) : cs[i]? = some (.val (cv ad v)) :=
  h.2.2.2 (i, cv ad v) (asc_mem.mpr ⟨Nat.zero_le _, v, by simpa using hv, rfl⟩)
theorem LV.ix {ad : Nat → Nat} {cs : Array Slot} {nL : Nat} {ls : List (Option Value)} (h : LV ad cs nL ls) {i : Nat} {v : Value} (hv : ls[i]? = some (some v)) : ∃ k : Nat, (asc ad 0 ls)[k]? = some (i, cv ad v) :=
  List.getElem?_of_mem (asc_mem.mpr ⟨Nat.zero_le _, v, by simpa using hv, rfl⟩)
def isL (o : Option Value) : Bool := match o with
  | some (.long _) => true
  | some (.double _) => true
  | _ => false
def okS (ls : List (Option Value)) (i : Nat) : Bool := Nat.blt i ls.length && (Nat.beq i 0 || !(isL (ls.getD (i - 1) none)))
theorem isL_cat {ad : Nat → Nat} {v : Value} (h : isL (some v) = false) : ¬ (cv ad v).category = 2 := by
  cases v <;> simp_all [isL, cv, Value.category]
theorem LV.set1 {ad : Nat → Nat} {cs : Array Slot} {nL : Nat} {ls : List (Option Value)} {i : Nat} {v : Value} (h0 : ls.length = nL) (ho : okS ls i = true) (h : lv_has cs nL ((i, cv ad v) :: (asc ad 0 ls).filter (fun q => !(q.1 == i) && !(q.1 + 1 == i && q.2.category == 2)))) : LV ad cs nL (ls.set i (some v)) := by
  refine ⟨by simpa using h0, h.1, h.2.1, fun q hq => h.2.2 q ?_⟩
  obtain ⟨j, w⟩ := q
  obtain ⟨-, x, hx, rfl⟩ := asc_mem.mp hq
  simp only [okS, Bool.and_eq_true, Bool.or_eq_true, Nat.blt_eq, Nat.beq_eq, Bool.not_eq_true'] at ho
  by_cases e : i = j
  · subst e
    simp only [Nat.sub_zero, List.getElem?_set_self ho.1, Option.some.injEq] at hx
    rw [hx]
    exact List.mem_cons_self
  · simp only [Nat.sub_zero, List.getElem?_set_ne e] at hx
    refine List.mem_cons_of_mem _ (List.mem_filter.mpr ⟨asc_mem.mpr ⟨Nat.zero_le _, x, by simpa using hx, rfl⟩, ?_⟩)
    have n1 : (j == i) = false := by simpa using fun q => e q.symm
    simp only [n1, Bool.not_false, Bool.true_and, Bool.not_eq_true', Bool.and_eq_false_iff]
    by_cases e2 : j + 1 = i
    · right
      rcases ho.2 with z | z
      · omega
      · rw [show i - 1 = j by omega, List.getD_eq_getElem?_getD, hx] at z
        simpa using isL_cat (ad := ad) (v := x) (by simpa using z)
    · left; simpa using e2
theorem LV.set2 {ad : Nat → Nat} {cs : Array Slot} {nL : Nat} {ls : List (Option Value)} {i : Nat} {v : Value} (h0 : ls.length = nL) (ho : okS ls i = true) (h : lv_has cs nL ((i, cv ad v) :: (asc ad 0 ls).filter (fun q => !(q.1 == i) && (!(q.1 == i + 1) && !(q.1 + 1 == i && q.2.category == 2))))) : LV ad cs nL ((ls.set i (some v)).set (i + 1) none) := by
  refine ⟨by simpa using h0, h.1, h.2.1, fun q hq => h.2.2 q ?_⟩
  obtain ⟨j, w⟩ := q
  obtain ⟨-, x, hx, rfl⟩ := asc_mem.mp hq
  simp only [okS, Bool.and_eq_true, Bool.or_eq_true, Nat.blt_eq, Nat.beq_eq, Bool.not_eq_true'] at ho
  simp only [Nat.sub_zero] at hx
  by_cases e1 : i + 1 = j
  · subst e1
    rw [List.getElem?_set] at hx
    simp at hx
  · rw [List.getElem?_set_ne e1] at hx
    by_cases e : i = j
    · subst e
      simp only [List.getElem?_set_self ho.1, Option.some.injEq] at hx
      rw [hx]
      exact List.mem_cons_self
    · simp only [List.getElem?_set_ne e] at hx
      refine List.mem_cons_of_mem _ (List.mem_filter.mpr ⟨asc_mem.mpr ⟨Nat.zero_le _, x, by simpa using hx, rfl⟩, ?_⟩)
      have n1 : (j == i) = false := by simpa using fun q => e q.symm
      have n2 : (j == i + 1) = false := by simpa using fun q => e1 q.symm
      simp only [n1, n2, Bool.not_false, Bool.true_and, Bool.not_eq_true', Bool.and_eq_false_iff]
      by_cases e2 : j + 1 = i
      · right
        rcases ho.2 with z | z
        · omega
        · rw [show i - 1 = j by omega, List.getD_eq_getElem?_getD, hx] at z
          simpa using isL_cat (ad := ad) (v := x) (by simpa using z)
      · left; simpa using e2
theorem LV.setN {ad : Nat → Nat} {cs : Array Slot} {nL : Nat} {ls : List (Option Value)} {i : Nat} {w : Value} (h0 : ls.length = nL) (ho : okS ls i = true) (h : lv_has cs nL ((i, w) :: (asc ad 0 ls).filter (fun q => !(q.1 == i) && !(q.1 + 1 == i && q.2.category == 2)))) : LV ad cs nL (ls.set i none) := by
  refine ⟨by simpa using h0, h.1, h.2.1, fun q hq => h.2.2 q ?_⟩
  obtain ⟨j, w⟩ := q
  obtain ⟨-, x, hx, rfl⟩ := asc_mem.mp hq
  simp only [okS, Bool.and_eq_true, Bool.or_eq_true, Nat.blt_eq, Nat.beq_eq, Bool.not_eq_true'] at ho
  by_cases e : i = j
  · subst e
    simp [List.getElem?_set_self ho.1] at hx
  · simp only [Nat.sub_zero, List.getElem?_set_ne e] at hx
    refine List.mem_cons_of_mem _ (List.mem_filter.mpr ⟨asc_mem.mpr ⟨Nat.zero_le _, x, by simpa using hx, rfl⟩, ?_⟩)
    have n1 : (j == i) = false := by simpa using fun q => e q.symm
    simp only [n1, Bool.not_false, Bool.true_and, Bool.not_eq_true', Bool.and_eq_false_iff]
    by_cases e2 : j + 1 = i
    · right
      rcases ho.2 with z | z
      · omega
      · rw [show i - 1 = j by omega, List.getD_eq_getElem?_getD, hx] at z
        simpa using isL_cat (ad := ad) (v := x) (by simpa using z)
    · left; simpa using e2
/-- forgetting locals -/
theorem LV.wk {ad : Nat → Nat} {cs : Array Slot} {nL : Nat} {ls ls' : List (Option Value)} (h : LV ad cs nL ls) (hl : ls'.length = ls.length) (hs : ∀ (i : Nat) (v : Value), ls'[i]? = some (some v) → ls[i]? = some (some v)) : LV ad cs nL ls' :=
  ⟨hl.trans h.1, h.2.1, h.2.2.1, fun q hq => by
    obtain ⟨j, w⟩ := q
    obtain ⟨-, x, hx, rfl⟩ := asc_mem.mp hq
    exact h.get (hs j x (by simpa using hx))⟩
def ini : List Value → List (Option Value)
  | [] => []
  | v :: l => if v.category = 2 then some v :: none :: ini l else some v :: ini l
theorem ini_asc (ad : Nat → Nat) : ∀ (as : List Value) (i n : Nat), asc ad i (ini as ++ List.replicate n none) = lv_args i (as.map (cv ad)) := by
  intro as
  induction as with
  | nil =>
    intro i n
    simp only [ini, List.nil_append, List.map_nil, lv_args]
    induction n generalizing i with
    | zero => rfl
    | succ n ih => simp only [List.replicate_succ, asc]; exact ih (i + 1)
  | cons v l ih =>
    intro i n
    by_cases hc : v.category = 2
    · simp only [ini, if_pos hc, List.cons_append, asc, List.map_cons, lv_args, cv_cat, ih]
    · simp only [ini, if_neg hc, List.cons_append, asc, List.map_cons, lv_args, cv_cat, ih]
theorem ini_len (ad : Nat → Nat) : ∀ (as : List Value), (lg_sl (as.map (cv ad))).length = (ini as).length := by
  intro as
  induction as with
  | nil => rfl
  | cons v l ih =>
    simp only [lg_sl, List.map_cons, List.flatMap_cons, List.length_append, cv_cat] at ih ⊢
    by_cases hc : v.category = 2
    · simp only [ini, if_pos hc, List.length_cons, List.length_nil]; omega
    · simp only [ini, if_neg hc, List.length_cons, List.length_nil]; omega
def inil (as : List Value) (n : Nat) : List (Option Value) := ini as ++ List.replicate (n - (ini as).length) none
theorem LV.entry (ad : Nat → Nat) (as : List Value) {n : Nat} (h : (ini as).length ≤ n) : LV ad ((lg_sl (as.map (cv ad)) ++ List.replicate (n - (lg_sl (as.map (cv ad))).length) Slot.unset).toArray) n (inil as n) := by
  refine ⟨by simp [inil]; omega, ?_⟩
  rw [inil, ini_asc]
  exact lv_entry _ (by rw [ini_len]; exact h)
