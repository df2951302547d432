/-! the makers of FairWalls and of the reference, by ids -/
def ent' (ad : Nat → Nat) (aC : Nat → ClassId) (h : HP) (i : Nat) : va_E := if knd i = 14 then .inl (aC i, alen i, .inr (.inr (.inr (.inr (fun j => if j < alen i then some (ad (fld i j)) else none))))) else ent ad aC h i
def zrow : Nat → Int32 := upd (upd (upd (upd (upd (upd (fil 196 0 zer) 190 6) 191 1) 192 5) 193 3) 194 4) 195 2
def hIni : HP := fun i => if i < 180 then stF (i % 10) else if i = 201 then zrow else zer
def ordF : List Nat := [180] ++ ([182] ++ (List.range 10 ++ [184, 185, 186, 187])) ++ ([183] ++ ((List.range 10).map (10 + ·) ++ [188, 189, 190, 191])) ++ ([192, 193] ++ (List.range 14).flatMap (fun j => (List.range 10).map (fun i => 20 + 10 * j + i))) ++ ([194, 195, 196] ++ (List.range 2).flatMap (fun j => (List.range 10).map (fun i => 160 + 10 * j + i))) ++ [197, 198, 199] ++ [181]
def wo (ord : List Nat) (ad : Nat → Nat) (aC : Nat → ClassId) : va_W := ord.map (fun i => (ad i, ent' ad aC hIni i))
def postO (ord : List Nat) (i0 h0 : Nat) : KU → Prop := fun u => ∃ (ad : Nat → Nat) (aC : Nat → ClassId), ad i0 = h0 ∧ u.1 = wo ord ad aC ∧ ∀ i ∈ ord, 10 ≤ knd i → (aC i, aty (knd i)) ∈ u.2
def adF (f1 g1 f2 g2 : Nat → Nat) (GP GL : Nat → Nat → Nat) (l : List Nat) (i : Nat) : Nat := if i < 180 then (if i < 10 then f1 i else if i < 20 then f2 (i - 10) else if i < 160 then GP ((i - 20) / 10) ((i - 20) % 10) else GL ((i - 160) / 10) ((i - 160) % 10)) else if 184 ≤ i ∧ i < 188 then g1 (i - 184) else if 188 ≤ i ∧ i < 192 then g2 (i - 188) else l.getD (i - 180) 0
theorem wo_app (a b : List Nat) (ad : Nat → Nat) (aC : Nat → ClassId) : wo (a ++ b) ad aC = wo a ad aC ++ wo b ad aC := List.map_append
set_option maxHeartbeats 4000000 in
theorem wo_st {ad : Nat → Nat} {aC : Nat → ClassId} {f : Nat → Nat} {cA : Nat → ClassId} {j : Nat} (hj : j < 18) (h1 : ∀ i, i < 10 → ad (10 * j + i) = f i) (h2 : ∀ i, 1 ≤ i → i < 10 → aC (10 * j + i) = cA i) : wo ((List.range 10).map (fun i => 10 * j + i)) ad aC = stC f cA := by
  unfold wo stC
  rw [List.map_map]
  refine List.map_congr_left (fun i hi => ?_)
  have hlt : i < 10 := List.mem_range.mp hi
  have hm : (10 * j + i) % 10 = i := by omega
  have hk : knd (10 * j + i) = if i = 0 then 6 else 10 := by
    unfold knd
    rw [if_pos (by omega), hm]
  have hI : hIni (10 * j + i) = stF i := by
    unfold hIni
    rw [if_pos (by omega), hm]
  show (ad (10 * j + i), ent' ad aC hIni (10 * j + i)) = (f i, stE f cA i)
  rw [h1 i hlt]
  congr 1
  unfold ent' stE
  by_cases h0 : i = 0
  · subst h0
    rw [if_pos rfl] at hk
    rw [hk, if_neg (by decide), ent_o (c := 6) hk (by decide), if_pos rfl]
    have hf : ∀ k, k < 9 → ad (fld (10 * j + 0) k) = f (k + 1) := fun k hk9 => by
      have e : fld (10 * j + 0) k = 10 * j + (k + 1) := by
        unfold fld
        rw [if_pos (by omega)]
        omega
      rw [e]
      exact h1 (k + 1) (by omega)
    rw [hI]
    show Sum.inr (6, [Value.ref (ad (fld (10 * j + 0) 0)), .ref (ad (fld (10 * j + 0) 1)), .ref (ad (fld (10 * j + 0) 2)), .ref (ad (fld (10 * j + 0) 3)), .ref (ad (fld (10 * j + 0) 4)), .ref (ad (fld (10 * j + 0) 5)), .ref (ad (fld (10 * j + 0) 6)), .ref (ad (fld (10 * j + 0) 7)), .ref (ad (fld (10 * j + 0) 8)), .int (stF 0 9), .int (stF 0 10), .int (stF 0 11), .int (stF 0 12), .int (stF 0 13)]) = _
    rw [hf 0 (by decide), hf 1 (by decide), hf 2 (by decide), hf 3 (by decide), hf 4 (by decide), hf 5 (by decide), hf 6 (by decide), hf 7 (by decide), hf 8 (by decide)]
    rfl
  · rw [if_neg h0] at hk
    rw [hk, if_neg (by decide), ent_i hk (Or.inl rfl), if_neg h0, hI, h2 i (by omega) hlt]
    have e : alen (10 * j + i) = sT.getD i 0 := by
      unfold alen
      rw [if_pos (by omega), hm]
    rw [e]
theorem wo_stL {ad : Nat → Nat} {aC : Nat → ClassId} {G : Nat → Nat → Nat} {cA : Nat → Nat → ClassId} {b : Nat} (n : Nat) (hb : 10 * b + 10 * n ≤ 180) (h1 : ∀ j, j < n → ∀ i, i < 10 → ad (10 * b + 10 * j + i) = G j i) (h2 : ∀ j, j < n → ∀ i, 1 ≤ i → i < 10 → aC (10 * b + 10 * j + i) = cA j i) : wo ((List.range n).flatMap (fun j => (List.range 10).map (fun i => 10 * b + 10 * j + i))) ad aC = stLs n G cA := by
  unfold stLs
  have e : ∀ l : List Nat, (∀ j ∈ l, j < n) → wo (l.flatMap (fun j => (List.range 10).map (fun i => 10 * b + 10 * j + i))) ad aC = l.flatMap (fun j => stC (G j) (cA j)) := by
    intro l
    induction l with
    | nil => intro _; rfl
    | cons a l ih =>
      intro hl
      rw [List.flatMap_cons, List.flatMap_cons, wo_app, ih (fun j hj => hl j (List.mem_cons_of_mem _ hj))]
      congr 1
      have ha : a < n := hl a List.mem_cons_self
      have e2 : (fun i => 10 * b + 10 * a + i) = (fun i => 10 * (b + a) + i) := by funext i; omega
      rw [e2]
      exact wo_st (by omega) (fun i hi => by rw [← h1 a ha i hi]; congr 1; omega) (fun i h3 h4 => by rw [← h2 a ha i h3 h4]; congr 1; omega)
  exact e _ (fun j hj => List.mem_range.mp hj)

def oF (a b c d f g : Value) : va_E := .inr (7, [a, b, c, d, f, g])
def m_F_init : MI := (⟨"FairWalls", "<init>", "()V"⟩, prog_1_method_1_code, 1, (Option.none : Option Jvm.ClassFile.FieldType), 4, 0, [])
theorem cw_F_init : codeW m_F_init ∈ GT := gtb 27 (by decide +kernel) (by decide +kernel)
theorem iw_F_init : Cond.initialized m_F_init.y.cls ∈ GT := gtb 1 (by decide +kernel) (by decide +kernel)
theorem nw_F_init : Cond.instanceMethod m_F_init.y ∈ GT := gtb 26 (by decide +kernel) (by decide +kernel)
set_option maxHeartbeats 4000000 in
theorem c_F_init (l : Launch) (D : va_G) (ad : Nat → Nat) (h0 : Nat) : KC' l D ad m_F_init 199 4156 [.ref h0] [(h0, .inr (7, [.null, .null, .null, .null, .null, .null]))] [] (postO ordF 180 h0) := by
  refine KC'.ofW (by decide +kernel) rfl rfl (Nat.le_of_ble_eq_true rfl) (fun p e s m args below meth c cs F hP hK hD hl => ?_)
  have hS : va_S (va_A [(h0, .inr (7, [.null, .null, .null, .null, .null, .null]))] s.heap.size) s.heap s.heap [] := va_S.rf
  generalize va_A [(h0, .inr (7, [.null, .null, .null, .null, .null, .null]))] s.heap.size = A at F hD hS ⊢
  refine k_run (pc' := 1) (st := []) [.aload_n 0] F.1 F.2.1 (by decide +kernel) rfl rfl hl rfl (fun cs hl => ?_)
  refine k_obj (idx := 1) F hl (gtb 28 (by decide +kernel) (by decide +kernel)) (by decide +kernel) (by decide) (Nat.le_of_ble_eq_true rfl) ?_
  refine k_run (pc' := 5) (st := []) [.aload_n 0] F.1 F.2.1 (by decide +kernel) rfl rfl hl rfl (fun cs hl => ?_)
  refine k_newI (ws := ((h0, .inr (7, [.null, .null, .null, .null, .null, .null])) :: ([]))) (rest := [.ref h0]) (ix := 7) (idx := 9) (ci := 1) (N := 2) (C := "FairWalls$Fair") (T := TX1) (fs := [.null, .null]) (fun q => c_A_init l D ad q) F hl (gdT inTX1 gdTX1) tyX1 tyX1_ok (gtb 31 (by decide +kernel) (by decide +kernel)) (gtb 32 (by decide +kernel) (by decide +kernel)) (gtb 2 (by decide +kernel) (by decide +kernel)) rfl (fun j hj => by rcases (by omega : j = 0 ∨ j = 1) with rfl | rfl <;> rfl) (Or.inr ⟨⟨"FairWalls", nwt 33 (by decide +kernel) (by decide +kernel)⟩, iw_A_init, cw_A_init, rfl, by decide +kernel, by decide +kernel⟩) rfl rfl nw_A_init hK hP hD hS (by decide +kernel) (by decide +kernel) (by decide +kernel) (Nat.le_of_ble_eq_true rfl) (Nat.le_of_ble_eq_true rfl) ⟨⟨Nat.le_of_ble_eq_true rfl, Nat.le_of_ble_eq_true rfl⟩, ⟨Nat.le_of_ble_eq_true rfl, Nat.le_of_ble_eq_true rfl⟩⟩ (Nat.le_of_ble_eq_true rfl) (fun q1 u1 H locs hu hK hP hD hS => ?_)
  obtain ⟨x1, y1⟩ := u1
  obtain ⟨f1, cA1, g1, cB1, rfl, hA1, hB1⟩ := hu
  refine k_putH (idx := 10) (j := 0) (R0 := (frC q1 f1 cA1 g1 cB1)) (rest := []) F (gdT inTX7 gdTX7) tyX7 tyX7_ok nmX7 hK hP hD hS rfl (by decide) (gtb 218 (by decide +kernel) (by decide +kernel)) rfl rfl (F.2.2.2.2.2.2.2.2.2 rfl) rfl rfl rfl (Nat.le_of_ble_eq_true rfl) (by decide +kernel) (fun H locs hP hD hS => ?_)
  replace hP : va_P D clsL ((h0, .inr (7, [.ref q1, .null, .null, .null, .null, .null])) :: (frC q1 f1 cA1 g1 cB1)) H := hP
  replace hD : va_D A ((h0, .inr (7, [.ref q1, .null, .null, .null, .null, .null])) :: (frC q1 f1 cA1 g1 cB1)) := hD
  refine k_run (pc' := 16) (st := []) [.aload_n 0] F.1 F.2.1 (by decide +kernel) rfl rfl hl rfl (fun cs hl => ?_)
  refine k_newI (ws := ((h0, .inr (7, [.ref q1, .null, .null, .null, .null, .null])) :: (frC q1 f1 cA1 g1 cB1))) (rest := [.ref h0]) (ix := 7) (idx := 9) (ci := 1) (N := 2) (C := "FairWalls$Fair") (T := TX1) (fs := [.null, .null]) (fun q => c_A_init l D ad q) F hl (gdT inTX1 gdTX1) tyX1 tyX1_ok (gtb 31 (by decide +kernel) (by decide +kernel)) (gtb 32 (by decide +kernel) (by decide +kernel)) (gtb 2 (by decide +kernel) (by decide +kernel)) rfl (fun j hj => by rcases (by omega : j = 0 ∨ j = 1) with rfl | rfl <;> rfl) (Or.inr ⟨⟨"FairWalls", nwt 33 (by decide +kernel) (by decide +kernel)⟩, iw_A_init, cw_A_init, rfl, by decide +kernel, by decide +kernel⟩) rfl rfl nw_A_init hK hP hD hS (by decide +kernel) (by decide +kernel) (by decide +kernel) (Nat.le_of_ble_eq_true rfl) (Nat.le_of_ble_eq_true rfl) ⟨⟨Nat.le_of_ble_eq_true rfl, Nat.le_of_ble_eq_true rfl⟩, ⟨Nat.le_of_ble_eq_true rfl, Nat.le_of_ble_eq_true rfl⟩⟩ (Nat.le_of_ble_eq_true rfl) (fun q2 u2 H locs hu hK hP hD hS => ?_)
  obtain ⟨x2, y2⟩ := u2
  obtain ⟨f2, cA2, g2, cB2, rfl, hA2, hB2⟩ := hu
  refine k_putH (idx := 16) (j := 1) (R0 := (frC q1 f1 cA1 g1 cB1 ++ frC q2 f2 cA2 g2 cB2)) (rest := []) F (gdT inTX7 gdTX7) tyX7 tyX7_ok nmX7 hK hP hD hS rfl (by decide) (gtb 219 (by decide +kernel) (by decide +kernel)) rfl rfl (F.2.2.2.2.2.2.2.2.2 rfl) rfl rfl rfl (Nat.le_of_ble_eq_true rfl) (by decide +kernel) (fun H locs hP hD hS => ?_)
  replace hP : va_P D clsL ((h0, .inr (7, [.ref q1, .ref q2, .null, .null, .null, .null])) :: (frC q1 f1 cA1 g1 cB1 ++ frC q2 f2 cA2 g2 cB2)) H := hP
  replace hD : va_D A ((h0, .inr (7, [.ref q1, .ref q2, .null, .null, .null, .null])) :: (frC q1 f1 cA1 g1 cB1 ++ frC q2 f2 cA2 g2 cB2)) := hD
  refine k_run (pc' := 27) (st := []) [.aload_n 0] F.1 F.2.1 (by decide +kernel) rfl rfl hl rfl (fun cs hl => ?_)
  refine k_newI (ws := ((h0, .inr (7, [.ref q1, .ref q2, .null, .null, .null, .null])) :: (frC q1 f1 cA1 g1 cB1 ++ frC q2 f2 cA2 g2 cB2))) (rest := [.ref h0]) (ix := 19) (idx := 21) (ci := 3) (N := 3) (C := "FairWalls$Past") (T := TX3) (fs := [.null, .int 0, .int 0]) (fun q => c_P_init l D ad q) F hl (gdT inTX3 gdTX3) tyX3 tyX3_ok (gtb 160 (by decide +kernel) (by decide +kernel)) (gtb 161 (by decide +kernel) (by decide +kernel)) (gtb 7 (by decide +kernel) (by decide +kernel)) rfl (fun j hj => by rcases (by omega : j = 0 ∨ j = 1 ∨ j = 2) with rfl | rfl | rfl <;> rfl) (Or.inl ⟨gtb 162 (by decide +kernel) (by decide +kernel), iw_P_init, cw_P_init, rfl, by decide +kernel, by decide +kernel⟩) rfl rfl nw_P_init hK hP hD hS (by decide +kernel) (by decide +kernel) (by decide +kernel) (Nat.le_of_ble_eq_true rfl) (Nat.le_of_ble_eq_true rfl) ⟨⟨Nat.le_of_ble_eq_true rfl, Nat.le_of_ble_eq_true rfl⟩, ⟨Nat.le_of_ble_eq_true rfl, Nat.le_of_ble_eq_true rfl⟩⟩ (Nat.le_of_ble_eq_true rfl) (fun q3 u3 H locs hu hK hP hD hS => ?_)
  obtain ⟨x3, y3⟩ := u3
  obtain ⟨a3, b3, d3, e3, GP, cP, rfl, hP1, hP2, hP3⟩ := hu
  refine k_putH (idx := 22) (j := 2) (R0 := (frC q1 f1 cA1 g1 cB1 ++ frC q2 f2 cA2 g2 cB2 ++ ((q3, oP a3) :: (a3, .inl (d3, 14, .inr (.inr (.inr (.inr (stR 14 GP)))))) :: (([] : va_W) ++ stLs 14 GP cP)))) (rest := []) F (gdT inTX7 gdTX7) tyX7 tyX7_ok nmX7 hK hP hD hS rfl (by decide) (gtb 220 (by decide +kernel) (by decide +kernel)) rfl rfl (F.2.2.2.2.2.2.2.2.2 rfl) rfl rfl rfl (Nat.le_of_ble_eq_true rfl) (by decide +kernel) (fun H locs hP hD hS => ?_)
  replace hP : va_P D clsL ((h0, .inr (7, [.ref q1, .ref q2, .ref q3, .null, .null, .null])) :: (frC q1 f1 cA1 g1 cB1 ++ frC q2 f2 cA2 g2 cB2 ++ ((q3, oP a3) :: (a3, .inl (d3, 14, .inr (.inr (.inr (.inr (stR 14 GP)))))) :: (([] : va_W) ++ stLs 14 GP cP)))) H := hP
  replace hD : va_D A ((h0, .inr (7, [.ref q1, .ref q2, .ref q3, .null, .null, .null])) :: (frC q1 f1 cA1 g1 cB1 ++ frC q2 f2 cA2 g2 cB2 ++ ((q3, oP a3) :: (a3, .inl (d3, 14, .inr (.inr (.inr (.inr (stR 14 GP)))))) :: (([] : va_W) ++ stLs 14 GP cP)))) := hD
  refine k_run (pc' := 38) (st := []) [.aload_n 0] F.1 F.2.1 (by decide +kernel) rfl rfl hl rfl (fun cs hl => ?_)
  refine k_newI (ws := ((h0, .inr (7, [.ref q1, .ref q2, .ref q3, .null, .null, .null])) :: (frC q1 f1 cA1 g1 cB1 ++ frC q2 f2 cA2 g2 cB2 ++ ((q3, oP a3) :: (a3, .inl (d3, 14, .inr (.inr (.inr (.inr (stR 14 GP)))))) :: (([] : va_W) ++ stLs 14 GP cP))))) (rest := [.ref h0]) (ix := 26) (idx := 28) (ci := 5) (N := 2) (C := "FairWalls$Slots") (T := TX5) (fs := [.null, .null]) (fun q => c_L_init l D ad q) F hl (gdT inTX5 gdTX5) tyX5 tyX5_ok (gtb 179 (by decide +kernel) (by decide +kernel)) (gtb 180 (by decide +kernel) (by decide +kernel)) (gtb 8 (by decide +kernel) (by decide +kernel)) rfl (fun j hj => by rcases (by omega : j = 0 ∨ j = 1) with rfl | rfl <;> rfl) (Or.inl ⟨gtb 181 (by decide +kernel) (by decide +kernel), iw_L_init, cw_L_init, rfl, by decide +kernel, by decide +kernel⟩) rfl rfl nw_L_init hK hP hD hS (by decide +kernel) (by decide +kernel) (by decide +kernel) (Nat.le_of_ble_eq_true rfl) (Nat.le_of_ble_eq_true rfl) ⟨⟨Nat.le_of_ble_eq_true rfl, Nat.le_of_ble_eq_true rfl⟩, ⟨Nat.le_of_ble_eq_true rfl, Nat.le_of_ble_eq_true rfl⟩⟩ (Nat.le_of_ble_eq_true rfl) (fun q4 u4 H locs hu hK hP hD hS => ?_)
  obtain ⟨x4, y4⟩ := u4
  obtain ⟨a4, b4, d4, e4, GL, cL, rfl, hL1, hL2, hL3⟩ := hu
  refine k_putH (idx := 29) (j := 3) (R0 := (frC q1 f1 cA1 g1 cB1 ++ frC q2 f2 cA2 g2 cB2 ++ ((q3, oP a3) :: (a3, .inl (d3, 14, .inr (.inr (.inr (.inr (stR 14 GP)))))) :: (([] : va_W) ++ stLs 14 GP cP)) ++ ((q4, oL b4 a4) :: (a4, .inl (d4, 2, .inr (.inr (.inr (.inr (stR 2 GL)))))) :: (([(b4, .inl (e4, 2, .inl (fun _ => 0)))] : va_W) ++ stLs 2 GL cL)))) (rest := []) F (gdT inTX7 gdTX7) tyX7 tyX7_ok nmX7 hK hP hD hS rfl (by decide) (gtb 221 (by decide +kernel) (by decide +kernel)) rfl rfl (F.2.2.2.2.2.2.2.2.2 rfl) rfl rfl rfl (Nat.le_of_ble_eq_true rfl) (by decide +kernel) (fun H locs hP hD hS => ?_)
  replace hP : va_P D clsL ((h0, .inr (7, [.ref q1, .ref q2, .ref q3, .ref q4, .null, .null])) :: (frC q1 f1 cA1 g1 cB1 ++ frC q2 f2 cA2 g2 cB2 ++ ((q3, oP a3) :: (a3, .inl (d3, 14, .inr (.inr (.inr (.inr (stR 14 GP)))))) :: (([] : va_W) ++ stLs 14 GP cP)) ++ ((q4, oL b4 a4) :: (a4, .inl (d4, 2, .inr (.inr (.inr (.inr (stR 2 GL)))))) :: (([(b4, .inl (e4, 2, .inl (fun _ => 0)))] : va_W) ++ stLs 2 GL cL)))) H := hP
  replace hD : va_D A ((h0, .inr (7, [.ref q1, .ref q2, .ref q3, .ref q4, .null, .null])) :: (frC q1 f1 cA1 g1 cB1 ++ frC q2 f2 cA2 g2 cB2 ++ ((q3, oP a3) :: (a3, .inl (d3, 14, .inr (.inr (.inr (.inr (stR 14 GP)))))) :: (([] : va_W) ++ stLs 14 GP cP)) ++ ((q4, oL b4 a4) :: (a4, .inl (d4, 2, .inr (.inr (.inr (.inr (stR 2 GL)))))) :: (([(b4, .inl (e4, 2, .inl (fun _ => 0)))] : va_W) ++ stLs 2 GL cL)))) := hD
  refine k_run (pc' := 49) (st := []) [.aload_n 0] F.1 F.2.1 (by decide +kernel) rfl rfl hl rfl (fun cs hl => ?_)
  refine k_newI (ws := ((h0, .inr (7, [.ref q1, .ref q2, .ref q3, .ref q4, .null, .null])) :: (frC q1 f1 cA1 g1 cB1 ++ frC q2 f2 cA2 g2 cB2 ++ ((q3, oP a3) :: (a3, .inl (d3, 14, .inr (.inr (.inr (.inr (stR 14 GP)))))) :: (([] : va_W) ++ stLs 14 GP cP)) ++ ((q4, oL b4 a4) :: (a4, .inl (d4, 2, .inr (.inr (.inr (.inr (stR 2 GL)))))) :: (([(b4, .inl (e4, 2, .inl (fun _ => 0)))] : va_W) ++ stLs 2 GL cL))))) (rest := [.ref h0]) (ix := 33) (idx := 35) (ci := 2) (N := 5) (C := "FairWalls$FairText") (T := TX2) (fs := [.null, .null, .int 0, .int 0, .int 0]) (fun q => c_T_init l D ad q) F hl (gdT inTX2 gdTX2) tyX2 tyX2_ok (gtb 195 (by decide +kernel) (by decide +kernel)) (gtb 196 (by decide +kernel) (by decide +kernel)) (gtb 9 (by decide +kernel) (by decide +kernel)) rfl (fun j hj => by rcases (by omega : j = 0 ∨ j = 1 ∨ j = 2 ∨ j = 3 ∨ j = 4) with rfl | rfl | rfl | rfl | rfl <;> rfl) (Or.inr ⟨⟨"FairWalls", nwt 197 (by decide +kernel) (by decide +kernel)⟩, iw_T_init, cw_T_init, rfl, by decide +kernel, by decide +kernel⟩) rfl rfl nw_T_init hK hP hD hS (by decide +kernel) (by decide +kernel) (by decide +kernel) (Nat.le_of_ble_eq_true rfl) (Nat.le_of_ble_eq_true rfl) ⟨⟨Nat.le_of_ble_eq_true rfl, Nat.le_of_ble_eq_true rfl⟩, ⟨Nat.le_of_ble_eq_true rfl, Nat.le_of_ble_eq_true rfl⟩⟩ (Nat.le_of_ble_eq_true rfl) (fun q5 u5 H locs hu hK hP hD hS => ?_)
  obtain ⟨x5, y5⟩ := u5
  obtain ⟨f5, c5, rfl, rfl, hT1, hT2⟩ := hu
  refine k_putH (idx := 36) (j := 4) (R0 := (frC q1 f1 cA1 g1 cB1 ++ frC q2 f2 cA2 g2 cB2 ++ ((q3, oP a3) :: (a3, .inl (d3, 14, .inr (.inr (.inr (.inr (stR 14 GP)))))) :: (([] : va_W) ++ stLs 14 GP cP)) ++ ((q4, oL b4 a4) :: (a4, .inl (d4, 2, .inr (.inr (.inr (.inr (stR 2 GL)))))) :: (([(b4, .inl (e4, 2, .inl (fun _ => 0)))] : va_W) ++ stLs 2 GL cL)) ++ txC f5 c5)) (rest := []) F (gdT inTX7 gdTX7) tyX7 tyX7_ok nmX7 hK hP hD hS rfl (by decide) (gtb 222 (by decide +kernel) (by decide +kernel)) rfl rfl (F.2.2.2.2.2.2.2.2.2 rfl) rfl rfl rfl (Nat.le_of_ble_eq_true rfl) (by decide +kernel) (fun H locs hP hD hS => ?_)
  replace hP : va_P D clsL ((h0, .inr (7, [.ref q1, .ref q2, .ref q3, .ref q4, .ref (f5 0), .null])) :: (frC q1 f1 cA1 g1 cB1 ++ frC q2 f2 cA2 g2 cB2 ++ ((q3, oP a3) :: (a3, .inl (d3, 14, .inr (.inr (.inr (.inr (stR 14 GP)))))) :: (([] : va_W) ++ stLs 14 GP cP)) ++ ((q4, oL b4 a4) :: (a4, .inl (d4, 2, .inr (.inr (.inr (.inr (stR 2 GL)))))) :: (([(b4, .inl (e4, 2, .inl (fun _ => 0)))] : va_W) ++ stLs 2 GL cL)) ++ txC f5 c5)) H := hP
  replace hD : va_D A ((h0, .inr (7, [.ref q1, .ref q2, .ref q3, .ref q4, .ref (f5 0), .null])) :: (frC q1 f1 cA1 g1 cB1 ++ frC q2 f2 cA2 g2 cB2 ++ ((q3, oP a3) :: (a3, .inl (d3, 14, .inr (.inr (.inr (.inr (stR 14 GP)))))) :: (([] : va_W) ++ stLs 14 GP cP)) ++ ((q4, oL b4 a4) :: (a4, .inl (d4, 2, .inr (.inr (.inr (.inr (stR 2 GL)))))) :: (([(b4, .inl (e4, 2, .inl (fun _ => 0)))] : va_W) ++ stLs 2 GL cL)) ++ txC f5 c5)) := hD
  refine k_run (pc' := 61) (st := []) [.aload_n 0, .iconst 3] F.1 F.2.1 (by decide +kernel) rfl rfl hl rfl (fun cs hl => ?_)
  refine k_newF (own := "FairWalls") (T := TX7) (N := 6) (ci := 7) (idx := 40) (j := 5) (at9 := .int) (ty := .int) (N' := 3) (R0 := (frC q1 f1 cA1 g1 cB1 ++ frC q2 f2 cA2 g2 cB2 ++ ((q3, oP a3) :: (a3, .inl (d3, 14, .inr (.inr (.inr (.inr (stR 14 GP)))))) :: (([] : va_W) ++ stLs 14 GP cP)) ++ ((q4, oL b4 a4) :: (a4, .inl (d4, 2, .inr (.inr (.inr (.inr (stR 2 GL)))))) :: (([(b4, .inl (e4, 2, .inl (fun _ => 0)))] : va_W) ++ stLs 2 GL cL)) ++ txC f5 c5)) (rest := []) F.1 F.2.1 F.2.2.2.2.2.1 (gdT inTX7 gdTX7) tyX7 tyX7_ok nmX7 F.2.2.2.2.1 ac_int rfl (by simp) hK hP hD hS F.2.2.2.2.2.2.2.2.1 rfl (by decide) (gtb 223 (by decide +kernel) (by decide +kernel)) rfl rfl (F.2.2.2.2.2.2.2.2.2 rfl) rfl (Nat.le_of_ble_eq_true rfl) (by decide) rfl (by decide) (Nat.le_of_ble_eq_true rfl) (Nat.le_of_ble_eq_true rfl) (by decide +kernel) (by decide +kernel) (fun q6 c6 H locs hK hP hD hS => ?_)
  refine k_ret (u := (_, _)) F rfl hS hP hK hD ?_ (by decide) (by decide) (by decide +kernel)
  refine ⟨(adF f1 g1 f2 g2 GP GL [h0, q6, q1, q2, 0, 0, 0, 0, 0, 0, 0, 0, q3, a3, q4, a4, b4, f5 0, f5 1, f5 2]), (adF cA1 cB1 cA2 cB2 cP cL [0, c6, 0, 0, 0, 0, 0, 0, 0, 0, 0, 0, 0, d3, 0, d4, e4, 0, c5 1, c5 2]), rfl, ?_, ?_⟩
  · have s1 : wo ((List.range 10)) (adF f1 g1 f2 g2 GP GL [h0, q6, q1, q2, 0, 0, 0, 0, 0, 0, 0, 0, q3, a3, q4, a4, b4, f5 0, f5 1, f5 2]) (adF cA1 cB1 cA2 cB2 cP cL [0, c6, 0, 0, 0, 0, 0, 0, 0, 0, 0, 0, 0, d3, 0, d4, e4, 0, c5 1, c5 2]) = stC f1 cA1 := by
      have e0 : List.range 10 = (List.range 10).map (fun i => 10 * 0 + i) := by decide
      rw [e0]
      exact wo_st (by decide) (fun i hi => by rcases (by omega : i = 0 ∨ i = 1 ∨ i = 2 ∨ i = 3 ∨ i = 4 ∨ i = 5 ∨ i = 6 ∨ i = 7 ∨ i = 8 ∨ i = 9) with rfl | rfl | rfl | rfl | rfl | rfl | rfl | rfl | rfl | rfl <;> rfl) (fun i h1 hi => by rcases (by omega : i = 1 ∨ i = 2 ∨ i = 3 ∨ i = 4 ∨ i = 5 ∨ i = 6 ∨ i = 7 ∨ i = 8 ∨ i = 9) with rfl | rfl | rfl | rfl | rfl | rfl | rfl | rfl | rfl <;> rfl)
    have s2 : wo (((List.range 10).map (10 + ·))) (adF f1 g1 f2 g2 GP GL [h0, q6, q1, q2, 0, 0, 0, 0, 0, 0, 0, 0, q3, a3, q4, a4, b4, f5 0, f5 1, f5 2]) (adF cA1 cB1 cA2 cB2 cP cL [0, c6, 0, 0, 0, 0, 0, 0, 0, 0, 0, 0, 0, d3, 0, d4, e4, 0, c5 1, c5 2]) = stC f2 cA2 := by
      exact wo_st (j := 1) (by decide) (fun i hi => by rcases (by omega : i = 0 ∨ i = 1 ∨ i = 2 ∨ i = 3 ∨ i = 4 ∨ i = 5 ∨ i = 6 ∨ i = 7 ∨ i = 8 ∨ i = 9) with rfl | rfl | rfl | rfl | rfl | rfl | rfl | rfl | rfl | rfl <;> rfl) (fun i h1 hi => by rcases (by omega : i = 1 ∨ i = 2 ∨ i = 3 ∨ i = 4 ∨ i = 5 ∨ i = 6 ∨ i = 7 ∨ i = 8 ∨ i = 9) with rfl | rfl | rfl | rfl | rfl | rfl | rfl | rfl | rfl <;> rfl)
    have p1 : wo ([184, 185, 186, 187]) (adF f1 g1 f2 g2 GP GL [h0, q6, q1, q2, 0, 0, 0, 0, 0, 0, 0, 0, q3, a3, q4, a4, b4, f5 0, f5 1, f5 2]) (adF cA1 cB1 cA2 cB2 cP cL [0, c6, 0, 0, 0, 0, 0, 0, 0, 0, 0, 0, 0, d3, 0, d4, e4, 0, c5 1, c5 2]) = pwC g1 cB1 := by
      rfl
    have p2 : wo ([188, 189, 190, 191]) (adF f1 g1 f2 g2 GP GL [h0, q6, q1, q2, 0, 0, 0, 0, 0, 0, 0, 0, q3, a3, q4, a4, b4, f5 0, f5 1, f5 2]) (adF cA1 cB1 cA2 cB2 cP cL [0, c6, 0, 0, 0, 0, 0, 0, 0, 0, 0, 0, 0, d3, 0, d4, e4, 0, c5 1, c5 2]) = pwC g2 cB2 := by
      rfl
    have t1 : wo ([197, 198, 199]) (adF f1 g1 f2 g2 GP GL [h0, q6, q1, q2, 0, 0, 0, 0, 0, 0, 0, 0, q3, a3, q4, a4, b4, f5 0, f5 1, f5 2]) (adF cA1 cB1 cA2 cB2 cP cL [0, c6, 0, 0, 0, 0, 0, 0, 0, 0, 0, 0, 0, d3, 0, d4, e4, 0, c5 1, c5 2]) = txC f5 c5 := by
      rfl
    have l1 : wo ((List.range 14).flatMap (fun j => (List.range 10).map (fun i => 10 * 2 + 10 * j + i))) (adF f1 g1 f2 g2 GP GL [h0, q6, q1, q2, 0, 0, 0, 0, 0, 0, 0, 0, q3, a3, q4, a4, b4, f5 0, f5 1, f5 2]) (adF cA1 cB1 cA2 cB2 cP cL [0, c6, 0, 0, 0, 0, 0, 0, 0, 0, 0, 0, 0, d3, 0, d4, e4, 0, c5 1, c5 2]) = stLs 14 GP cP := by
      exact wo_stL (b := 2) 14 (by decide) (fun j hj i hi => by
      unfold adF
      rw [if_pos (by omega), if_neg (by omega), if_neg (by omega), if_pos (by omega)]
      have z1 : (10 * 2 + 10 * j + i - 20) / 10 = j := by omega
      have z2 : (10 * 2 + 10 * j + i - 20) % 10 = i := by omega
      rw [z1, z2]) (fun j hj i h1 hi => by
      unfold adF
      rw [if_pos (by omega), if_neg (by omega), if_neg (by omega), if_pos (by omega)]
      have z1 : (10 * 2 + 10 * j + i - 20) / 10 = j := by omega
      have z2 : (10 * 2 + 10 * j + i - 20) % 10 = i := by omega
      rw [z1, z2])
    have l2 : wo ((List.range 2).flatMap (fun j => (List.range 10).map (fun i => 10 * 16 + 10 * j + i))) (adF f1 g1 f2 g2 GP GL [h0, q6, q1, q2, 0, 0, 0, 0, 0, 0, 0, 0, q3, a3, q4, a4, b4, f5 0, f5 1, f5 2]) (adF cA1 cB1 cA2 cB2 cP cL [0, c6, 0, 0, 0, 0, 0, 0, 0, 0, 0, 0, 0, d3, 0, d4, e4, 0, c5 1, c5 2]) = stLs 2 GL cL := by
      exact wo_stL (b := 16) 2 (by decide) (fun j hj i hi => by
      unfold adF
      rw [if_pos (by omega), if_neg (by omega), if_neg (by omega), if_neg (by omega)]
      have z1 : (10 * 16 + 10 * j + i - 160) / 10 = j := by omega
      have z2 : (10 * 16 + 10 * j + i - 160) % 10 = i := by omega
      rw [z1, z2]) (fun j hj i h1 hi => by
      unfold adF
      rw [if_pos (by omega), if_neg (by omega), if_neg (by omega), if_neg (by omega)]
      have z1 : (10 * 16 + 10 * j + i - 160) / 10 = j := by omega
      have z2 : (10 * 16 + 10 * j + i - 160) % 10 = i := by omega
      rw [z1, z2])
    have l1 : wo ((List.range 14).flatMap (fun j => (List.range 10).map (fun i => 20 + 10 * j + i))) (adF f1 g1 f2 g2 GP GL [h0, q6, q1, q2, 0, 0, 0, 0, 0, 0, 0, 0, q3, a3, q4, a4, b4, f5 0, f5 1, f5 2]) (adF cA1 cB1 cA2 cB2 cP cL [0, c6, 0, 0, 0, 0, 0, 0, 0, 0, 0, 0, 0, d3, 0, d4, e4, 0, c5 1, c5 2]) = stLs 14 GP cP := l1
    have l2 : wo ((List.range 2).flatMap (fun j => (List.range 10).map (fun i => 160 + 10 * j + i))) (adF f1 g1 f2 g2 GP GL [h0, q6, q1, q2, 0, 0, 0, 0, 0, 0, 0, 0, q3, a3, q4, a4, b4, f5 0, f5 1, f5 2]) (adF cA1 cB1 cA2 cB2 cP cL [0, c6, 0, 0, 0, 0, 0, 0, 0, 0, 0, 0, 0, d3, 0, d4, e4, 0, c5 1, c5 2]) = stLs 2 GL cL := l2
    have r1 : wo ([192, 193]) (adF f1 g1 f2 g2 GP GL [h0, q6, q1, q2, 0, 0, 0, 0, 0, 0, 0, 0, q3, a3, q4, a4, b4, f5 0, f5 1, f5 2]) (adF cA1 cB1 cA2 cB2 cP cL [0, c6, 0, 0, 0, 0, 0, 0, 0, 0, 0, 0, 0, d3, 0, d4, e4, 0, c5 1, c5 2]) = [(q3, oP a3), (a3, .inl (d3, 14, .inr (.inr (.inr (.inr (stR 14 GP))))))] := by
      have z : (fun j => if j < 14 then some ((adF f1 g1 f2 g2 GP GL [h0, q6, q1, q2, 0, 0, 0, 0, 0, 0, 0, 0, q3, a3, q4, a4, b4, f5 0, f5 1, f5 2]) (20 + 10 * j)) else none : Nat → Option Nat) = stR 14 GP := by
        funext j
        unfold stR
        by_cases hj : j < 14
        · rw [if_pos hj, if_pos hj]
          unfold adF
          rw [if_pos (by omega), if_neg (by omega), if_neg (by omega), if_pos (by omega)]
          have z1 : (20 + 10 * j - 20) / 10 = j := by omega
          have z2 : (20 + 10 * j - 20) % 10 = 0 := by omega
          rw [z1, z2]
        · rw [if_neg hj, if_neg hj]
      rw [← z]
      rfl
    have r2 : wo ([194, 195, 196]) (adF f1 g1 f2 g2 GP GL [h0, q6, q1, q2, 0, 0, 0, 0, 0, 0, 0, 0, q3, a3, q4, a4, b4, f5 0, f5 1, f5 2]) (adF cA1 cB1 cA2 cB2 cP cL [0, c6, 0, 0, 0, 0, 0, 0, 0, 0, 0, 0, 0, d3, 0, d4, e4, 0, c5 1, c5 2]) = [(q4, oL b4 a4), (a4, .inl (d4, 2, .inr (.inr (.inr (.inr (stR 2 GL)))))), (b4, .inl (e4, 2, .inl (fun _ => 0)))] := by
      have z : (fun j => if j < 2 then some ((adF f1 g1 f2 g2 GP GL [h0, q6, q1, q2, 0, 0, 0, 0, 0, 0, 0, 0, q3, a3, q4, a4, b4, f5 0, f5 1, f5 2]) (160 + 10 * j)) else none : Nat → Option Nat) = stR 2 GL := by
        funext j
        unfold stR
        by_cases hj : j < 2
        · rw [if_pos hj, if_pos hj]
          unfold adF
          rw [if_pos (by omega), if_neg (by omega), if_neg (by omega), if_neg (by omega)]
          have z1 : (160 + 10 * j - 160) / 10 = j := by omega
          have z2 : (160 + 10 * j - 160) % 10 = 0 := by omega
          rw [z1, z2]
        · rw [if_neg hj, if_neg hj]
      rw [← z]
      rfl
    rw [ordF, wo_app, wo_app, wo_app, wo_app, wo_app, wo_app, wo_app [182], wo_app (List.range 10), s1, p1, wo_app [183], wo_app (List.map _ _), s2, p2, wo_app [192, 193], r1, l1, wo_app [194, 195, 196], r2, l2, t1]
    unfold frC
    simp only [List.append_assoc, List.cons_append, List.nil_append]
    rfl
  · intro i hi hk
    have m1 : ∀ q ∈ y1, q ∈ ((((([] ++ y1) ++ y2) ++ y3) ++ y4) ++ y5) ++ [(c6, FieldType.int)] := fun q hq => by simp [hq]
    have m2 : ∀ q ∈ y2, q ∈ ((((([] ++ y1) ++ y2) ++ y3) ++ y4) ++ y5) ++ [(c6, FieldType.int)] := fun q hq => by simp [hq]
    have m3 : ∀ q ∈ y3, q ∈ ((((([] ++ y1) ++ y2) ++ y3) ++ y4) ++ y5) ++ [(c6, FieldType.int)] := fun q hq => by simp [hq]
    have m4 : ∀ q ∈ y4, q ∈ ((((([] ++ y1) ++ y2) ++ y3) ++ y4) ++ y5) ++ [(c6, FieldType.int)] := fun q hq => by simp [hq]
    have m5 : ∀ q ∈ y5, q ∈ ((((([] ++ y1) ++ y2) ++ y3) ++ y4) ++ y5) ++ [(c6, FieldType.int)] := fun q hq => by simp [hq]
    show ((adF cA1 cB1 cA2 cB2 cP cL [0, c6, 0, 0, 0, 0, 0, 0, 0, 0, 0, 0, 0, d3, 0, d4, e4, 0, c5 1, c5 2]) i, aty (knd i)) ∈ ((((([] ++ y1) ++ y2) ++ y3) ++ y4) ++ y5) ++ [(c6, FieldType.int)]
    have hi2 : i < 200 := (by decide +kernel : ∀ i ∈ ordF, i < 200) i hi
    rcases (by decide +kernel : ∀ i, i < 200 → 10 ≤ knd i → (i < 180 ∧ i % 10 ≠ 0 ∧ knd i = 10) ∨ i = 181 ∨ i = 185 ∨ i = 186 ∨ i = 187 ∨ i = 189 ∨ i = 190 ∨ i = 191 ∨ i = 193 ∨ i = 195 ∨ i = 196 ∨ i = 198 ∨ i = 199) i hi2 hk with ⟨z1, z2, z3⟩ | rfl | rfl | rfl | rfl | rfl | rfl | rfl | rfl | rfl | rfl | rfl | rfl
    · rw [z3]
      unfold adF
      rw [if_pos z1]
      split
      · exact m1 _ (hA1 i (by omega) (by omega))
      · split
        · exact m2 _ (hA2 (i - 10) (by omega) (by omega))
        · split
          · exact m3 _ (hP3 ((i - 20) / 10) (by omega) ((i - 20) % 10) (by omega) (by omega))
          · exact m4 _ (hL3 ((i - 160) / 10) (by omega) ((i - 160) % 10) (by omega) (by omega))
    · exact List.mem_append_right _ (List.mem_singleton.mpr rfl)
    · exact m1 _ (hB1 1 (by decide) (by decide))
    · exact m1 _ (hB1 2 (by decide) (by decide))
    · exact m1 _ (hB1 3 (by decide) (by decide))
    · exact m2 _ (hB2 1 (by decide) (by decide))
    · exact m2 _ (hB2 2 (by decide) (by decide))
    · exact m2 _ (hB2 3 (by decide) (by decide))
    · exact m3 _ hP1
    · exact m4 _ hL1
    · exact m4 _ (hL2 _ (List.mem_singleton.mpr rfl))
    · exact m5 _ hT1
    · exact m5 _ hT2
