set_option maxHeartbeats 4000000 in
theorem c_fresh (l : Launch) (D : va_G) (ad : Nat → Nat) {a : Nat} {cA : ClassId} : KC' l D ad m_M_fresh 0 0 [.ref a] [(a, .inl (cA, 196, .inl zer))] [(cA, .int)] (fun u => u = ([(a, .inl (cA, 196, .inl zrow))], [])) := by
  refine KC'.ofW (by decide +kernel) rfl rfl (Nat.le_of_ble_eq_true rfl) (fun p e s m args below meth c cs F hP hK hD hl => ?_)
  have hS : va_S (va_A [(a, .inl (cA, 196, .inl zer))] s.heap.size) s.heap s.heap [] := va_S.rf
  generalize va_A [(a, .inl (cA, 196, .inl zer))] s.heap.size = A at F hD hS ⊢
  have loop : ∀ (d i : Nat) (H : Heap) (locs : List Loc) (cs : Array Slot), i + d = 196 → va_P D clsL [(a, .inl (cA, 196, .inl (fil i 0 zer)))] H → va_D A [(a, .inl (cA, 196, .inl (fil i 0 zer)))] → va_S A s.heap H locs → LV aid cs 2 [some (.ref a), some (.int (nI i))] →
      W p l e (kRm m_M_fresh 0 0) s m args below meth c H locs 0 0 (MQ below (va_Qv (fun u : KU => u = ([(a, .inl (cA, 196, .inl zrow))], [])) (fun u t => va_P D clsL u.1 t.heap ∧ va_K D clsL u.2 t ∧ va_D A u.1) A) args s 0 0 A) (F0 m 2 cs []) := by
    intro d
    induction d with
    | zero =>
      intro i H locs cs hi hP hD hS hl
      have ei : i = 196 := by omega
      subst ei
      refine k_run (pc' := 6) (st := []) [.iload_n 1, .sipush 196] F.1 F.2.1 (by decide +kernel) rfl rfl hl rfl (fun cs hl => ?_)
      refine lv_icmp_ge (off := 13) (tgt := 19) F.1 F.2.1 (by decide +kernel) (by decide) (fun _ => ?_) (fun z => absurd (by decide) z)
      refine k_run (pc' := 25) (st := []) [.aload_n 0, .sipush 190, .bipush 6] F.1 F.2.1 (by decide +kernel) rfl rfl hl rfl (fun cs hl => ?_)
      refine va_iast F.1 F.2.1 hK hP hD hS 0 0 rfl rfl (i := nI 190) (vp_in_nI (by decide) (by decide)) (by decide +kernel) (fun H locs hP hD hS => ?_)
      refine k_run (pc' := 31) (st := []) [.aload_n 0, .sipush 191, .iconst 1] F.1 F.2.1 (by decide +kernel) rfl rfl hl rfl (fun cs hl => ?_)
      refine va_iast F.1 F.2.1 hK hP hD hS 0 0 rfl rfl (i := nI 191) (vp_in_nI (by decide) (by decide)) (by decide +kernel) (fun H locs hP hD hS => ?_)
      refine k_run (pc' := 37) (st := []) [.aload_n 0, .sipush 192, .iconst 5] F.1 F.2.1 (by decide +kernel) rfl rfl hl rfl (fun cs hl => ?_)
      refine va_iast F.1 F.2.1 hK hP hD hS 0 0 rfl rfl (i := nI 192) (vp_in_nI (by decide) (by decide)) (by decide +kernel) (fun H locs hP hD hS => ?_)
      refine k_run (pc' := 43) (st := []) [.aload_n 0, .sipush 193, .iconst 3] F.1 F.2.1 (by decide +kernel) rfl rfl hl rfl (fun cs hl => ?_)
      refine va_iast F.1 F.2.1 hK hP hD hS 0 0 rfl rfl (i := nI 193) (vp_in_nI (by decide) (by decide)) (by decide +kernel) (fun H locs hP hD hS => ?_)
      refine k_run (pc' := 49) (st := []) [.aload_n 0, .sipush 194, .iconst 4] F.1 F.2.1 (by decide +kernel) rfl rfl hl rfl (fun cs hl => ?_)
      refine va_iast F.1 F.2.1 hK hP hD hS 0 0 rfl rfl (i := nI 194) (vp_in_nI (by decide) (by decide)) (by decide +kernel) (fun H locs hP hD hS => ?_)
      refine k_run (pc' := 55) (st := []) [.aload_n 0, .sipush 195, .iconst 2] F.1 F.2.1 (by decide +kernel) rfl rfl hl rfl (fun cs hl => ?_)
      refine va_iast F.1 F.2.1 hK hP hD hS 0 0 rfl rfl (i := nI 195) (vp_in_nI (by decide) (by decide)) (by decide +kernel) (fun H locs hP hD hS => ?_)
      exact k_ret (u := ([(a, .inl (cA, 196, .inl zrow))], [])) F rfl hS hP (hK.mem (fun q hq => nomatch hq)) hD rfl (by decide) (by decide) (by decide +kernel)
    | succ d ih =>
      intro i H locs cs hi hP hD hS hl
      have hlt : i < 196 := by omega
      refine k_run (pc' := 6) (st := []) [.iload_n 1, .sipush 196] F.1 F.2.1 (by decide +kernel) rfl rfl hl rfl (fun cs hl => ?_)
      refine lv_icmp_ge (off := 13) (tgt := 19) F.1 F.2.1 (by decide +kernel) (by decide) (fun z => absurd z (by show ¬ nI 196 ≤ nI i; exact nI_ge hlt (by decide))) (fun _ => ?_)
      refine k_run (pc' := 12) (st := []) [.aload_n 0, .iload_n 1, .iconst 0] F.1 F.2.1 (by decide +kernel) rfl rfl hl rfl (fun cs hl => ?_)
      refine va_iast F.1 F.2.1 hK hP hD hS 0 0 rfl rfl (vp_in_nI hlt (by decide)) (by decide +kernel) (fun H1 locs1 hP1 hD1 hS1 => ?_)
      have e9 : upd (fil i 0 zer) (nI i).toNatClampNeg 0 = fil (i + 1) 0 zer := by
        rw [nI_clamp (by omega)]
        funext j
        unfold upd fil
        by_cases hj : j = i
        · subst hj; rw [if_pos rfl, if_pos (Nat.lt_succ_self _)]
        · rw [if_neg hj]
          by_cases h2 : j < i
          · rw [if_pos h2, if_pos (by omega)]
          · rw [if_neg h2, if_neg (by omega)]
      replace hP1 : va_P D clsL [(a, .inl (cA, 196, .inl (upd (fil i 0 zer) (nI i).toNatClampNeg 0)))] H1 := hP1
      replace hD1 : va_D A [(a, .inl (cA, 196, .inl (upd (fil i 0 zer) (nI i).toNatClampNeg 0)))] := hD1
      rw [e9] at hP1 hD1
      refine k_run (pc' := 16) (st := []) [.iinc 1 1] F.1 F.2.1 (by decide +kernel) rfl rfl hl rfl (fun cs hl => ?_)
      refine lv_goto (off := -14) (tgt := 2) F.1 F.2.1 (by decide +kernel) (by decide) ?_
      refine ih (i + 1) H1 locs1 cs (by omega) hP1 hD1 hS1 ?_
      rw [nI_succ]
      exact hl
  refine k_run (pc' := 2) (st := []) [.iconst 0, .istore_n 1] F.1 F.2.1 (by decide +kernel) rfl rfl hl rfl (fun cs hl => ?_)
  have e0 : fil 0 0 zer = zer := by funext j; unfold fil; rw [if_neg (Nat.not_lt_zero _)]
  refine loop 196 0 s.heap [] cs (by omega) (by rw [e0]; exact hP) (by rw [e0]; exact hD) hS ?_
  rw [nI_0]
  exact hl
def ordM : List Nat := [200, 202, 203, 204, 205, 206, 207, 208, 209, 210, 201]
def m_M_init : MI := (⟨"FairWallsModel", "<init>", "()V"⟩, prog_10_method_1_code, 1, (Option.none : Option Jvm.ClassFile.FieldType), 1, 0, [])
theorem cw_M_init : codeW m_M_init ∈ GT := gtb 1013 (by decide +kernel) (by decide +kernel)
theorem iw_M_init : Cond.initialized m_M_init.y.cls ∈ GT := gtb 10 (by decide +kernel) (by decide +kernel)
theorem nw_M_init : Cond.instanceMethod m_M_init.y ∈ GT := gtb 1012 (by decide +kernel) (by decide +kernel)
set_option maxHeartbeats 4000000 in
theorem c_M_init (l : Launch) (D : va_G) (ad : Nat → Nat) (h0 : Nat) : KC' l D ad m_M_init 10 4006 [.ref h0] [(h0, .inr (8, [.int 0, .null, .null, .null, .null, .int 0, .null, .null, .null, .null, .null, .null, .int 0, .int 0, .int 0, .int 0]))] [] (postO ordM 200 h0) := by
  refine KC'.ofW (by decide +kernel) rfl rfl (Nat.le_of_ble_eq_true rfl) (fun p e s m args below meth c cs F hP hK hD hl => ?_)
  have hS : va_S (va_A [(h0, .inr (8, [.int 0, .null, .null, .null, .null, .int 0, .null, .null, .null, .null, .null, .null, .int 0, .int 0, .int 0, .int 0]))] s.heap.size) s.heap s.heap [] := va_S.rf
  generalize va_A [(h0, .inr (8, [.int 0, .null, .null, .null, .null, .int 0, .null, .null, .null, .null, .null, .null, .int 0, .int 0, .int 0, .int 0]))] s.heap.size = A at F hD hS ⊢
  refine k_run (pc' := 1) (st := []) [.aload_n 0] F.1 F.2.1 (by decide +kernel) rfl rfl hl rfl (fun cs hl => ?_)
  refine k_obj (idx := 1) F hl (gtb 1014 (by decide +kernel) (by decide +kernel)) (by decide +kernel) (by decide) (Nat.le_of_ble_eq_true rfl) ?_
  refine k_run (pc' := 8) (st := []) [.aload_n 0, .sipush (196)] F.1 F.2.1 (by decide +kernel) rfl rfl hl rfl (fun cs hl => ?_)
  refine k_newF (own := "FairWallsModel") (T := TX8) (N := 16) (ci := 8) (idx := 7) (j := 1) (at9 := .int) (ty := .int) (N' := 196) (R0 := []) (rest := []) F.1 F.2.1 F.2.2.2.2.2.1 (gdT inTX8 gdTX8) tyX8 tyX8_ok nmX8 F.2.2.2.2.1 ac_int rfl (by simp) hK hP hD hS F.2.2.2.2.2.2.2.2.1 rfl (by decide) (gtb 1019 (by decide +kernel) (by decide +kernel)) rfl rfl (F.2.2.2.2.2.2.2.2.2 rfl) rfl (Nat.le_of_ble_eq_true rfl) (by decide) rfl (by decide) (Nat.le_of_ble_eq_true rfl) (Nat.le_of_ble_eq_true rfl) (by decide +kernel) (by decide +kernel) (fun q1 c1 H locs hK hP hD hS => ?_)
  have hP : va_P D clsL [(h0, .inr (8, [.int 0, .ref q1, .null, .null, .null, .int 0, .null, .null, .null, .null, .null, .null, .int 0, .int 0, .int 0, .int 0])), (q1, .inl (c1, 196, .inl (fun _ => 0)))] H := hP
  have hD : va_D A [(h0, .inr (8, [.int 0, .ref q1, .null, .null, .null, .int 0, .null, .null, .null, .null, .null, .null, .int 0, .int 0, .int 0, .int 0])), (q1, .inl (c1, 196, .inl (fun _ => 0)))] := hD
  have hK : va_K D clsL [(c1, .int)] s := hK
  refine k_run (pc' := 17) (st := []) [.aload_n 0, .sipush (196)] F.1 F.2.1 (by decide +kernel) rfl rfl hl rfl (fun cs hl => ?_)
  refine k_newF (own := "FairWallsModel") (T := TX8) (N := 16) (ci := 8) (idx := 13) (j := 2) (at9 := .int) (ty := .int) (N' := 196) (R0 := [(q1, .inl (c1, 196, .inl (fun _ => 0)))]) (rest := []) F.1 F.2.1 F.2.2.2.2.2.1 (gdT inTX8 gdTX8) tyX8 tyX8_ok nmX8 F.2.2.2.2.1 ac_int rfl (by simp) hK hP hD hS F.2.2.2.2.2.2.2.2.1 rfl (by decide) (gtb 1020 (by decide +kernel) (by decide +kernel)) rfl rfl (F.2.2.2.2.2.2.2.2.2 rfl) rfl (Nat.le_of_ble_eq_true rfl) (by decide) rfl (by decide) (Nat.le_of_ble_eq_true rfl) (Nat.le_of_ble_eq_true rfl) (by decide +kernel) (by decide +kernel) (fun q2 c2 H locs hK hP hD hS => ?_)
  have hP : va_P D clsL [(h0, .inr (8, [.int 0, .ref q1, .ref q2, .null, .null, .int 0, .null, .null, .null, .null, .null, .null, .int 0, .int 0, .int 0, .int 0])), (q1, .inl (c1, 196, .inl (fun _ => 0))), (q2, .inl (c2, 196, .inl (fun _ => 0)))] H := hP
  have hD : va_D A [(h0, .inr (8, [.int 0, .ref q1, .ref q2, .null, .null, .int 0, .null, .null, .null, .null, .null, .null, .int 0, .int 0, .int 0, .int 0])), (q1, .inl (c1, 196, .inl (fun _ => 0))), (q2, .inl (c2, 196, .inl (fun _ => 0)))] := hD
  have hK : va_K D clsL [(c1, .int), (c2, .int)] s := hK
  refine k_run (pc' := 26) (st := []) [.aload_n 0, .sipush (196)] F.1 F.2.1 (by decide +kernel) rfl rfl hl rfl (fun cs hl => ?_)
  refine k_newF (own := "FairWallsModel") (T := TX8) (N := 16) (ci := 8) (idx := 16) (j := 3) (at9 := .int) (ty := .int) (N' := 196) (R0 := [(q1, .inl (c1, 196, .inl (fun _ => 0))), (q2, .inl (c2, 196, .inl (fun _ => 0)))]) (rest := []) F.1 F.2.1 F.2.2.2.2.2.1 (gdT inTX8 gdTX8) tyX8 tyX8_ok nmX8 F.2.2.2.2.1 ac_int rfl (by simp) hK hP hD hS F.2.2.2.2.2.2.2.2.1 rfl (by decide) (gtb 1021 (by decide +kernel) (by decide +kernel)) rfl rfl (F.2.2.2.2.2.2.2.2.2 rfl) rfl (Nat.le_of_ble_eq_true rfl) (by decide) rfl (by decide) (Nat.le_of_ble_eq_true rfl) (Nat.le_of_ble_eq_true rfl) (by decide +kernel) (by decide +kernel) (fun q3 c3 H locs hK hP hD hS => ?_)
  have hP : va_P D clsL [(h0, .inr (8, [.int 0, .ref q1, .ref q2, .ref q3, .null, .int 0, .null, .null, .null, .null, .null, .null, .int 0, .int 0, .int 0, .int 0])), (q1, .inl (c1, 196, .inl (fun _ => 0))), (q2, .inl (c2, 196, .inl (fun _ => 0))), (q3, .inl (c3, 196, .inl (fun _ => 0)))] H := hP
  have hD : va_D A [(h0, .inr (8, [.int 0, .ref q1, .ref q2, .ref q3, .null, .int 0, .null, .null, .null, .null, .null, .null, .int 0, .int 0, .int 0, .int 0])), (q1, .inl (c1, 196, .inl (fun _ => 0))), (q2, .inl (c2, 196, .inl (fun _ => 0))), (q3, .inl (c3, 196, .inl (fun _ => 0)))] := hD
  have hK : va_K D clsL [(c1, .int), (c2, .int), (c3, .int)] s := hK
  refine k_run (pc' := 35) (st := []) [.aload_n 0, .sipush (2744)] F.1 F.2.1 (by decide +kernel) rfl rfl hl rfl (fun cs hl => ?_)
  refine k_newF (own := "FairWallsModel") (T := TX8) (N := 16) (ci := 8) (idx := 19) (j := 4) (at9 := .int) (ty := .int) (N' := 2744) (R0 := [(q1, .inl (c1, 196, .inl (fun _ => 0))), (q2, .inl (c2, 196, .inl (fun _ => 0))), (q3, .inl (c3, 196, .inl (fun _ => 0)))]) (rest := []) F.1 F.2.1 F.2.2.2.2.2.1 (gdT inTX8 gdTX8) tyX8 tyX8_ok nmX8 F.2.2.2.2.1 ac_int rfl (by simp) hK hP hD hS F.2.2.2.2.2.2.2.2.1 rfl (by decide) (gtb 1022 (by decide +kernel) (by decide +kernel)) rfl rfl (F.2.2.2.2.2.2.2.2.2 rfl) rfl (Nat.le_of_ble_eq_true rfl) (by decide) rfl (by decide) (Nat.le_of_ble_eq_true rfl) (Nat.le_of_ble_eq_true rfl) (by decide +kernel) (by decide +kernel) (fun q4 c4 H locs hK hP hD hS => ?_)
  have hP : va_P D clsL [(h0, .inr (8, [.int 0, .ref q1, .ref q2, .ref q3, .ref q4, .int 0, .null, .null, .null, .null, .null, .null, .int 0, .int 0, .int 0, .int 0])), (q1, .inl (c1, 196, .inl (fun _ => 0))), (q2, .inl (c2, 196, .inl (fun _ => 0))), (q3, .inl (c3, 196, .inl (fun _ => 0))), (q4, .inl (c4, 2744, .inl (fun _ => 0)))] H := hP
  have hD : va_D A [(h0, .inr (8, [.int 0, .ref q1, .ref q2, .ref q3, .ref q4, .int 0, .null, .null, .null, .null, .null, .null, .int 0, .int 0, .int 0, .int 0])), (q1, .inl (c1, 196, .inl (fun _ => 0))), (q2, .inl (c2, 196, .inl (fun _ => 0))), (q3, .inl (c3, 196, .inl (fun _ => 0))), (q4, .inl (c4, 2744, .inl (fun _ => 0)))] := hD
  have hK : va_K D clsL [(c1, .int), (c2, .int), (c3, .int), (c4, .int)] s := hK
  refine k_run (pc' := 44) (st := []) [.aload_n 0, .sipush (392)] F.1 F.2.1 (by decide +kernel) rfl rfl hl rfl (fun cs hl => ?_)
  refine k_newF (own := "FairWallsModel") (T := TX8) (N := 16) (ci := 8) (idx := 22) (j := 6) (at9 := .int) (ty := .int) (N' := 392) (R0 := [(q1, .inl (c1, 196, .inl (fun _ => 0))), (q2, .inl (c2, 196, .inl (fun _ => 0))), (q3, .inl (c3, 196, .inl (fun _ => 0))), (q4, .inl (c4, 2744, .inl (fun _ => 0)))]) (rest := []) F.1 F.2.1 F.2.2.2.2.2.1 (gdT inTX8 gdTX8) tyX8 tyX8_ok nmX8 F.2.2.2.2.1 ac_int rfl (by simp) hK hP hD hS F.2.2.2.2.2.2.2.2.1 rfl (by decide) (gtb 1024 (by decide +kernel) (by decide +kernel)) rfl rfl (F.2.2.2.2.2.2.2.2.2 rfl) rfl (Nat.le_of_ble_eq_true rfl) (by decide) rfl (by decide) (Nat.le_of_ble_eq_true rfl) (Nat.le_of_ble_eq_true rfl) (by decide +kernel) (by decide +kernel) (fun q5 c5 H locs hK hP hD hS => ?_)
  have hP : va_P D clsL [(h0, .inr (8, [.int 0, .ref q1, .ref q2, .ref q3, .ref q4, .int 0, .ref q5, .null, .null, .null, .null, .null, .int 0, .int 0, .int 0, .int 0])), (q1, .inl (c1, 196, .inl (fun _ => 0))), (q2, .inl (c2, 196, .inl (fun _ => 0))), (q3, .inl (c3, 196, .inl (fun _ => 0))), (q4, .inl (c4, 2744, .inl (fun _ => 0))), (q5, .inl (c5, 392, .inl (fun _ => 0)))] H := hP
  have hD : va_D A [(h0, .inr (8, [.int 0, .ref q1, .ref q2, .ref q3, .ref q4, .int 0, .ref q5, .null, .null, .null, .null, .null, .int 0, .int 0, .int 0, .int 0])), (q1, .inl (c1, 196, .inl (fun _ => 0))), (q2, .inl (c2, 196, .inl (fun _ => 0))), (q3, .inl (c3, 196, .inl (fun _ => 0))), (q4, .inl (c4, 2744, .inl (fun _ => 0))), (q5, .inl (c5, 392, .inl (fun _ => 0)))] := hD
  have hK : va_K D clsL [(c1, .int), (c2, .int), (c3, .int), (c4, .int), (c5, .int)] s := hK
  refine k_run (pc' := 51) (st := []) [.aload_n 0, .iconst 2] F.1 F.2.1 (by decide +kernel) rfl rfl hl rfl (fun cs hl => ?_)
  refine k_newF (own := "FairWallsModel") (T := TX8) (N := 16) (ci := 8) (idx := 25) (j := 7) (at9 := .boolean) (ty := .boolean) (N' := 2) (R0 := [(q1, .inl (c1, 196, .inl (fun _ => 0))), (q2, .inl (c2, 196, .inl (fun _ => 0))), (q3, .inl (c3, 196, .inl (fun _ => 0))), (q4, .inl (c4, 2744, .inl (fun _ => 0))), (q5, .inl (c5, 392, .inl (fun _ => 0)))]) (rest := []) F.1 F.2.1 F.2.2.2.2.2.1 (gdT inTX8 gdTX8) tyX8 tyX8_ok nmX8 F.2.2.2.2.1 ac_boolean rfl (by simp) hK hP hD hS F.2.2.2.2.2.2.2.2.1 rfl (by decide) (gtb 1025 (by decide +kernel) (by decide +kernel)) rfl rfl (F.2.2.2.2.2.2.2.2.2 rfl) rfl (Nat.le_of_ble_eq_true rfl) (by decide) rfl (by decide) (Nat.le_of_ble_eq_true rfl) (Nat.le_of_ble_eq_true rfl) (by decide +kernel) (by decide +kernel) (fun q6 c6 H locs hK hP hD hS => ?_)
  have hP : va_P D clsL [(h0, .inr (8, [.int 0, .ref q1, .ref q2, .ref q3, .ref q4, .int 0, .ref q5, .ref q6, .null, .null, .null, .null, .int 0, .int 0, .int 0, .int 0])), (q1, .inl (c1, 196, .inl (fun _ => 0))), (q2, .inl (c2, 196, .inl (fun _ => 0))), (q3, .inl (c3, 196, .inl (fun _ => 0))), (q4, .inl (c4, 2744, .inl (fun _ => 0))), (q5, .inl (c5, 392, .inl (fun _ => 0))), (q6, .inl (c6, 2, .inl (fun _ => 0)))] H := hP
  have hD : va_D A [(h0, .inr (8, [.int 0, .ref q1, .ref q2, .ref q3, .ref q4, .int 0, .ref q5, .ref q6, .null, .null, .null, .null, .int 0, .int 0, .int 0, .int 0])), (q1, .inl (c1, 196, .inl (fun _ => 0))), (q2, .inl (c2, 196, .inl (fun _ => 0))), (q3, .inl (c3, 196, .inl (fun _ => 0))), (q4, .inl (c4, 2744, .inl (fun _ => 0))), (q5, .inl (c5, 392, .inl (fun _ => 0))), (q6, .inl (c6, 2, .inl (fun _ => 0)))] := hD
  have hK : va_K D clsL [(c1, .int), (c2, .int), (c3, .int), (c4, .int), (c5, .int), (c6, .boolean)] s := hK
  refine k_run (pc' := 59) (st := []) [.aload_n 0, .bipush (120)] F.1 F.2.1 (by decide +kernel) rfl rfl hl rfl (fun cs hl => ?_)
  refine k_newF (own := "FairWallsModel") (T := TX8) (N := 16) (ci := 8) (idx := 29) (j := 8) (at9 := .int) (ty := .int) (N' := 120) (R0 := [(q1, .inl (c1, 196, .inl (fun _ => 0))), (q2, .inl (c2, 196, .inl (fun _ => 0))), (q3, .inl (c3, 196, .inl (fun _ => 0))), (q4, .inl (c4, 2744, .inl (fun _ => 0))), (q5, .inl (c5, 392, .inl (fun _ => 0))), (q6, .inl (c6, 2, .inl (fun _ => 0)))]) (rest := []) F.1 F.2.1 F.2.2.2.2.2.1 (gdT inTX8 gdTX8) tyX8 tyX8_ok nmX8 F.2.2.2.2.1 ac_int rfl (by simp) hK hP hD hS F.2.2.2.2.2.2.2.2.1 rfl (by decide) (gtb 1026 (by decide +kernel) (by decide +kernel)) rfl rfl (F.2.2.2.2.2.2.2.2.2 rfl) rfl (Nat.le_of_ble_eq_true rfl) (by decide) rfl (by decide) (Nat.le_of_ble_eq_true rfl) (Nat.le_of_ble_eq_true rfl) (by decide +kernel) (by decide +kernel) (fun q7 c7 H locs hK hP hD hS => ?_)
  have hP : va_P D clsL [(h0, .inr (8, [.int 0, .ref q1, .ref q2, .ref q3, .ref q4, .int 0, .ref q5, .ref q6, .ref q7, .null, .null, .null, .int 0, .int 0, .int 0, .int 0])), (q1, .inl (c1, 196, .inl (fun _ => 0))), (q2, .inl (c2, 196, .inl (fun _ => 0))), (q3, .inl (c3, 196, .inl (fun _ => 0))), (q4, .inl (c4, 2744, .inl (fun _ => 0))), (q5, .inl (c5, 392, .inl (fun _ => 0))), (q6, .inl (c6, 2, .inl (fun _ => 0))), (q7, .inl (c7, 120, .inl (fun _ => 0)))] H := hP
  have hD : va_D A [(h0, .inr (8, [.int 0, .ref q1, .ref q2, .ref q3, .ref q4, .int 0, .ref q5, .ref q6, .ref q7, .null, .null, .null, .int 0, .int 0, .int 0, .int 0])), (q1, .inl (c1, 196, .inl (fun _ => 0))), (q2, .inl (c2, 196, .inl (fun _ => 0))), (q3, .inl (c3, 196, .inl (fun _ => 0))), (q4, .inl (c4, 2744, .inl (fun _ => 0))), (q5, .inl (c5, 392, .inl (fun _ => 0))), (q6, .inl (c6, 2, .inl (fun _ => 0))), (q7, .inl (c7, 120, .inl (fun _ => 0)))] := hD
  have hK : va_K D clsL [(c1, .int), (c2, .int), (c3, .int), (c4, .int), (c5, .int), (c6, .boolean), (c7, .int)] s := hK
  refine k_run (pc' := 67) (st := []) [.aload_n 0, .bipush (10)] F.1 F.2.1 (by decide +kernel) rfl rfl hl rfl (fun cs hl => ?_)
  refine k_newF (own := "FairWallsModel") (T := TX8) (N := 16) (ci := 8) (idx := 32) (j := 9) (at9 := .int) (ty := .int) (N' := 10) (R0 := [(q1, .inl (c1, 196, .inl (fun _ => 0))), (q2, .inl (c2, 196, .inl (fun _ => 0))), (q3, .inl (c3, 196, .inl (fun _ => 0))), (q4, .inl (c4, 2744, .inl (fun _ => 0))), (q5, .inl (c5, 392, .inl (fun _ => 0))), (q6, .inl (c6, 2, .inl (fun _ => 0))), (q7, .inl (c7, 120, .inl (fun _ => 0)))]) (rest := []) F.1 F.2.1 F.2.2.2.2.2.1 (gdT inTX8 gdTX8) tyX8 tyX8_ok nmX8 F.2.2.2.2.1 ac_int rfl (by simp) hK hP hD hS F.2.2.2.2.2.2.2.2.1 rfl (by decide) (gtb 1027 (by decide +kernel) (by decide +kernel)) rfl rfl (F.2.2.2.2.2.2.2.2.2 rfl) rfl (Nat.le_of_ble_eq_true rfl) (by decide) rfl (by decide) (Nat.le_of_ble_eq_true rfl) (Nat.le_of_ble_eq_true rfl) (by decide +kernel) (by decide +kernel) (fun q8 c8 H locs hK hP hD hS => ?_)
  have hP : va_P D clsL [(h0, .inr (8, [.int 0, .ref q1, .ref q2, .ref q3, .ref q4, .int 0, .ref q5, .ref q6, .ref q7, .ref q8, .null, .null, .int 0, .int 0, .int 0, .int 0])), (q1, .inl (c1, 196, .inl (fun _ => 0))), (q2, .inl (c2, 196, .inl (fun _ => 0))), (q3, .inl (c3, 196, .inl (fun _ => 0))), (q4, .inl (c4, 2744, .inl (fun _ => 0))), (q5, .inl (c5, 392, .inl (fun _ => 0))), (q6, .inl (c6, 2, .inl (fun _ => 0))), (q7, .inl (c7, 120, .inl (fun _ => 0))), (q8, .inl (c8, 10, .inl (fun _ => 0)))] H := hP
  have hD : va_D A [(h0, .inr (8, [.int 0, .ref q1, .ref q2, .ref q3, .ref q4, .int 0, .ref q5, .ref q6, .ref q7, .ref q8, .null, .null, .int 0, .int 0, .int 0, .int 0])), (q1, .inl (c1, 196, .inl (fun _ => 0))), (q2, .inl (c2, 196, .inl (fun _ => 0))), (q3, .inl (c3, 196, .inl (fun _ => 0))), (q4, .inl (c4, 2744, .inl (fun _ => 0))), (q5, .inl (c5, 392, .inl (fun _ => 0))), (q6, .inl (c6, 2, .inl (fun _ => 0))), (q7, .inl (c7, 120, .inl (fun _ => 0))), (q8, .inl (c8, 10, .inl (fun _ => 0)))] := hD
  have hK : va_K D clsL [(c1, .int), (c2, .int), (c3, .int), (c4, .int), (c5, .int), (c6, .boolean), (c7, .int), (c8, .int)] s := hK
  refine k_run (pc' := 75) (st := []) [.aload_n 0, .bipush (30)] F.1 F.2.1 (by decide +kernel) rfl rfl hl rfl (fun cs hl => ?_)
  refine k_newF (own := "FairWallsModel") (T := TX8) (N := 16) (ci := 8) (idx := 35) (j := 10) (at9 := .int) (ty := .int) (N' := 30) (R0 := [(q1, .inl (c1, 196, .inl (fun _ => 0))), (q2, .inl (c2, 196, .inl (fun _ => 0))), (q3, .inl (c3, 196, .inl (fun _ => 0))), (q4, .inl (c4, 2744, .inl (fun _ => 0))), (q5, .inl (c5, 392, .inl (fun _ => 0))), (q6, .inl (c6, 2, .inl (fun _ => 0))), (q7, .inl (c7, 120, .inl (fun _ => 0))), (q8, .inl (c8, 10, .inl (fun _ => 0)))]) (rest := []) F.1 F.2.1 F.2.2.2.2.2.1 (gdT inTX8 gdTX8) tyX8 tyX8_ok nmX8 F.2.2.2.2.1 ac_int rfl (by simp) hK hP hD hS F.2.2.2.2.2.2.2.2.1 rfl (by decide) (gtb 1028 (by decide +kernel) (by decide +kernel)) rfl rfl (F.2.2.2.2.2.2.2.2.2 rfl) rfl (Nat.le_of_ble_eq_true rfl) (by decide) rfl (by decide) (Nat.le_of_ble_eq_true rfl) (Nat.le_of_ble_eq_true rfl) (by decide +kernel) (by decide +kernel) (fun q9 c9 H locs hK hP hD hS => ?_)
  have hP : va_P D clsL [(h0, .inr (8, [.int 0, .ref q1, .ref q2, .ref q3, .ref q4, .int 0, .ref q5, .ref q6, .ref q7, .ref q8, .ref q9, .null, .int 0, .int 0, .int 0, .int 0])), (q1, .inl (c1, 196, .inl (fun _ => 0))), (q2, .inl (c2, 196, .inl (fun _ => 0))), (q3, .inl (c3, 196, .inl (fun _ => 0))), (q4, .inl (c4, 2744, .inl (fun _ => 0))), (q5, .inl (c5, 392, .inl (fun _ => 0))), (q6, .inl (c6, 2, .inl (fun _ => 0))), (q7, .inl (c7, 120, .inl (fun _ => 0))), (q8, .inl (c8, 10, .inl (fun _ => 0))), (q9, .inl (c9, 30, .inl (fun _ => 0)))] H := hP
  have hD : va_D A [(h0, .inr (8, [.int 0, .ref q1, .ref q2, .ref q3, .ref q4, .int 0, .ref q5, .ref q6, .ref q7, .ref q8, .ref q9, .null, .int 0, .int 0, .int 0, .int 0])), (q1, .inl (c1, 196, .inl (fun _ => 0))), (q2, .inl (c2, 196, .inl (fun _ => 0))), (q3, .inl (c3, 196, .inl (fun _ => 0))), (q4, .inl (c4, 2744, .inl (fun _ => 0))), (q5, .inl (c5, 392, .inl (fun _ => 0))), (q6, .inl (c6, 2, .inl (fun _ => 0))), (q7, .inl (c7, 120, .inl (fun _ => 0))), (q8, .inl (c8, 10, .inl (fun _ => 0))), (q9, .inl (c9, 30, .inl (fun _ => 0)))] := hD
  have hK : va_K D clsL [(c1, .int), (c2, .int), (c3, .int), (c4, .int), (c5, .int), (c6, .boolean), (c7, .int), (c8, .int), (c9, .int)] s := hK
  refine k_run (pc' := 83) (st := []) [.aload_n 0, .bipush (120)] F.1 F.2.1 (by decide +kernel) rfl rfl hl rfl (fun cs hl => ?_)
  refine k_newF (own := "FairWallsModel") (T := TX8) (N := 16) (ci := 8) (idx := 38) (j := 11) (at9 := .int) (ty := .int) (N' := 120) (R0 := [(q1, .inl (c1, 196, .inl (fun _ => 0))), (q2, .inl (c2, 196, .inl (fun _ => 0))), (q3, .inl (c3, 196, .inl (fun _ => 0))), (q4, .inl (c4, 2744, .inl (fun _ => 0))), (q5, .inl (c5, 392, .inl (fun _ => 0))), (q6, .inl (c6, 2, .inl (fun _ => 0))), (q7, .inl (c7, 120, .inl (fun _ => 0))), (q8, .inl (c8, 10, .inl (fun _ => 0))), (q9, .inl (c9, 30, .inl (fun _ => 0)))]) (rest := []) F.1 F.2.1 F.2.2.2.2.2.1 (gdT inTX8 gdTX8) tyX8 tyX8_ok nmX8 F.2.2.2.2.1 ac_int rfl (by simp) hK hP hD hS F.2.2.2.2.2.2.2.2.1 rfl (by decide) (gtb 1029 (by decide +kernel) (by decide +kernel)) rfl rfl (F.2.2.2.2.2.2.2.2.2 rfl) rfl (Nat.le_of_ble_eq_true rfl) (by decide) rfl (by decide) (Nat.le_of_ble_eq_true rfl) (Nat.le_of_ble_eq_true rfl) (by decide +kernel) (by decide +kernel) (fun q10 c10 H locs hK hP hD hS => ?_)
  have hP : va_P D clsL [(h0, .inr (8, [.int 0, .ref q1, .ref q2, .ref q3, .ref q4, .int 0, .ref q5, .ref q6, .ref q7, .ref q8, .ref q9, .ref q10, .int 0, .int 0, .int 0, .int 0])), (q1, .inl (c1, 196, .inl (fun _ => 0))), (q2, .inl (c2, 196, .inl (fun _ => 0))), (q3, .inl (c3, 196, .inl (fun _ => 0))), (q4, .inl (c4, 2744, .inl (fun _ => 0))), (q5, .inl (c5, 392, .inl (fun _ => 0))), (q6, .inl (c6, 2, .inl (fun _ => 0))), (q7, .inl (c7, 120, .inl (fun _ => 0))), (q8, .inl (c8, 10, .inl (fun _ => 0))), (q9, .inl (c9, 30, .inl (fun _ => 0))), (q10, .inl (c10, 120, .inl (fun _ => 0)))] H := hP
  have hD : va_D A [(h0, .inr (8, [.int 0, .ref q1, .ref q2, .ref q3, .ref q4, .int 0, .ref q5, .ref q6, .ref q7, .ref q8, .ref q9, .ref q10, .int 0, .int 0, .int 0, .int 0])), (q1, .inl (c1, 196, .inl (fun _ => 0))), (q2, .inl (c2, 196, .inl (fun _ => 0))), (q3, .inl (c3, 196, .inl (fun _ => 0))), (q4, .inl (c4, 2744, .inl (fun _ => 0))), (q5, .inl (c5, 392, .inl (fun _ => 0))), (q6, .inl (c6, 2, .inl (fun _ => 0))), (q7, .inl (c7, 120, .inl (fun _ => 0))), (q8, .inl (c8, 10, .inl (fun _ => 0))), (q9, .inl (c9, 30, .inl (fun _ => 0))), (q10, .inl (c10, 120, .inl (fun _ => 0)))] := hD
  have hK : va_K D clsL [(c1, .int), (c2, .int), (c3, .int), (c4, .int), (c5, .int), (c6, .boolean), (c7, .int), (c8, .int), (c9, .int), (c10, .int)] s := hK
  refine k_run (pc' := 89) (st := []) [.aload_n 0] F.1 F.2.1 (by decide +kernel) rfl rfl hl rfl (fun cs hl => ?_)
  refine va_get (D := D) (cl := clsL) (ref := "FairWallsModel") (own := "FairWallsModel") (ci := 8) (C := "FairWallsModel") (T := TX8) (N := 16) (index := 7) (v := .ref q1) F.1 F.2.1 F.2.2.2.2.2.1 (gdT inTX8 gdTX8) F.2.2.2.2.1 hK hP 0 rfl rfl 1 (by decide) (F.2.2.2.2.2.1 _ (gtb 1019 (by decide +kernel) (by decide +kernel))) (fun _ z => z) rfl (by decide +kernel) ?_
  refine k_S (As := [.ref q1]) (wc := [(q1, .inl (c1, 196, .inl (fun _ => 0)))]) (wr := [(h0, .inr (8, [.int 0, .ref q1, .ref q2, .ref q3, .ref q4, .int 0, .ref q5, .ref q6, .ref q7, .ref q8, .ref q9, .ref q10, .int 0, .int 0, .int 0, .int 0])), (q2, .inl (c2, 196, .inl (fun _ => 0))), (q3, .inl (c3, 196, .inl (fun _ => 0))), (q4, .inl (c4, 2744, .inl (fun _ => 0))), (q5, .inl (c5, 392, .inl (fun _ => 0))), (q6, .inl (c6, 2, .inl (fun _ => 0))), (q7, .inl (c7, 120, .inl (fun _ => 0))), (q8, .inl (c8, 10, .inl (fun _ => 0))), (q9, .inl (c9, 30, .inl (fun _ => 0))), (q10, .inl (c10, 120, .inl (fun _ => 0)))]) (rest := []) (c_fresh l D ad) F ws_M_41 hl hK hP hD hS [1] [0, 2, 3, 4, 5, 6, 7, 8, 9, 10] rfl (by decide) rfl (by decide) (by decide) (fun z hz => by rw [List.mem_singleton.mp hz]; simp) (by decide +kernel) rfl rfl ⟨⟨Nat.le_of_ble_eq_true rfl, Nat.le_of_ble_eq_true rfl⟩, ⟨Nat.le_of_ble_eq_true rfl, Nat.le_of_ble_eq_true rfl⟩⟩ (Nat.le_of_ble_eq_true rfl) (fun u H locs hu hK hP hD hS => ?_)
  subst hu
  refine k_ret (u := (_, [(c1, .int), (c2, .int), (c3, .int), (c4, .int), (c5, .int), (c6, .boolean), (c7, .int), (c8, .int), (c9, .int), (c10, .int)])) F rfl hS hP (hK.mem (fun q hq => List.mem_append_left _ hq)) hD ?_ (by decide) (by decide) (by decide +kernel)
  refine ⟨tb (List.replicate 200 0 ++ [h0, q1, q2, q3, q4, q5, q6, q7, q8, q9, q10]), tb (List.replicate 200 0 ++ [0, c1, c2, c3, c4, c5, c6, c7, c8, c9, c10]), rfl, rfl, ?_⟩
  intro i hi hk
  rcases (by decide +kernel : ∀ i ∈ ordM, 10 ≤ knd i → i = 201 ∨ i = 202 ∨ i = 203 ∨ i = 204 ∨ i = 205 ∨ i = 206 ∨ i = 207 ∨ i = 208 ∨ i = 209 ∨ i = 210) i hi hk with rfl | rfl | rfl | rfl | rfl | rfl | rfl | rfl | rfl | rfl
  · show (c1, aty 10) ∈ _
    simp [aty]
  · show (c2, aty 10) ∈ _
    simp [aty]
  · show (c3, aty 10) ∈ _
    simp [aty]
  · show (c4, aty 10) ∈ _
    simp [aty]
  · show (c5, aty 10) ∈ _
    simp [aty]
  · show (c6, aty 11) ∈ _
    simp [aty]
  · show (c7, aty 10) ∈ _
    simp [aty]
  · show (c8, aty 10) ∈ _
    simp [aty]
  · show (c9, aty 10) ∈ _
    simp [aty]
  · show (c10, aty 10) ∈ _
    simp [aty]
