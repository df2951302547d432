/-! the three methods that throw -/
def m_F_needExists : MI := (⟨"FairWalls", "needExists", "(Z)V"⟩, prog_1_method_31_code, 1, none, 7, 1, [])
theorem hat_needExists : ((vx_atS "FairWalls" 329 "java/lang/IndexOutOfBoundsException" ["java/lang/RuntimeException", "java/lang/Exception"]).all (fun w => decide (w ∈ lw_tbl) && (goodWord w || isNest w))) = true := by decide +kernel
theorem hot_needExists : ((Cond.classLink "FairWalls" 325 "java/lang/IndexOutOfBoundsException" :: Cond.initialized "java/lang/IndexOutOfBoundsException" :: vx_atS "FairWalls" 329 "java/lang/IndexOutOfBoundsException" ["java/lang/RuntimeException", "java/lang/Exception"]).all vx_ot) = true := by decide +kernel
theorem hk_needExists : Cond.classLink "FairWalls" 325 "java/lang/IndexOutOfBoundsException" ∈ GT := gtb 604 (by decide +kernel) (by decide +kernel)
theorem hi_needExists : Cond.initialized "java/lang/IndexOutOfBoundsException" ∈ GT := gtb 15 (by decide +kernel) (by decide +kernel)
theorem x_F_needExists {l : Launch} {D : va_G} {ad : Nat → Nat} {aC : Nat → ClassId} (hf : l.flags = flags0) {h : HP} {b : Int32} : CT l D ad aC (mr m_F_needExists (if b = 0 then .inr "java/lang/IndexOutOfBoundsException" else .inl none)) [.int b] h (if b = 0 then .inr "java/lang/IndexOutOfBoundsException" else .inl none) h := by
  by_cases hb : b = 0
  · rw [if_pos hb]
    refine CT.ofGo (by decide +kernel) rfl (Nat.le_of_ble_eq_true rfl) ?_
    refine Go.run (pc' := 1) [.iload_n 0] (ls' := [some (.int b)]) (st' := [.int b]) (by decide +kernel) rfl rfl ?_
    refine Go.if_ne (off := 14) (tgt := 15) (by decide +kernel) (by decide) (fun c => absurd hb c) (fun c => ?_)
    intro p e s m args below meth c0 H locs cs F hS hW hl
    have hts := F.2.2.2.2.2.1
    have hemp : c0.exceptionTable.toList = [] := F.2.2.2.2.2.2.1 (by decide)
    obtain ⟨sa, hsa⟩ := F.ev.2.2.2.1.1 0 (by decide)
    refine vx_throwSW (own := "FairWalls") (cls := "java/lang/IndexOutOfBoundsException") (names := ["java/lang/RuntimeException", "java/lang/Exception"]) (ik := 325) (is := 327) (ic := 329) (text := (txF 0).2) (sa := sa) (A := AA ad s.heap.size) F.1 F.2.1 ?_ F.2.2.2.2.1 (by decide +kernel) (by decide +kernel) (hts _ hk_needExists) (hts _ hi_needExists) hsa ?_ (List.all_eq_true.mp hot_needExists) F.ev.2.2.1.1 F.ev.2.2.1.2 hS (by rw [hl.2.1]; exact F.2.2.2.1.symm) (by decide +kernel) (by decide +kernel) (by decide +kernel) (by decide +kernel) (by decide +kernel) ?_ (by decide) (Nat.le_of_ble_eq_true rfl) (by decide) (by decide) F.2.2.2.2.2.2.2.1 ?_ hS.2.2 (by decide) (by decide)
    · have e1 : l.stackTraces = false := by
        unfold Launch.stackTraces
        rw [hf]
        decide +kernel
      exact e1
    · intro w hw
      have q := List.all_eq_true.mp hat_needExists w hw
      simp only [Bool.and_eq_true, decide_eq_true_eq, Bool.or_eq_true] at q
      rcases q.2 with g | g
      · exact hts w (gt q.1 g)
      · have hn : w ∈ NWs := by
          rcases List.mem_append.mp q.1 with z | z
          · exfalso
            obtain ⟨y, -, rfl⟩ := List.mem_map.mp z
            simp [isNest] at g
          · exact List.mem_filter.mpr ⟨z, g⟩
        exact va_Nw.use (Nw_tab hn) (F.ev.1 w hn)
    · intro x hx
      rw [hemp] at hx
      cases hx
    · intro t ht hz hq
      refine ⟨rfl, ?_, ?_⟩
      · intro i q hi
        have hlt := (hW.1 i q hi).lt
        exact (hW.1 i q hi).kept (hq q.1 hlt)
      · exact ⟨Nat.le_trans hS.1 hz, fun q h1 h2 => (hq q (Nat.lt_of_lt_of_le h1 hS.1)).trans (hS.2.1 q h1 h2)⟩
  · rw [if_neg hb]
    refine CT.ofGo (by decide +kernel) rfl (Nat.le_of_ble_eq_true rfl) ?_
    refine Go.run (pc' := 1) [.iload_n 0] (ls' := [some (.int b)]) (st' := [.int b]) (by decide +kernel) rfl rfl ?_
    refine Go.if_ne (off := 14) (tgt := 15) (by decide +kernel) (by decide) (fun c => ?_) (fun c => absurd c hb)
    exact Go.vret rfl (by decide) (by decide) (by decide +kernel)
def m_F_needArgument : MI := (⟨"FairWalls", "needArgument", "(Z)V"⟩, prog_1_method_32_code, 1, none, 7, 1, [])
theorem hat_needArgument : ((vx_atS "FairWalls" 336 "java/lang/IllegalArgumentException" ["java/lang/RuntimeException", "java/lang/Exception"]).all (fun w => decide (w ∈ lw_tbl) && (goodWord w || isNest w))) = true := by decide +kernel
theorem hot_needArgument : ((Cond.classLink "FairWalls" 332 "java/lang/IllegalArgumentException" :: Cond.initialized "java/lang/IllegalArgumentException" :: vx_atS "FairWalls" 336 "java/lang/IllegalArgumentException" ["java/lang/RuntimeException", "java/lang/Exception"]).all vx_ot) = true := by decide +kernel
theorem hk_needArgument : Cond.classLink "FairWalls" 332 "java/lang/IllegalArgumentException" ∈ GT := gtb 669 (by decide +kernel) (by decide +kernel)
theorem hi_needArgument : Cond.initialized "java/lang/IllegalArgumentException" ∈ GT := gtb 13 (by decide +kernel) (by decide +kernel)
theorem x_F_needArgument {l : Launch} {D : va_G} {ad : Nat → Nat} {aC : Nat → ClassId} (hf : l.flags = flags0) {h : HP} {b : Int32} : CT l D ad aC (mr m_F_needArgument (if b = 0 then .inr "java/lang/IllegalArgumentException" else .inl none)) [.int b] h (if b = 0 then .inr "java/lang/IllegalArgumentException" else .inl none) h := by
  by_cases hb : b = 0
  · rw [if_pos hb]
    refine CT.ofGo (by decide +kernel) rfl (Nat.le_of_ble_eq_true rfl) ?_
    refine Go.run (pc' := 1) [.iload_n 0] (ls' := [some (.int b)]) (st' := [.int b]) (by decide +kernel) rfl rfl ?_
    refine Go.if_ne (off := 14) (tgt := 15) (by decide +kernel) (by decide) (fun c => absurd hb c) (fun c => ?_)
    intro p e s m args below meth c0 H locs cs F hS hW hl
    have hts := F.2.2.2.2.2.1
    have hemp : c0.exceptionTable.toList = [] := F.2.2.2.2.2.2.1 (by decide)
    obtain ⟨sa, hsa⟩ := F.ev.2.2.2.1.1 1 (by decide)
    refine vx_throwSW (own := "FairWalls") (cls := "java/lang/IllegalArgumentException") (names := ["java/lang/RuntimeException", "java/lang/Exception"]) (ik := 332) (is := 334) (ic := 336) (text := (txF 1).2) (sa := sa) (A := AA ad s.heap.size) F.1 F.2.1 ?_ F.2.2.2.2.1 (by decide +kernel) (by decide +kernel) (hts _ hk_needArgument) (hts _ hi_needArgument) hsa ?_ (List.all_eq_true.mp hot_needArgument) F.ev.2.2.1.1 F.ev.2.2.1.2 hS (by rw [hl.2.1]; exact F.2.2.2.1.symm) (by decide +kernel) (by decide +kernel) (by decide +kernel) (by decide +kernel) (by decide +kernel) ?_ (by decide) (Nat.le_of_ble_eq_true rfl) (by decide) (by decide) F.2.2.2.2.2.2.2.1 ?_ hS.2.2 (by decide) (by decide)
    · have e1 : l.stackTraces = false := by
        unfold Launch.stackTraces
        rw [hf]
        decide +kernel
      exact e1
    · intro w hw
      have q := List.all_eq_true.mp hat_needArgument w hw
      simp only [Bool.and_eq_true, decide_eq_true_eq, Bool.or_eq_true] at q
      rcases q.2 with g | g
      · exact hts w (gt q.1 g)
      · have hn : w ∈ NWs := by
          rcases List.mem_append.mp q.1 with z | z
          · exfalso
            obtain ⟨y, -, rfl⟩ := List.mem_map.mp z
            simp [isNest] at g
          · exact List.mem_filter.mpr ⟨z, g⟩
        exact va_Nw.use (Nw_tab hn) (F.ev.1 w hn)
    · intro x hx
      rw [hemp] at hx
      cases hx
    · intro t ht hz hq
      refine ⟨rfl, ?_, ?_⟩
      · intro i q hi
        have hlt := (hW.1 i q hi).lt
        exact (hW.1 i q hi).kept (hq q.1 hlt)
      · exact ⟨Nat.le_trans hS.1 hz, fun q h1 h2 => (hq q (Nat.lt_of_lt_of_le h1 hS.1)).trans (hS.2.1 q h1 h2)⟩
  · rw [if_neg hb]
    refine CT.ofGo (by decide +kernel) rfl (Nat.le_of_ble_eq_true rfl) ?_
    refine Go.run (pc' := 1) [.iload_n 0] (ls' := [some (.int b)]) (st' := [.int b]) (by decide +kernel) rfl rfl ?_
    refine Go.if_ne (off := 14) (tgt := 15) (by decide +kernel) (by decide) (fun c => ?_) (fun c => absurd c hb)
    exact Go.vret rfl (by decide) (by decide) (by decide +kernel)
def m_F_needState : MI := (⟨"FairWalls", "needState", "(Z)V"⟩, prog_1_method_33_code, 1, none, 7, 1, [])
theorem hat_needState : ((vx_atS "FairWalls" 341 "java/lang/IllegalStateException" ["java/lang/RuntimeException", "java/lang/Exception"]).all (fun w => decide (w ∈ lw_tbl) && (goodWord w || isNest w))) = true := by decide +kernel
theorem hot_needState : ((Cond.classLink "FairWalls" 337 "java/lang/IllegalStateException" :: Cond.initialized "java/lang/IllegalStateException" :: vx_atS "FairWalls" 341 "java/lang/IllegalStateException" ["java/lang/RuntimeException", "java/lang/Exception"]).all vx_ot) = true := by decide +kernel
theorem hk_needState : Cond.classLink "FairWalls" 337 "java/lang/IllegalStateException" ∈ GT := gtb 362 (by decide +kernel) (by decide +kernel)
theorem hi_needState : Cond.initialized "java/lang/IllegalStateException" ∈ GT := gtb 22 (by decide +kernel) (by decide +kernel)
theorem x_F_needState {l : Launch} {D : va_G} {ad : Nat → Nat} {aC : Nat → ClassId} (hf : l.flags = flags0) {h : HP} {b : Int32} : CT l D ad aC (mr m_F_needState (if b = 0 then .inr "java/lang/IllegalStateException" else .inl none)) [.int b] h (if b = 0 then .inr "java/lang/IllegalStateException" else .inl none) h := by
  by_cases hb : b = 0
  · rw [if_pos hb]
    refine CT.ofGo (by decide +kernel) rfl (Nat.le_of_ble_eq_true rfl) ?_
    refine Go.run (pc' := 1) [.iload_n 0] (ls' := [some (.int b)]) (st' := [.int b]) (by decide +kernel) rfl rfl ?_
    refine Go.if_ne (off := 14) (tgt := 15) (by decide +kernel) (by decide) (fun c => absurd hb c) (fun c => ?_)
    intro p e s m args below meth c0 H locs cs F hS hW hl
    have hts := F.2.2.2.2.2.1
    have hemp : c0.exceptionTable.toList = [] := F.2.2.2.2.2.2.1 (by decide)
    obtain ⟨sa, hsa⟩ := F.ev.2.2.2.1.1 2 (by decide)
    refine vx_throwSW (own := "FairWalls") (cls := "java/lang/IllegalStateException") (names := ["java/lang/RuntimeException", "java/lang/Exception"]) (ik := 337) (is := 339) (ic := 341) (text := (txF 2).2) (sa := sa) (A := AA ad s.heap.size) F.1 F.2.1 ?_ F.2.2.2.2.1 (by decide +kernel) (by decide +kernel) (hts _ hk_needState) (hts _ hi_needState) hsa ?_ (List.all_eq_true.mp hot_needState) F.ev.2.2.1.1 F.ev.2.2.1.2 hS (by rw [hl.2.1]; exact F.2.2.2.1.symm) (by decide +kernel) (by decide +kernel) (by decide +kernel) (by decide +kernel) (by decide +kernel) ?_ (by decide) (Nat.le_of_ble_eq_true rfl) (by decide) (by decide) F.2.2.2.2.2.2.2.1 ?_ hS.2.2 (by decide) (by decide)
    · have e1 : l.stackTraces = false := by
        unfold Launch.stackTraces
        rw [hf]
        decide +kernel
      exact e1
    · intro w hw
      have q := List.all_eq_true.mp hat_needState w hw
      simp only [Bool.and_eq_true, decide_eq_true_eq, Bool.or_eq_true] at q
      rcases q.2 with g | g
      · exact hts w (gt q.1 g)
      · have hn : w ∈ NWs := by
          rcases List.mem_append.mp q.1 with z | z
          · exfalso
            obtain ⟨y, -, rfl⟩ := List.mem_map.mp z
            simp [isNest] at g
          · exact List.mem_filter.mpr ⟨z, g⟩
        exact va_Nw.use (Nw_tab hn) (F.ev.1 w hn)
    · intro x hx
      rw [hemp] at hx
      cases hx
    · intro t ht hz hq
      refine ⟨rfl, ?_, ?_⟩
      · intro i q hi
        have hlt := (hW.1 i q hi).lt
        exact (hW.1 i q hi).kept (hq q.1 hlt)
      · exact ⟨Nat.le_trans hS.1 hz, fun q h1 h2 => (hq q (Nat.lt_of_lt_of_le h1 hS.1)).trans (hS.2.1 q h1 h2)⟩
  · rw [if_neg hb]
    refine CT.ofGo (by decide +kernel) rfl (Nat.le_of_ble_eq_true rfl) ?_
    refine Go.run (pc' := 1) [.iload_n 0] (ls' := [some (.int b)]) (st' := [.int b]) (by decide +kernel) rfl rfl ?_
    refine Go.if_ne (off := 14) (tgt := 15) (by decide +kernel) (by decide) (fun c => ?_) (fun c => absurd c hb)
    exact Go.vret rfl (by decide) (by decide) (by decide +kernel)
