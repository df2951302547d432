/-! "wodplsne".indexOf(c): the walk through java/lang/String -/
def m_Y_lat : MI := (⟨"java/lang/String", "isLatin1", "()Z"⟩, prog_18_method_154_code, 1, (Option.some Jvm.ClassFile.FieldType.boolean), 0, 0, [])
def m_Y_cod : MI := (⟨"java/lang/String", "coder", "()B"⟩, prog_18_method_152_code, 1, (Option.some Jvm.ClassFile.FieldType.byte), 0, 0, [])
def m_Y_len : MI := (⟨"java/lang/String", "length", "()I"⟩, prog_18_method_54_code, 1, (Option.some Jvm.ClassFile.FieldType.int), 1, 0, [])
def m_Y_ix2 : MI := (⟨"java/lang/String", "indexOf", "(II)I"⟩, prog_18_method_80_code, 3, (Option.some Jvm.ClassFile.FieldType.int), 3, 0, [])
def m_Y_can : MI := (⟨"java/lang/StringLatin1", "canEncode", "(I)Z"⟩, prog_19_method_4_code, 1, (Option.some Jvm.ClassFile.FieldType.boolean), 0, 0, [])
def m_Y_ixc : MI := (⟨"java/lang/StringLatin1", "indexOfChar", "([BIII)I"⟩, prog_19_method_23_code, 6, (Option.some Jvm.ClassFile.FieldType.int), 0, 0, [])
def m_Y_ixl : MI := (⟨"java/lang/StringLatin1", "indexOf", "([BIII)I"⟩, prog_19_method_22_code, 4, (Option.some Jvm.ClassFile.FieldType.int), 2, 0, [])
theorem iw_Y_S : Cond.initialized "java/lang/String" ∈ GT := gtb 16 (by decide +kernel) (by decide +kernel)
theorem iw_Y_L : Cond.initialized "java/lang/StringLatin1" ∈ GT := gtb 17 (by decide +kernel) (by decide +kernel)
theorem wv_Y_633 : WV "java/lang/String" 633 m_Y_ix2 2 := ⟨⟨gtb 267 (by decide +kernel) (by decide +kernel), iw_Y_S, gtb 270 (by decide +kernel) (by decide +kernel), rfl, by decide +kernel, by decide +kernel⟩, gtb 268 (by decide +kernel) (by decide +kernel), gtb 269 (by decide +kernel) (by decide +kernel)⟩
theorem wv_Y_492 : WV "java/lang/String" 492 m_Y_lat 0 := ⟨⟨gtb 271 (by decide +kernel) (by decide +kernel), iw_Y_S, gtb 274 (by decide +kernel) (by decide +kernel), rfl, by decide +kernel, by decide +kernel⟩, gtb 272 (by decide +kernel) (by decide +kernel), gtb 273 (by decide +kernel) (by decide +kernel)⟩
theorem wv_Y_505 : WV "java/lang/String" 505 m_Y_len 0 := ⟨⟨gtb 277 (by decide +kernel) (by decide +kernel), iw_Y_S, gtb 280 (by decide +kernel) (by decide +kernel), rfl, by decide +kernel, by decide +kernel⟩, gtb 278 (by decide +kernel) (by decide +kernel), gtb 279 (by decide +kernel) (by decide +kernel)⟩
theorem wv_Y_335 : WV "java/lang/String" 335 m_Y_cod 0 := ⟨⟨gtb 281 (by decide +kernel) (by decide +kernel), iw_Y_S, gtb 284 (by decide +kernel) (by decide +kernel), rfl, by decide +kernel, by decide +kernel⟩, gtb 282 (by decide +kernel) (by decide +kernel), gtb 283 (by decide +kernel) (by decide +kernel)⟩
theorem ws_Y_637 : WS "java/lang/String" 637 m_Y_ixl 4 := ⟨⟨gtb 285 (by decide +kernel) (by decide +kernel), iw_Y_L, gtb 287 (by decide +kernel) (by decide +kernel), rfl, by decide +kernel, by decide +kernel⟩, gtb 286 (by decide +kernel) (by decide +kernel)⟩
theorem ws_Y_88 : WS "java/lang/StringLatin1" 88 m_Y_can 1 := ⟨⟨gtb 288 (by decide +kernel) (by decide +kernel), iw_Y_L, gtb 290 (by decide +kernel) (by decide +kernel), rfl, by decide +kernel, by decide +kernel⟩, gtb 289 (by decide +kernel) (by decide +kernel)⟩
theorem ws_Y_92 : WS "java/lang/StringLatin1" 92 m_J_max 2 := ⟨⟨gtb 291 (by decide +kernel) (by decide +kernel), iw_J_max, cw_J_max, rfl, by decide +kernel, by decide +kernel⟩, sw_J_max⟩
theorem ws_Y_38 : WS "java/lang/StringLatin1" 38 m_J_min 2 := ⟨⟨gtb 294 (by decide +kernel) (by decide +kernel), iw_J_min, cw_J_min, rfl, by decide +kernel, by decide +kernel⟩, sw_J_min⟩
theorem ws_Y_95 : WS "java/lang/StringLatin1" 95 m_Y_ixc 4 := ⟨⟨gtb 297 (by decide +kernel) (by decide +kernel), iw_Y_L, gtb 299 (by decide +kernel) (by decide +kernel), rfl, by decide +kernel, by decide +kernel⟩, gtb 298 (by decide +kernel) (by decide +kernel)⟩
section IXOF
variable {l : Launch} {D : va_G} {ad : Nat → Nat} {aC : Nat → ClassId} {R : Room} {QQ : List Frame → Array Value → State → State → Prop} {M M2 : MI} {pc k n idx : Nat} {ls ls' : List (Option Value)} {st st' rest as : List Value} {h h1 : HP}
theorem goYcs (hM : M.y.cls = "java/lang/String") (hd : decode M.b pc = .ok (.getstatic 38, 3)) (g : Go l D ad aC R QQ M (pc + 3) ls (.int 1 :: st) h k n) : Go l D ad aC R QQ M pc ls st h k n :=
  fun p e s m args below meth c H locs cs F hS hW hl => va_gets (C := "java/lang/String") (n := "COMPACT_STRINGS") (d := "Z") (own := "java/lang/String") (ref := "java/lang/String") (index := 38) F.1 F.2.1 F.ev.2.2.2.1.2.2.2 hS (by rw [← hM]; exact F.2.2.2.2.1) (F.2.2.2.2.2.1 _ (gtb 275 (by decide +kernel) (by decide +kernel))) (fun _ z => z) hd (g p e s m args below meth c H locs cs F hS hW hl)
theorem goYcod (hM : M.y.cls = "java/lang/String") (hd : decode M.b pc = .ok (.getfield 15, 3)) (g : Go l D ad aC R QQ M (pc + 3) ls (.int 0 :: st) h k n) : Go l D ad aC R QQ M pc ls (.ref 215 :: st) h k n :=
  fun p e s m args below meth c H locs cs F hS hW hl => vk_getf (own := "java/lang/String") (ref := "java/lang/String") (index := 15) F.1 F.2.1 (F.ev.2.2.2.1.2.2.1.1 0 (by decide)).2.1 hS (by rw [← hM]; exact F.2.2.2.2.1) (F.2.2.2.2.2.1 _ (gtb 1052 (by decide +kernel) (by decide +kernel))) (fun _ z => z) hd (g p e s m args below meth c H locs cs F hS hW hl)
theorem goYval (hM : M.y.cls = "java/lang/String") (hd : decode M.b pc = .ok (.getfield 9, 3)) (g : Go l D ad aC R QQ M (pc + 3) ls (.ref 216 :: st) h k n) : Go l D ad aC R QQ M pc ls (.ref 215 :: st) h k n :=
  fun p e s m args below meth c H locs cs F hS hW hl => vk_getf (own := "java/lang/String") (ref := "java/lang/String") (index := 9) F.1 F.2.1 (F.ev.2.2.2.1.2.2.1.1 0 (by decide)).2.2.1 hS (by rw [← hM]; exact F.2.2.2.2.1) (F.2.2.2.2.2.1 _ (gtb 1053 (by decide +kernel) (by decide +kernel))) (fun _ z => z) hd (g p e s m args below meth c H locs cs F hS hW hl)
theorem goYlen (hd : decode M.b pc = .ok (.arraylength, 1)) (g : Go l D ad aC R QQ M (pc + 1) ls (.int 8 :: st) h k n) : Go l D ad aC R QQ M pc ls (.ref 216 :: st) h k n :=
  fun p e s m args below meth c H locs cs F hS hW hl => va_tlen F.1 F.2.1 (F.ev.2.2.2.1.2.2.1.1 0 (by decide)).2.2.2 hS rfl hd (g p e s m args below meth c H locs cs F hS hW hl)
theorem goYld {i : Nat} (hi : i < 8) (hd : decode M.b pc = .ok (.baload, 1)) (g : Go l D ad aC R QQ M (pc + 1) ls (.int (lixB.getD i 0) :: st) h k n) : Go l D ad aC R QQ M pc ls (.int (nI i) :: .ref 216 :: st) h k n :=
  fun p e s m args below meth c H locs cs F hS hW hl => va_tb (N := 8) F.1 F.2.1 (F.ev.2.2.2.1.2.2.1.1 0 (by decide)).2.2.2 hS (vp_in_nI hi (by decide)) (by rw [nI_clamp (by omega)]; rfl) hd (g p e s m args below meth c H locs cs F hS hW hl)
theorem Go.callZ {nn : Nat} {v : Option Value} (hct : CT l D ad aC M2 (.ref 215 :: as) h (.inl v) h1) (hM2 : M2.y.cls = "java/lang/String") (hw : WV M.y.cls idx M2 nn) (hd : decode M.b pc = .ok (.invokevirtual idx, 3)) (hst : st = as.reverse ++ .ref 215 :: rest) (hn : as.length = nn) (hR : RoomOK R M2 k n) (hcat : (rest.map fun v => v.category).sum ≤ 8)
    (g : Go l D ad aC R QQ M (pc + 3) ls (v.toList ++ rest) h1 (k + M2.mc) (n + 6 * M2.mc)) : Go l D ad aC R QQ M pc ls st h k n := by
  intro p e s m args below meth c0 H locs cs F hS hW hl
  have hts := F.2.2.2.2.2.1
  have hstk : st.map (cv ad) = (as.map (cv ad)).reverse ++ .ref (ad 215) :: rest.map (cv ad) := by
    rw [hst, map_app_cv, List.map_reverse]; rfl
  rw [hstk]
  refine backR F hS hW hl (vx_runV (As := as.map (cv ad)) (rest := rest.map (cv ad)) (C := M2.y.cls) (nL := M.mL) (Ts := GT) (own := M.y.cls) (cc := M.b) ⟨F.1, F.2.1, F.2.2.2.1, F.2.2.2.2.1, hts⟩ (hct H.size) ⟨callB_ok F hw.1 hR, hts _ hw.2.1, hts _ hw.2.2⟩ ⟨blindP, by rw [hM2]; exact vk_recv F.ev.2.2.2.1.2.2.1 (i := 0) (by decide) hS, givenP F.ev hS hW⟩ rfl (by rw [List.length_map]; exact hn) hl.2.1 rfl (lv_room (by rw [cat_cv]; exact hcat)) hd hR.2) g
end IXOF
section IXO2
variable {l : Launch} {D : va_G} {ad : Nat → Nat} {aC : Nat → ClassId} {R : Room} {QQ : List Frame → Array Value → State → State → Prop} {M M2 : MI} {pc k n idx : Nat} {ls ls' : List (Option Value)} {st st' rest as : List Value} {h h1 : HP}
theorem y_lat : CT l D ad aC m_Y_lat [.ref 215] h (.inl (some (.int 1))) h := by
  refine CT.ofGo (by decide +kernel) rfl (Nat.le_of_ble_eq_true rfl) ?_
  show Go l D ad aC (rmk m_Y_lat) _ m_Y_lat 0 [some (.ref 215)] [] h 0 0
  refine goYcs rfl (by decide +kernel) ?_
  refine Go.if_eq (off := 14) (tgt := 17) (by decide +kernel) (by decide) (fun z => absurd z (by decide)) (fun _ => ?_)
  refine Go.run (pc' := 7) [.aload_n 0] (ls' := [some (.ref 215)]) (st' := [.ref 215]) (by decide +kernel) rfl rfl ?_
  refine goYcod rfl (by decide +kernel) ?_
  refine Go.if_ne (off := 7) (tgt := 17) (by decide +kernel) (by decide) (fun z => absurd rfl z) (fun _ => ?_)
  refine Go.run (pc' := 14) [.iconst 1] (ls' := [some (.ref 215)]) (st' := [.int 1]) (by decide +kernel) rfl rfl ?_
  refine Go.goto (off := 4) (tgt := 18) (by decide +kernel) (by decide) ?_
  exact Go.zret rfl rfl (by decide) (by decide) (by decide +kernel)
theorem y_cod : CT l D ad aC m_Y_cod [.ref 215] h (.inl (some (.int 0))) h := by
  refine CT.ofGo (by decide +kernel) rfl (Nat.le_of_ble_eq_true rfl) ?_
  show Go l D ad aC (rmk m_Y_cod) _ m_Y_cod 0 [some (.ref 215)] [] h 0 0
  refine goYcs rfl (by decide +kernel) ?_
  refine Go.if_eq (off := 10) (tgt := 13) (by decide +kernel) (by decide) (fun z => absurd z (by decide)) (fun _ => ?_)
  refine Go.run (pc' := 7) [.aload_n 0] (ls' := [some (.ref 215)]) (st' := [.ref 215]) (by decide +kernel) rfl rfl ?_
  refine goYcod rfl (by decide +kernel) ?_
  refine Go.goto (off := 4) (tgt := 14) (by decide +kernel) (by decide) ?_
  exact Go.zret rfl rfl (by decide) (by decide) (by decide +kernel)
theorem Go.ishr {x y : Int32} (hd : decode M.b pc = .ok (.ishr, 1)) (g : Go l D ad aC R QQ M (pc + 1) ls (.int (x >>> (y &&& 31)) :: st) h k n) : Go l D ad aC R QQ M pc ls (.int y :: .int x :: st) h k n :=
  fun p e s m args below meth c H locs cs F hS hW hl => lv_ishr F.1 F.2.1 hd (g p e s m args below meth c H locs cs F hS hW hl)
theorem Go.i2b {x v : Int32} (hd : decode M.b pc = .ok (.i2b, 1)) (hv : x.toInt8.toInt32 = v) (g : Go l D ad aC R QQ M (pc + 1) ls (.int v :: st) h k n) : Go l D ad aC R QQ M pc ls (.int x :: st) h k n :=
  fun p e s m args below meth c H locs cs F hS hW hl => lv_i2b F.1 F.2.1 hd hv (g p e s m args below meth c H locs cs F hS hW hl)
theorem y_len : CT l D ad aC m_Y_len [.ref 215] h (.inl (some (.int 8))) h := by
  refine CT.ofGo (by decide +kernel) rfl (Nat.le_of_ble_eq_true rfl) ?_
  show Go l D ad aC (rmk m_Y_len) _ m_Y_len 0 [some (.ref 215)] [] h 0 0
  refine Go.run (pc' := 1) [.aload_n 0] (ls' := [some (.ref 215)]) (st' := [.ref 215]) (by decide +kernel) rfl rfl ?_
  refine goYval rfl (by decide +kernel) ?_
  refine goYlen (by decide +kernel) ?_
  refine Go.run (pc' := 6) [.aload_n 0] (ls' := [some (.ref 215)]) (st' := [.ref 215, .int 8]) (by decide +kernel) rfl rfl ?_
  refine Go.callZ (M2 := m_Y_cod) (as := []) (rest := [.int 8]) y_cod rfl wv_Y_335 (by decide +kernel) rfl rfl ⟨⟨Nat.le_of_ble_eq_true rfl, Nat.le_of_ble_eq_true rfl⟩, ⟨Nat.le_of_ble_eq_true rfl, Nat.le_of_ble_eq_true rfl⟩⟩ (Nat.le_of_ble_eq_true rfl) ?_
  refine Go.ishr (x := 8) (y := 0) (by decide +kernel) ?_
  exact Go.iret rfl (by decide) (by decide) (by decide +kernel)
theorem y_can {c : Int32} : CT l D ad aC m_Y_can [.int c] h (.inl (some (.int (if c < 0 then 0 else if 255 < c then 0 else 1)))) h := by
  refine CT.ofGo (by decide +kernel) rfl (Nat.le_of_ble_eq_true rfl) ?_
  show Go l D ad aC (rmk m_Y_can) _ m_Y_can 0 [some (.int c)] [] h 0 0
  refine Go.run (pc' := 1) [.iload_n 0] (ls' := [some (.int c)]) (st' := [.int c]) (by decide +kernel) rfl rfl ?_
  refine Go.if_lt (off := 14) (tgt := 15) (by decide +kernel) (by decide) (fun z => ?_) (fun z => ?_)
  · rw [if_pos z]
    refine Go.run (pc' := 16) [.iconst 0] (ls' := [some (.int c)]) (st' := [.int 0]) (by decide +kernel) rfl rfl ?_
    exact Go.zret rfl rfl (by decide) (by decide) (by decide +kernel)
  · rw [if_neg z]
    refine Go.run (pc' := 8) [.iload_n 0, .sipush 255] (ls' := [some (.int c)]) (st' := [.int 255, .int c]) (by decide +kernel) rfl rfl ?_
    refine Go.ic_gt (off := 7) (tgt := 15) (by decide +kernel) (by decide) (fun y => ?_) (fun y => ?_)
    · rw [if_pos y]
      refine Go.run (pc' := 16) [.iconst 0] (ls' := [some (.int c)]) (st' := [.int 0]) (by decide +kernel) rfl rfl ?_
      exact Go.zret rfl rfl (by decide) (by decide) (by decide +kernel)
    · rw [if_neg y]
      refine Go.run (pc' := 12) [.iconst 1] (ls' := [some (.int c)]) (st' := [.int 1]) (by decide +kernel) rfl rfl ?_
      refine Go.goto (off := 4) (tgt := 16) (by decide +kernel) (by decide) ?_
      exact Go.zret rfl rfl (by decide) (by decide) (by decide +kernel)
theorem y_max : CT l D ad aC m_J_max [.int 0, .int 0] h (.inl (some (.int 0))) h := by
  refine CT.ofGo (by decide +kernel) rfl (Nat.le_of_ble_eq_true rfl) ?_
  show Go l D ad aC (rmk m_J_max) _ m_J_max 0 [some (.int 0), some (.int 0)] [] h 0 0
  refine Go.run (pc' := 2) [.iload_n 0, .iload_n 1] (ls' := [some (.int 0), some (.int 0)]) (st' := [.int 0, .int 0]) (by decide +kernel) rfl rfl ?_
  refine Go.ic_lt (off := 7) (tgt := 9) (by decide +kernel) (by decide) (fun z => absurd z (by decide)) (fun _ => ?_)
  refine Go.run (pc' := 6) [.iload_n 0] (ls' := [some (.int 0), some (.int 0)]) (st' := [.int 0]) (by decide +kernel) rfl rfl ?_
  refine Go.goto (off := 4) (tgt := 10) (by decide +kernel) (by decide) ?_
  exact Go.iret rfl (by decide) (by decide) (by decide +kernel)
theorem y_min : CT l D ad aC m_J_min [.int 8, .int 8] h (.inl (some (.int 8))) h := by
  refine CT.ofGo (by decide +kernel) rfl (Nat.le_of_ble_eq_true rfl) ?_
  show Go l D ad aC (rmk m_J_min) _ m_J_min 0 [some (.int 8), some (.int 8)] [] h 0 0
  refine Go.run (pc' := 2) [.iload_n 0, .iload_n 1] (ls' := [some (.int 8), some (.int 8)]) (st' := [.int 8, .int 8]) (by decide +kernel) rfl rfl ?_
  refine Go.ic_gt (off := 7) (tgt := 9) (by decide +kernel) (by decide) (fun z => absurd z (by decide)) (fun _ => ?_)
  refine Go.run (pc' := 6) [.iload_n 0] (ls' := [some (.int 8), some (.int 8)]) (st' := [.int 8]) (by decide +kernel) rfl rfl ?_
  refine Go.goto (off := 4) (tgt := 10) (by decide +kernel) (by decide) ?_
  exact Go.iret rfl (by decide) (by decide) (by decide +kernel)
def scan (x : Int32) : Nat → Nat → Int32
  | 0, _ => -1
  | n + 1, i => if lixB.getD i 0 = x then nI i else scan x n (i + 1)
theorem y_ixc {c : Int32} : CT l D ad aC m_Y_ixc [.ref 216, .int c, .int 0, .int 8] h (.inl (some (.int (scan c.toInt8.toInt32 8 0)))) h := by
  refine CT.ofGo (by decide +kernel) rfl (Nat.le_of_ble_eq_true rfl) ?_
  have loop : ∀ (n i : Nat), i + n = 8 → Go l D ad aC (rmk m_Y_ixc) (QM D ad aC m_Y_ixc (.inl (some (.int (scan c.toInt8.toInt32 n i)))) h) m_Y_ixc 7 [some (.ref 216), some (.int c), some (.int 0), some (.int 8), some (.int c.toInt8.toInt32), some (.int (nI i))] [] h 0 0 := by
    intro n
    induction n with
    | zero =>
      intro i hi
      have e : i = 8 := by omega
      subst e
      refine Go.run (pc' := 10) [.iload 5, .iload_n 3] (ls' := [some (.ref 216), some (.int c), some (.int 0), some (.int 8), some (.int c.toInt8.toInt32), some (.int (nI 8))]) (st' := [.int 8, .int (nI 8)]) (by decide +kernel) rfl rfl ?_
      refine Go.ic_ge (off := 21) (tgt := 31) (by decide +kernel) (by decide) (fun _ => ?_) (fun z => absurd (by decide) z)
      refine Go.run (pc' := 32) [.iconst (-1)] (ls' := [some (.ref 216), some (.int c), some (.int 0), some (.int 8), some (.int c.toInt8.toInt32), some (.int (nI 8))]) (st' := [.int (-1)]) (by decide +kernel) rfl rfl ?_
      exact Go.iret rfl (by decide) (by decide) (by decide +kernel)
    | succ n ih =>
      intro i hi
      refine Go.run (pc' := 10) [.iload 5, .iload_n 3] (ls' := [some (.ref 216), some (.int c), some (.int 0), some (.int 8), some (.int c.toInt8.toInt32), some (.int (nI i))]) (st' := [.int 8, .int (nI i)]) (by decide +kernel) rfl rfl ?_
      refine Go.ic_ge (off := 21) (tgt := 31) (by decide +kernel) (by decide) (fun z => absurd z (by show ¬ nI 8 ≤ nI i; exact nI_ge (by omega) (by decide))) (fun _ => ?_)
      refine Go.run (pc' := 16) [.aload_n 0, .iload 5] (ls' := [some (.ref 216), some (.int c), some (.int 0), some (.int 8), some (.int c.toInt8.toInt32), some (.int (nI i))]) (st' := [.int (nI i), .ref 216]) (by decide +kernel) rfl rfl ?_
      refine goYld (i := i) (by omega) (by decide +kernel) ?_
      refine Go.run (pc' := 19) [.iload 4] (ls' := [some (.ref 216), some (.int c), some (.int 0), some (.int 8), some (.int c.toInt8.toInt32), some (.int (nI i))]) (st' := [.int c.toInt8.toInt32, .int (lixB.getD i 0)]) (by decide +kernel) rfl rfl ?_
      unfold scan
      refine Go.ic_ne (off := 6) (tgt := 25) (by decide +kernel) (by decide) (fun z => ?_) (fun z => ?_)
      · rw [if_neg z]
        refine Go.run (pc' := 28) [.iinc 5 1] (ls' := [some (.ref 216), some (.int c), some (.int 0), some (.int 8), some (.int c.toInt8.toInt32), some (.int (nI i + Int32.ofInt 1))]) (st' := []) (by decide +kernel) rfl rfl ?_
        refine Go.goto (off := -21) (tgt := 7) (by decide +kernel) (by decide) ?_
        have e9 : nI i + Int32.ofInt 1 = nI (i + 1) := (nI_succ i).symm
        rw [e9]
        exact ih (i + 1) (by omega)
      · rw [if_pos z]
        refine Go.run (pc' := 24) [.iload 5] (ls' := [some (.ref 216), some (.int c), some (.int 0), some (.int 8), some (.int c.toInt8.toInt32), some (.int (nI i))]) (st' := [.int (nI i)]) (by decide +kernel) rfl rfl ?_
        exact Go.iret rfl (by decide) (by decide) (by decide +kernel)
  show Go l D ad aC (rmk m_Y_ixc) _ m_Y_ixc 0 [some (.ref 216), some (.int c), some (.int 0), some (.int 8), none, none] [] h 0 0
  refine Go.run (pc' := 1) [.iload_n 1] (ls' := [some (.ref 216), some (.int c), some (.int 0), some (.int 8), none, none]) (st' := [.int c]) (by decide +kernel) rfl rfl ?_
  refine Go.i2b (by decide +kernel) rfl ?_
  refine Go.run (pc' := 7) [.istore 4, .iload_n 2, .istore 5] (ls' := [some (.ref 216), some (.int c), some (.int 0), some (.int 8), some (.int c.toInt8.toInt32), some (.int 0)]) (st' := []) (by decide +kernel) rfl rfl ?_
  exact loop 8 0 rfl
def ixF (c : Int32) : Int32 := if c < 0 then -1 else if 255 < c then -1 else scan c.toInt8.toInt32 8 0
theorem y_ixl {c : Int32} : CT l D ad aC m_Y_ixl [.ref 216, .int c, .int 0, .int 8] h (.inl (some (.int (ixF c)))) h := by
  refine CT.ofGo (by decide +kernel) rfl (Nat.le_of_ble_eq_true rfl) ?_
  show Go l D ad aC (rmk m_Y_ixl) _ m_Y_ixl 0 [some (.ref 216), some (.int c), some (.int 0), some (.int 8)] [] h 0 0
  refine Go.run (pc' := 1) [.iload_n 1] (ls' := [some (.ref 216), some (.int c), some (.int 0), some (.int 8)]) (st' := [.int c]) (by decide +kernel) rfl rfl ?_
  refine Go.callS (M2 := m_Y_can) (as := [.int c]) (rest := []) y_can ws_Y_88 (by decide +kernel) rfl rfl ⟨⟨Nat.le_of_ble_eq_true rfl, Nat.le_of_ble_eq_true rfl⟩, ⟨Nat.le_of_ble_eq_true rfl, Nat.le_of_ble_eq_true rfl⟩⟩ (Nat.le_of_ble_eq_true rfl) ?_
  have bad : ixF c = -1 → Go l D ad aC (rmk m_Y_ixl) (QM D ad aC m_Y_ixl (.inl (some (.int (ixF c)))) h) m_Y_ixl 7 [some (.ref 216), some (.int c), some (.int 0), some (.int 8)] [] h 0 0 := by
    intro e
    rw [e]
    refine Go.run (pc' := 8) [.iconst (-1)] (ls' := [some (.ref 216), some (.int c), some (.int 0), some (.int 8)]) (st' := [.int (-1)]) (by decide +kernel) rfl rfl ?_
    exact Go.iret rfl (by decide) (by decide) (by decide +kernel)
  by_cases z : c < 0
  · rw [if_pos z]
    refine Go.if_ne (off := 5) (tgt := 9) (by decide +kernel) (by decide) (fun y => absurd rfl y) (fun _ => ?_)
    exact bad (by unfold ixF; rw [if_pos z])
  · rw [if_neg z]
    by_cases y : 255 < c
    · rw [if_pos y]
      refine Go.if_ne (off := 5) (tgt := 9) (by decide +kernel) (by decide) (fun y => absurd rfl y) (fun _ => ?_)
      exact bad (by unfold ixF; rw [if_neg z, if_pos y])
    · rw [if_neg y]
      refine Go.if_ne (off := 5) (tgt := 9) (by decide +kernel) (by decide) (fun _ => ?_) (fun q => absurd q (by decide))
      have e : ixF c = scan c.toInt8.toInt32 8 0 := by unfold ixF; rw [if_neg z, if_neg y]
      rw [e]
      refine Go.run (pc' := 11) [.iload_n 2, .iconst 0] (ls' := [some (.ref 216), some (.int c), some (.int 0), some (.int 8)]) (st' := [.int 0, .int 0]) (by decide +kernel) rfl rfl ?_
      refine Go.callS (M2 := m_J_max) (as := [.int 0, .int 0]) (rest := []) y_max ws_Y_92 (by decide +kernel) rfl rfl ⟨⟨Nat.le_of_ble_eq_true rfl, Nat.le_of_ble_eq_true rfl⟩, ⟨Nat.le_of_ble_eq_true rfl, Nat.le_of_ble_eq_true rfl⟩⟩ (Nat.le_of_ble_eq_true rfl) ?_
      refine Go.run (pc' := 17) [.istore_n 2, .iload_n 3, .aload_n 0] (ls' := [some (.ref 216), some (.int c), some (.int 0), some (.int 8)]) (st' := [.ref 216, .int 8]) (by decide +kernel) rfl rfl ?_
      refine goYlen (by decide +kernel) ?_
      refine Go.callS (M2 := m_J_min) (as := [.int 8, .int 8]) (rest := []) y_min ws_Y_38 (by decide +kernel) rfl rfl ⟨⟨Nat.le_of_ble_eq_true rfl, Nat.le_of_ble_eq_true rfl⟩, ⟨Nat.le_of_ble_eq_true rfl, Nat.le_of_ble_eq_true rfl⟩⟩ (Nat.le_of_ble_eq_true rfl) ?_
      refine Go.run (pc' := 24) [.istore_n 3, .iload_n 2, .iload_n 3] (ls' := [some (.ref 216), some (.int c), some (.int 0), some (.int 8)]) (st' := [.int 8, .int 0]) (by decide +kernel) rfl rfl ?_
      refine Go.ic_lt (off := 5) (tgt := 29) (by decide +kernel) (by decide) (fun _ => ?_) (fun q => absurd (by decide) q)
      refine Go.run (pc' := 33) [.aload_n 0, .iload_n 1, .iload_n 2, .iload_n 3] (ls' := [some (.ref 216), some (.int c), some (.int 0), some (.int 8)]) (st' := [.int 8, .int 0, .int c, .ref 216]) (by decide +kernel) rfl rfl ?_
      refine Go.callS (M2 := m_Y_ixc) (as := [.ref 216, .int c, .int 0, .int 8]) (rest := []) y_ixc ws_Y_95 (by decide +kernel) rfl rfl ⟨⟨Nat.le_of_ble_eq_true rfl, Nat.le_of_ble_eq_true rfl⟩, ⟨Nat.le_of_ble_eq_true rfl, Nat.le_of_ble_eq_true rfl⟩⟩ (Nat.le_of_ble_eq_true rfl) ?_
      exact Go.iret rfl (by decide) (by decide) (by decide +kernel)
theorem y_ix2 {c : Int32} : CT l D ad aC m_Y_ix2 [.ref 215, .int c, .int 0] h (.inl (some (.int (ixF c)))) h := by
  refine CT.ofGo (by decide +kernel) rfl (Nat.le_of_ble_eq_true rfl) ?_
  show Go l D ad aC (rmk m_Y_ix2) _ m_Y_ix2 0 [some (.ref 215), some (.int c), some (.int 0)] [] h 0 0
  refine Go.run (pc' := 1) [.aload_n 0] (ls' := [some (.ref 215), some (.int c), some (.int 0)]) (st' := [.ref 215]) (by decide +kernel) rfl rfl ?_
  refine Go.callZ (M2 := m_Y_lat) (as := []) (rest := []) y_lat rfl wv_Y_492 (by decide +kernel) rfl rfl ⟨⟨Nat.le_of_ble_eq_true rfl, Nat.le_of_ble_eq_true rfl⟩, ⟨Nat.le_of_ble_eq_true rfl, Nat.le_of_ble_eq_true rfl⟩⟩ (Nat.le_of_ble_eq_true rfl) ?_
  refine Go.if_eq (off := 19) (tgt := 23) (by decide +kernel) (by decide) (fun z => absurd z (by decide)) (fun _ => ?_)
  refine Go.run (pc' := 8) [.aload_n 0] (ls' := [some (.ref 215), some (.int c), some (.int 0)]) (st' := [.ref 215]) (by decide +kernel) rfl rfl ?_
  refine goYval rfl (by decide +kernel) ?_
  refine Go.run (pc' := 14) [.iload_n 1, .iload_n 2, .aload_n 0] (ls' := [some (.ref 215), some (.int c), some (.int 0)]) (st' := [.ref 215, .int 0, .int c, .ref 216]) (by decide +kernel) rfl rfl ?_
  refine Go.callZ (M2 := m_Y_len) (as := []) (rest := [.int 0, .int c, .ref 216]) y_len rfl wv_Y_505 (by decide +kernel) rfl rfl ⟨⟨Nat.le_of_ble_eq_true rfl, Nat.le_of_ble_eq_true rfl⟩, ⟨Nat.le_of_ble_eq_true rfl, Nat.le_of_ble_eq_true rfl⟩⟩ (Nat.le_of_ble_eq_true rfl) ?_
  refine Go.callS (M2 := m_Y_ixl) (as := [.ref 216, .int c, .int 0, .int 8]) (rest := []) y_ixl ws_Y_637 (by decide +kernel) rfl rfl ⟨⟨Nat.le_of_ble_eq_true rfl, Nat.le_of_ble_eq_true rfl⟩, ⟨Nat.le_of_ble_eq_true rfl, Nat.le_of_ble_eq_true rfl⟩⟩ (Nat.le_of_ble_eq_true rfl) ?_
  refine Go.goto (off := 16) (tgt := 36) (by decide +kernel) (by decide) ?_
  exact Go.iret rfl (by decide) (by decide) (by decide +kernel)
theorem y_ix {c : Int32} : CT l D ad aC m_Z_indexOf [.ref 215, .int c] h (.inl (some (.int (ixF c)))) h := by
  refine CT.ofGo (by decide +kernel) rfl (Nat.le_of_ble_eq_true rfl) ?_
  show Go l D ad aC (rmk m_Z_indexOf) _ m_Z_indexOf 0 [some (.ref 215), some (.int c)] [] h 0 0
  refine Go.run (pc' := 3) [.aload_n 0, .iload_n 1, .iconst 0] (ls' := [some (.ref 215), some (.int c)]) (st' := [.int 0, .int c, .ref 215]) (by decide +kernel) rfl rfl ?_
  refine Go.callZ (M2 := m_Y_ix2) (as := [.int c, .int 0]) (rest := []) y_ix2 rfl wv_Y_633 (by decide +kernel) rfl rfl ⟨⟨Nat.le_of_ble_eq_true rfl, Nat.le_of_ble_eq_true rfl⟩, ⟨Nat.le_of_ble_eq_true rfl, Nat.le_of_ble_eq_true rfl⟩⟩ (Nat.le_of_ble_eq_true rfl) ?_
  exact Go.iret rfl (by decide) (by decide) (by decide +kernel)
theorem scan_lix : ∀ n, n < 256 → scan (nI n).toInt8.toInt32 8 0 = lix (nI n) := by decide +kernel
theorem ixF_lix (c : Int32) : ixF c = lix c := by
  unfold ixF
  by_cases z : c < 0
  · rw [if_pos z]
    unfold lix
    have ne : ∀ v : Int32, 0 ≤ v → ¬ c = v := fun v hv e => by
      rw [e] at z
      exact absurd z (Int32.not_lt.mpr hv)
    rw [if_neg (ne _ (by decide)), if_neg (ne _ (by decide)), if_neg (ne _ (by decide)), if_neg (ne _ (by decide)), if_neg (ne _ (by decide)), if_neg (ne _ (by decide)), if_neg (ne _ (by decide)), if_neg (ne _ (by decide))]
  · rw [if_neg z]
    by_cases y : 255 < c
    · rw [if_pos y]
      unfold lix
      have ne : ∀ v : Int32, v ≤ 255 → ¬ c = v := fun v hv e => by
        rw [e] at y
        exact absurd y (Int32.not_lt.mpr hv)
      rw [if_neg (ne _ (by decide)), if_neg (ne _ (by decide)), if_neg (ne _ (by decide)), if_neg (ne _ (by decide)), if_neg (ne _ (by decide)), if_neg (ne _ (by decide)), if_neg (ne _ (by decide)), if_neg (ne _ (by decide))]
    · rw [if_neg y]
      have h1 : 0 ≤ c.toInt := by
        have := Int32.le_iff_toInt_le.mp (Int32.not_lt.mp z)
        simpa using this
      have h2 : c.toInt ≤ 255 := by
        have := Int32.le_iff_toInt_le.mp (Int32.not_lt.mp y)
        simpa using this
      have e : c = nI c.toInt.toNat := by
        apply Int32.toInt_inj.mp
        rw [show (nI c.toInt.toNat).toInt = (c.toInt.toNat : Int) from Int32.toInt_ofNat_of_lt (by omega)]
        omega
      rw [e]
      exact scan_lix _ (by omega)
theorem goCallIx {c : Int32} (hM : M.y.cls = "FairWalls$FairText") (hd : decode M.b pc = .ok (.invokevirtual 42, 3)) (hR : (6 ≤ R.frames ∧ 228 ≤ R.locals) ∧ (k ≤ R.cells ∧ n ≤ R.slots)) (hcat : (rest.map fun v => v.category).sum ≤ 8) (g : Go l D ad aC R QQ M (pc + 3) ls (.int (lix c) :: rest) h k n) : Go l D ad aC R QQ M pc ls (.int c :: .ref 215 :: rest) h k n := by
  refine Go.callZ (M2 := m_Z_indexOf) (as := [.int c]) (rest := rest) (v := some (.int (ixF c))) (h1 := h) y_ix rfl (by rw [hM]; exact wv_T_42) hd rfl rfl ⟨⟨hR.1.1, Nat.le_trans (by decide) hR.1.2⟩, ⟨hR.2.1, hR.2.2⟩⟩ hcat ?_
  rw [ixF_lix]
  exact g
end IXO2
