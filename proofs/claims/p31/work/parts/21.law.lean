/-! printed by wip/p31/law31.py: what the law's methods on one object compute, and the rows that tie them to the machine -/
theorem lo_Q_17 : Cond.constantLong "FairWallsLaw" 17 (-9000000000000000002) ∈ GT := gtb 738 (by decide +kernel) (by decide +kernel)
theorem lo_Q_21 : Cond.constantLong "FairWallsLaw" 21 (-9000000000000000003) ∈ GT := gtb 591 (by decide +kernel) (by decide +kernel)
theorem lo_Q_36 : Cond.constantLong "FairWallsLaw" 36 (-9000000000000000001) ∈ GT := gtb 629 (by decide +kernel) (by decide +kernel)
theorem lo_Q_107 : Cond.constantLong "FairWallsLaw" 107 (149) ∈ GT := gtb 656 (by decide +kernel) (by decide +kernel)
theorem lo_Q_109 : Cond.constantLong "FairWallsLaw" 109 (31) ∈ GT := gtb 657 (by decide +kernel) (by decide +kernel)
theorem lo_Q_116 : Cond.constantLong "FairWallsLaw" 116 (97) ∈ GT := gtb 739 (by decide +kernel) (by decide +kernel)
theorem lo_Q_160 : Cond.constantLong "FairWallsLaw" 160 (-1) ∈ GT := gtb 950 (by decide +kernel) (by decide +kernel)
theorem lo_Q_166 : Cond.constantLong "FairWallsLaw" 166 (1000000000000000) ∈ GT := gtb 971 (by decide +kernel) (by decide +kernel)
theorem lo_Q_181 : Cond.constantLong "FairWallsLaw" 181 (2) ∈ GT := gtb 1005 (by decide +kernel) (by decide +kernel)
theorem lo_Q_183 : Cond.constantLong "FairWallsLaw" 183 (9) ∈ GT := gtb 1006 (by decide +kernel) (by decide +kernel)
def m_Q_in : MI := (⟨"FairWallsLaw", "in", "(JJJ)Z"⟩, method_3_code, 6, (Option.some Jvm.ClassFile.FieldType.boolean), 0, 0, [])
theorem cw_Q_in : codeW m_Q_in ∈ GT := gtb 1004 (by decide +kernel) (by decide +kernel)
theorem sw_Q_in : Cond.static m_Q_in.y ∈ GT := gtb 1003 (by decide +kernel) (by decide +kernel)
def m_Q_now : MI := (⟨"FairWallsLaw", "now", "(LFairWalls;)J"⟩, method_30_code, 7, (Option.some Jvm.ClassFile.FieldType.long), 10, 0, [])
theorem cw_Q_now : codeW m_Q_now ∈ GT := gtb 655 (by decide +kernel) (by decide +kernel)
theorem sw_Q_now : Cond.static m_Q_now.y ∈ GT := gtb 654 (by decide +kernel) (by decide +kernel)
def m_Q_says : MI := (⟨"FairWallsLaw", "says", "(LFairWalls;IIII)Z"⟩, method_35_code, 5, (Option.some Jvm.ClassFile.FieldType.boolean), 10, 0, [])
theorem cw_Q_says : codeW m_Q_says ∈ GT := gtb 1047 (by decide +kernel) (by decide +kernel)
theorem sw_Q_says : Cond.static m_Q_says.y ∈ GT := gtb 1046 (by decide +kernel) (by decide +kernel)
def m_Q_errors : MI := (⟨"FairWallsLaw", "errors", "(LFairWalls;)Z"⟩, method_31_code, 6, (Option.some Jvm.ClassFile.FieldType.boolean), 11, 49, [])
theorem cw_Q_errors : codeW m_Q_errors ∈ GT := gtb 652 (by decide +kernel) (by decide +kernel)
theorem sw_Q_errors : Cond.static m_Q_errors.y ∈ GT := gtb 651 (by decide +kernel) (by decide +kernel)
def m_Q_told : MI := (⟨"FairWallsLaw", "told", "(LFairWalls;I)Z"⟩, method_36_code, 5, (Option.some Jvm.ClassFile.FieldType.boolean), 11, 0, [])
theorem cw_Q_told : codeW m_Q_told ∈ GT := gtb 1036 (by decide +kernel) (by decide +kernel)
theorem sw_Q_told : Cond.static m_Q_told.y ∈ GT := gtb 1035 (by decide +kernel) (by decide +kernel)
def m_Q_kept : MI := (⟨"FairWallsLaw", "kept", "(LFairWalls;)Z"⟩, method_32_code, 32, (Option.some Jvm.ClassFile.FieldType.boolean), 10, 0, [])
theorem cw_Q_kept : codeW m_Q_kept ∈ GT := gtb 1001 (by decide +kernel) (by decide +kernel)
theorem sw_Q_kept : Cond.static m_Q_kept.y ∈ GT := gtb 1000 (by decide +kernel) (by decide +kernel)
def m_Q_follows : MI := (⟨"FairWallsLaw", "follows", "(LFairWalls;I)Z"⟩, method_33_code, 19, (Option.some Jvm.ClassFile.FieldType.boolean), 11, 32, [])
theorem cw_Q_follows : codeW m_Q_follows ∈ GT := gtb 1009 (by decide +kernel) (by decide +kernel)
theorem sw_Q_follows : Cond.static m_Q_follows.y ∈ GT := gtb 1008 (by decide +kernel) (by decide +kernel)
def m_Q_act : MI := (⟨"FairWallsLaw", "act", "(LFairWalls;II)J"⟩, method_37_code, 4, (Option.some Jvm.ClassFile.FieldType.long), 10, 1, [])
theorem cw_Q_act : codeW m_Q_act ∈ GT := gtb 1050 (by decide +kernel) (by decide +kernel)
theorem sw_Q_act : Cond.static m_Q_act.y ∈ GT := gtb 1049 (by decide +kernel) (by decide +kernel)
theorem wh_Q_111 : WH "FairWallsLaw" 111 m_Q_about 2 := ⟨gtb 658 (by decide +kernel) (by decide +kernel), iw_Q, cw_Q_about, by decide +kernel, by decide +kernel, by decide +kernel, sw_Q_about⟩
theorem wh_Q_118 : WH "FairWallsLaw" 118 m_Q_setting 2 := ⟨gtb 740 (by decide +kernel) (by decide +kernel), iw_Q, cw_Q_setting, by decide +kernel, by decide +kernel, by decide +kernel, sw_Q_setting⟩
theorem wh_Q_120 : WH "FairWallsLaw" 120 m_Q_wallOf 3 := ⟨gtb 747 (by decide +kernel) (by decide +kernel), iw_Q, cw_Q_wallOf, by decide +kernel, by decide +kernel, by decide +kernel, sw_Q_wallOf⟩
theorem wh_Q_123 : WH "FairWallsLaw" 123 m_Q_metreOf 4 := ⟨gtb 778 (by decide +kernel) (by decide +kernel), iw_Q, cw_Q_metreOf, by decide +kernel, by decide +kernel, by decide +kernel, sw_Q_metreOf⟩
theorem wh_Q_126 : WH "FairWallsLaw" 126 m_Q_dealerOf 3 := ⟨gtb 789 (by decide +kernel) (by decide +kernel), iw_Q, cw_Q_dealerOf, by decide +kernel, by decide +kernel, by decide +kernel, sw_Q_dealerOf⟩
theorem ws_Q_128 : WS "FairWallsLaw" 128 m_Q_now 1 := ⟨⟨gtb 653 (by decide +kernel) (by decide +kernel), iw_Q, cw_Q_now, rfl, by decide +kernel, by decide +kernel⟩, sw_Q_now⟩
theorem wh_Q_132 : WH "FairWallsLaw" 132 m_Q_plugOf 3 := ⟨gtb 806 (by decide +kernel) (by decide +kernel), iw_Q, cw_Q_plugOf, by decide +kernel, by decide +kernel, by decide +kernel, sw_Q_plugOf⟩
theorem wh_Q_134 : WH "FairWallsLaw" 134 m_Q_free 3 := ⟨gtb 818 (by decide +kernel) (by decide +kernel), iw_Q, cw_Q_free, by decide +kernel, by decide +kernel, by decide +kernel, sw_Q_free⟩
theorem wh_Q_136 : WH "FairWallsLaw" 136 m_Q_wall 2 := ⟨gtb 830 (by decide +kernel) (by decide +kernel), iw_Q, cw_Q_wall, by decide +kernel, by decide +kernel, by decide +kernel, sw_Q_wall⟩
theorem wh_Q_138 : WH "FairWallsLaw" 138 m_Q_outlet 4 := ⟨gtb 848 (by decide +kernel) (by decide +kernel), iw_Q, cw_Q_outlet, by decide +kernel, by decide +kernel, by decide +kernel, sw_Q_outlet⟩
theorem wh_Q_140 : WH "FairWallsLaw" 140 m_Q_dealer 4 := ⟨gtb 856 (by decide +kernel) (by decide +kernel), iw_Q, cw_Q_dealer, by decide +kernel, by decide +kernel, by decide +kernel, sw_Q_dealer⟩
theorem wh_Q_142 : WH "FairWallsLaw" 142 m_Q_place 4 := ⟨gtb 865 (by decide +kernel) (by decide +kernel), iw_Q, cw_Q_place, by decide +kernel, by decide +kernel, by decide +kernel, sw_Q_place⟩
theorem wh_Q_144 : WH "FairWallsLaw" 144 m_Q_leave 2 := ⟨gtb 877 (by decide +kernel) (by decide +kernel), iw_Q, cw_Q_leave, by decide +kernel, by decide +kernel, by decide +kernel, sw_Q_leave⟩
theorem wh_Q_146 : WH "FairWallsLaw" 146 m_Q_swap 3 := ⟨gtb 886 (by decide +kernel) (by decide +kernel), iw_Q, cw_Q_swap, by decide +kernel, by decide +kernel, by decide +kernel, sw_Q_swap⟩
theorem wh_Q_148 : WH "FairWallsLaw" 148 m_Q_days 2 := ⟨gtb 894 (by decide +kernel) (by decide +kernel), iw_Q, cw_Q_days, by decide +kernel, by decide +kernel, by decide +kernel, sw_Q_days⟩
theorem wh_Q_150 : WH "FairWallsLaw" 150 m_Q_set 3 := ⟨gtb 902 (by decide +kernel) (by decide +kernel), iw_Q, cw_Q_set, by decide +kernel, by decide +kernel, by decide +kernel, sw_Q_set⟩
theorem wh_Q_152 : WH "FairWallsLaw" 152 m_Q_rentIf 4 := ⟨gtb 911 (by decide +kernel) (by decide +kernel), iw_Q, cw_Q_rentIf, by decide +kernel, by decide +kernel, by decide +kernel, sw_Q_rentIf⟩
theorem wh_Q_154 : WH "FairWallsLaw" 154 m_Q_cheapest 3 := ⟨gtb 924 (by decide +kernel) (by decide +kernel), iw_Q, cw_Q_cheapest, by decide +kernel, by decide +kernel, by decide +kernel, sw_Q_cheapest⟩
theorem wh_Q_156 : WH "FairWallsLaw" 156 m_Q_bestSwap 2 := ⟨gtb 931 (by decide +kernel) (by decide +kernel), iw_Q, cw_Q_bestSwap, by decide +kernel, by decide +kernel, by decide +kernel, sw_Q_bestSwap⟩
theorem wh_Q_158 : WH "FairWallsLaw" 158 m_Q_why 3 := ⟨gtb 943 (by decide +kernel) (by decide +kernel), iw_Q, cw_Q_why, by decide +kernel, by decide +kernel, by decide +kernel, sw_Q_why⟩
theorem wh_Q_162 : WH "FairWallsLaw" 162 m_Q_script 3 := ⟨gtb 951 (by decide +kernel) (by decide +kernel), iw_Q, cw_Q_script, by decide +kernel, by decide +kernel, by decide +kernel, sw_Q_script⟩
theorem wh_Q_168 : WH "FairWallsLaw" 168 m_Q_simulate 3 := ⟨gtb 972 (by decide +kernel) (by decide +kernel), iw_Q, cw_Q_simulate, by decide +kernel, by decide +kernel, by decide +kernel, sw_Q_simulate⟩
theorem wh_Q_171 : WH "FairWallsLaw" 171 m_Q_save 2 := ⟨gtb 592 (by decide +kernel) (by decide +kernel), iw_Q, cw_Q_save, by decide +kernel, by decide +kernel, by decide +kernel, sw_Q_save⟩
theorem wh_Q_173 : WH "FairWallsLaw" 173 m_Q_restore 2 := ⟨gtb 630 (by decide +kernel) (by decide +kernel), iw_Q, cw_Q_restore, by decide +kernel, by decide +kernel, by decide +kernel, sw_Q_restore⟩
theorem wh_Q_175 : WH "FairWallsLaw" 175 m_Q_append 2 := ⟨gtb 984 (by decide +kernel) (by decide +kernel), iw_Q, cw_Q_append, by decide +kernel, by decide +kernel, by decide +kernel, sw_Q_append⟩
theorem ws_Q_177 : WS "FairWallsLaw" 177 m_Q_in 3 := ⟨⟨gtb 1002 (by decide +kernel) (by decide +kernel), iw_Q, cw_Q_in, rfl, by decide +kernel, by decide +kernel⟩, sw_Q_in⟩
theorem wh_Q_185 : WH "FairWallsLaw" 185 m_Q_undo 1 := ⟨gtb 1010 (by decide +kernel) (by decide +kernel), iw_Q, cw_Q_undo, by decide +kernel, by decide +kernel, by decide +kernel, sw_Q_undo⟩
theorem wv_Q_187 : WV "FairWallsLaw" 187 m_F_errorPosition 0 := ⟨⟨gtb 1029 (by decide +kernel) (by decide +kernel), iw_F_errorPosition, cw_F_errorPosition, rfl, by decide +kernel, by decide +kernel⟩, nw_F_errorPosition, vw_F_errorPosition⟩
theorem wv_Q_192 : WV "FairWallsLaw" 192 m_F_clearText 0 := ⟨⟨gtb 1037 (by decide +kernel) (by decide +kernel), iw_F_clearText, cw_F_clearText, rfl, by decide +kernel, by decide +kernel⟩, nw_F_clearText, vw_F_clearText⟩
theorem ws_Q_195 : WS "FairWallsLaw" 195 m_Q_says 5 := ⟨⟨gtb 1045 (by decide +kernel) (by decide +kernel), iw_Q, cw_Q_says, rfl, by decide +kernel, by decide +kernel⟩, sw_Q_says⟩
def f_Q_in (h : HP) (y0 : Int64) (y2 : Int64) (y4 : Int64) : Option (Int32) :=
  if (lg_cmp y0 y2) < 0 then
    some (0 : Int32)
  else
    if 0 < (lg_cmp y0 y4) then
      some (0 : Int32)
    else
      some (1 : Int32)
set_option maxHeartbeats 4000000 in
theorem x_Q_in {l : Launch} {D : va_G} {ad : Nat → Nat} {aC : Nat → ClassId} (hf : l.flags = flags0) (hI : Inj ad) {h : HP} {y0 : Int64} {y2 : Int64} {y4 : Int64} {r : Int32}  (e : f_Q_in h y0 y2 y4 = some r) : CT l D ad aC m_Q_in [.long y0, .long y2, .long y4] h (.inl (some (.int r))) h := by
  refine CT.ofGo (by decide +kernel) rfl (Nat.le_of_ble_eq_true rfl) ?_
  unfold f_Q_in at e
  show Go l D ad aC (rmk m_Q_in) _ m_Q_in 0 [some (.long y0), none, some (.long y2), none, some (.long y4), none] [] h 0 0
  refine Go.run (pc' := 3) [.lload_n 0, .lload_n 2, .lcmp] (ls' := [some (.long y0), none, some (.long y2), none, some (.long y4), none]) (st' := [.int (lg_cmp y0 y2)]) (by decide +kernel) rfl rfl ?_
  refine Go.if_lt (off := 14) (tgt := 17) (by decide +kernel) (by decide) (fun c1 => ?_) (fun c1 => ?_)
  · replace e := ite_t c1 e
    refine Go.run (pc' := 18) [.iconst 0] (ls' := [some (.long y0), none, some (.long y2), none, some (.long y4), none]) (st' := [.int (0 : Int32)]) (by decide +kernel) rfl rfl ?_
    obtain rfl := Option.some.inj e
    exact Go.zret rfl nar_z0 (by decide) (by decide) (by decide +kernel)
  · replace e := ite_f c1 e
    refine Go.run (pc' := 10) [.lload_n 0, .lload 4, .lcmp] (ls' := [some (.long y0), none, some (.long y2), none, some (.long y4), none]) (st' := [.int (lg_cmp y0 y4)]) (by decide +kernel) rfl rfl ?_
    refine Go.if_gt (off := 7) (tgt := 17) (by decide +kernel) (by decide) (fun c2 => ?_) (fun c2 => ?_)
    · replace e := ite_t c2 e
      refine Go.run (pc' := 18) [.iconst 0] (ls' := [some (.long y0), none, some (.long y2), none, some (.long y4), none]) (st' := [.int (0 : Int32)]) (by decide +kernel) rfl rfl ?_
      obtain rfl := Option.some.inj e
      exact Go.zret rfl nar_z0 (by decide) (by decide) (by decide +kernel)
    · replace e := ite_f c2 e
      refine Go.run (pc' := 14) [.iconst 1] (ls' := [some (.long y0), none, some (.long y2), none, some (.long y4), none]) (st' := [.int (1 : Int32)]) (by decide +kernel) rfl rfl ?_
      refine Go.goto (off := 4) (tgt := 18) (by decide +kernel) (by decide) ?_
      obtain rfl := Option.some.inj e
      exact Go.zret rfl nar_z1 (by decide) (by decide) (by decide +kernel)
def f_Q_now_148 (k134_ : Nat → Int64 → Int32 → HP → Option (Int64 × HP)) : Nat → Nat → Int64 → Int32 → Int32 → HP → Option (Int64 × HP)
  | 0, _, _, _, _, _ => none
  | n + 1, a0, y1, x3, x4, h =>
    if (12 : Int32) ≤ x4 then
      k134_ a0 y1 (x3 + (1 : Int32)) h
    else
      (g_Q_dealerOf h a0 x3 x4).bind fun v2 =>
      f_Q_now_148 k134_ n a0 (((31 : Int64) * y1) + v2.1) x3 (x4 + (1 : Int32)) v2.2
set_option maxHeartbeats 4000000 in
theorem x_Q_now_148 {l : Launch} {D : va_G} {ad : Nat → Nat} {aC : Nat → ClassId} (hf : l.flags = flags0) (hI : Inj ad) {k134_ : Nat → Int64 → Int32 → HP → Option (Int64 × HP)} (K134_ : ∀ {a0 : Nat} {y1 : Int64} {x3 : Int32} {h : HP} {r : Int64 × HP}, knd a0 = 7 → k134_ a0 y1 x3 h = some r → Go l D ad aC (rmk m_Q_now) (QM D ad aC m_Q_now (.inl (some (.long r.1))) r.2) m_Q_now 134 [some (.ref a0), some (.long y1), none, some (.int x3), none, none, none] [] h 0 0) : ∀ (n : Nat) {a0 : Nat} {y1 : Int64} {x3 : Int32} {x4 : Int32} {h : HP} {r : Int64 × HP}, knd a0 = 7 → f_Q_now_148 k134_ n a0 y1 x3 x4 h = some r → Go l D ad aC (rmk m_Q_now) (QM D ad aC m_Q_now (.inl (some (.long r.1))) r.2) m_Q_now 148 [some (.ref a0), some (.long y1), none, some (.int x3), some (.int x4), none, none] [] h 0 0 := by
  intro n
  induction n with
  | zero => intro a0 y1 x3 x4 h r k0 e; exact no_none e
  | succ n ih =>
    intro a0 y1 x3 x4 h r k0 e
    rw [f_Q_now_148] at e
    refine Go.run (pc' := 152) [.iload 4, .bipush (12)] (ls' := [some (.ref a0), some (.long y1), none, some (.int x3), some (.int x4), none, none]) (st' := [.int (12 : Int32), .int x4]) (by decide +kernel) rfl rfl ?_
    refine Go.ic_ge (off := 23) (tgt := 175) (by decide +kernel) (by decide) (fun c1 => ?_) (fun c1 => ?_)
    · replace e := ite_t c1 e
      refine Go.run (pc' := 178) [.iinc 3 (1)] (ls' := [some (.ref a0), some (.long y1), none, some (.int (x3 + (1 : Int32))), some (.int x4), none, none]) (st' := []) (by decide +kernel) rfl rfl ?_
      refine Go.goto (off := -44) (tgt := 134) (by decide +kernel) (by decide) ?_
      refine Go.wk' (wks (wks (wks (wks (wkn (wks (wks wk0))))))) ?_
      exact K134_ k0 e
    · replace e := ite_f c1 e
      refine Go.ldc2 lo_Q_109 (by decide +kernel) ?_
      refine Go.run (pc' := 164) [.lload_n 1, .lmul, .aload_n 0, .iload_n 3, .iload 4] (ls' := [some (.ref a0), some (.long y1), none, some (.int x3), some (.int x4), none, none]) (st' := [.int x4, .int x3, .ref a0, .long ((31 : Int64) * y1)]) (by decide +kernel) rfl rfl ?_
      obtain ⟨v2, e3, e⟩ := bd_inv e
      refine Go.callH (M2 := (mr m_Q_dealerOf (.inl none))) (as := [.ref a0, .int x3, .int x4]) (rest := [.long ((31 : Int64) * y1)]) (v := some (.long v2.1)) (h1 := v2.2) (xn_Q_dealerOf hf hI k0 e3) (WH.mr wh_Q_126) (by decide +kernel) rfl rfl ⟨⟨Nat.le_of_ble_eq_true rfl, Nat.le_of_ble_eq_true rfl⟩, ⟨Nat.le_of_ble_eq_true rfl, Nat.le_of_ble_eq_true rfl⟩⟩ (Nat.le_of_ble_eq_true rfl) ?_
      show Go l D ad aC (rmk m_Q_now) _ m_Q_now 167 [some (.ref a0), some (.long y1), none, some (.int x3), some (.int x4), none, none] [.long v2.1, .long ((31 : Int64) * y1)] v2.2 0 0
      refine Go.run (pc' := 172) [.ladd, .lstore_n 1, .iinc 4 (1)] (ls' := [some (.ref a0), some (.long (((31 : Int64) * y1) + v2.1)), none, some (.int x3), some (.int (x4 + (1 : Int32))), none, none]) (st' := []) (by decide +kernel) rfl rfl ?_
      refine Go.goto (off := -24) (tgt := 148) (by decide +kernel) (by decide) ?_
      exact ih k0 e
def f_Q_now_134  : Nat → Nat → Int64 → Int32 → HP → Option (Int64 × HP)
  | 0, _, _, _, _ => none
  | n + 1, a0, y1, x3, h =>
    (g_Q_about h a0 (1 : Int32)).bind fun v1 =>
    if 0 ≤ (lg_cmp x3.toInt64 v1.1) then
      some (y1, v1.2)
    else
      f_Q_now_148 (f_Q_now_134 n) 4096 a0 y1 x3 (0 : Int32) v1.2
set_option maxHeartbeats 4000000 in
theorem x_Q_now_134 {l : Launch} {D : va_G} {ad : Nat → Nat} {aC : Nat → ClassId} (hf : l.flags = flags0) (hI : Inj ad) : ∀ (n : Nat) {a0 : Nat} {y1 : Int64} {x3 : Int32} {h : HP} {r : Int64 × HP}, knd a0 = 7 → f_Q_now_134 n a0 y1 x3 h = some r → Go l D ad aC (rmk m_Q_now) (QM D ad aC m_Q_now (.inl (some (.long r.1))) r.2) m_Q_now 134 [some (.ref a0), some (.long y1), none, some (.int x3), none, none, none] [] h 0 0 := by
  intro n
  induction n with
  | zero => intro a0 y1 x3 h r k0 e; exact no_none e
  | succ n ih =>
    intro a0 y1 x3 h r k0 e
    rw [f_Q_now_134] at e
    refine Go.run (pc' := 138) [.iload_n 3, .i2l, .aload_n 0, .iconst 1] (ls' := [some (.ref a0), some (.long y1), none, some (.int x3), none, none, none]) (st' := [.int (1 : Int32), .ref a0, .long x3.toInt64]) (by decide +kernel) rfl rfl ?_
    obtain ⟨v1, e2, e⟩ := bd_inv e
    refine Go.callH (M2 := (mr m_Q_about (.inl none))) (as := [.ref a0, .int (1 : Int32)]) (rest := [.long x3.toInt64]) (v := some (.long v1.1)) (h1 := v1.2) (xn_Q_about hf hI k0 e2) (WH.mr wh_Q_111) (by decide +kernel) rfl rfl ⟨⟨Nat.le_of_ble_eq_true rfl, Nat.le_of_ble_eq_true rfl⟩, ⟨Nat.le_of_ble_eq_true rfl, Nat.le_of_ble_eq_true rfl⟩⟩ (Nat.le_of_ble_eq_true rfl) ?_
    show Go l D ad aC (rmk m_Q_now) _ m_Q_now 141 [some (.ref a0), some (.long y1), none, some (.int x3), none, none, none] [.long v1.1, .long x3.toInt64] v1.2 0 0
    refine Go.run (pc' := 142) [.lcmp] (ls' := [some (.ref a0), some (.long y1), none, some (.int x3), none, none, none]) (st' := [.int (lg_cmp x3.toInt64 v1.1)]) (by decide +kernel) rfl rfl ?_
    refine Go.if_ge (off := 39) (tgt := 181) (by decide +kernel) (by decide) (fun c3 => ?_) (fun c3 => ?_)
    · replace e := ite_t c3 e
      refine Go.run (pc' := 182) [.lload_n 1] (ls' := [some (.ref a0), some (.long y1), none, some (.int x3), none, none, none]) (st' := [.long y1]) (by decide +kernel) rfl rfl ?_
      obtain rfl := Option.some.inj e
      exact Go.lret rfl (by decide) (by decide) (by decide +kernel)
    · replace e := ite_f c3 e
      refine Go.run (pc' := 148) [.iconst 0, .istore 4] (ls' := [some (.ref a0), some (.long y1), none, some (.int x3), some (.int (0 : Int32)), none, none]) (st' := []) (by decide +kernel) rfl rfl ?_
      exact x_Q_now_148 hf hI (fun kk0 e => ih kk0 e) 4096 k0 e
def f_Q_now_83 (k52_ : Nat → Int64 → Int32 → HP → Option (Int64 × HP)) : Nat → Nat → Int64 → Int32 → Int64 → Int32 → HP → Option (Int64 × HP)
  | 0, _, _, _, _, _, _ => none
  | n + 1, a0, y1, x3, y4, x6, h =>
    if 0 ≤ (lg_cmp x6.toInt64 y4) then
      k52_ a0 y1 (x3 + (1 : Int32)) h
    else
      (g_Q_metreOf h a0 x3 x6 (0 : Int32)).bind fun v2 =>
      (g_Q_metreOf v2.2 a0 x3 x6 (2 : Int32)).bind fun v4 =>
      f_Q_now_83 k52_ n a0 ((((31 : Int64) * y1) + ((97 : Int64) * v2.1)) + v4.1) x3 y4 (x6 + (1 : Int32)) v4.2
set_option maxHeartbeats 4000000 in
theorem x_Q_now_83 {l : Launch} {D : va_G} {ad : Nat → Nat} {aC : Nat → ClassId} (hf : l.flags = flags0) (hI : Inj ad) {k52_ : Nat → Int64 → Int32 → HP → Option (Int64 × HP)} (K52_ : ∀ {a0 : Nat} {y1 : Int64} {x3 : Int32} {h : HP} {r : Int64 × HP}, knd a0 = 7 → k52_ a0 y1 x3 h = some r → Go l D ad aC (rmk m_Q_now) (QM D ad aC m_Q_now (.inl (some (.long r.1))) r.2) m_Q_now 52 [some (.ref a0), some (.long y1), none, some (.int x3), none, none, none] [] h 0 0) : ∀ (n : Nat) {a0 : Nat} {y1 : Int64} {x3 : Int32} {y4 : Int64} {x6 : Int32} {h : HP} {r : Int64 × HP}, knd a0 = 7 → f_Q_now_83 k52_ n a0 y1 x3 y4 x6 h = some r → Go l D ad aC (rmk m_Q_now) (QM D ad aC m_Q_now (.inl (some (.long r.1))) r.2) m_Q_now 83 [some (.ref a0), some (.long y1), none, some (.int x3), some (.long y4), none, some (.int x6)] [] h 0 0 := by
  intro n
  induction n with
  | zero => intro a0 y1 x3 y4 x6 h r k0 e; exact no_none e
  | succ n ih =>
    intro a0 y1 x3 y4 x6 h r k0 e
    rw [f_Q_now_83] at e
    refine Go.run (pc' := 89) [.iload 6, .i2l, .lload 4, .lcmp] (ls' := [some (.ref a0), some (.long y1), none, some (.int x3), some (.long y4), none, some (.int x6)]) (st' := [.int (lg_cmp x6.toInt64 y4)]) (by decide +kernel) rfl rfl ?_
    refine Go.if_ge (off := 37) (tgt := 126) (by decide +kernel) (by decide) (fun c1 => ?_) (fun c1 => ?_)
    · replace e := ite_t c1 e
      refine Go.run (pc' := 129) [.iinc 3 (1)] (ls' := [some (.ref a0), some (.long y1), none, some (.int (x3 + (1 : Int32))), some (.long y4), none, some (.int x6)]) (st' := []) (by decide +kernel) rfl rfl ?_
      refine Go.goto (off := -77) (tgt := 52) (by decide +kernel) (by decide) ?_
      refine Go.wk' (wks (wks (wks (wks (wkn (wks (wkn wk0))))))) ?_
      exact K52_ k0 e
    · replace e := ite_f c1 e
      refine Go.ldc2 lo_Q_109 (by decide +kernel) ?_
      refine Go.run (pc' := 97) [.lload_n 1, .lmul] (ls' := [some (.ref a0), some (.long y1), none, some (.int x3), some (.long y4), none, some (.int x6)]) (st' := [.long ((31 : Int64) * y1)]) (by decide +kernel) rfl rfl ?_
      refine Go.ldc2 lo_Q_116 (by decide +kernel) ?_
      refine Go.run (pc' := 105) [.aload_n 0, .iload_n 3, .iload 6, .iconst 0] (ls' := [some (.ref a0), some (.long y1), none, some (.int x3), some (.long y4), none, some (.int x6)]) (st' := [.int (0 : Int32), .int x6, .int x3, .ref a0, .long (97 : Int64), .long ((31 : Int64) * y1)]) (by decide +kernel) rfl rfl ?_
      obtain ⟨v2, e3, e⟩ := bd_inv e
      refine Go.callH (M2 := (mr m_Q_metreOf (.inl none))) (as := [.ref a0, .int x3, .int x6, .int (0 : Int32)]) (rest := [.long (97 : Int64), .long ((31 : Int64) * y1)]) (v := some (.long v2.1)) (h1 := v2.2) (xn_Q_metreOf hf hI k0 e3) (WH.mr wh_Q_123) (by decide +kernel) rfl rfl ⟨⟨Nat.le_of_ble_eq_true rfl, Nat.le_of_ble_eq_true rfl⟩, ⟨Nat.le_of_ble_eq_true rfl, Nat.le_of_ble_eq_true rfl⟩⟩ (Nat.le_of_ble_eq_true rfl) ?_
      show Go l D ad aC (rmk m_Q_now) _ m_Q_now 108 [some (.ref a0), some (.long y1), none, some (.int x3), some (.long y4), none, some (.int x6)] [.long v2.1, .long (97 : Int64), .long ((31 : Int64) * y1)] v2.2 0 0
      refine Go.run (pc' := 115) [.lmul, .ladd, .aload_n 0, .iload_n 3, .iload 6, .iconst 2] (ls' := [some (.ref a0), some (.long y1), none, some (.int x3), some (.long y4), none, some (.int x6)]) (st' := [.int (2 : Int32), .int x6, .int x3, .ref a0, .long (((31 : Int64) * y1) + ((97 : Int64) * v2.1))]) (by decide +kernel) rfl rfl ?_
      obtain ⟨v4, e5, e⟩ := bd_inv e
      refine Go.callH (M2 := (mr m_Q_metreOf (.inl none))) (as := [.ref a0, .int x3, .int x6, .int (2 : Int32)]) (rest := [.long (((31 : Int64) * y1) + ((97 : Int64) * v2.1))]) (v := some (.long v4.1)) (h1 := v4.2) (xn_Q_metreOf hf hI k0 e5) (WH.mr wh_Q_123) (by decide +kernel) rfl rfl ⟨⟨Nat.le_of_ble_eq_true rfl, Nat.le_of_ble_eq_true rfl⟩, ⟨Nat.le_of_ble_eq_true rfl, Nat.le_of_ble_eq_true rfl⟩⟩ (Nat.le_of_ble_eq_true rfl) ?_
      show Go l D ad aC (rmk m_Q_now) _ m_Q_now 118 [some (.ref a0), some (.long y1), none, some (.int x3), some (.long y4), none, some (.int x6)] [.long v4.1, .long (((31 : Int64) * y1) + ((97 : Int64) * v2.1))] v4.2 0 0
      refine Go.run (pc' := 123) [.ladd, .lstore_n 1, .iinc 6 (1)] (ls' := [some (.ref a0), some (.long ((((31 : Int64) * y1) + ((97 : Int64) * v2.1)) + v4.1)), none, some (.int x3), some (.long y4), none, some (.int (x6 + (1 : Int32)))]) (st' := []) (by decide +kernel) rfl rfl ?_
      refine Go.goto (off := -40) (tgt := 83) (by decide +kernel) (by decide) ?_
      exact ih k0 e
def f_Q_now_52  : Nat → Nat → Int64 → Int32 → HP → Option (Int64 × HP)
  | 0, _, _, _, _ => none
  | n + 1, a0, y1, x3, h =>
    (g_Q_about h a0 (0 : Int32)).bind fun v1 =>
    if 0 ≤ (lg_cmp x3.toInt64 v1.1) then
      f_Q_now_134 4096 a0 y1 (0 : Int32) v1.2
    else
      (g_Q_wallOf v1.2 a0 x3 (0 : Int32)).bind fun v4 =>
      f_Q_now_83 (f_Q_now_52 n) 4096 a0 (((31 : Int64) * y1) + v4.1) x3 v4.1 (0 : Int32) v4.2
set_option maxHeartbeats 4000000 in
theorem x_Q_now_52 {l : Launch} {D : va_G} {ad : Nat → Nat} {aC : Nat → ClassId} (hf : l.flags = flags0) (hI : Inj ad) : ∀ (n : Nat) {a0 : Nat} {y1 : Int64} {x3 : Int32} {h : HP} {r : Int64 × HP}, knd a0 = 7 → f_Q_now_52 n a0 y1 x3 h = some r → Go l D ad aC (rmk m_Q_now) (QM D ad aC m_Q_now (.inl (some (.long r.1))) r.2) m_Q_now 52 [some (.ref a0), some (.long y1), none, some (.int x3), none, none, none] [] h 0 0 := by
  intro n
  induction n with
  | zero => intro a0 y1 x3 h r k0 e; exact no_none e
  | succ n ih =>
    intro a0 y1 x3 h r k0 e
    rw [f_Q_now_52] at e
    refine Go.run (pc' := 56) [.iload_n 3, .i2l, .aload_n 0, .iconst 0] (ls' := [some (.ref a0), some (.long y1), none, some (.int x3), none, none, none]) (st' := [.int (0 : Int32), .ref a0, .long x3.toInt64]) (by decide +kernel) rfl rfl ?_
    obtain ⟨v1, e2, e⟩ := bd_inv e
    refine Go.callH (M2 := (mr m_Q_about (.inl none))) (as := [.ref a0, .int (0 : Int32)]) (rest := [.long x3.toInt64]) (v := some (.long v1.1)) (h1 := v1.2) (xn_Q_about hf hI k0 e2) (WH.mr wh_Q_111) (by decide +kernel) rfl rfl ⟨⟨Nat.le_of_ble_eq_true rfl, Nat.le_of_ble_eq_true rfl⟩, ⟨Nat.le_of_ble_eq_true rfl, Nat.le_of_ble_eq_true rfl⟩⟩ (Nat.le_of_ble_eq_true rfl) ?_
    show Go l D ad aC (rmk m_Q_now) _ m_Q_now 59 [some (.ref a0), some (.long y1), none, some (.int x3), none, none, none] [.long v1.1, .long x3.toInt64] v1.2 0 0
    refine Go.run (pc' := 60) [.lcmp] (ls' := [some (.ref a0), some (.long y1), none, some (.int x3), none, none, none]) (st' := [.int (lg_cmp x3.toInt64 v1.1)]) (by decide +kernel) rfl rfl ?_
    refine Go.if_ge (off := 72) (tgt := 132) (by decide +kernel) (by decide) (fun c3 => ?_) (fun c3 => ?_)
    · replace e := ite_t c3 e
      refine Go.run (pc' := 134) [.iconst 0, .istore_n 3] (ls' := [some (.ref a0), some (.long y1), none, some (.int (0 : Int32)), none, none, none]) (st' := []) (by decide +kernel) rfl rfl ?_
      exact x_Q_now_134 hf hI 4096 k0 e
    · replace e := ite_f c3 e
      refine Go.run (pc' := 66) [.aload_n 0, .iload_n 3, .iconst 0] (ls' := [some (.ref a0), some (.long y1), none, some (.int x3), none, none, none]) (st' := [.int (0 : Int32), .int x3, .ref a0]) (by decide +kernel) rfl rfl ?_
      obtain ⟨v4, e5, e⟩ := bd_inv e
      refine Go.callH (M2 := (mr m_Q_wallOf (.inl none))) (as := [.ref a0, .int x3, .int (0 : Int32)]) (rest := []) (v := some (.long v4.1)) (h1 := v4.2) (xn_Q_wallOf hf hI k0 e5) (WH.mr wh_Q_120) (by decide +kernel) rfl rfl ⟨⟨Nat.le_of_ble_eq_true rfl, Nat.le_of_ble_eq_true rfl⟩, ⟨Nat.le_of_ble_eq_true rfl, Nat.le_of_ble_eq_true rfl⟩⟩ (Nat.le_of_ble_eq_true rfl) ?_
      show Go l D ad aC (rmk m_Q_now) _ m_Q_now 69 [some (.ref a0), some (.long y1), none, some (.int x3), none, none, none] [.long v4.1] v4.2 0 0
      refine Go.run (pc' := 71) [.lstore 4] (ls' := [some (.ref a0), some (.long y1), none, some (.int x3), some (.long v4.1), none, none]) (st' := []) (by decide +kernel) rfl rfl ?_
      refine Go.ldc2 lo_Q_109 (by decide +kernel) ?_
      refine Go.run (pc' := 83) [.lload_n 1, .lmul, .lload 4, .ladd, .lstore_n 1, .iconst 0, .istore 6] (ls' := [some (.ref a0), some (.long (((31 : Int64) * y1) + v4.1)), none, some (.int x3), some (.long v4.1), none, some (.int (0 : Int32))]) (st' := []) (by decide +kernel) rfl rfl ?_
      exact x_Q_now_83 hf hI (fun kk0 e => ih kk0 e) 4096 k0 e
def f_Q_now_42 (k6_ : Nat → Int64 → Int32 → HP → Option (Int64 × HP)) (a0 : Nat) (x3 : Int32) (t0 : Int64) (t1 : Int64) (h : HP) : Option (Int64 × HP) :=
  k6_ a0 (t0 + t1) (x3 + (1 : Int32)) h
set_option maxHeartbeats 4000000 in
theorem x_Q_now_42 {l : Launch} {D : va_G} {ad : Nat → Nat} {aC : Nat → ClassId} (hf : l.flags = flags0) (hI : Inj ad) {k6_ : Nat → Int64 → Int32 → HP → Option (Int64 × HP)} (K6_ : ∀ {a0 : Nat} {y1 : Int64} {x3 : Int32} {h : HP} {r : Int64 × HP}, knd a0 = 7 → k6_ a0 y1 x3 h = some r → Go l D ad aC (rmk m_Q_now) (QM D ad aC m_Q_now (.inl (some (.long r.1))) r.2) m_Q_now 6 [some (.ref a0), some (.long y1), none, some (.int x3), none, none, none] [] h 0 0) {a0 : Nat} {x3 : Int32} {t0 : Int64} {t1 : Int64} {h : HP} {r : Int64 × HP} (k0 : knd a0 = 7) (e : f_Q_now_42 k6_ a0 x3 t0 t1 h = some r) : Go l D ad aC (rmk m_Q_now) (QM D ad aC m_Q_now (.inl (some (.long r.1))) r.2) m_Q_now 42 [some (.ref a0), none, none, some (.int x3), none, none, none] [.long t1, .long t0] h 0 0 := by
  unfold f_Q_now_42 at e
  refine Go.run (pc' := 47) [.ladd, .lstore_n 1, .iinc 3 (1)] (ls' := [some (.ref a0), some (.long (t0 + t1)), none, some (.int (x3 + (1 : Int32))), none, none, none]) (st' := []) (by decide +kernel) rfl rfl ?_
  refine Go.goto (off := -41) (tgt := 6) (by decide +kernel) (by decide) ?_
  exact K6_ k0 e
def f_Q_now_6  : Nat → Nat → Int64 → Int32 → HP → Option (Int64 × HP)
  | 0, _, _, _, _ => none
  | n + 1, a0, y1, x3, h =>
    if (14 : Int32) ≤ x3 then
      f_Q_now_52 4096 a0 y1 (0 : Int32) h
    else
      (g_Q_about h a0 x3).bind fun v2 =>
      if (6 : Int32) ≤ x3 then
        f_Q_now_42 (f_Q_now_6 n) a0 x3 (((31 : Int64) * y1) + v2.1) (0 : Int64) v2.2
      else
        (g_Q_setting v2.2 a0 x3).bind fun v5 =>
        f_Q_now_42 (f_Q_now_6 n) a0 x3 (((31 : Int64) * y1) + v2.1) ((97 : Int64) * v5.1) v5.2
set_option maxHeartbeats 4000000 in
theorem x_Q_now_6 {l : Launch} {D : va_G} {ad : Nat → Nat} {aC : Nat → ClassId} (hf : l.flags = flags0) (hI : Inj ad) : ∀ (n : Nat) {a0 : Nat} {y1 : Int64} {x3 : Int32} {h : HP} {r : Int64 × HP}, knd a0 = 7 → f_Q_now_6 n a0 y1 x3 h = some r → Go l D ad aC (rmk m_Q_now) (QM D ad aC m_Q_now (.inl (some (.long r.1))) r.2) m_Q_now 6 [some (.ref a0), some (.long y1), none, some (.int x3), none, none, none] [] h 0 0 := by
  intro n
  induction n with
  | zero => intro a0 y1 x3 h r k0 e; exact no_none e
  | succ n ih =>
    intro a0 y1 x3 h r k0 e
    rw [f_Q_now_6] at e
    refine Go.run (pc' := 9) [.iload_n 3, .bipush (14)] (ls' := [some (.ref a0), some (.long y1), none, some (.int x3), none, none, none]) (st' := [.int (14 : Int32), .int x3]) (by decide +kernel) rfl rfl ?_
    refine Go.ic_ge (off := 41) (tgt := 50) (by decide +kernel) (by decide) (fun c1 => ?_) (fun c1 => ?_)
    · replace e := ite_t c1 e
      refine Go.run (pc' := 52) [.iconst 0, .istore_n 3] (ls' := [some (.ref a0), some (.long y1), none, some (.int (0 : Int32)), none, none, none]) (st' := []) (by decide +kernel) rfl rfl ?_
      exact x_Q_now_52 hf hI 4096 k0 e
    · replace e := ite_f c1 e
      refine Go.ldc2 lo_Q_109 (by decide +kernel) ?_
      refine Go.run (pc' := 19) [.lload_n 1, .lmul, .aload_n 0, .iload_n 3] (ls' := [some (.ref a0), some (.long y1), none, some (.int x3), none, none, none]) (st' := [.int x3, .ref a0, .long ((31 : Int64) * y1)]) (by decide +kernel) rfl rfl ?_
      obtain ⟨v2, e3, e⟩ := bd_inv e
      refine Go.callH (M2 := (mr m_Q_about (.inl none))) (as := [.ref a0, .int x3]) (rest := [.long ((31 : Int64) * y1)]) (v := some (.long v2.1)) (h1 := v2.2) (xn_Q_about hf hI k0 e3) (WH.mr wh_Q_111) (by decide +kernel) rfl rfl ⟨⟨Nat.le_of_ble_eq_true rfl, Nat.le_of_ble_eq_true rfl⟩, ⟨Nat.le_of_ble_eq_true rfl, Nat.le_of_ble_eq_true rfl⟩⟩ (Nat.le_of_ble_eq_true rfl) ?_
      show Go l D ad aC (rmk m_Q_now) _ m_Q_now 22 [some (.ref a0), some (.long y1), none, some (.int x3), none, none, none] [.long v2.1, .long ((31 : Int64) * y1)] v2.2 0 0
      refine Go.run (pc' := 26) [.ladd, .iload_n 3, .bipush (6)] (ls' := [some (.ref a0), some (.long y1), none, some (.int x3), none, none, none]) (st' := [.int (6 : Int32), .int x3, .long (((31 : Int64) * y1) + v2.1)]) (by decide +kernel) rfl rfl ?_
      refine Go.ic_ge (off := 15) (tgt := 41) (by decide +kernel) (by decide) (fun c4 => ?_) (fun c4 => ?_)
      · replace e := ite_t c4 e
        refine Go.run (pc' := 42) [.lconst 0] (ls' := [some (.ref a0), some (.long y1), none, some (.int x3), none, none, none]) (st' := [.long (0 : Int64), .long (((31 : Int64) * y1) + v2.1)]) (by decide +kernel) rfl rfl ?_
        refine Go.wk' (wks (wkn (wks (wks (wks (wks (wks wk0))))))) ?_
        exact x_Q_now_42 hf hI (fun kk0 e => ih kk0 e) k0 e
      · replace e := ite_f c4 e
        refine Go.ldc2 lo_Q_116 (by decide +kernel) ?_
        refine Go.run (pc' := 34) [.aload_n 0, .iload_n 3] (ls' := [some (.ref a0), some (.long y1), none, some (.int x3), none, none, none]) (st' := [.int x3, .ref a0, .long (97 : Int64), .long (((31 : Int64) * y1) + v2.1)]) (by decide +kernel) rfl rfl ?_
        obtain ⟨v5, e6, e⟩ := bd_inv e
        refine Go.callH (M2 := (mr m_Q_setting (.inl none))) (as := [.ref a0, .int x3]) (rest := [.long (97 : Int64), .long (((31 : Int64) * y1) + v2.1)]) (v := some (.long v5.1)) (h1 := v5.2) (xn_Q_setting hf hI k0 e6) (WH.mr wh_Q_118) (by decide +kernel) rfl rfl ⟨⟨Nat.le_of_ble_eq_true rfl, Nat.le_of_ble_eq_true rfl⟩, ⟨Nat.le_of_ble_eq_true rfl, Nat.le_of_ble_eq_true rfl⟩⟩ (Nat.le_of_ble_eq_true rfl) ?_
        show Go l D ad aC (rmk m_Q_now) _ m_Q_now 37 [some (.ref a0), some (.long y1), none, some (.int x3), none, none, none] [.long v5.1, .long (97 : Int64), .long (((31 : Int64) * y1) + v2.1)] v5.2 0 0
        refine Go.run (pc' := 38) [.lmul] (ls' := [some (.ref a0), some (.long y1), none, some (.int x3), none, none, none]) (st' := [.long ((97 : Int64) * v5.1), .long (((31 : Int64) * y1) + v2.1)]) (by decide +kernel) rfl rfl ?_
        refine Go.goto (off := 4) (tgt := 42) (by decide +kernel) (by decide) ?_
        refine Go.wk' (wks (wkn (wks (wks (wks (wks (wks wk0))))))) ?_
        exact x_Q_now_42 hf hI (fun kk0 e => ih kk0 e) k0 e
def f_Q_now (h : HP) (a0 : Nat) : Option (Int64 × HP) :=
  f_Q_now_6 4096 a0 (149 : Int64) (0 : Int32) h
set_option maxHeartbeats 4000000 in
theorem x_Q_now {l : Launch} {D : va_G} {ad : Nat → Nat} {aC : Nat → ClassId} (hf : l.flags = flags0) (hI : Inj ad) {h : HP} {a0 : Nat} {r : Int64 × HP} (k0 : knd a0 = 7) (e : f_Q_now h a0 = some r) : CT l D ad aC m_Q_now [.ref a0] h (.inl (some (.long r.1))) r.2 := by
  refine CT.ofGo (by decide +kernel) rfl (Nat.le_of_ble_eq_true rfl) ?_
  unfold f_Q_now at e
  show Go l D ad aC (rmk m_Q_now) _ m_Q_now 0 [some (.ref a0), none, none, none, none, none, none] [] h 0 0
  refine Go.ldc2 lo_Q_107 (by decide +kernel) ?_
  refine Go.run (pc' := 6) [.lstore_n 1, .iconst 0, .istore_n 3] (ls' := [some (.ref a0), some (.long (149 : Int64)), none, some (.int (0 : Int32)), none, none, none]) (st' := []) (by decide +kernel) rfl rfl ?_
  exact x_Q_now_6 hf hI 4096 k0 e
def f_Q_says (h : HP) (a0 : Nat) (x1 : Int32) (x2 : Int32) (x3 : Int32) (x4 : Int32) : Option (Int32 × HP) :=
  (g_Q_append h a0 x1).bind fun v1 =>
  if (lg_cmp v1.1 (0 : Int64)) ≤ 0 then
    some ((0 : Int32), v1.2)
  else
    (g_Q_append v1.2 a0 x2).bind fun v4 =>
    if (lg_cmp v4.1 (0 : Int64)) ≤ 0 then
      some ((0 : Int32), v4.2)
    else
      (g_Q_append v4.2 a0 x3).bind fun v7 =>
      if (lg_cmp v7.1 (0 : Int64)) ≤ 0 then
        some ((0 : Int32), v7.2)
      else
        (g_Q_append v7.2 a0 x4).bind fun v10 =>
        if (lg_cmp v10.1 (0 : Int64)) ≤ 0 then
          some ((0 : Int32), v10.2)
        else
          some ((1 : Int32), v10.2)
set_option maxHeartbeats 4000000 in
theorem x_Q_says {l : Launch} {D : va_G} {ad : Nat → Nat} {aC : Nat → ClassId} (hf : l.flags = flags0) (hI : Inj ad) {h : HP} {a0 : Nat} {x1 : Int32} {x2 : Int32} {x3 : Int32} {x4 : Int32} {r : Int32 × HP} (k0 : knd a0 = 7) (e : f_Q_says h a0 x1 x2 x3 x4 = some r) : CT l D ad aC m_Q_says [.ref a0, .int x1, .int x2, .int x3, .int x4] h (.inl (some (.int r.1))) r.2 := by
  refine CT.ofGo (by decide +kernel) rfl (Nat.le_of_ble_eq_true rfl) ?_
  unfold f_Q_says at e
  show Go l D ad aC (rmk m_Q_says) _ m_Q_says 0 [some (.ref a0), some (.int x1), some (.int x2), some (.int x3), some (.int x4)] [] h 0 0
  refine Go.run (pc' := 2) [.aload_n 0, .iload_n 1] (ls' := [some (.ref a0), some (.int x1), some (.int x2), some (.int x3), some (.int x4)]) (st' := [.int x1, .ref a0]) (by decide +kernel) rfl rfl ?_
  obtain ⟨v1, e2, e⟩ := bd_inv e
  refine Go.callH (M2 := (mr m_Q_append (.inl none))) (as := [.ref a0, .int x1]) (rest := []) (v := some (.long v1.1)) (h1 := v1.2) (xn_Q_append hf hI k0 e2) (WH.mr wh_Q_175) (by decide +kernel) rfl rfl ⟨⟨Nat.le_of_ble_eq_true rfl, Nat.le_of_ble_eq_true rfl⟩, ⟨Nat.le_of_ble_eq_true rfl, Nat.le_of_ble_eq_true rfl⟩⟩ (Nat.le_of_ble_eq_true rfl) ?_
  show Go l D ad aC (rmk m_Q_says) _ m_Q_says 5 [some (.ref a0), some (.int x1), some (.int x2), some (.int x3), some (.int x4)] [.long v1.1] v1.2 0 0
  refine Go.run (pc' := 7) [.lconst 0, .lcmp] (ls' := [some (.ref a0), some (.int x1), some (.int x2), some (.int x3), some (.int x4)]) (st' := [.int (lg_cmp v1.1 (0 : Int64))]) (by decide +kernel) rfl rfl ?_
  refine Go.if_le (off := 38) (tgt := 45) (by decide +kernel) (by decide) (fun c3 => ?_) (fun c3 => ?_)
  · replace e := ite_t c3 e
    refine Go.run (pc' := 46) [.iconst 0] (ls' := [some (.ref a0), some (.int x1), some (.int x2), some (.int x3), some (.int x4)]) (st' := [.int (0 : Int32)]) (by decide +kernel) rfl rfl ?_
    obtain rfl := Option.some.inj e
    exact Go.zret rfl nar_z0 (by decide) (by decide) (by decide +kernel)
  · replace e := ite_f c3 e
    refine Go.run (pc' := 12) [.aload_n 0, .iload_n 2] (ls' := [some (.ref a0), some (.int x1), some (.int x2), some (.int x3), some (.int x4)]) (st' := [.int x2, .ref a0]) (by decide +kernel) rfl rfl ?_
    obtain ⟨v4, e5, e⟩ := bd_inv e
    refine Go.callH (M2 := (mr m_Q_append (.inl none))) (as := [.ref a0, .int x2]) (rest := []) (v := some (.long v4.1)) (h1 := v4.2) (xn_Q_append hf hI k0 e5) (WH.mr wh_Q_175) (by decide +kernel) rfl rfl ⟨⟨Nat.le_of_ble_eq_true rfl, Nat.le_of_ble_eq_true rfl⟩, ⟨Nat.le_of_ble_eq_true rfl, Nat.le_of_ble_eq_true rfl⟩⟩ (Nat.le_of_ble_eq_true rfl) ?_
    show Go l D ad aC (rmk m_Q_says) _ m_Q_says 15 [some (.ref a0), some (.int x1), some (.int x2), some (.int x3), some (.int x4)] [.long v4.1] v4.2 0 0
    refine Go.run (pc' := 17) [.lconst 0, .lcmp] (ls' := [some (.ref a0), some (.int x1), some (.int x2), some (.int x3), some (.int x4)]) (st' := [.int (lg_cmp v4.1 (0 : Int64))]) (by decide +kernel) rfl rfl ?_
    refine Go.if_le (off := 28) (tgt := 45) (by decide +kernel) (by decide) (fun c6 => ?_) (fun c6 => ?_)
    · replace e := ite_t c6 e
      refine Go.run (pc' := 46) [.iconst 0] (ls' := [some (.ref a0), some (.int x1), some (.int x2), some (.int x3), some (.int x4)]) (st' := [.int (0 : Int32)]) (by decide +kernel) rfl rfl ?_
      obtain rfl := Option.some.inj e
      exact Go.zret rfl nar_z0 (by decide) (by decide) (by decide +kernel)
    · replace e := ite_f c6 e
      refine Go.run (pc' := 22) [.aload_n 0, .iload_n 3] (ls' := [some (.ref a0), some (.int x1), some (.int x2), some (.int x3), some (.int x4)]) (st' := [.int x3, .ref a0]) (by decide +kernel) rfl rfl ?_
      obtain ⟨v7, e8, e⟩ := bd_inv e
      refine Go.callH (M2 := (mr m_Q_append (.inl none))) (as := [.ref a0, .int x3]) (rest := []) (v := some (.long v7.1)) (h1 := v7.2) (xn_Q_append hf hI k0 e8) (WH.mr wh_Q_175) (by decide +kernel) rfl rfl ⟨⟨Nat.le_of_ble_eq_true rfl, Nat.le_of_ble_eq_true rfl⟩, ⟨Nat.le_of_ble_eq_true rfl, Nat.le_of_ble_eq_true rfl⟩⟩ (Nat.le_of_ble_eq_true rfl) ?_
      show Go l D ad aC (rmk m_Q_says) _ m_Q_says 25 [some (.ref a0), some (.int x1), some (.int x2), some (.int x3), some (.int x4)] [.long v7.1] v7.2 0 0
      refine Go.run (pc' := 27) [.lconst 0, .lcmp] (ls' := [some (.ref a0), some (.int x1), some (.int x2), some (.int x3), some (.int x4)]) (st' := [.int (lg_cmp v7.1 (0 : Int64))]) (by decide +kernel) rfl rfl ?_
      refine Go.if_le (off := 18) (tgt := 45) (by decide +kernel) (by decide) (fun c9 => ?_) (fun c9 => ?_)
      · replace e := ite_t c9 e
        refine Go.run (pc' := 46) [.iconst 0] (ls' := [some (.ref a0), some (.int x1), some (.int x2), some (.int x3), some (.int x4)]) (st' := [.int (0 : Int32)]) (by decide +kernel) rfl rfl ?_
        obtain rfl := Option.some.inj e
        exact Go.zret rfl nar_z0 (by decide) (by decide) (by decide +kernel)
      · replace e := ite_f c9 e
        refine Go.run (pc' := 33) [.aload_n 0, .iload 4] (ls' := [some (.ref a0), some (.int x1), some (.int x2), some (.int x3), some (.int x4)]) (st' := [.int x4, .ref a0]) (by decide +kernel) rfl rfl ?_
        obtain ⟨v10, e11, e⟩ := bd_inv e
        refine Go.callH (M2 := (mr m_Q_append (.inl none))) (as := [.ref a0, .int x4]) (rest := []) (v := some (.long v10.1)) (h1 := v10.2) (xn_Q_append hf hI k0 e11) (WH.mr wh_Q_175) (by decide +kernel) rfl rfl ⟨⟨Nat.le_of_ble_eq_true rfl, Nat.le_of_ble_eq_true rfl⟩, ⟨Nat.le_of_ble_eq_true rfl, Nat.le_of_ble_eq_true rfl⟩⟩ (Nat.le_of_ble_eq_true rfl) ?_
        show Go l D ad aC (rmk m_Q_says) _ m_Q_says 36 [some (.ref a0), some (.int x1), some (.int x2), some (.int x3), some (.int x4)] [.long v10.1] v10.2 0 0
        refine Go.run (pc' := 38) [.lconst 0, .lcmp] (ls' := [some (.ref a0), some (.int x1), some (.int x2), some (.int x3), some (.int x4)]) (st' := [.int (lg_cmp v10.1 (0 : Int64))]) (by decide +kernel) rfl rfl ?_
        refine Go.if_le (off := 7) (tgt := 45) (by decide +kernel) (by decide) (fun c12 => ?_) (fun c12 => ?_)
        · replace e := ite_t c12 e
          refine Go.run (pc' := 46) [.iconst 0] (ls' := [some (.ref a0), some (.int x1), some (.int x2), some (.int x3), some (.int x4)]) (st' := [.int (0 : Int32)]) (by decide +kernel) rfl rfl ?_
          obtain rfl := Option.some.inj e
          exact Go.zret rfl nar_z0 (by decide) (by decide) (by decide +kernel)
        · replace e := ite_f c12 e
          refine Go.run (pc' := 42) [.iconst 1] (ls' := [some (.ref a0), some (.int x1), some (.int x2), some (.int x3), some (.int x4)]) (st' := [.int (1 : Int32)]) (by decide +kernel) rfl rfl ?_
          refine Go.goto (off := 4) (tgt := 46) (by decide +kernel) (by decide) ?_
          obtain rfl := Option.some.inj e
          exact Go.zret rfl nar_z1 (by decide) (by decide) (by decide +kernel)
def f_Q_errors_694  (a0 : Nat) (y1 : Int64) (s0 : Int32) (h : HP) : Option (Int32 × HP) :=
  if s0 = 0 then
    some ((0 : Int32), h)
  else
    (f_Q_now h a0).bind fun v2 =>
    if (lg_cmp v2.1 y1) = 0 then
      some ((1 : Int32), v2.2)
    else
      some ((0 : Int32), v2.2)
set_option maxHeartbeats 4000000 in
theorem x_Q_errors_694 {l : Launch} {D : va_G} {ad : Nat → Nat} {aC : Nat → ClassId} (hf : l.flags = flags0) (hI : Inj ad) {a0 : Nat} {y1 : Int64} {s0 : Int32} {h : HP} {r : Int32 × HP} (k0 : knd a0 = 7) (e : f_Q_errors_694 a0 y1 s0 h = some r) : Go l D ad aC (rmk m_Q_errors) (QM D ad aC m_Q_errors (.inl (some (.int r.1))) r.2) m_Q_errors 694 [some (.ref a0), some (.long y1), none, none, none, none] [.int s0] h 49 294 := by
  unfold f_Q_errors_694 at e
  refine Go.run (pc' := 698) [.istore 5, .iload 5] (ls' := [some (.ref a0), some (.long y1), none, none, none, some (.int s0)]) (st' := [.int s0]) (by decide +kernel) rfl rfl ?_
  refine Go.if_eq (off := 16) (tgt := 714) (by decide +kernel) (by decide) (fun c1 => ?_) (fun c1 => ?_)
  · replace e := ite_t c1 e
    refine Go.run (pc' := 715) [.iconst 0] (ls' := [some (.ref a0), some (.long y1), none, none, none, some (.int s0)]) (st' := [.int (0 : Int32)]) (by decide +kernel) rfl rfl ?_
    obtain rfl := Option.some.inj e
    exact Go.zret rfl nar_z0 (by decide) (by decide) (by decide +kernel)
  · replace e := ite_f c1 e
    refine Go.run (pc' := 702) [.aload_n 0] (ls' := [some (.ref a0), some (.long y1), none, none, none, some (.int s0)]) (st' := [.ref a0]) (by decide +kernel) rfl rfl ?_
    obtain ⟨v2, e3, e⟩ := bd_inv e
    refine Go.callS (M2 := m_Q_now) (as := [.ref a0]) (rest := []) (v := some (.long v2.1)) (h1 := v2.2) (x_Q_now hf hI k0 e3) ws_Q_128 (by decide +kernel) rfl rfl ⟨⟨Nat.le_of_ble_eq_true rfl, Nat.le_of_ble_eq_true rfl⟩, ⟨Nat.le_of_ble_eq_true rfl, Nat.le_of_ble_eq_true rfl⟩⟩ (Nat.le_of_ble_eq_true rfl) ?_
    show Go l D ad aC (rmk m_Q_errors) _ m_Q_errors 705 [some (.ref a0), some (.long y1), none, none, none, some (.int s0)] [.long v2.1] v2.2 49 294
    refine Go.run (pc' := 707) [.lload_n 1, .lcmp] (ls' := [some (.ref a0), some (.long y1), none, none, none, some (.int s0)]) (st' := [.int (lg_cmp v2.1 y1)]) (by decide +kernel) rfl rfl ?_
    refine Go.if_ne (off := 7) (tgt := 714) (by decide +kernel) (by decide) (fun c4 => ?_) (fun c4 => ?_)
    · replace e := ite_f c4 e
      refine Go.run (pc' := 715) [.iconst 0] (ls' := [some (.ref a0), some (.long y1), none, none, none, some (.int s0)]) (st' := [.int (0 : Int32)]) (by decide +kernel) rfl rfl ?_
      obtain rfl := Option.some.inj e
      exact Go.zret rfl nar_z0 (by decide) (by decide) (by decide +kernel)
    · replace e := ite_t c4 e
      refine Go.run (pc' := 711) [.iconst 1] (ls' := [some (.ref a0), some (.long y1), none, none, none, some (.int s0)]) (st' := [.int (1 : Int32)]) (by decide +kernel) rfl rfl ?_
      refine Go.goto (off := 4) (tgt := 715) (by decide +kernel) (by decide) ?_
      obtain rfl := Option.some.inj e
      exact Go.zret rfl nar_z1 (by decide) (by decide) (by decide +kernel)
def f_Q_errors_693  (a0 : Nat) (y1 : Int64) (h : HP) : Option (Int32 × HP) :=
  f_Q_errors_694 a0 y1 (0 : Int32) h
set_option maxHeartbeats 4000000 in
theorem x_Q_errors_693 {l : Launch} {D : va_G} {ad : Nat → Nat} {aC : Nat → ClassId} (hf : l.flags = flags0) (hI : Inj ad) {a0 : Nat} {y1 : Int64} {h : HP} {r : Int32 × HP} (k0 : knd a0 = 7) (e : f_Q_errors_693 a0 y1 h = some r) : Go l D ad aC (rmk m_Q_errors) (QM D ad aC m_Q_errors (.inl (some (.int r.1))) r.2) m_Q_errors 693 [some (.ref a0), some (.long y1), none, none, none, none] [] h 49 294 := by
  unfold f_Q_errors_693 at e
  refine Go.run (pc' := 694) [.iconst 0] (ls' := [some (.ref a0), some (.long y1), none, none, none, none]) (st' := [.int (0 : Int32)]) (by decide +kernel) rfl rfl ?_
  exact x_Q_errors_694 hf hI k0 e
def f_Q_errors_610  (a0 : Nat) (y1 : Int64) (h : HP) : Option (Int32 × HP) :=
  (f_Q_script h a0 (0 : Int32) (0 : Int64)).bind fun v1 =>
  if (lg_cmp v1.1 (-9000000000000000002 : Int64)) = 0 then
    (f_Q_script v1.2 a0 (3 : Int32) (1000000000000000 : Int64)).bind fun v4 =>
    if (lg_cmp v4.1 (-9000000000000000002 : Int64)) = 0 then
      (f_Q_simulate v4.2 a0 (1 : Int64) (0 : Int32)).bind fun v7 =>
      if (lg_cmp v7.1 (-9000000000000000002 : Int64)) = 0 then
        (f_Q_save v7.2 a0 (2 : Int32)).bind fun v10 =>
        if (lg_cmp v10.1 (-9000000000000000001 : Int64)) = 0 then
          (f_Q_restore v10.2 a0 (2 : Int32)).bind fun v13 =>
          if (lg_cmp v13.1 (-9000000000000000001 : Int64)) = 0 then
            (f_Q_append v13.2 a0 (256 : Int32)).bind fun v16 =>
            if (lg_cmp v16.1 (-9000000000000000002 : Int64)) = 0 then
              f_Q_errors_694 a0 y1 (1 : Int32) v16.2
            else
              f_Q_errors_693 a0 y1 v16.2
          else
            f_Q_errors_693 a0 y1 v13.2
        else
          f_Q_errors_693 a0 y1 v10.2
      else
        f_Q_errors_693 a0 y1 v7.2
    else
      f_Q_errors_693 a0 y1 v4.2
  else
    f_Q_errors_693 a0 y1 v1.2
set_option maxHeartbeats 4000000 in
theorem x_Q_errors_610 {l : Launch} {D : va_G} {ad : Nat → Nat} {aC : Nat → ClassId} (hf : l.flags = flags0) (hI : Inj ad) {a0 : Nat} {y1 : Int64} {h : HP} {r : Int32 × HP} (k0 : knd a0 = 7) (e : f_Q_errors_610 a0 y1 h = some r) : Go l D ad aC (rmk m_Q_errors) (QM D ad aC m_Q_errors (.inl (some (.int r.1))) r.2) m_Q_errors 610 [some (.ref a0), some (.long y1), none, none, none, none] [] h 43 258 := by
  unfold f_Q_errors_610 at e
  refine Go.run (pc' := 613) [.aload_n 0, .iconst 0, .lconst 0] (ls' := [some (.ref a0), some (.long y1), none, none, none, none]) (st' := [.long (0 : Int64), .int (0 : Int32), .ref a0]) (by decide +kernel) rfl rfl ?_
  obtain ⟨v1, e2, e⟩ := bd_inv e
  refine Go.callH (M2 := m_Q_script) (as := [.ref a0, .int (0 : Int32), .long (0 : Int64)]) (rest := []) (v := some (.long v1.1)) (h1 := v1.2) (x_Q_script hf hI k0 e2) wh_Q_162 (by decide +kernel) rfl rfl ⟨⟨Nat.le_of_ble_eq_true rfl, Nat.le_of_ble_eq_true rfl⟩, ⟨Nat.le_of_ble_eq_true rfl, Nat.le_of_ble_eq_true rfl⟩⟩ (Nat.le_of_ble_eq_true rfl) ?_
  show Go l D ad aC (rmk m_Q_errors) _ m_Q_errors 616 [some (.ref a0), some (.long y1), none, none, none, none] [.long v1.1] v1.2 44 264
  refine Go.ldc2 lo_Q_17 (by decide +kernel) ?_
  refine Go.run (pc' := 620) [.lcmp] (ls' := [some (.ref a0), some (.long y1), none, none, none, none]) (st' := [.int (lg_cmp v1.1 (-9000000000000000002 : Int64))]) (by decide +kernel) rfl rfl ?_
  refine Go.if_ne (off := 73) (tgt := 693) (by decide +kernel) (by decide) (fun c3 => ?_) (fun c3 => ?_)
  · replace e := ite_f c3 e
    refine Go.wid (k' := 49) (n' := 294) (by decide) (by decide) ?_
    exact x_Q_errors_693 hf hI k0 e
  · replace e := ite_t c3 e
    refine Go.run (pc' := 625) [.aload_n 0, .iconst 3] (ls' := [some (.ref a0), some (.long y1), none, none, none, none]) (st' := [.int (3 : Int32), .ref a0]) (by decide +kernel) rfl rfl ?_
    refine Go.ldc2 lo_Q_166 (by decide +kernel) ?_
    obtain ⟨v4, e5, e⟩ := bd_inv e
    refine Go.callH (M2 := m_Q_script) (as := [.ref a0, .int (3 : Int32), .long (1000000000000000 : Int64)]) (rest := []) (v := some (.long v4.1)) (h1 := v4.2) (x_Q_script hf hI k0 e5) wh_Q_162 (by decide +kernel) rfl rfl ⟨⟨Nat.le_of_ble_eq_true rfl, Nat.le_of_ble_eq_true rfl⟩, ⟨Nat.le_of_ble_eq_true rfl, Nat.le_of_ble_eq_true rfl⟩⟩ (Nat.le_of_ble_eq_true rfl) ?_
    show Go l D ad aC (rmk m_Q_errors) _ m_Q_errors 631 [some (.ref a0), some (.long y1), none, none, none, none] [.long v4.1] v4.2 45 270
    refine Go.ldc2 lo_Q_17 (by decide +kernel) ?_
    refine Go.run (pc' := 635) [.lcmp] (ls' := [some (.ref a0), some (.long y1), none, none, none, none]) (st' := [.int (lg_cmp v4.1 (-9000000000000000002 : Int64))]) (by decide +kernel) rfl rfl ?_
    refine Go.if_ne (off := 58) (tgt := 693) (by decide +kernel) (by decide) (fun c6 => ?_) (fun c6 => ?_)
    · replace e := ite_f c6 e
      refine Go.wid (k' := 49) (n' := 294) (by decide) (by decide) ?_
      exact x_Q_errors_693 hf hI k0 e
    · replace e := ite_t c6 e
      refine Go.run (pc' := 641) [.aload_n 0, .lconst 1, .iconst 0] (ls' := [some (.ref a0), some (.long y1), none, none, none, none]) (st' := [.int (0 : Int32), .long (1 : Int64), .ref a0]) (by decide +kernel) rfl rfl ?_
      obtain ⟨v7, e8, e⟩ := bd_inv e
      refine Go.callH (M2 := m_Q_simulate) (as := [.ref a0, .long (1 : Int64), .int (0 : Int32)]) (rest := []) (v := some (.long v7.1)) (h1 := v7.2) (x_Q_simulate hf hI k0 e8) wh_Q_168 (by decide +kernel) rfl rfl ⟨⟨Nat.le_of_ble_eq_true rfl, Nat.le_of_ble_eq_true rfl⟩, ⟨Nat.le_of_ble_eq_true rfl, Nat.le_of_ble_eq_true rfl⟩⟩ (Nat.le_of_ble_eq_true rfl) ?_
      show Go l D ad aC (rmk m_Q_errors) _ m_Q_errors 644 [some (.ref a0), some (.long y1), none, none, none, none] [.long v7.1] v7.2 46 276
      refine Go.ldc2 lo_Q_17 (by decide +kernel) ?_
      refine Go.run (pc' := 648) [.lcmp] (ls' := [some (.ref a0), some (.long y1), none, none, none, none]) (st' := [.int (lg_cmp v7.1 (-9000000000000000002 : Int64))]) (by decide +kernel) rfl rfl ?_
      refine Go.if_ne (off := 45) (tgt := 693) (by decide +kernel) (by decide) (fun c9 => ?_) (fun c9 => ?_)
      · replace e := ite_f c9 e
        refine Go.wid (k' := 49) (n' := 294) (by decide) (by decide) ?_
        exact x_Q_errors_693 hf hI k0 e
      · replace e := ite_t c9 e
        refine Go.run (pc' := 653) [.aload_n 0, .iconst 2] (ls' := [some (.ref a0), some (.long y1), none, none, none, none]) (st' := [.int (2 : Int32), .ref a0]) (by decide +kernel) rfl rfl ?_
        obtain ⟨v10, e11, e⟩ := bd_inv e
        refine Go.callH (M2 := m_Q_save) (as := [.ref a0, .int (2 : Int32)]) (rest := []) (v := some (.long v10.1)) (h1 := v10.2) (x_Q_save hf hI k0 e11) wh_Q_171 (by decide +kernel) rfl rfl ⟨⟨Nat.le_of_ble_eq_true rfl, Nat.le_of_ble_eq_true rfl⟩, ⟨Nat.le_of_ble_eq_true rfl, Nat.le_of_ble_eq_true rfl⟩⟩ (Nat.le_of_ble_eq_true rfl) ?_
        show Go l D ad aC (rmk m_Q_errors) _ m_Q_errors 656 [some (.ref a0), some (.long y1), none, none, none, none] [.long v10.1] v10.2 47 282
        refine Go.ldc2 lo_Q_36 (by decide +kernel) ?_
        refine Go.run (pc' := 660) [.lcmp] (ls' := [some (.ref a0), some (.long y1), none, none, none, none]) (st' := [.int (lg_cmp v10.1 (-9000000000000000001 : Int64))]) (by decide +kernel) rfl rfl ?_
        refine Go.if_ne (off := 33) (tgt := 693) (by decide +kernel) (by decide) (fun c12 => ?_) (fun c12 => ?_)
        · replace e := ite_f c12 e
          refine Go.wid (k' := 49) (n' := 294) (by decide) (by decide) ?_
          exact x_Q_errors_693 hf hI k0 e
        · replace e := ite_t c12 e
          refine Go.run (pc' := 665) [.aload_n 0, .iconst 2] (ls' := [some (.ref a0), some (.long y1), none, none, none, none]) (st' := [.int (2 : Int32), .ref a0]) (by decide +kernel) rfl rfl ?_
          obtain ⟨v13, e14, e⟩ := bd_inv e
          refine Go.callH (M2 := m_Q_restore) (as := [.ref a0, .int (2 : Int32)]) (rest := []) (v := some (.long v13.1)) (h1 := v13.2) (x_Q_restore hf hI k0 e14) wh_Q_173 (by decide +kernel) rfl rfl ⟨⟨Nat.le_of_ble_eq_true rfl, Nat.le_of_ble_eq_true rfl⟩, ⟨Nat.le_of_ble_eq_true rfl, Nat.le_of_ble_eq_true rfl⟩⟩ (Nat.le_of_ble_eq_true rfl) ?_
          show Go l D ad aC (rmk m_Q_errors) _ m_Q_errors 668 [some (.ref a0), some (.long y1), none, none, none, none] [.long v13.1] v13.2 48 288
          refine Go.ldc2 lo_Q_36 (by decide +kernel) ?_
          refine Go.run (pc' := 672) [.lcmp] (ls' := [some (.ref a0), some (.long y1), none, none, none, none]) (st' := [.int (lg_cmp v13.1 (-9000000000000000001 : Int64))]) (by decide +kernel) rfl rfl ?_
          refine Go.if_ne (off := 21) (tgt := 693) (by decide +kernel) (by decide) (fun c15 => ?_) (fun c15 => ?_)
          · replace e := ite_f c15 e
            refine Go.wid (k' := 49) (n' := 294) (by decide) (by decide) ?_
            exact x_Q_errors_693 hf hI k0 e
          · replace e := ite_t c15 e
            refine Go.run (pc' := 679) [.aload_n 0, .sipush (256)] (ls' := [some (.ref a0), some (.long y1), none, none, none, none]) (st' := [.int (256 : Int32), .ref a0]) (by decide +kernel) rfl rfl ?_
            obtain ⟨v16, e17, e⟩ := bd_inv e
            refine Go.callH (M2 := m_Q_append) (as := [.ref a0, .int (256 : Int32)]) (rest := []) (v := some (.long v16.1)) (h1 := v16.2) (x_Q_append hf hI k0 e17) wh_Q_175 (by decide +kernel) rfl rfl ⟨⟨Nat.le_of_ble_eq_true rfl, Nat.le_of_ble_eq_true rfl⟩, ⟨Nat.le_of_ble_eq_true rfl, Nat.le_of_ble_eq_true rfl⟩⟩ (Nat.le_of_ble_eq_true rfl) ?_
            show Go l D ad aC (rmk m_Q_errors) _ m_Q_errors 682 [some (.ref a0), some (.long y1), none, none, none, none] [.long v16.1] v16.2 49 294
            refine Go.ldc2 lo_Q_17 (by decide +kernel) ?_
            refine Go.run (pc' := 686) [.lcmp] (ls' := [some (.ref a0), some (.long y1), none, none, none, none]) (st' := [.int (lg_cmp v16.1 (-9000000000000000002 : Int64))]) (by decide +kernel) rfl rfl ?_
            refine Go.if_ne (off := 7) (tgt := 693) (by decide +kernel) (by decide) (fun c18 => ?_) (fun c18 => ?_)
            · replace e := ite_f c18 e
              exact x_Q_errors_693 hf hI k0 e
            · replace e := ite_t c18 e
              refine Go.run (pc' := 690) [.iconst 1] (ls' := [some (.ref a0), some (.long y1), none, none, none, none]) (st' := [.int (1 : Int32)]) (by decide +kernel) rfl rfl ?_
              refine Go.goto (off := 4) (tgt := 694) (by decide +kernel) (by decide) ?_
              exact x_Q_errors_694 hf hI k0 e
def f_Q_errors_589  (a0 : Nat) (y1 : Int64) (x4 : Int32) (h : HP) : Option (Int32 × HP) :=
  if x4 < (10 : Int32) then
    f_Q_errors_610 a0 y1 h
  else
    (f_Q_dealer h a0 (0 : Int32) (1 : Int32) (0 : Int32)).bind fun v2 =>
    if (lg_cmp v2.1 (-9000000000000000003 : Int64)) = 0 then
      f_Q_errors_610 a0 y1 v2.2
    else
      f_Q_errors_693 a0 y1 v2.2
set_option maxHeartbeats 4000000 in
theorem x_Q_errors_589 {l : Launch} {D : va_G} {ad : Nat → Nat} {aC : Nat → ClassId} (hf : l.flags = flags0) (hI : Inj ad) {a0 : Nat} {y1 : Int64} {x4 : Int32} {h : HP} {r : Int32 × HP} (k0 : knd a0 = 7) (e : f_Q_errors_589 a0 y1 x4 h = some r) : Go l D ad aC (rmk m_Q_errors) (QM D ad aC m_Q_errors (.inl (some (.int r.1))) r.2) m_Q_errors 589 [some (.ref a0), some (.long y1), none, none, some (.int x4), none] [] h 42 252 := by
  unfold f_Q_errors_589 at e
  refine Go.run (pc' := 593) [.iload 4, .bipush (10)] (ls' := [some (.ref a0), some (.long y1), none, none, some (.int x4), none]) (st' := [.int (10 : Int32), .int x4]) (by decide +kernel) rfl rfl ?_
  refine Go.ic_lt (off := 17) (tgt := 610) (by decide +kernel) (by decide) (fun c1 => ?_) (fun c1 => ?_)
  · replace e := ite_t c1 e
    refine Go.wid (k' := 43) (n' := 258) (by decide) (by decide) ?_
    refine Go.wk' (wks (wks (wks (wks (wkn (wks wk0)))))) ?_
    exact x_Q_errors_610 hf hI k0 e
  · replace e := ite_f c1 e
    refine Go.run (pc' := 600) [.aload_n 0, .iconst 0, .iconst 1, .iconst 0] (ls' := [some (.ref a0), some (.long y1), none, none, some (.int x4), none]) (st' := [.int (0 : Int32), .int (1 : Int32), .int (0 : Int32), .ref a0]) (by decide +kernel) rfl rfl ?_
    obtain ⟨v2, e3, e⟩ := bd_inv e
    refine Go.callH (M2 := m_Q_dealer) (as := [.ref a0, .int (0 : Int32), .int (1 : Int32), .int (0 : Int32)]) (rest := []) (v := some (.long v2.1)) (h1 := v2.2) (x_Q_dealer hf hI k0 e3) wh_Q_140 (by decide +kernel) rfl rfl ⟨⟨Nat.le_of_ble_eq_true rfl, Nat.le_of_ble_eq_true rfl⟩, ⟨Nat.le_of_ble_eq_true rfl, Nat.le_of_ble_eq_true rfl⟩⟩ (Nat.le_of_ble_eq_true rfl) ?_
    show Go l D ad aC (rmk m_Q_errors) _ m_Q_errors 603 [some (.ref a0), some (.long y1), none, none, some (.int x4), none] [.long v2.1] v2.2 43 258
    refine Go.ldc2 lo_Q_21 (by decide +kernel) ?_
    refine Go.run (pc' := 607) [.lcmp] (ls' := [some (.ref a0), some (.long y1), none, none, some (.int x4), none]) (st' := [.int (lg_cmp v2.1 (-9000000000000000003 : Int64))]) (by decide +kernel) rfl rfl ?_
    refine Go.if_ne (off := 86) (tgt := 693) (by decide +kernel) (by decide) (fun c4 => ?_) (fun c4 => ?_)
    · replace e := ite_f c4 e
      refine Go.wid (k' := 49) (n' := 294) (by decide) (by decide) ?_
      refine Go.wk' (wks (wks (wks (wks (wkn (wks wk0)))))) ?_
      exact x_Q_errors_693 hf hI k0 e
    · replace e := ite_t c4 e
      refine Go.wk' (wks (wks (wks (wks (wkn (wks wk0)))))) ?_
      exact x_Q_errors_610 hf hI k0 e
def f_Q_errors_571  (a0 : Nat) (y1 : Int64) (x3 : Int32) (x4 : Int32) (h : HP) : Option (Int32 × HP) :=
  if x3 < (4 : Int32) then
    f_Q_errors_589 a0 y1 x4 h
  else
    (f_Q_wall h a0 (9 : Int32)).bind fun v2 =>
    if (lg_cmp v2.1 (-9000000000000000003 : Int64)) = 0 then
      f_Q_errors_589 a0 y1 x4 v2.2
    else
      f_Q_errors_693 a0 y1 v2.2
set_option maxHeartbeats 4000000 in
theorem x_Q_errors_571 {l : Launch} {D : va_G} {ad : Nat → Nat} {aC : Nat → ClassId} (hf : l.flags = flags0) (hI : Inj ad) {a0 : Nat} {y1 : Int64} {x3 : Int32} {x4 : Int32} {h : HP} {r : Int32 × HP} (k0 : knd a0 = 7) (e : f_Q_errors_571 a0 y1 x3 x4 h = some r) : Go l D ad aC (rmk m_Q_errors) (QM D ad aC m_Q_errors (.inl (some (.int r.1))) r.2) m_Q_errors 571 [some (.ref a0), some (.long y1), none, some (.int x3), some (.int x4), none] [] h 41 246 := by
  unfold f_Q_errors_571 at e
  refine Go.run (pc' := 573) [.iload_n 3, .iconst 4] (ls' := [some (.ref a0), some (.long y1), none, some (.int x3), some (.int x4), none]) (st' := [.int (4 : Int32), .int x3]) (by decide +kernel) rfl rfl ?_
  refine Go.ic_lt (off := 16) (tgt := 589) (by decide +kernel) (by decide) (fun c1 => ?_) (fun c1 => ?_)
  · replace e := ite_t c1 e
    refine Go.wid (k' := 42) (n' := 252) (by decide) (by decide) ?_
    refine Go.wk' (wks (wks (wks (wkn (wks (wks wk0)))))) ?_
    exact x_Q_errors_589 hf hI k0 e
  · replace e := ite_f c1 e
    refine Go.run (pc' := 579) [.aload_n 0, .bipush (9)] (ls' := [some (.ref a0), some (.long y1), none, some (.int x3), some (.int x4), none]) (st' := [.int (9 : Int32), .ref a0]) (by decide +kernel) rfl rfl ?_
    obtain ⟨v2, e3, e⟩ := bd_inv e
    refine Go.callH (M2 := m_Q_wall) (as := [.ref a0, .int (9 : Int32)]) (rest := []) (v := some (.long v2.1)) (h1 := v2.2) (x_Q_wall hf hI k0 e3) wh_Q_136 (by decide +kernel) rfl rfl ⟨⟨Nat.le_of_ble_eq_true rfl, Nat.le_of_ble_eq_true rfl⟩, ⟨Nat.le_of_ble_eq_true rfl, Nat.le_of_ble_eq_true rfl⟩⟩ (Nat.le_of_ble_eq_true rfl) ?_
    show Go l D ad aC (rmk m_Q_errors) _ m_Q_errors 582 [some (.ref a0), some (.long y1), none, some (.int x3), some (.int x4), none] [.long v2.1] v2.2 42 252
    refine Go.ldc2 lo_Q_21 (by decide +kernel) ?_
    refine Go.run (pc' := 586) [.lcmp] (ls' := [some (.ref a0), some (.long y1), none, some (.int x3), some (.int x4), none]) (st' := [.int (lg_cmp v2.1 (-9000000000000000003 : Int64))]) (by decide +kernel) rfl rfl ?_
    refine Go.if_ne (off := 107) (tgt := 693) (by decide +kernel) (by decide) (fun c4 => ?_) (fun c4 => ?_)
    · replace e := ite_f c4 e
      refine Go.wid (k' := 49) (n' := 294) (by decide) (by decide) ?_
      refine Go.wk' (wks (wks (wks (wkn (wkn (wks wk0)))))) ?_
      exact x_Q_errors_693 hf hI k0 e
    · replace e := ite_t c4 e
      refine Go.wk' (wks (wks (wks (wkn (wks (wks wk0)))))) ?_
      exact x_Q_errors_589 hf hI k0 e
def f_Q_errors_475  (a0 : Nat) (y1 : Int64) (x3 : Int32) (x4 : Int32) (h : HP) : Option (Int32 × HP) :=
  if x4 = 0 then
    f_Q_errors_571 a0 y1 x3 x4 h
  else
    (f_Q_dealerOf h a0 (0 : Int32) (12 : Int32)).bind fun v2 =>
    if (lg_cmp v2.1 (-9000000000000000002 : Int64)) = 0 then
      (f_Q_plugOf v2.2 a0 (0 : Int32) (3 : Int32)).bind fun v5 =>
      if (lg_cmp v5.1 (-9000000000000000002 : Int64)) = 0 then
        (f_Q_swap v5.2 a0 (0 : Int32) (0 : Int32)).bind fun v8 =>
        if (lg_cmp v8.1 (-9000000000000000002 : Int64)) = 0 then
          (f_Q_why v8.2 a0 (0 : Int32) (0 : Int32)).bind fun v11 =>
          if (lg_cmp v11.1 (-9000000000000000002 : Int64)) = 0 then
            (f_Q_cheapest v11.2 a0 (0 : Int32) (2 : Int32)).bind fun v14 =>
            if (lg_cmp v14.1 (-9000000000000000002 : Int64)) = 0 then
              (f_Q_dealerOf v14.2 a0 (0 : Int32) (3 : Int32)).bind fun v17 =>
              if (lg_cmp v17.1 (-1 : Int64)) = 0 then
                (f_Q_leave v17.2 a0 (0 : Int32)).bind fun v20 =>
                if (lg_cmp v20.1 (-9000000000000000003 : Int64)) = 0 then
                  f_Q_errors_571 a0 y1 x3 x4 v20.2
                else
                  f_Q_errors_693 a0 y1 v20.2
              else
                f_Q_errors_571 a0 y1 x3 x4 v17.2
            else
              f_Q_errors_693 a0 y1 v14.2
          else
            f_Q_errors_693 a0 y1 v11.2
        else
          f_Q_errors_693 a0 y1 v8.2
      else
        f_Q_errors_693 a0 y1 v5.2
    else
      f_Q_errors_693 a0 y1 v2.2
set_option maxHeartbeats 4000000 in
theorem x_Q_errors_475 {l : Launch} {D : va_G} {ad : Nat → Nat} {aC : Nat → ClassId} (hf : l.flags = flags0) (hI : Inj ad) {a0 : Nat} {y1 : Int64} {x3 : Int32} {x4 : Int32} {h : HP} {r : Int32 × HP} (k0 : knd a0 = 7) (e : f_Q_errors_475 a0 y1 x3 x4 h = some r) : Go l D ad aC (rmk m_Q_errors) (QM D ad aC m_Q_errors (.inl (some (.int r.1))) r.2) m_Q_errors 475 [some (.ref a0), some (.long y1), none, some (.int x3), some (.int x4), none] [] h 34 204 := by
  unfold f_Q_errors_475 at e
  refine Go.run (pc' := 477) [.iload 4] (ls' := [some (.ref a0), some (.long y1), none, some (.int x3), some (.int x4), none]) (st' := [.int x4]) (by decide +kernel) rfl rfl ?_
  refine Go.if_eq (off := 94) (tgt := 571) (by decide +kernel) (by decide) (fun c1 => ?_) (fun c1 => ?_)
  · replace e := ite_t c1 e
    refine Go.wid (k' := 41) (n' := 246) (by decide) (by decide) ?_
    exact x_Q_errors_571 hf hI k0 e
  · replace e := ite_f c1 e
    refine Go.run (pc' := 484) [.aload_n 0, .iconst 0, .bipush (12)] (ls' := [some (.ref a0), some (.long y1), none, some (.int x3), some (.int x4), none]) (st' := [.int (12 : Int32), .int (0 : Int32), .ref a0]) (by decide +kernel) rfl rfl ?_
    obtain ⟨v2, e3, e⟩ := bd_inv e
    refine Go.callH (M2 := m_Q_dealerOf) (as := [.ref a0, .int (0 : Int32), .int (12 : Int32)]) (rest := []) (v := some (.long v2.1)) (h1 := v2.2) (x_Q_dealerOf hf hI k0 e3) wh_Q_126 (by decide +kernel) rfl rfl ⟨⟨Nat.le_of_ble_eq_true rfl, Nat.le_of_ble_eq_true rfl⟩, ⟨Nat.le_of_ble_eq_true rfl, Nat.le_of_ble_eq_true rfl⟩⟩ (Nat.le_of_ble_eq_true rfl) ?_
    show Go l D ad aC (rmk m_Q_errors) _ m_Q_errors 487 [some (.ref a0), some (.long y1), none, some (.int x3), some (.int x4), none] [.long v2.1] v2.2 35 210
    refine Go.ldc2 lo_Q_17 (by decide +kernel) ?_
    refine Go.run (pc' := 491) [.lcmp] (ls' := [some (.ref a0), some (.long y1), none, some (.int x3), some (.int x4), none]) (st' := [.int (lg_cmp v2.1 (-9000000000000000002 : Int64))]) (by decide +kernel) rfl rfl ?_
    refine Go.if_ne (off := 202) (tgt := 693) (by decide +kernel) (by decide) (fun c4 => ?_) (fun c4 => ?_)
    · replace e := ite_f c4 e
      refine Go.wid (k' := 49) (n' := 294) (by decide) (by decide) ?_
      refine Go.wk' (wks (wks (wks (wkn (wkn (wks wk0)))))) ?_
      exact x_Q_errors_693 hf hI k0 e
    · replace e := ite_t c4 e
      refine Go.run (pc' := 497) [.aload_n 0, .iconst 0, .iconst 3] (ls' := [some (.ref a0), some (.long y1), none, some (.int x3), some (.int x4), none]) (st' := [.int (3 : Int32), .int (0 : Int32), .ref a0]) (by decide +kernel) rfl rfl ?_
      obtain ⟨v5, e6, e⟩ := bd_inv e
      refine Go.callH (M2 := m_Q_plugOf) (as := [.ref a0, .int (0 : Int32), .int (3 : Int32)]) (rest := []) (v := some (.long v5.1)) (h1 := v5.2) (x_Q_plugOf hf hI k0 e6) wh_Q_132 (by decide +kernel) rfl rfl ⟨⟨Nat.le_of_ble_eq_true rfl, Nat.le_of_ble_eq_true rfl⟩, ⟨Nat.le_of_ble_eq_true rfl, Nat.le_of_ble_eq_true rfl⟩⟩ (Nat.le_of_ble_eq_true rfl) ?_
      show Go l D ad aC (rmk m_Q_errors) _ m_Q_errors 500 [some (.ref a0), some (.long y1), none, some (.int x3), some (.int x4), none] [.long v5.1] v5.2 36 216
      refine Go.ldc2 lo_Q_17 (by decide +kernel) ?_
      refine Go.run (pc' := 504) [.lcmp] (ls' := [some (.ref a0), some (.long y1), none, some (.int x3), some (.int x4), none]) (st' := [.int (lg_cmp v5.1 (-9000000000000000002 : Int64))]) (by decide +kernel) rfl rfl ?_
      refine Go.if_ne (off := 189) (tgt := 693) (by decide +kernel) (by decide) (fun c7 => ?_) (fun c7 => ?_)
      · replace e := ite_f c7 e
        refine Go.wid (k' := 49) (n' := 294) (by decide) (by decide) ?_
        refine Go.wk' (wks (wks (wks (wkn (wkn (wks wk0)))))) ?_
        exact x_Q_errors_693 hf hI k0 e
      · replace e := ite_t c7 e
        refine Go.run (pc' := 510) [.aload_n 0, .iconst 0, .iconst 0] (ls' := [some (.ref a0), some (.long y1), none, some (.int x3), some (.int x4), none]) (st' := [.int (0 : Int32), .int (0 : Int32), .ref a0]) (by decide +kernel) rfl rfl ?_
        obtain ⟨v8, e9, e⟩ := bd_inv e
        refine Go.callH (M2 := m_Q_swap) (as := [.ref a0, .int (0 : Int32), .int (0 : Int32)]) (rest := []) (v := some (.long v8.1)) (h1 := v8.2) (x_Q_swap hf hI k0 e9) wh_Q_146 (by decide +kernel) rfl rfl ⟨⟨Nat.le_of_ble_eq_true rfl, Nat.le_of_ble_eq_true rfl⟩, ⟨Nat.le_of_ble_eq_true rfl, Nat.le_of_ble_eq_true rfl⟩⟩ (Nat.le_of_ble_eq_true rfl) ?_
        show Go l D ad aC (rmk m_Q_errors) _ m_Q_errors 513 [some (.ref a0), some (.long y1), none, some (.int x3), some (.int x4), none] [.long v8.1] v8.2 37 222
        refine Go.ldc2 lo_Q_17 (by decide +kernel) ?_
        refine Go.run (pc' := 517) [.lcmp] (ls' := [some (.ref a0), some (.long y1), none, some (.int x3), some (.int x4), none]) (st' := [.int (lg_cmp v8.1 (-9000000000000000002 : Int64))]) (by decide +kernel) rfl rfl ?_
        refine Go.if_ne (off := 176) (tgt := 693) (by decide +kernel) (by decide) (fun c10 => ?_) (fun c10 => ?_)
        · replace e := ite_f c10 e
          refine Go.wid (k' := 49) (n' := 294) (by decide) (by decide) ?_
          refine Go.wk' (wks (wks (wks (wkn (wkn (wks wk0)))))) ?_
          exact x_Q_errors_693 hf hI k0 e
        · replace e := ite_t c10 e
          refine Go.run (pc' := 523) [.aload_n 0, .iconst 0, .iconst 0] (ls' := [some (.ref a0), some (.long y1), none, some (.int x3), some (.int x4), none]) (st' := [.int (0 : Int32), .int (0 : Int32), .ref a0]) (by decide +kernel) rfl rfl ?_
          obtain ⟨v11, e12, e⟩ := bd_inv e
          refine Go.callH (M2 := m_Q_why) (as := [.ref a0, .int (0 : Int32), .int (0 : Int32)]) (rest := []) (v := some (.long v11.1)) (h1 := v11.2) (x_Q_why hf hI k0 e12) wh_Q_158 (by decide +kernel) rfl rfl ⟨⟨Nat.le_of_ble_eq_true rfl, Nat.le_of_ble_eq_true rfl⟩, ⟨Nat.le_of_ble_eq_true rfl, Nat.le_of_ble_eq_true rfl⟩⟩ (Nat.le_of_ble_eq_true rfl) ?_
          show Go l D ad aC (rmk m_Q_errors) _ m_Q_errors 526 [some (.ref a0), some (.long y1), none, some (.int x3), some (.int x4), none] [.long v11.1] v11.2 38 228
          refine Go.ldc2 lo_Q_17 (by decide +kernel) ?_
          refine Go.run (pc' := 530) [.lcmp] (ls' := [some (.ref a0), some (.long y1), none, some (.int x3), some (.int x4), none]) (st' := [.int (lg_cmp v11.1 (-9000000000000000002 : Int64))]) (by decide +kernel) rfl rfl ?_
          refine Go.if_ne (off := 163) (tgt := 693) (by decide +kernel) (by decide) (fun c13 => ?_) (fun c13 => ?_)
          · replace e := ite_f c13 e
            refine Go.wid (k' := 49) (n' := 294) (by decide) (by decide) ?_
            refine Go.wk' (wks (wks (wks (wkn (wkn (wks wk0)))))) ?_
            exact x_Q_errors_693 hf hI k0 e
          · replace e := ite_t c13 e
            refine Go.run (pc' := 536) [.aload_n 0, .iconst 0, .iconst 2] (ls' := [some (.ref a0), some (.long y1), none, some (.int x3), some (.int x4), none]) (st' := [.int (2 : Int32), .int (0 : Int32), .ref a0]) (by decide +kernel) rfl rfl ?_
            obtain ⟨v14, e15, e⟩ := bd_inv e
            refine Go.callH (M2 := m_Q_cheapest) (as := [.ref a0, .int (0 : Int32), .int (2 : Int32)]) (rest := []) (v := some (.long v14.1)) (h1 := v14.2) (x_Q_cheapest hf hI k0 e15) wh_Q_154 (by decide +kernel) rfl rfl ⟨⟨Nat.le_of_ble_eq_true rfl, Nat.le_of_ble_eq_true rfl⟩, ⟨Nat.le_of_ble_eq_true rfl, Nat.le_of_ble_eq_true rfl⟩⟩ (Nat.le_of_ble_eq_true rfl) ?_
            show Go l D ad aC (rmk m_Q_errors) _ m_Q_errors 539 [some (.ref a0), some (.long y1), none, some (.int x3), some (.int x4), none] [.long v14.1] v14.2 39 234
            refine Go.ldc2 lo_Q_17 (by decide +kernel) ?_
            refine Go.run (pc' := 543) [.lcmp] (ls' := [some (.ref a0), some (.long y1), none, some (.int x3), some (.int x4), none]) (st' := [.int (lg_cmp v14.1 (-9000000000000000002 : Int64))]) (by decide +kernel) rfl rfl ?_
            refine Go.if_ne (off := 150) (tgt := 693) (by decide +kernel) (by decide) (fun c16 => ?_) (fun c16 => ?_)
            · replace e := ite_f c16 e
              refine Go.wid (k' := 49) (n' := 294) (by decide) (by decide) ?_
              refine Go.wk' (wks (wks (wks (wkn (wkn (wks wk0)))))) ?_
              exact x_Q_errors_693 hf hI k0 e
            · replace e := ite_t c16 e
              refine Go.run (pc' := 549) [.aload_n 0, .iconst 0, .iconst 3] (ls' := [some (.ref a0), some (.long y1), none, some (.int x3), some (.int x4), none]) (st' := [.int (3 : Int32), .int (0 : Int32), .ref a0]) (by decide +kernel) rfl rfl ?_
              obtain ⟨v17, e18, e⟩ := bd_inv e
              refine Go.callH (M2 := m_Q_dealerOf) (as := [.ref a0, .int (0 : Int32), .int (3 : Int32)]) (rest := []) (v := some (.long v17.1)) (h1 := v17.2) (x_Q_dealerOf hf hI k0 e18) wh_Q_126 (by decide +kernel) rfl rfl ⟨⟨Nat.le_of_ble_eq_true rfl, Nat.le_of_ble_eq_true rfl⟩, ⟨Nat.le_of_ble_eq_true rfl, Nat.le_of_ble_eq_true rfl⟩⟩ (Nat.le_of_ble_eq_true rfl) ?_
              show Go l D ad aC (rmk m_Q_errors) _ m_Q_errors 552 [some (.ref a0), some (.long y1), none, some (.int x3), some (.int x4), none] [.long v17.1] v17.2 40 240
              refine Go.ldc2 lo_Q_160 (by decide +kernel) ?_
              refine Go.run (pc' := 556) [.lcmp] (ls' := [some (.ref a0), some (.long y1), none, some (.int x3), some (.int x4), none]) (st' := [.int (lg_cmp v17.1 (-1 : Int64))]) (by decide +kernel) rfl rfl ?_
              refine Go.if_ne (off := 15) (tgt := 571) (by decide +kernel) (by decide) (fun c19 => ?_) (fun c19 => ?_)
              · replace e := ite_f c19 e
                refine Go.wid (k' := 41) (n' := 246) (by decide) (by decide) ?_
                exact x_Q_errors_571 hf hI k0 e
              · replace e := ite_t c19 e
                refine Go.run (pc' := 561) [.aload_n 0, .iconst 0] (ls' := [some (.ref a0), some (.long y1), none, some (.int x3), some (.int x4), none]) (st' := [.int (0 : Int32), .ref a0]) (by decide +kernel) rfl rfl ?_
                obtain ⟨v20, e21, e⟩ := bd_inv e
                refine Go.callH (M2 := m_Q_leave) (as := [.ref a0, .int (0 : Int32)]) (rest := []) (v := some (.long v20.1)) (h1 := v20.2) (x_Q_leave hf hI k0 e21) wh_Q_144 (by decide +kernel) rfl rfl ⟨⟨Nat.le_of_ble_eq_true rfl, Nat.le_of_ble_eq_true rfl⟩, ⟨Nat.le_of_ble_eq_true rfl, Nat.le_of_ble_eq_true rfl⟩⟩ (Nat.le_of_ble_eq_true rfl) ?_
                show Go l D ad aC (rmk m_Q_errors) _ m_Q_errors 564 [some (.ref a0), some (.long y1), none, some (.int x3), some (.int x4), none] [.long v20.1] v20.2 41 246
                refine Go.ldc2 lo_Q_21 (by decide +kernel) ?_
                refine Go.run (pc' := 568) [.lcmp] (ls' := [some (.ref a0), some (.long y1), none, some (.int x3), some (.int x4), none]) (st' := [.int (lg_cmp v20.1 (-9000000000000000003 : Int64))]) (by decide +kernel) rfl rfl ?_
                refine Go.if_ne (off := 125) (tgt := 693) (by decide +kernel) (by decide) (fun c22 => ?_) (fun c22 => ?_)
                · replace e := ite_f c22 e
                  refine Go.wid (k' := 49) (n' := 294) (by decide) (by decide) ?_
                  refine Go.wk' (wks (wks (wks (wkn (wkn (wks wk0)))))) ?_
                  exact x_Q_errors_693 hf hI k0 e
                · replace e := ite_t c22 e
                  exact x_Q_errors_571 hf hI k0 e
def f_Q_errors_380  (a0 : Nat) (y1 : Int64) (x3 : Int32) (x4 : Int32) (s0 : Int32) (h : HP) : Option (Int32 × HP) :=
  if s0 = 0 then
    f_Q_errors_693 a0 y1 h
  else
    if x3 = 0 then
      f_Q_errors_475 a0 y1 x3 x4 h
    else
      (f_Q_wallOf h a0 (0 : Int32) (6 : Int32)).bind fun v3 =>
      if (lg_cmp v3.1 (-9000000000000000002 : Int64)) = 0 then
        (f_Q_metreOf v3.2 a0 (0 : Int32) (30 : Int32) (0 : Int32)).bind fun v6 =>
        if (lg_cmp v6.1 (-9000000000000000001 : Int64)) = 0 then
          (f_Q_metreOf v6.2 a0 (0 : Int32) (0 : Int32) (3 : Int32)).bind fun v9 =>
          if (lg_cmp v9.1 (-9000000000000000002 : Int64)) = 0 then
            (f_Q_outlet v9.2 a0 (0 : Int32) (0 : Int32) (5 : Int32)).bind fun v12 =>
            if (lg_cmp v12.1 (-9000000000000000002 : Int64)) = 0 then
              (f_Q_outlet v12.2 a0 (0 : Int32) (-1 : Int32) (0 : Int32)).bind fun v15 =>
              if (lg_cmp v15.1 (-9000000000000000001 : Int64)) = 0 then
                (f_Q_free v15.2 a0 (0 : Int32) (2 : Int32)).bind fun v18 =>
                if (lg_cmp v18.1 (-9000000000000000002 : Int64)) = 0 then
                  f_Q_errors_475 a0 y1 x3 x4 v18.2
                else
                  f_Q_errors_693 a0 y1 v18.2
              else
                f_Q_errors_693 a0 y1 v15.2
            else
              f_Q_errors_693 a0 y1 v12.2
          else
            f_Q_errors_693 a0 y1 v9.2
        else
          f_Q_errors_693 a0 y1 v6.2
      else
        f_Q_errors_693 a0 y1 v3.2
set_option maxHeartbeats 4000000 in
theorem x_Q_errors_380 {l : Launch} {D : va_G} {ad : Nat → Nat} {aC : Nat → ClassId} (hf : l.flags = flags0) (hI : Inj ad) {a0 : Nat} {y1 : Int64} {x3 : Int32} {x4 : Int32} {s0 : Int32} {h : HP} {r : Int32 × HP} (k0 : knd a0 = 7) (e : f_Q_errors_380 a0 y1 x3 x4 s0 h = some r) : Go l D ad aC (rmk m_Q_errors) (QM D ad aC m_Q_errors (.inl (some (.int r.1))) r.2) m_Q_errors 380 [some (.ref a0), some (.long y1), none, some (.int x3), some (.int x4), none] [.int s0] h 28 168 := by
  unfold f_Q_errors_380 at e
  refine Go.run (pc' := 384) [.istore 5, .iload 5] (ls' := [some (.ref a0), some (.long y1), none, some (.int x3), some (.int x4), some (.int s0)]) (st' := [.int s0]) (by decide +kernel) rfl rfl ?_
  refine Go.if_eq (off := 309) (tgt := 693) (by decide +kernel) (by decide) (fun c1 => ?_) (fun c1 => ?_)
  · replace e := ite_t c1 e
    refine Go.wid (k' := 49) (n' := 294) (by decide) (by decide) ?_
    refine Go.wk' (wks (wks (wks (wkn (wkn (wkn wk0)))))) ?_
    exact x_Q_errors_693 hf hI k0 e
  · replace e := ite_f c1 e
    refine Go.run (pc' := 388) [.iload_n 3] (ls' := [some (.ref a0), some (.long y1), none, some (.int x3), some (.int x4), some (.int s0)]) (st' := [.int x3]) (by decide +kernel) rfl rfl ?_
    refine Go.if_eq (off := 87) (tgt := 475) (by decide +kernel) (by decide) (fun c2 => ?_) (fun c2 => ?_)
    · replace e := ite_t c2 e
      refine Go.wid (k' := 34) (n' := 204) (by decide) (by decide) ?_
      refine Go.wk' (wks (wks (wks (wks (wks (wkn wk0)))))) ?_
      exact x_Q_errors_475 hf hI k0 e
    · replace e := ite_f c2 e
      refine Go.run (pc' := 395) [.aload_n 0, .iconst 0, .bipush (6)] (ls' := [some (.ref a0), some (.long y1), none, some (.int x3), some (.int x4), some (.int s0)]) (st' := [.int (6 : Int32), .int (0 : Int32), .ref a0]) (by decide +kernel) rfl rfl ?_
      obtain ⟨v3, e4, e⟩ := bd_inv e
      refine Go.callH (M2 := m_Q_wallOf) (as := [.ref a0, .int (0 : Int32), .int (6 : Int32)]) (rest := []) (v := some (.long v3.1)) (h1 := v3.2) (x_Q_wallOf hf hI k0 e4) wh_Q_120 (by decide +kernel) rfl rfl ⟨⟨Nat.le_of_ble_eq_true rfl, Nat.le_of_ble_eq_true rfl⟩, ⟨Nat.le_of_ble_eq_true rfl, Nat.le_of_ble_eq_true rfl⟩⟩ (Nat.le_of_ble_eq_true rfl) ?_
      show Go l D ad aC (rmk m_Q_errors) _ m_Q_errors 398 [some (.ref a0), some (.long y1), none, some (.int x3), some (.int x4), some (.int s0)] [.long v3.1] v3.2 29 174
      refine Go.ldc2 lo_Q_17 (by decide +kernel) ?_
      refine Go.run (pc' := 402) [.lcmp] (ls' := [some (.ref a0), some (.long y1), none, some (.int x3), some (.int x4), some (.int s0)]) (st' := [.int (lg_cmp v3.1 (-9000000000000000002 : Int64))]) (by decide +kernel) rfl rfl ?_
      refine Go.if_ne (off := 291) (tgt := 693) (by decide +kernel) (by decide) (fun c5 => ?_) (fun c5 => ?_)
      · replace e := ite_f c5 e
        refine Go.wid (k' := 49) (n' := 294) (by decide) (by decide) ?_
        refine Go.wk' (wks (wks (wks (wkn (wkn (wkn wk0)))))) ?_
        exact x_Q_errors_693 hf hI k0 e
      · replace e := ite_t c5 e
        refine Go.run (pc' := 410) [.aload_n 0, .iconst 0, .bipush (30), .iconst 0] (ls' := [some (.ref a0), some (.long y1), none, some (.int x3), some (.int x4), some (.int s0)]) (st' := [.int (0 : Int32), .int (30 : Int32), .int (0 : Int32), .ref a0]) (by decide +kernel) rfl rfl ?_
        obtain ⟨v6, e7, e⟩ := bd_inv e
        refine Go.callH (M2 := m_Q_metreOf) (as := [.ref a0, .int (0 : Int32), .int (30 : Int32), .int (0 : Int32)]) (rest := []) (v := some (.long v6.1)) (h1 := v6.2) (x_Q_metreOf hf hI k0 e7) wh_Q_123 (by decide +kernel) rfl rfl ⟨⟨Nat.le_of_ble_eq_true rfl, Nat.le_of_ble_eq_true rfl⟩, ⟨Nat.le_of_ble_eq_true rfl, Nat.le_of_ble_eq_true rfl⟩⟩ (Nat.le_of_ble_eq_true rfl) ?_
        show Go l D ad aC (rmk m_Q_errors) _ m_Q_errors 413 [some (.ref a0), some (.long y1), none, some (.int x3), some (.int x4), some (.int s0)] [.long v6.1] v6.2 30 180
        refine Go.ldc2 lo_Q_36 (by decide +kernel) ?_
        refine Go.run (pc' := 417) [.lcmp] (ls' := [some (.ref a0), some (.long y1), none, some (.int x3), some (.int x4), some (.int s0)]) (st' := [.int (lg_cmp v6.1 (-9000000000000000001 : Int64))]) (by decide +kernel) rfl rfl ?_
        refine Go.if_ne (off := 276) (tgt := 693) (by decide +kernel) (by decide) (fun c8 => ?_) (fun c8 => ?_)
        · replace e := ite_f c8 e
          refine Go.wid (k' := 49) (n' := 294) (by decide) (by decide) ?_
          refine Go.wk' (wks (wks (wks (wkn (wkn (wkn wk0)))))) ?_
          exact x_Q_errors_693 hf hI k0 e
        · replace e := ite_t c8 e
          refine Go.run (pc' := 424) [.aload_n 0, .iconst 0, .iconst 0, .iconst 3] (ls' := [some (.ref a0), some (.long y1), none, some (.int x3), some (.int x4), some (.int s0)]) (st' := [.int (3 : Int32), .int (0 : Int32), .int (0 : Int32), .ref a0]) (by decide +kernel) rfl rfl ?_
          obtain ⟨v9, e10, e⟩ := bd_inv e
          refine Go.callH (M2 := m_Q_metreOf) (as := [.ref a0, .int (0 : Int32), .int (0 : Int32), .int (3 : Int32)]) (rest := []) (v := some (.long v9.1)) (h1 := v9.2) (x_Q_metreOf hf hI k0 e10) wh_Q_123 (by decide +kernel) rfl rfl ⟨⟨Nat.le_of_ble_eq_true rfl, Nat.le_of_ble_eq_true rfl⟩, ⟨Nat.le_of_ble_eq_true rfl, Nat.le_of_ble_eq_true rfl⟩⟩ (Nat.le_of_ble_eq_true rfl) ?_
          show Go l D ad aC (rmk m_Q_errors) _ m_Q_errors 427 [some (.ref a0), some (.long y1), none, some (.int x3), some (.int x4), some (.int s0)] [.long v9.1] v9.2 31 186
          refine Go.ldc2 lo_Q_17 (by decide +kernel) ?_
          refine Go.run (pc' := 431) [.lcmp] (ls' := [some (.ref a0), some (.long y1), none, some (.int x3), some (.int x4), some (.int s0)]) (st' := [.int (lg_cmp v9.1 (-9000000000000000002 : Int64))]) (by decide +kernel) rfl rfl ?_
          refine Go.if_ne (off := 262) (tgt := 693) (by decide +kernel) (by decide) (fun c11 => ?_) (fun c11 => ?_)
          · replace e := ite_f c11 e
            refine Go.wid (k' := 49) (n' := 294) (by decide) (by decide) ?_
            refine Go.wk' (wks (wks (wks (wkn (wkn (wkn wk0)))))) ?_
            exact x_Q_errors_693 hf hI k0 e
          · replace e := ite_t c11 e
            refine Go.run (pc' := 438) [.aload_n 0, .iconst 0, .iconst 0, .iconst 5] (ls' := [some (.ref a0), some (.long y1), none, some (.int x3), some (.int x4), some (.int s0)]) (st' := [.int (5 : Int32), .int (0 : Int32), .int (0 : Int32), .ref a0]) (by decide +kernel) rfl rfl ?_
            obtain ⟨v12, e13, e⟩ := bd_inv e
            refine Go.callH (M2 := m_Q_outlet) (as := [.ref a0, .int (0 : Int32), .int (0 : Int32), .int (5 : Int32)]) (rest := []) (v := some (.long v12.1)) (h1 := v12.2) (x_Q_outlet hf hI k0 e13) wh_Q_138 (by decide +kernel) rfl rfl ⟨⟨Nat.le_of_ble_eq_true rfl, Nat.le_of_ble_eq_true rfl⟩, ⟨Nat.le_of_ble_eq_true rfl, Nat.le_of_ble_eq_true rfl⟩⟩ (Nat.le_of_ble_eq_true rfl) ?_
            show Go l D ad aC (rmk m_Q_errors) _ m_Q_errors 441 [some (.ref a0), some (.long y1), none, some (.int x3), some (.int x4), some (.int s0)] [.long v12.1] v12.2 32 192
            refine Go.ldc2 lo_Q_17 (by decide +kernel) ?_
            refine Go.run (pc' := 445) [.lcmp] (ls' := [some (.ref a0), some (.long y1), none, some (.int x3), some (.int x4), some (.int s0)]) (st' := [.int (lg_cmp v12.1 (-9000000000000000002 : Int64))]) (by decide +kernel) rfl rfl ?_
            refine Go.if_ne (off := 248) (tgt := 693) (by decide +kernel) (by decide) (fun c14 => ?_) (fun c14 => ?_)
            · replace e := ite_f c14 e
              refine Go.wid (k' := 49) (n' := 294) (by decide) (by decide) ?_
              refine Go.wk' (wks (wks (wks (wkn (wkn (wkn wk0)))))) ?_
              exact x_Q_errors_693 hf hI k0 e
            · replace e := ite_t c14 e
              refine Go.run (pc' := 452) [.aload_n 0, .iconst 0, .iconst (-1), .iconst 0] (ls' := [some (.ref a0), some (.long y1), none, some (.int x3), some (.int x4), some (.int s0)]) (st' := [.int (0 : Int32), .int (-1 : Int32), .int (0 : Int32), .ref a0]) (by decide +kernel) rfl rfl ?_
              obtain ⟨v15, e16, e⟩ := bd_inv e
              refine Go.callH (M2 := m_Q_outlet) (as := [.ref a0, .int (0 : Int32), .int (-1 : Int32), .int (0 : Int32)]) (rest := []) (v := some (.long v15.1)) (h1 := v15.2) (x_Q_outlet hf hI k0 e16) wh_Q_138 (by decide +kernel) rfl rfl ⟨⟨Nat.le_of_ble_eq_true rfl, Nat.le_of_ble_eq_true rfl⟩, ⟨Nat.le_of_ble_eq_true rfl, Nat.le_of_ble_eq_true rfl⟩⟩ (Nat.le_of_ble_eq_true rfl) ?_
              show Go l D ad aC (rmk m_Q_errors) _ m_Q_errors 455 [some (.ref a0), some (.long y1), none, some (.int x3), some (.int x4), some (.int s0)] [.long v15.1] v15.2 33 198
              refine Go.ldc2 lo_Q_36 (by decide +kernel) ?_
              refine Go.run (pc' := 459) [.lcmp] (ls' := [some (.ref a0), some (.long y1), none, some (.int x3), some (.int x4), some (.int s0)]) (st' := [.int (lg_cmp v15.1 (-9000000000000000001 : Int64))]) (by decide +kernel) rfl rfl ?_
              refine Go.if_ne (off := 234) (tgt := 693) (by decide +kernel) (by decide) (fun c17 => ?_) (fun c17 => ?_)
              · replace e := ite_f c17 e
                refine Go.wid (k' := 49) (n' := 294) (by decide) (by decide) ?_
                refine Go.wk' (wks (wks (wks (wkn (wkn (wkn wk0)))))) ?_
                exact x_Q_errors_693 hf hI k0 e
              · replace e := ite_t c17 e
                refine Go.run (pc' := 465) [.aload_n 0, .iconst 0, .iconst 2] (ls' := [some (.ref a0), some (.long y1), none, some (.int x3), some (.int x4), some (.int s0)]) (st' := [.int (2 : Int32), .int (0 : Int32), .ref a0]) (by decide +kernel) rfl rfl ?_
                obtain ⟨v18, e19, e⟩ := bd_inv e
                refine Go.callH (M2 := m_Q_free) (as := [.ref a0, .int (0 : Int32), .int (2 : Int32)]) (rest := []) (v := some (.long v18.1)) (h1 := v18.2) (x_Q_free hf hI k0 e19) wh_Q_134 (by decide +kernel) rfl rfl ⟨⟨Nat.le_of_ble_eq_true rfl, Nat.le_of_ble_eq_true rfl⟩, ⟨Nat.le_of_ble_eq_true rfl, Nat.le_of_ble_eq_true rfl⟩⟩ (Nat.le_of_ble_eq_true rfl) ?_
                show Go l D ad aC (rmk m_Q_errors) _ m_Q_errors 468 [some (.ref a0), some (.long y1), none, some (.int x3), some (.int x4), some (.int s0)] [.long v18.1] v18.2 34 204
                refine Go.ldc2 lo_Q_17 (by decide +kernel) ?_
                refine Go.run (pc' := 472) [.lcmp] (ls' := [some (.ref a0), some (.long y1), none, some (.int x3), some (.int x4), some (.int s0)]) (st' := [.int (lg_cmp v18.1 (-9000000000000000002 : Int64))]) (by decide +kernel) rfl rfl ?_
                refine Go.if_ne (off := 221) (tgt := 693) (by decide +kernel) (by decide) (fun c20 => ?_) (fun c20 => ?_)
                · replace e := ite_f c20 e
                  refine Go.wid (k' := 49) (n' := 294) (by decide) (by decide) ?_
                  refine Go.wk' (wks (wks (wks (wkn (wkn (wkn wk0)))))) ?_
                  exact x_Q_errors_693 hf hI k0 e
                · replace e := ite_t c20 e
                  refine Go.wk' (wks (wks (wks (wks (wks (wkn wk0)))))) ?_
                  exact x_Q_errors_475 hf hI k0 e
def f_Q_errors_379  (a0 : Nat) (y1 : Int64) (x3 : Int32) (x4 : Int32) (h : HP) : Option (Int32 × HP) :=
  f_Q_errors_380 a0 y1 x3 x4 (0 : Int32) h
set_option maxHeartbeats 4000000 in
theorem x_Q_errors_379 {l : Launch} {D : va_G} {ad : Nat → Nat} {aC : Nat → ClassId} (hf : l.flags = flags0) (hI : Inj ad) {a0 : Nat} {y1 : Int64} {x3 : Int32} {x4 : Int32} {h : HP} {r : Int32 × HP} (k0 : knd a0 = 7) (e : f_Q_errors_379 a0 y1 x3 x4 h = some r) : Go l D ad aC (rmk m_Q_errors) (QM D ad aC m_Q_errors (.inl (some (.int r.1))) r.2) m_Q_errors 379 [some (.ref a0), some (.long y1), none, some (.int x3), some (.int x4), none] [] h 28 168 := by
  unfold f_Q_errors_379 at e
  refine Go.run (pc' := 380) [.iconst 0] (ls' := [some (.ref a0), some (.long y1), none, some (.int x3), some (.int x4), none]) (st' := [.int (0 : Int32)]) (by decide +kernel) rfl rfl ?_
  exact x_Q_errors_380 hf hI k0 e
def f_Q_errors (h : HP) (a0 : Nat) : Option (Int32 × HP) :=
  (f_Q_now h a0).bind fun v1 =>
  (f_Q_about v1.2 a0 (0 : Int32)).bind fun v3 =>
  (f_Q_about v3.2 a0 (1 : Int32)).bind fun v5 =>
  (f_Q_about v5.2 a0 (-1 : Int32)).bind fun v7 =>
  if (lg_cmp v7.1 (-9000000000000000002 : Int64)) = 0 then
    (f_Q_about v7.2 a0 (14 : Int32)).bind fun v10 =>
    if (lg_cmp v10.1 (-9000000000000000002 : Int64)) = 0 then
      (f_Q_wallOf v10.2 a0 v3.1.toInt32 (6 : Int32)).bind fun v13 =>
      if (lg_cmp v13.1 (-9000000000000000001 : Int64)) = 0 then
        (f_Q_metreOf v13.2 a0 v3.1.toInt32 (0 : Int32) (3 : Int32)).bind fun v16 =>
        if (lg_cmp v16.1 (-9000000000000000001 : Int64)) = 0 then
          (f_Q_dealerOf v16.2 a0 v5.1.toInt32 (12 : Int32)).bind fun v19 =>
          if (lg_cmp v19.1 (-9000000000000000001 : Int64)) = 0 then
            (f_Q_dealerOf v19.2 a0 (-1 : Int32) (0 : Int32)).bind fun v22 =>
            if (lg_cmp v22.1 (-9000000000000000001 : Int64)) = 0 then
              (f_Q_plugOf v22.2 a0 v5.1.toInt32 (3 : Int32)).bind fun v25 =>
              if (lg_cmp v25.1 (-9000000000000000001 : Int64)) = 0 then
                (f_Q_setting v25.2 a0 (6 : Int32)).bind fun v28 =>
                if (lg_cmp v28.1 (-9000000000000000002 : Int64)) = 0 then
                  (f_Q_free v28.2 a0 v3.1.toInt32 (2 : Int32)).bind fun v31 =>
                  if (lg_cmp v31.1 (-9000000000000000001 : Int64)) = 0 then
                    (f_Q_wall v31.2 a0 (3 : Int32)).bind fun v34 =>
                    if (lg_cmp v34.1 (-9000000000000000002 : Int64)) = 0 then
                      (f_Q_outlet v34.2 a0 v3.1.toInt32 (0 : Int32) (5 : Int32)).bind fun v37 =>
                      if (lg_cmp v37.1 (-9000000000000000001 : Int64)) = 0 then
                        (f_Q_dealer v37.2 a0 (-1 : Int32) (1 : Int32) (0 : Int32)).bind fun v40 =>
                        if (lg_cmp v40.1 (-9000000000000000002 : Int64)) = 0 then
                          (f_Q_dealer v40.2 a0 (0 : Int32) (0 : Int32) (0 : Int32)).bind fun v43 =>
                          if (lg_cmp v43.1 (-9000000000000000002 : Int64)) = 0 then
                            (f_Q_dealer v43.2 a0 (0 : Int32) (1 : Int32) (4 : Int32)).bind fun v46 =>
                            if (lg_cmp v46.1 (-9000000000000000002 : Int64)) = 0 then
                              (f_Q_place v46.2 a0 v5.1.toInt32 (0 : Int32) (0 : Int32)).bind fun v49 =>
                              if (lg_cmp v49.1 (-9000000000000000001 : Int64)) = 0 then
                                (f_Q_place v49.2 a0 (0 : Int32) v3.1.toInt32 (0 : Int32)).bind fun v52 =>
                                if (lg_cmp v52.1 (-9000000000000000001 : Int64)) = 0 then
                                  (f_Q_leave v52.2 a0 v5.1.toInt32).bind fun v55 =>
                                  if (lg_cmp v55.1 (-9000000000000000001 : Int64)) = 0 then
                                    (f_Q_swap v55.2 a0 v5.1.toInt32 v5.1.toInt32).bind fun v58 =>
                                    if (lg_cmp v58.1 (-9000000000000000001 : Int64)) = 0 then
                                      (f_Q_days v58.2 a0 (0 : Int32)).bind fun v61 =>
                                      if (lg_cmp v61.1 (-9000000000000000002 : Int64)) = 0 then
                                        (f_Q_set v61.2 a0 (1 : Int32) (10 : Int32)).bind fun v64 =>
                                        if (lg_cmp v64.1 (-9000000000000000002 : Int64)) = 0 then
                                          (f_Q_set v64.2 a0 (0 : Int32) (51 : Int32)).bind fun v67 =>
                                          if (lg_cmp v67.1 (-9000000000000000002 : Int64)) = 0 then
                                            (f_Q_set v67.2 a0 (6 : Int32) (0 : Int32)).bind fun v70 =>
                                            if (lg_cmp v70.1 (-9000000000000000002 : Int64)) = 0 then
                                              (f_Q_rentIf v70.2 a0 v5.1.toInt32 (0 : Int32) (0 : Int32)).bind fun v73 =>
                                              if (lg_cmp v73.1 (-9000000000000000001 : Int64)) = 0 then
                                                (f_Q_cheapest v73.2 a0 v5.1.toInt32 (2 : Int32)).bind fun v76 =>
                                                if (lg_cmp v76.1 (-9000000000000000001 : Int64)) = 0 then
                                                  (f_Q_bestSwap v76.2 a0 (2 : Int32)).bind fun v79 =>
                                                  if (lg_cmp v79.1 (-9000000000000000002 : Int64)) = 0 then
                                                    (f_Q_why v79.2 a0 v5.1.toInt32 (0 : Int32)).bind fun v82 =>
                                                    if (lg_cmp v82.1 (-9000000000000000001 : Int64)) = 0 then
                                                      f_Q_errors_380 a0 v1.1 v3.1.toInt32 v5.1.toInt32 (1 : Int32) v82.2
                                                    else
                                                      f_Q_errors_379 a0 v1.1 v3.1.toInt32 v5.1.toInt32 v82.2
                                                  else
                                                    f_Q_errors_379 a0 v1.1 v3.1.toInt32 v5.1.toInt32 v79.2
                                                else
                                                  f_Q_errors_379 a0 v1.1 v3.1.toInt32 v5.1.toInt32 v76.2
                                              else
                                                f_Q_errors_379 a0 v1.1 v3.1.toInt32 v5.1.toInt32 v73.2
                                            else
                                              f_Q_errors_379 a0 v1.1 v3.1.toInt32 v5.1.toInt32 v70.2
                                          else
                                            f_Q_errors_379 a0 v1.1 v3.1.toInt32 v5.1.toInt32 v67.2
                                        else
                                          f_Q_errors_379 a0 v1.1 v3.1.toInt32 v5.1.toInt32 v64.2
                                      else
                                        f_Q_errors_379 a0 v1.1 v3.1.toInt32 v5.1.toInt32 v61.2
                                    else
                                      f_Q_errors_379 a0 v1.1 v3.1.toInt32 v5.1.toInt32 v58.2
                                  else
                                    f_Q_errors_379 a0 v1.1 v3.1.toInt32 v5.1.toInt32 v55.2
                                else
                                  f_Q_errors_379 a0 v1.1 v3.1.toInt32 v5.1.toInt32 v52.2
                              else
                                f_Q_errors_379 a0 v1.1 v3.1.toInt32 v5.1.toInt32 v49.2
                            else
                              f_Q_errors_379 a0 v1.1 v3.1.toInt32 v5.1.toInt32 v46.2
                          else
                            f_Q_errors_379 a0 v1.1 v3.1.toInt32 v5.1.toInt32 v43.2
                        else
                          f_Q_errors_379 a0 v1.1 v3.1.toInt32 v5.1.toInt32 v40.2
                      else
                        f_Q_errors_379 a0 v1.1 v3.1.toInt32 v5.1.toInt32 v37.2
                    else
                      f_Q_errors_379 a0 v1.1 v3.1.toInt32 v5.1.toInt32 v34.2
                  else
                    f_Q_errors_379 a0 v1.1 v3.1.toInt32 v5.1.toInt32 v31.2
                else
                  f_Q_errors_379 a0 v1.1 v3.1.toInt32 v5.1.toInt32 v28.2
              else
                f_Q_errors_379 a0 v1.1 v3.1.toInt32 v5.1.toInt32 v25.2
            else
              f_Q_errors_379 a0 v1.1 v3.1.toInt32 v5.1.toInt32 v22.2
          else
            f_Q_errors_379 a0 v1.1 v3.1.toInt32 v5.1.toInt32 v19.2
        else
          f_Q_errors_379 a0 v1.1 v3.1.toInt32 v5.1.toInt32 v16.2
      else
        f_Q_errors_379 a0 v1.1 v3.1.toInt32 v5.1.toInt32 v13.2
    else
      f_Q_errors_379 a0 v1.1 v3.1.toInt32 v5.1.toInt32 v10.2
  else
    f_Q_errors_379 a0 v1.1 v3.1.toInt32 v5.1.toInt32 v7.2
set_option maxHeartbeats 4000000 in
theorem x_Q_errors {l : Launch} {D : va_G} {ad : Nat → Nat} {aC : Nat → ClassId} (hf : l.flags = flags0) (hI : Inj ad) {h : HP} {a0 : Nat} {r : Int32 × HP} (k0 : knd a0 = 7) (e : f_Q_errors h a0 = some r) : CT l D ad aC m_Q_errors [.ref a0] h (.inl (some (.int r.1))) r.2 := by
  refine CT.ofGo (by decide +kernel) rfl (Nat.le_of_ble_eq_true rfl) ?_
  unfold f_Q_errors at e
  show Go l D ad aC (rmk m_Q_errors) _ m_Q_errors 0 [some (.ref a0), none, none, none, none, none] [] h 0 0
  refine Go.run (pc' := 1) [.aload_n 0] (ls' := [some (.ref a0), none, none, none, none, none]) (st' := [.ref a0]) (by decide +kernel) rfl rfl ?_
  obtain ⟨v1, e2, e⟩ := bd_inv e
  refine Go.callS (M2 := m_Q_now) (as := [.ref a0]) (rest := []) (v := some (.long v1.1)) (h1 := v1.2) (x_Q_now hf hI k0 e2) ws_Q_128 (by decide +kernel) rfl rfl ⟨⟨Nat.le_of_ble_eq_true rfl, Nat.le_of_ble_eq_true rfl⟩, ⟨Nat.le_of_ble_eq_true rfl, Nat.le_of_ble_eq_true rfl⟩⟩ (Nat.le_of_ble_eq_true rfl) ?_
  show Go l D ad aC (rmk m_Q_errors) _ m_Q_errors 4 [some (.ref a0), none, none, none, none, none] [.long v1.1] v1.2 0 0
  refine Go.run (pc' := 7) [.lstore_n 1, .aload_n 0, .iconst 0] (ls' := [some (.ref a0), some (.long v1.1), none, none, none, none]) (st' := [.int (0 : Int32), .ref a0]) (by decide +kernel) rfl rfl ?_
  obtain ⟨v3, e4, e⟩ := bd_inv e
  refine Go.callH (M2 := m_Q_about) (as := [.ref a0, .int (0 : Int32)]) (rest := []) (v := some (.long v3.1)) (h1 := v3.2) (x_Q_about hf hI k0 e4) wh_Q_111 (by decide +kernel) rfl rfl ⟨⟨Nat.le_of_ble_eq_true rfl, Nat.le_of_ble_eq_true rfl⟩, ⟨Nat.le_of_ble_eq_true rfl, Nat.le_of_ble_eq_true rfl⟩⟩ (Nat.le_of_ble_eq_true rfl) ?_
  show Go l D ad aC (rmk m_Q_errors) _ m_Q_errors 10 [some (.ref a0), some (.long v1.1), none, none, none, none] [.long v3.1] v3.2 1 6
  refine Go.run (pc' := 14) [.l2i, .istore_n 3, .aload_n 0, .iconst 1] (ls' := [some (.ref a0), some (.long v1.1), none, some (.int v3.1.toInt32), none, none]) (st' := [.int (1 : Int32), .ref a0]) (by decide +kernel) rfl rfl ?_
  obtain ⟨v5, e6, e⟩ := bd_inv e
  refine Go.callH (M2 := m_Q_about) (as := [.ref a0, .int (1 : Int32)]) (rest := []) (v := some (.long v5.1)) (h1 := v5.2) (x_Q_about hf hI k0 e6) wh_Q_111 (by decide +kernel) rfl rfl ⟨⟨Nat.le_of_ble_eq_true rfl, Nat.le_of_ble_eq_true rfl⟩, ⟨Nat.le_of_ble_eq_true rfl, Nat.le_of_ble_eq_true rfl⟩⟩ (Nat.le_of_ble_eq_true rfl) ?_
  show Go l D ad aC (rmk m_Q_errors) _ m_Q_errors 17 [some (.ref a0), some (.long v1.1), none, some (.int v3.1.toInt32), none, none] [.long v5.1] v5.2 2 12
  refine Go.run (pc' := 22) [.l2i, .istore 4, .aload_n 0, .iconst (-1)] (ls' := [some (.ref a0), some (.long v1.1), none, some (.int v3.1.toInt32), some (.int v5.1.toInt32), none]) (st' := [.int (-1 : Int32), .ref a0]) (by decide +kernel) rfl rfl ?_
  obtain ⟨v7, e8, e⟩ := bd_inv e
  refine Go.callH (M2 := m_Q_about) (as := [.ref a0, .int (-1 : Int32)]) (rest := []) (v := some (.long v7.1)) (h1 := v7.2) (x_Q_about hf hI k0 e8) wh_Q_111 (by decide +kernel) rfl rfl ⟨⟨Nat.le_of_ble_eq_true rfl, Nat.le_of_ble_eq_true rfl⟩, ⟨Nat.le_of_ble_eq_true rfl, Nat.le_of_ble_eq_true rfl⟩⟩ (Nat.le_of_ble_eq_true rfl) ?_
  show Go l D ad aC (rmk m_Q_errors) _ m_Q_errors 25 [some (.ref a0), some (.long v1.1), none, some (.int v3.1.toInt32), some (.int v5.1.toInt32), none] [.long v7.1] v7.2 3 18
  refine Go.ldc2 lo_Q_17 (by decide +kernel) ?_
  refine Go.run (pc' := 29) [.lcmp] (ls' := [some (.ref a0), some (.long v1.1), none, some (.int v3.1.toInt32), some (.int v5.1.toInt32), none]) (st' := [.int (lg_cmp v7.1 (-9000000000000000002 : Int64))]) (by decide +kernel) rfl rfl ?_
  refine Go.if_ne (off := 350) (tgt := 379) (by decide +kernel) (by decide) (fun c9 => ?_) (fun c9 => ?_)
  · replace e := ite_f c9 e
    refine Go.wid (k' := 28) (n' := 168) (by decide) (by decide) ?_
    exact x_Q_errors_379 hf hI k0 e
  · replace e := ite_t c9 e
    refine Go.run (pc' := 35) [.aload_n 0, .bipush (14)] (ls' := [some (.ref a0), some (.long v1.1), none, some (.int v3.1.toInt32), some (.int v5.1.toInt32), none]) (st' := [.int (14 : Int32), .ref a0]) (by decide +kernel) rfl rfl ?_
    obtain ⟨v10, e11, e⟩ := bd_inv e
    refine Go.callH (M2 := m_Q_about) (as := [.ref a0, .int (14 : Int32)]) (rest := []) (v := some (.long v10.1)) (h1 := v10.2) (x_Q_about hf hI k0 e11) wh_Q_111 (by decide +kernel) rfl rfl ⟨⟨Nat.le_of_ble_eq_true rfl, Nat.le_of_ble_eq_true rfl⟩, ⟨Nat.le_of_ble_eq_true rfl, Nat.le_of_ble_eq_true rfl⟩⟩ (Nat.le_of_ble_eq_true rfl) ?_
    show Go l D ad aC (rmk m_Q_errors) _ m_Q_errors 38 [some (.ref a0), some (.long v1.1), none, some (.int v3.1.toInt32), some (.int v5.1.toInt32), none] [.long v10.1] v10.2 4 24
    refine Go.ldc2 lo_Q_17 (by decide +kernel) ?_
    refine Go.run (pc' := 42) [.lcmp] (ls' := [some (.ref a0), some (.long v1.1), none, some (.int v3.1.toInt32), some (.int v5.1.toInt32), none]) (st' := [.int (lg_cmp v10.1 (-9000000000000000002 : Int64))]) (by decide +kernel) rfl rfl ?_
    refine Go.if_ne (off := 337) (tgt := 379) (by decide +kernel) (by decide) (fun c12 => ?_) (fun c12 => ?_)
    · replace e := ite_f c12 e
      refine Go.wid (k' := 28) (n' := 168) (by decide) (by decide) ?_
      exact x_Q_errors_379 hf hI k0 e
    · replace e := ite_t c12 e
      refine Go.run (pc' := 49) [.aload_n 0, .iload_n 3, .bipush (6)] (ls' := [some (.ref a0), some (.long v1.1), none, some (.int v3.1.toInt32), some (.int v5.1.toInt32), none]) (st' := [.int (6 : Int32), .int v3.1.toInt32, .ref a0]) (by decide +kernel) rfl rfl ?_
      obtain ⟨v13, e14, e⟩ := bd_inv e
      refine Go.callH (M2 := m_Q_wallOf) (as := [.ref a0, .int v3.1.toInt32, .int (6 : Int32)]) (rest := []) (v := some (.long v13.1)) (h1 := v13.2) (x_Q_wallOf hf hI k0 e14) wh_Q_120 (by decide +kernel) rfl rfl ⟨⟨Nat.le_of_ble_eq_true rfl, Nat.le_of_ble_eq_true rfl⟩, ⟨Nat.le_of_ble_eq_true rfl, Nat.le_of_ble_eq_true rfl⟩⟩ (Nat.le_of_ble_eq_true rfl) ?_
      show Go l D ad aC (rmk m_Q_errors) _ m_Q_errors 52 [some (.ref a0), some (.long v1.1), none, some (.int v3.1.toInt32), some (.int v5.1.toInt32), none] [.long v13.1] v13.2 5 30
      refine Go.ldc2 lo_Q_36 (by decide +kernel) ?_
      refine Go.run (pc' := 56) [.lcmp] (ls' := [some (.ref a0), some (.long v1.1), none, some (.int v3.1.toInt32), some (.int v5.1.toInt32), none]) (st' := [.int (lg_cmp v13.1 (-9000000000000000001 : Int64))]) (by decide +kernel) rfl rfl ?_
      refine Go.if_ne (off := 323) (tgt := 379) (by decide +kernel) (by decide) (fun c15 => ?_) (fun c15 => ?_)
      · replace e := ite_f c15 e
        refine Go.wid (k' := 28) (n' := 168) (by decide) (by decide) ?_
        exact x_Q_errors_379 hf hI k0 e
      · replace e := ite_t c15 e
        refine Go.run (pc' := 63) [.aload_n 0, .iload_n 3, .iconst 0, .iconst 3] (ls' := [some (.ref a0), some (.long v1.1), none, some (.int v3.1.toInt32), some (.int v5.1.toInt32), none]) (st' := [.int (3 : Int32), .int (0 : Int32), .int v3.1.toInt32, .ref a0]) (by decide +kernel) rfl rfl ?_
        obtain ⟨v16, e17, e⟩ := bd_inv e
        refine Go.callH (M2 := m_Q_metreOf) (as := [.ref a0, .int v3.1.toInt32, .int (0 : Int32), .int (3 : Int32)]) (rest := []) (v := some (.long v16.1)) (h1 := v16.2) (x_Q_metreOf hf hI k0 e17) wh_Q_123 (by decide +kernel) rfl rfl ⟨⟨Nat.le_of_ble_eq_true rfl, Nat.le_of_ble_eq_true rfl⟩, ⟨Nat.le_of_ble_eq_true rfl, Nat.le_of_ble_eq_true rfl⟩⟩ (Nat.le_of_ble_eq_true rfl) ?_
        show Go l D ad aC (rmk m_Q_errors) _ m_Q_errors 66 [some (.ref a0), some (.long v1.1), none, some (.int v3.1.toInt32), some (.int v5.1.toInt32), none] [.long v16.1] v16.2 6 36
        refine Go.ldc2 lo_Q_36 (by decide +kernel) ?_
        refine Go.run (pc' := 70) [.lcmp] (ls' := [some (.ref a0), some (.long v1.1), none, some (.int v3.1.toInt32), some (.int v5.1.toInt32), none]) (st' := [.int (lg_cmp v16.1 (-9000000000000000001 : Int64))]) (by decide +kernel) rfl rfl ?_
        refine Go.if_ne (off := 309) (tgt := 379) (by decide +kernel) (by decide) (fun c18 => ?_) (fun c18 => ?_)
        · replace e := ite_f c18 e
          refine Go.wid (k' := 28) (n' := 168) (by decide) (by decide) ?_
          exact x_Q_errors_379 hf hI k0 e
        · replace e := ite_t c18 e
          refine Go.run (pc' := 78) [.aload_n 0, .iload 4, .bipush (12)] (ls' := [some (.ref a0), some (.long v1.1), none, some (.int v3.1.toInt32), some (.int v5.1.toInt32), none]) (st' := [.int (12 : Int32), .int v5.1.toInt32, .ref a0]) (by decide +kernel) rfl rfl ?_
          obtain ⟨v19, e20, e⟩ := bd_inv e
          refine Go.callH (M2 := m_Q_dealerOf) (as := [.ref a0, .int v5.1.toInt32, .int (12 : Int32)]) (rest := []) (v := some (.long v19.1)) (h1 := v19.2) (x_Q_dealerOf hf hI k0 e20) wh_Q_126 (by decide +kernel) rfl rfl ⟨⟨Nat.le_of_ble_eq_true rfl, Nat.le_of_ble_eq_true rfl⟩, ⟨Nat.le_of_ble_eq_true rfl, Nat.le_of_ble_eq_true rfl⟩⟩ (Nat.le_of_ble_eq_true rfl) ?_
          show Go l D ad aC (rmk m_Q_errors) _ m_Q_errors 81 [some (.ref a0), some (.long v1.1), none, some (.int v3.1.toInt32), some (.int v5.1.toInt32), none] [.long v19.1] v19.2 7 42
          refine Go.ldc2 lo_Q_36 (by decide +kernel) ?_
          refine Go.run (pc' := 85) [.lcmp] (ls' := [some (.ref a0), some (.long v1.1), none, some (.int v3.1.toInt32), some (.int v5.1.toInt32), none]) (st' := [.int (lg_cmp v19.1 (-9000000000000000001 : Int64))]) (by decide +kernel) rfl rfl ?_
          refine Go.if_ne (off := 294) (tgt := 379) (by decide +kernel) (by decide) (fun c21 => ?_) (fun c21 => ?_)
          · replace e := ite_f c21 e
            refine Go.wid (k' := 28) (n' := 168) (by decide) (by decide) ?_
            exact x_Q_errors_379 hf hI k0 e
          · replace e := ite_t c21 e
            refine Go.run (pc' := 91) [.aload_n 0, .iconst (-1), .iconst 0] (ls' := [some (.ref a0), some (.long v1.1), none, some (.int v3.1.toInt32), some (.int v5.1.toInt32), none]) (st' := [.int (0 : Int32), .int (-1 : Int32), .ref a0]) (by decide +kernel) rfl rfl ?_
            obtain ⟨v22, e23, e⟩ := bd_inv e
            refine Go.callH (M2 := m_Q_dealerOf) (as := [.ref a0, .int (-1 : Int32), .int (0 : Int32)]) (rest := []) (v := some (.long v22.1)) (h1 := v22.2) (x_Q_dealerOf hf hI k0 e23) wh_Q_126 (by decide +kernel) rfl rfl ⟨⟨Nat.le_of_ble_eq_true rfl, Nat.le_of_ble_eq_true rfl⟩, ⟨Nat.le_of_ble_eq_true rfl, Nat.le_of_ble_eq_true rfl⟩⟩ (Nat.le_of_ble_eq_true rfl) ?_
            show Go l D ad aC (rmk m_Q_errors) _ m_Q_errors 94 [some (.ref a0), some (.long v1.1), none, some (.int v3.1.toInt32), some (.int v5.1.toInt32), none] [.long v22.1] v22.2 8 48
            refine Go.ldc2 lo_Q_36 (by decide +kernel) ?_
            refine Go.run (pc' := 98) [.lcmp] (ls' := [some (.ref a0), some (.long v1.1), none, some (.int v3.1.toInt32), some (.int v5.1.toInt32), none]) (st' := [.int (lg_cmp v22.1 (-9000000000000000001 : Int64))]) (by decide +kernel) rfl rfl ?_
            refine Go.if_ne (off := 281) (tgt := 379) (by decide +kernel) (by decide) (fun c24 => ?_) (fun c24 => ?_)
            · replace e := ite_f c24 e
              refine Go.wid (k' := 28) (n' := 168) (by decide) (by decide) ?_
              exact x_Q_errors_379 hf hI k0 e
            · replace e := ite_t c24 e
              refine Go.run (pc' := 105) [.aload_n 0, .iload 4, .iconst 3] (ls' := [some (.ref a0), some (.long v1.1), none, some (.int v3.1.toInt32), some (.int v5.1.toInt32), none]) (st' := [.int (3 : Int32), .int v5.1.toInt32, .ref a0]) (by decide +kernel) rfl rfl ?_
              obtain ⟨v25, e26, e⟩ := bd_inv e
              refine Go.callH (M2 := m_Q_plugOf) (as := [.ref a0, .int v5.1.toInt32, .int (3 : Int32)]) (rest := []) (v := some (.long v25.1)) (h1 := v25.2) (x_Q_plugOf hf hI k0 e26) wh_Q_132 (by decide +kernel) rfl rfl ⟨⟨Nat.le_of_ble_eq_true rfl, Nat.le_of_ble_eq_true rfl⟩, ⟨Nat.le_of_ble_eq_true rfl, Nat.le_of_ble_eq_true rfl⟩⟩ (Nat.le_of_ble_eq_true rfl) ?_
              show Go l D ad aC (rmk m_Q_errors) _ m_Q_errors 108 [some (.ref a0), some (.long v1.1), none, some (.int v3.1.toInt32), some (.int v5.1.toInt32), none] [.long v25.1] v25.2 9 54
              refine Go.ldc2 lo_Q_36 (by decide +kernel) ?_
              refine Go.run (pc' := 112) [.lcmp] (ls' := [some (.ref a0), some (.long v1.1), none, some (.int v3.1.toInt32), some (.int v5.1.toInt32), none]) (st' := [.int (lg_cmp v25.1 (-9000000000000000001 : Int64))]) (by decide +kernel) rfl rfl ?_
              refine Go.if_ne (off := 267) (tgt := 379) (by decide +kernel) (by decide) (fun c27 => ?_) (fun c27 => ?_)
              · replace e := ite_f c27 e
                refine Go.wid (k' := 28) (n' := 168) (by decide) (by decide) ?_
                exact x_Q_errors_379 hf hI k0 e
              · replace e := ite_t c27 e
                refine Go.run (pc' := 118) [.aload_n 0, .bipush (6)] (ls' := [some (.ref a0), some (.long v1.1), none, some (.int v3.1.toInt32), some (.int v5.1.toInt32), none]) (st' := [.int (6 : Int32), .ref a0]) (by decide +kernel) rfl rfl ?_
                obtain ⟨v28, e29, e⟩ := bd_inv e
                refine Go.callH (M2 := m_Q_setting) (as := [.ref a0, .int (6 : Int32)]) (rest := []) (v := some (.long v28.1)) (h1 := v28.2) (x_Q_setting hf hI k0 e29) wh_Q_118 (by decide +kernel) rfl rfl ⟨⟨Nat.le_of_ble_eq_true rfl, Nat.le_of_ble_eq_true rfl⟩, ⟨Nat.le_of_ble_eq_true rfl, Nat.le_of_ble_eq_true rfl⟩⟩ (Nat.le_of_ble_eq_true rfl) ?_
                show Go l D ad aC (rmk m_Q_errors) _ m_Q_errors 121 [some (.ref a0), some (.long v1.1), none, some (.int v3.1.toInt32), some (.int v5.1.toInt32), none] [.long v28.1] v28.2 10 60
                refine Go.ldc2 lo_Q_17 (by decide +kernel) ?_
                refine Go.run (pc' := 125) [.lcmp] (ls' := [some (.ref a0), some (.long v1.1), none, some (.int v3.1.toInt32), some (.int v5.1.toInt32), none]) (st' := [.int (lg_cmp v28.1 (-9000000000000000002 : Int64))]) (by decide +kernel) rfl rfl ?_
                refine Go.if_ne (off := 254) (tgt := 379) (by decide +kernel) (by decide) (fun c30 => ?_) (fun c30 => ?_)
                · replace e := ite_f c30 e
                  refine Go.wid (k' := 28) (n' := 168) (by decide) (by decide) ?_
                  exact x_Q_errors_379 hf hI k0 e
                · replace e := ite_t c30 e
                  refine Go.run (pc' := 131) [.aload_n 0, .iload_n 3, .iconst 2] (ls' := [some (.ref a0), some (.long v1.1), none, some (.int v3.1.toInt32), some (.int v5.1.toInt32), none]) (st' := [.int (2 : Int32), .int v3.1.toInt32, .ref a0]) (by decide +kernel) rfl rfl ?_
                  obtain ⟨v31, e32, e⟩ := bd_inv e
                  refine Go.callH (M2 := m_Q_free) (as := [.ref a0, .int v3.1.toInt32, .int (2 : Int32)]) (rest := []) (v := some (.long v31.1)) (h1 := v31.2) (x_Q_free hf hI k0 e32) wh_Q_134 (by decide +kernel) rfl rfl ⟨⟨Nat.le_of_ble_eq_true rfl, Nat.le_of_ble_eq_true rfl⟩, ⟨Nat.le_of_ble_eq_true rfl, Nat.le_of_ble_eq_true rfl⟩⟩ (Nat.le_of_ble_eq_true rfl) ?_
                  show Go l D ad aC (rmk m_Q_errors) _ m_Q_errors 134 [some (.ref a0), some (.long v1.1), none, some (.int v3.1.toInt32), some (.int v5.1.toInt32), none] [.long v31.1] v31.2 11 66
                  refine Go.ldc2 lo_Q_36 (by decide +kernel) ?_
                  refine Go.run (pc' := 138) [.lcmp] (ls' := [some (.ref a0), some (.long v1.1), none, some (.int v3.1.toInt32), some (.int v5.1.toInt32), none]) (st' := [.int (lg_cmp v31.1 (-9000000000000000001 : Int64))]) (by decide +kernel) rfl rfl ?_
                  refine Go.if_ne (off := 241) (tgt := 379) (by decide +kernel) (by decide) (fun c33 => ?_) (fun c33 => ?_)
                  · replace e := ite_f c33 e
                    refine Go.wid (k' := 28) (n' := 168) (by decide) (by decide) ?_
                    exact x_Q_errors_379 hf hI k0 e
                  · replace e := ite_t c33 e
                    refine Go.run (pc' := 143) [.aload_n 0, .iconst 3] (ls' := [some (.ref a0), some (.long v1.1), none, some (.int v3.1.toInt32), some (.int v5.1.toInt32), none]) (st' := [.int (3 : Int32), .ref a0]) (by decide +kernel) rfl rfl ?_
                    obtain ⟨v34, e35, e⟩ := bd_inv e
                    refine Go.callH (M2 := m_Q_wall) (as := [.ref a0, .int (3 : Int32)]) (rest := []) (v := some (.long v34.1)) (h1 := v34.2) (x_Q_wall hf hI k0 e35) wh_Q_136 (by decide +kernel) rfl rfl ⟨⟨Nat.le_of_ble_eq_true rfl, Nat.le_of_ble_eq_true rfl⟩, ⟨Nat.le_of_ble_eq_true rfl, Nat.le_of_ble_eq_true rfl⟩⟩ (Nat.le_of_ble_eq_true rfl) ?_
                    show Go l D ad aC (rmk m_Q_errors) _ m_Q_errors 146 [some (.ref a0), some (.long v1.1), none, some (.int v3.1.toInt32), some (.int v5.1.toInt32), none] [.long v34.1] v34.2 12 72
                    refine Go.ldc2 lo_Q_17 (by decide +kernel) ?_
                    refine Go.run (pc' := 150) [.lcmp] (ls' := [some (.ref a0), some (.long v1.1), none, some (.int v3.1.toInt32), some (.int v5.1.toInt32), none]) (st' := [.int (lg_cmp v34.1 (-9000000000000000002 : Int64))]) (by decide +kernel) rfl rfl ?_
                    refine Go.if_ne (off := 229) (tgt := 379) (by decide +kernel) (by decide) (fun c36 => ?_) (fun c36 => ?_)
                    · replace e := ite_f c36 e
                      refine Go.wid (k' := 28) (n' := 168) (by decide) (by decide) ?_
                      exact x_Q_errors_379 hf hI k0 e
                    · replace e := ite_t c36 e
                      refine Go.run (pc' := 157) [.aload_n 0, .iload_n 3, .iconst 0, .iconst 5] (ls' := [some (.ref a0), some (.long v1.1), none, some (.int v3.1.toInt32), some (.int v5.1.toInt32), none]) (st' := [.int (5 : Int32), .int (0 : Int32), .int v3.1.toInt32, .ref a0]) (by decide +kernel) rfl rfl ?_
                      obtain ⟨v37, e38, e⟩ := bd_inv e
                      refine Go.callH (M2 := m_Q_outlet) (as := [.ref a0, .int v3.1.toInt32, .int (0 : Int32), .int (5 : Int32)]) (rest := []) (v := some (.long v37.1)) (h1 := v37.2) (x_Q_outlet hf hI k0 e38) wh_Q_138 (by decide +kernel) rfl rfl ⟨⟨Nat.le_of_ble_eq_true rfl, Nat.le_of_ble_eq_true rfl⟩, ⟨Nat.le_of_ble_eq_true rfl, Nat.le_of_ble_eq_true rfl⟩⟩ (Nat.le_of_ble_eq_true rfl) ?_
                      show Go l D ad aC (rmk m_Q_errors) _ m_Q_errors 160 [some (.ref a0), some (.long v1.1), none, some (.int v3.1.toInt32), some (.int v5.1.toInt32), none] [.long v37.1] v37.2 13 78
                      refine Go.ldc2 lo_Q_36 (by decide +kernel) ?_
                      refine Go.run (pc' := 164) [.lcmp] (ls' := [some (.ref a0), some (.long v1.1), none, some (.int v3.1.toInt32), some (.int v5.1.toInt32), none]) (st' := [.int (lg_cmp v37.1 (-9000000000000000001 : Int64))]) (by decide +kernel) rfl rfl ?_
                      refine Go.if_ne (off := 215) (tgt := 379) (by decide +kernel) (by decide) (fun c39 => ?_) (fun c39 => ?_)
                      · replace e := ite_f c39 e
                        refine Go.wid (k' := 28) (n' := 168) (by decide) (by decide) ?_
                        exact x_Q_errors_379 hf hI k0 e
                      · replace e := ite_t c39 e
                        refine Go.run (pc' := 171) [.aload_n 0, .iconst (-1), .iconst 1, .iconst 0] (ls' := [some (.ref a0), some (.long v1.1), none, some (.int v3.1.toInt32), some (.int v5.1.toInt32), none]) (st' := [.int (0 : Int32), .int (1 : Int32), .int (-1 : Int32), .ref a0]) (by decide +kernel) rfl rfl ?_
                        obtain ⟨v40, e41, e⟩ := bd_inv e
                        refine Go.callH (M2 := m_Q_dealer) (as := [.ref a0, .int (-1 : Int32), .int (1 : Int32), .int (0 : Int32)]) (rest := []) (v := some (.long v40.1)) (h1 := v40.2) (x_Q_dealer hf hI k0 e41) wh_Q_140 (by decide +kernel) rfl rfl ⟨⟨Nat.le_of_ble_eq_true rfl, Nat.le_of_ble_eq_true rfl⟩, ⟨Nat.le_of_ble_eq_true rfl, Nat.le_of_ble_eq_true rfl⟩⟩ (Nat.le_of_ble_eq_true rfl) ?_
                        show Go l D ad aC (rmk m_Q_errors) _ m_Q_errors 174 [some (.ref a0), some (.long v1.1), none, some (.int v3.1.toInt32), some (.int v5.1.toInt32), none] [.long v40.1] v40.2 14 84
                        refine Go.ldc2 lo_Q_17 (by decide +kernel) ?_
                        refine Go.run (pc' := 178) [.lcmp] (ls' := [some (.ref a0), some (.long v1.1), none, some (.int v3.1.toInt32), some (.int v5.1.toInt32), none]) (st' := [.int (lg_cmp v40.1 (-9000000000000000002 : Int64))]) (by decide +kernel) rfl rfl ?_
                        refine Go.if_ne (off := 201) (tgt := 379) (by decide +kernel) (by decide) (fun c42 => ?_) (fun c42 => ?_)
                        · replace e := ite_f c42 e
                          refine Go.wid (k' := 28) (n' := 168) (by decide) (by decide) ?_
                          exact x_Q_errors_379 hf hI k0 e
                        · replace e := ite_t c42 e
                          refine Go.run (pc' := 185) [.aload_n 0, .iconst 0, .iconst 0, .iconst 0] (ls' := [some (.ref a0), some (.long v1.1), none, some (.int v3.1.toInt32), some (.int v5.1.toInt32), none]) (st' := [.int (0 : Int32), .int (0 : Int32), .int (0 : Int32), .ref a0]) (by decide +kernel) rfl rfl ?_
                          obtain ⟨v43, e44, e⟩ := bd_inv e
                          refine Go.callH (M2 := m_Q_dealer) (as := [.ref a0, .int (0 : Int32), .int (0 : Int32), .int (0 : Int32)]) (rest := []) (v := some (.long v43.1)) (h1 := v43.2) (x_Q_dealer hf hI k0 e44) wh_Q_140 (by decide +kernel) rfl rfl ⟨⟨Nat.le_of_ble_eq_true rfl, Nat.le_of_ble_eq_true rfl⟩, ⟨Nat.le_of_ble_eq_true rfl, Nat.le_of_ble_eq_true rfl⟩⟩ (Nat.le_of_ble_eq_true rfl) ?_
                          show Go l D ad aC (rmk m_Q_errors) _ m_Q_errors 188 [some (.ref a0), some (.long v1.1), none, some (.int v3.1.toInt32), some (.int v5.1.toInt32), none] [.long v43.1] v43.2 15 90
                          refine Go.ldc2 lo_Q_17 (by decide +kernel) ?_
                          refine Go.run (pc' := 192) [.lcmp] (ls' := [some (.ref a0), some (.long v1.1), none, some (.int v3.1.toInt32), some (.int v5.1.toInt32), none]) (st' := [.int (lg_cmp v43.1 (-9000000000000000002 : Int64))]) (by decide +kernel) rfl rfl ?_
                          refine Go.if_ne (off := 187) (tgt := 379) (by decide +kernel) (by decide) (fun c45 => ?_) (fun c45 => ?_)
                          · replace e := ite_f c45 e
                            refine Go.wid (k' := 28) (n' := 168) (by decide) (by decide) ?_
                            exact x_Q_errors_379 hf hI k0 e
                          · replace e := ite_t c45 e
                            refine Go.run (pc' := 199) [.aload_n 0, .iconst 0, .iconst 1, .iconst 4] (ls' := [some (.ref a0), some (.long v1.1), none, some (.int v3.1.toInt32), some (.int v5.1.toInt32), none]) (st' := [.int (4 : Int32), .int (1 : Int32), .int (0 : Int32), .ref a0]) (by decide +kernel) rfl rfl ?_
                            obtain ⟨v46, e47, e⟩ := bd_inv e
                            refine Go.callH (M2 := m_Q_dealer) (as := [.ref a0, .int (0 : Int32), .int (1 : Int32), .int (4 : Int32)]) (rest := []) (v := some (.long v46.1)) (h1 := v46.2) (x_Q_dealer hf hI k0 e47) wh_Q_140 (by decide +kernel) rfl rfl ⟨⟨Nat.le_of_ble_eq_true rfl, Nat.le_of_ble_eq_true rfl⟩, ⟨Nat.le_of_ble_eq_true rfl, Nat.le_of_ble_eq_true rfl⟩⟩ (Nat.le_of_ble_eq_true rfl) ?_
                            show Go l D ad aC (rmk m_Q_errors) _ m_Q_errors 202 [some (.ref a0), some (.long v1.1), none, some (.int v3.1.toInt32), some (.int v5.1.toInt32), none] [.long v46.1] v46.2 16 96
                            refine Go.ldc2 lo_Q_17 (by decide +kernel) ?_
                            refine Go.run (pc' := 206) [.lcmp] (ls' := [some (.ref a0), some (.long v1.1), none, some (.int v3.1.toInt32), some (.int v5.1.toInt32), none]) (st' := [.int (lg_cmp v46.1 (-9000000000000000002 : Int64))]) (by decide +kernel) rfl rfl ?_
                            refine Go.if_ne (off := 173) (tgt := 379) (by decide +kernel) (by decide) (fun c48 => ?_) (fun c48 => ?_)
                            · replace e := ite_f c48 e
                              refine Go.wid (k' := 28) (n' := 168) (by decide) (by decide) ?_
                              exact x_Q_errors_379 hf hI k0 e
                            · replace e := ite_t c48 e
                              refine Go.run (pc' := 214) [.aload_n 0, .iload 4, .iconst 0, .iconst 0] (ls' := [some (.ref a0), some (.long v1.1), none, some (.int v3.1.toInt32), some (.int v5.1.toInt32), none]) (st' := [.int (0 : Int32), .int (0 : Int32), .int v5.1.toInt32, .ref a0]) (by decide +kernel) rfl rfl ?_
                              obtain ⟨v49, e50, e⟩ := bd_inv e
                              refine Go.callH (M2 := m_Q_place) (as := [.ref a0, .int v5.1.toInt32, .int (0 : Int32), .int (0 : Int32)]) (rest := []) (v := some (.long v49.1)) (h1 := v49.2) (x_Q_place hf hI k0 e50) wh_Q_142 (by decide +kernel) rfl rfl ⟨⟨Nat.le_of_ble_eq_true rfl, Nat.le_of_ble_eq_true rfl⟩, ⟨Nat.le_of_ble_eq_true rfl, Nat.le_of_ble_eq_true rfl⟩⟩ (Nat.le_of_ble_eq_true rfl) ?_
                              show Go l D ad aC (rmk m_Q_errors) _ m_Q_errors 217 [some (.ref a0), some (.long v1.1), none, some (.int v3.1.toInt32), some (.int v5.1.toInt32), none] [.long v49.1] v49.2 17 102
                              refine Go.ldc2 lo_Q_36 (by decide +kernel) ?_
                              refine Go.run (pc' := 221) [.lcmp] (ls' := [some (.ref a0), some (.long v1.1), none, some (.int v3.1.toInt32), some (.int v5.1.toInt32), none]) (st' := [.int (lg_cmp v49.1 (-9000000000000000001 : Int64))]) (by decide +kernel) rfl rfl ?_
                              refine Go.if_ne (off := 158) (tgt := 379) (by decide +kernel) (by decide) (fun c51 => ?_) (fun c51 => ?_)
                              · replace e := ite_f c51 e
                                refine Go.wid (k' := 28) (n' := 168) (by decide) (by decide) ?_
                                exact x_Q_errors_379 hf hI k0 e
                              · replace e := ite_t c51 e
                                refine Go.run (pc' := 228) [.aload_n 0, .iconst 0, .iload_n 3, .iconst 0] (ls' := [some (.ref a0), some (.long v1.1), none, some (.int v3.1.toInt32), some (.int v5.1.toInt32), none]) (st' := [.int (0 : Int32), .int v3.1.toInt32, .int (0 : Int32), .ref a0]) (by decide +kernel) rfl rfl ?_
                                obtain ⟨v52, e53, e⟩ := bd_inv e
                                refine Go.callH (M2 := m_Q_place) (as := [.ref a0, .int (0 : Int32), .int v3.1.toInt32, .int (0 : Int32)]) (rest := []) (v := some (.long v52.1)) (h1 := v52.2) (x_Q_place hf hI k0 e53) wh_Q_142 (by decide +kernel) rfl rfl ⟨⟨Nat.le_of_ble_eq_true rfl, Nat.le_of_ble_eq_true rfl⟩, ⟨Nat.le_of_ble_eq_true rfl, Nat.le_of_ble_eq_true rfl⟩⟩ (Nat.le_of_ble_eq_true rfl) ?_
                                show Go l D ad aC (rmk m_Q_errors) _ m_Q_errors 231 [some (.ref a0), some (.long v1.1), none, some (.int v3.1.toInt32), some (.int v5.1.toInt32), none] [.long v52.1] v52.2 18 108
                                refine Go.ldc2 lo_Q_36 (by decide +kernel) ?_
                                refine Go.run (pc' := 235) [.lcmp] (ls' := [some (.ref a0), some (.long v1.1), none, some (.int v3.1.toInt32), some (.int v5.1.toInt32), none]) (st' := [.int (lg_cmp v52.1 (-9000000000000000001 : Int64))]) (by decide +kernel) rfl rfl ?_
                                refine Go.if_ne (off := 144) (tgt := 379) (by decide +kernel) (by decide) (fun c54 => ?_) (fun c54 => ?_)
                                · replace e := ite_f c54 e
                                  refine Go.wid (k' := 28) (n' := 168) (by decide) (by decide) ?_
                                  exact x_Q_errors_379 hf hI k0 e
                                · replace e := ite_t c54 e
                                  refine Go.run (pc' := 241) [.aload_n 0, .iload 4] (ls' := [some (.ref a0), some (.long v1.1), none, some (.int v3.1.toInt32), some (.int v5.1.toInt32), none]) (st' := [.int v5.1.toInt32, .ref a0]) (by decide +kernel) rfl rfl ?_
                                  obtain ⟨v55, e56, e⟩ := bd_inv e
                                  refine Go.callH (M2 := m_Q_leave) (as := [.ref a0, .int v5.1.toInt32]) (rest := []) (v := some (.long v55.1)) (h1 := v55.2) (x_Q_leave hf hI k0 e56) wh_Q_144 (by decide +kernel) rfl rfl ⟨⟨Nat.le_of_ble_eq_true rfl, Nat.le_of_ble_eq_true rfl⟩, ⟨Nat.le_of_ble_eq_true rfl, Nat.le_of_ble_eq_true rfl⟩⟩ (Nat.le_of_ble_eq_true rfl) ?_
                                  show Go l D ad aC (rmk m_Q_errors) _ m_Q_errors 244 [some (.ref a0), some (.long v1.1), none, some (.int v3.1.toInt32), some (.int v5.1.toInt32), none] [.long v55.1] v55.2 19 114
                                  refine Go.ldc2 lo_Q_36 (by decide +kernel) ?_
                                  refine Go.run (pc' := 248) [.lcmp] (ls' := [some (.ref a0), some (.long v1.1), none, some (.int v3.1.toInt32), some (.int v5.1.toInt32), none]) (st' := [.int (lg_cmp v55.1 (-9000000000000000001 : Int64))]) (by decide +kernel) rfl rfl ?_
                                  refine Go.if_ne (off := 131) (tgt := 379) (by decide +kernel) (by decide) (fun c57 => ?_) (fun c57 => ?_)
                                  · replace e := ite_f c57 e
                                    refine Go.wid (k' := 28) (n' := 168) (by decide) (by decide) ?_
                                    exact x_Q_errors_379 hf hI k0 e
                                  · replace e := ite_t c57 e
                                    refine Go.run (pc' := 256) [.aload_n 0, .iload 4, .iload 4] (ls' := [some (.ref a0), some (.long v1.1), none, some (.int v3.1.toInt32), some (.int v5.1.toInt32), none]) (st' := [.int v5.1.toInt32, .int v5.1.toInt32, .ref a0]) (by decide +kernel) rfl rfl ?_
                                    obtain ⟨v58, e59, e⟩ := bd_inv e
                                    refine Go.callH (M2 := m_Q_swap) (as := [.ref a0, .int v5.1.toInt32, .int v5.1.toInt32]) (rest := []) (v := some (.long v58.1)) (h1 := v58.2) (x_Q_swap hf hI k0 e59) wh_Q_146 (by decide +kernel) rfl rfl ⟨⟨Nat.le_of_ble_eq_true rfl, Nat.le_of_ble_eq_true rfl⟩, ⟨Nat.le_of_ble_eq_true rfl, Nat.le_of_ble_eq_true rfl⟩⟩ (Nat.le_of_ble_eq_true rfl) ?_
                                    show Go l D ad aC (rmk m_Q_errors) _ m_Q_errors 259 [some (.ref a0), some (.long v1.1), none, some (.int v3.1.toInt32), some (.int v5.1.toInt32), none] [.long v58.1] v58.2 20 120
                                    refine Go.ldc2 lo_Q_36 (by decide +kernel) ?_
                                    refine Go.run (pc' := 263) [.lcmp] (ls' := [some (.ref a0), some (.long v1.1), none, some (.int v3.1.toInt32), some (.int v5.1.toInt32), none]) (st' := [.int (lg_cmp v58.1 (-9000000000000000001 : Int64))]) (by decide +kernel) rfl rfl ?_
                                    refine Go.if_ne (off := 116) (tgt := 379) (by decide +kernel) (by decide) (fun c60 => ?_) (fun c60 => ?_)
                                    · replace e := ite_f c60 e
                                      refine Go.wid (k' := 28) (n' := 168) (by decide) (by decide) ?_
                                      exact x_Q_errors_379 hf hI k0 e
                                    · replace e := ite_t c60 e
                                      refine Go.run (pc' := 268) [.aload_n 0, .iconst 0] (ls' := [some (.ref a0), some (.long v1.1), none, some (.int v3.1.toInt32), some (.int v5.1.toInt32), none]) (st' := [.int (0 : Int32), .ref a0]) (by decide +kernel) rfl rfl ?_
                                      obtain ⟨v61, e62, e⟩ := bd_inv e
                                      refine Go.callH (M2 := m_Q_days) (as := [.ref a0, .int (0 : Int32)]) (rest := []) (v := some (.long v61.1)) (h1 := v61.2) (x_Q_days hf hI k0 e62) wh_Q_148 (by decide +kernel) rfl rfl ⟨⟨Nat.le_of_ble_eq_true rfl, Nat.le_of_ble_eq_true rfl⟩, ⟨Nat.le_of_ble_eq_true rfl, Nat.le_of_ble_eq_true rfl⟩⟩ (Nat.le_of_ble_eq_true rfl) ?_
                                      show Go l D ad aC (rmk m_Q_errors) _ m_Q_errors 271 [some (.ref a0), some (.long v1.1), none, some (.int v3.1.toInt32), some (.int v5.1.toInt32), none] [.long v61.1] v61.2 21 126
                                      refine Go.ldc2 lo_Q_17 (by decide +kernel) ?_
                                      refine Go.run (pc' := 275) [.lcmp] (ls' := [some (.ref a0), some (.long v1.1), none, some (.int v3.1.toInt32), some (.int v5.1.toInt32), none]) (st' := [.int (lg_cmp v61.1 (-9000000000000000002 : Int64))]) (by decide +kernel) rfl rfl ?_
                                      refine Go.if_ne (off := 104) (tgt := 379) (by decide +kernel) (by decide) (fun c63 => ?_) (fun c63 => ?_)
                                      · replace e := ite_f c63 e
                                        refine Go.wid (k' := 28) (n' := 168) (by decide) (by decide) ?_
                                        exact x_Q_errors_379 hf hI k0 e
                                      · replace e := ite_t c63 e
                                        refine Go.run (pc' := 282) [.aload_n 0, .iconst 1, .bipush (10)] (ls' := [some (.ref a0), some (.long v1.1), none, some (.int v3.1.toInt32), some (.int v5.1.toInt32), none]) (st' := [.int (10 : Int32), .int (1 : Int32), .ref a0]) (by decide +kernel) rfl rfl ?_
                                        obtain ⟨v64, e65, e⟩ := bd_inv e
                                        refine Go.callH (M2 := m_Q_set) (as := [.ref a0, .int (1 : Int32), .int (10 : Int32)]) (rest := []) (v := some (.long v64.1)) (h1 := v64.2) (x_Q_set hf hI k0 e65) wh_Q_150 (by decide +kernel) rfl rfl ⟨⟨Nat.le_of_ble_eq_true rfl, Nat.le_of_ble_eq_true rfl⟩, ⟨Nat.le_of_ble_eq_true rfl, Nat.le_of_ble_eq_true rfl⟩⟩ (Nat.le_of_ble_eq_true rfl) ?_
                                        show Go l D ad aC (rmk m_Q_errors) _ m_Q_errors 285 [some (.ref a0), some (.long v1.1), none, some (.int v3.1.toInt32), some (.int v5.1.toInt32), none] [.long v64.1] v64.2 22 132
                                        refine Go.ldc2 lo_Q_17 (by decide +kernel) ?_
                                        refine Go.run (pc' := 289) [.lcmp] (ls' := [some (.ref a0), some (.long v1.1), none, some (.int v3.1.toInt32), some (.int v5.1.toInt32), none]) (st' := [.int (lg_cmp v64.1 (-9000000000000000002 : Int64))]) (by decide +kernel) rfl rfl ?_
                                        refine Go.if_ne (off := 90) (tgt := 379) (by decide +kernel) (by decide) (fun c66 => ?_) (fun c66 => ?_)
                                        · replace e := ite_f c66 e
                                          refine Go.wid (k' := 28) (n' := 168) (by decide) (by decide) ?_
                                          exact x_Q_errors_379 hf hI k0 e
                                        · replace e := ite_t c66 e
                                          refine Go.run (pc' := 296) [.aload_n 0, .iconst 0, .bipush (51)] (ls' := [some (.ref a0), some (.long v1.1), none, some (.int v3.1.toInt32), some (.int v5.1.toInt32), none]) (st' := [.int (51 : Int32), .int (0 : Int32), .ref a0]) (by decide +kernel) rfl rfl ?_
                                          obtain ⟨v67, e68, e⟩ := bd_inv e
                                          refine Go.callH (M2 := m_Q_set) (as := [.ref a0, .int (0 : Int32), .int (51 : Int32)]) (rest := []) (v := some (.long v67.1)) (h1 := v67.2) (x_Q_set hf hI k0 e68) wh_Q_150 (by decide +kernel) rfl rfl ⟨⟨Nat.le_of_ble_eq_true rfl, Nat.le_of_ble_eq_true rfl⟩, ⟨Nat.le_of_ble_eq_true rfl, Nat.le_of_ble_eq_true rfl⟩⟩ (Nat.le_of_ble_eq_true rfl) ?_
                                          show Go l D ad aC (rmk m_Q_errors) _ m_Q_errors 299 [some (.ref a0), some (.long v1.1), none, some (.int v3.1.toInt32), some (.int v5.1.toInt32), none] [.long v67.1] v67.2 23 138
                                          refine Go.ldc2 lo_Q_17 (by decide +kernel) ?_
                                          refine Go.run (pc' := 303) [.lcmp] (ls' := [some (.ref a0), some (.long v1.1), none, some (.int v3.1.toInt32), some (.int v5.1.toInt32), none]) (st' := [.int (lg_cmp v67.1 (-9000000000000000002 : Int64))]) (by decide +kernel) rfl rfl ?_
                                          refine Go.if_ne (off := 76) (tgt := 379) (by decide +kernel) (by decide) (fun c69 => ?_) (fun c69 => ?_)
                                          · replace e := ite_f c69 e
                                            refine Go.wid (k' := 28) (n' := 168) (by decide) (by decide) ?_
                                            exact x_Q_errors_379 hf hI k0 e
                                          · replace e := ite_t c69 e
                                            refine Go.run (pc' := 310) [.aload_n 0, .bipush (6), .iconst 0] (ls' := [some (.ref a0), some (.long v1.1), none, some (.int v3.1.toInt32), some (.int v5.1.toInt32), none]) (st' := [.int (0 : Int32), .int (6 : Int32), .ref a0]) (by decide +kernel) rfl rfl ?_
                                            obtain ⟨v70, e71, e⟩ := bd_inv e
                                            refine Go.callH (M2 := m_Q_set) (as := [.ref a0, .int (6 : Int32), .int (0 : Int32)]) (rest := []) (v := some (.long v70.1)) (h1 := v70.2) (x_Q_set hf hI k0 e71) wh_Q_150 (by decide +kernel) rfl rfl ⟨⟨Nat.le_of_ble_eq_true rfl, Nat.le_of_ble_eq_true rfl⟩, ⟨Nat.le_of_ble_eq_true rfl, Nat.le_of_ble_eq_true rfl⟩⟩ (Nat.le_of_ble_eq_true rfl) ?_
                                            show Go l D ad aC (rmk m_Q_errors) _ m_Q_errors 313 [some (.ref a0), some (.long v1.1), none, some (.int v3.1.toInt32), some (.int v5.1.toInt32), none] [.long v70.1] v70.2 24 144
                                            refine Go.ldc2 lo_Q_17 (by decide +kernel) ?_
                                            refine Go.run (pc' := 317) [.lcmp] (ls' := [some (.ref a0), some (.long v1.1), none, some (.int v3.1.toInt32), some (.int v5.1.toInt32), none]) (st' := [.int (lg_cmp v70.1 (-9000000000000000002 : Int64))]) (by decide +kernel) rfl rfl ?_
                                            refine Go.if_ne (off := 62) (tgt := 379) (by decide +kernel) (by decide) (fun c72 => ?_) (fun c72 => ?_)
                                            · replace e := ite_f c72 e
                                              refine Go.wid (k' := 28) (n' := 168) (by decide) (by decide) ?_
                                              exact x_Q_errors_379 hf hI k0 e
                                            · replace e := ite_t c72 e
                                              refine Go.run (pc' := 325) [.aload_n 0, .iload 4, .iconst 0, .iconst 0] (ls' := [some (.ref a0), some (.long v1.1), none, some (.int v3.1.toInt32), some (.int v5.1.toInt32), none]) (st' := [.int (0 : Int32), .int (0 : Int32), .int v5.1.toInt32, .ref a0]) (by decide +kernel) rfl rfl ?_
                                              obtain ⟨v73, e74, e⟩ := bd_inv e
                                              refine Go.callH (M2 := m_Q_rentIf) (as := [.ref a0, .int v5.1.toInt32, .int (0 : Int32), .int (0 : Int32)]) (rest := []) (v := some (.long v73.1)) (h1 := v73.2) (x_Q_rentIf hf hI k0 e74) wh_Q_152 (by decide +kernel) rfl rfl ⟨⟨Nat.le_of_ble_eq_true rfl, Nat.le_of_ble_eq_true rfl⟩, ⟨Nat.le_of_ble_eq_true rfl, Nat.le_of_ble_eq_true rfl⟩⟩ (Nat.le_of_ble_eq_true rfl) ?_
                                              show Go l D ad aC (rmk m_Q_errors) _ m_Q_errors 328 [some (.ref a0), some (.long v1.1), none, some (.int v3.1.toInt32), some (.int v5.1.toInt32), none] [.long v73.1] v73.2 25 150
                                              refine Go.ldc2 lo_Q_36 (by decide +kernel) ?_
                                              refine Go.run (pc' := 332) [.lcmp] (ls' := [some (.ref a0), some (.long v1.1), none, some (.int v3.1.toInt32), some (.int v5.1.toInt32), none]) (st' := [.int (lg_cmp v73.1 (-9000000000000000001 : Int64))]) (by decide +kernel) rfl rfl ?_
                                              refine Go.if_ne (off := 47) (tgt := 379) (by decide +kernel) (by decide) (fun c75 => ?_) (fun c75 => ?_)
                                              · replace e := ite_f c75 e
                                                refine Go.wid (k' := 28) (n' := 168) (by decide) (by decide) ?_
                                                exact x_Q_errors_379 hf hI k0 e
                                              · replace e := ite_t c75 e
                                                refine Go.run (pc' := 339) [.aload_n 0, .iload 4, .iconst 2] (ls' := [some (.ref a0), some (.long v1.1), none, some (.int v3.1.toInt32), some (.int v5.1.toInt32), none]) (st' := [.int (2 : Int32), .int v5.1.toInt32, .ref a0]) (by decide +kernel) rfl rfl ?_
                                                obtain ⟨v76, e77, e⟩ := bd_inv e
                                                refine Go.callH (M2 := m_Q_cheapest) (as := [.ref a0, .int v5.1.toInt32, .int (2 : Int32)]) (rest := []) (v := some (.long v76.1)) (h1 := v76.2) (x_Q_cheapest hf hI k0 e77) wh_Q_154 (by decide +kernel) rfl rfl ⟨⟨Nat.le_of_ble_eq_true rfl, Nat.le_of_ble_eq_true rfl⟩, ⟨Nat.le_of_ble_eq_true rfl, Nat.le_of_ble_eq_true rfl⟩⟩ (Nat.le_of_ble_eq_true rfl) ?_
                                                show Go l D ad aC (rmk m_Q_errors) _ m_Q_errors 342 [some (.ref a0), some (.long v1.1), none, some (.int v3.1.toInt32), some (.int v5.1.toInt32), none] [.long v76.1] v76.2 26 156
                                                refine Go.ldc2 lo_Q_36 (by decide +kernel) ?_
                                                refine Go.run (pc' := 346) [.lcmp] (ls' := [some (.ref a0), some (.long v1.1), none, some (.int v3.1.toInt32), some (.int v5.1.toInt32), none]) (st' := [.int (lg_cmp v76.1 (-9000000000000000001 : Int64))]) (by decide +kernel) rfl rfl ?_
                                                refine Go.if_ne (off := 33) (tgt := 379) (by decide +kernel) (by decide) (fun c78 => ?_) (fun c78 => ?_)
                                                · replace e := ite_f c78 e
                                                  refine Go.wid (k' := 28) (n' := 168) (by decide) (by decide) ?_
                                                  exact x_Q_errors_379 hf hI k0 e
                                                · replace e := ite_t c78 e
                                                  refine Go.run (pc' := 351) [.aload_n 0, .iconst 2] (ls' := [some (.ref a0), some (.long v1.1), none, some (.int v3.1.toInt32), some (.int v5.1.toInt32), none]) (st' := [.int (2 : Int32), .ref a0]) (by decide +kernel) rfl rfl ?_
                                                  obtain ⟨v79, e80, e⟩ := bd_inv e
                                                  refine Go.callH (M2 := m_Q_bestSwap) (as := [.ref a0, .int (2 : Int32)]) (rest := []) (v := some (.long v79.1)) (h1 := v79.2) (x_Q_bestSwap hf hI k0 e80) wh_Q_156 (by decide +kernel) rfl rfl ⟨⟨Nat.le_of_ble_eq_true rfl, Nat.le_of_ble_eq_true rfl⟩, ⟨Nat.le_of_ble_eq_true rfl, Nat.le_of_ble_eq_true rfl⟩⟩ (Nat.le_of_ble_eq_true rfl) ?_
                                                  show Go l D ad aC (rmk m_Q_errors) _ m_Q_errors 354 [some (.ref a0), some (.long v1.1), none, some (.int v3.1.toInt32), some (.int v5.1.toInt32), none] [.long v79.1] v79.2 27 162
                                                  refine Go.ldc2 lo_Q_17 (by decide +kernel) ?_
                                                  refine Go.run (pc' := 358) [.lcmp] (ls' := [some (.ref a0), some (.long v1.1), none, some (.int v3.1.toInt32), some (.int v5.1.toInt32), none]) (st' := [.int (lg_cmp v79.1 (-9000000000000000002 : Int64))]) (by decide +kernel) rfl rfl ?_
                                                  refine Go.if_ne (off := 21) (tgt := 379) (by decide +kernel) (by decide) (fun c81 => ?_) (fun c81 => ?_)
                                                  · replace e := ite_f c81 e
                                                    refine Go.wid (k' := 28) (n' := 168) (by decide) (by decide) ?_
                                                    exact x_Q_errors_379 hf hI k0 e
                                                  · replace e := ite_t c81 e
                                                    refine Go.run (pc' := 365) [.aload_n 0, .iload 4, .iconst 0] (ls' := [some (.ref a0), some (.long v1.1), none, some (.int v3.1.toInt32), some (.int v5.1.toInt32), none]) (st' := [.int (0 : Int32), .int v5.1.toInt32, .ref a0]) (by decide +kernel) rfl rfl ?_
                                                    obtain ⟨v82, e83, e⟩ := bd_inv e
                                                    refine Go.callH (M2 := m_Q_why) (as := [.ref a0, .int v5.1.toInt32, .int (0 : Int32)]) (rest := []) (v := some (.long v82.1)) (h1 := v82.2) (x_Q_why hf hI k0 e83) wh_Q_158 (by decide +kernel) rfl rfl ⟨⟨Nat.le_of_ble_eq_true rfl, Nat.le_of_ble_eq_true rfl⟩, ⟨Nat.le_of_ble_eq_true rfl, Nat.le_of_ble_eq_true rfl⟩⟩ (Nat.le_of_ble_eq_true rfl) ?_
                                                    show Go l D ad aC (rmk m_Q_errors) _ m_Q_errors 368 [some (.ref a0), some (.long v1.1), none, some (.int v3.1.toInt32), some (.int v5.1.toInt32), none] [.long v82.1] v82.2 28 168
                                                    refine Go.ldc2 lo_Q_36 (by decide +kernel) ?_
                                                    refine Go.run (pc' := 372) [.lcmp] (ls' := [some (.ref a0), some (.long v1.1), none, some (.int v3.1.toInt32), some (.int v5.1.toInt32), none]) (st' := [.int (lg_cmp v82.1 (-9000000000000000001 : Int64))]) (by decide +kernel) rfl rfl ?_
                                                    refine Go.if_ne (off := 7) (tgt := 379) (by decide +kernel) (by decide) (fun c84 => ?_) (fun c84 => ?_)
                                                    · replace e := ite_f c84 e
                                                      exact x_Q_errors_379 hf hI k0 e
                                                    · replace e := ite_t c84 e
                                                      refine Go.run (pc' := 376) [.iconst 1] (ls' := [some (.ref a0), some (.long v1.1), none, some (.int v3.1.toInt32), some (.int v5.1.toInt32), none]) (st' := [.int (1 : Int32)]) (by decide +kernel) rfl rfl ?_
                                                      refine Go.goto (off := 4) (tgt := 380) (by decide +kernel) (by decide) ?_
                                                      exact x_Q_errors_380 hf hI k0 e
def f_Q_told_220  (a0 : Nat) (x1 : Int32) (x2 : Int32) (h : HP) : Option (Int32 × HP) :=
  if x2 = 0 then
    some ((0 : Int32), h)
  else
    (f_Q_says h a0 (115 : Int32) (48 : Int32) ((48 : Int32) + (x1 - x1 / (3 : Int32) * (3 : Int32))) (110 : Int32)).bind fun v2 =>
    if v2.1 = 0 then
      some ((0 : Int32), v2.2)
    else
      (f_Q_says v2.2 a0 (48 : Int32) ((49 : Int32) + (x1 - x1 / (9 : Int32) * (9 : Int32))) (101 : Int32) (51 : Int32)).bind fun v5 =>
      if v5.1 = 0 then
        some ((0 : Int32), v5.2)
      else
        (f_Q_says v5.2 a0 (48 : Int32) ((48 : Int32) + (x1 - x1 / (10 : Int32) * (10 : Int32))) (108 : Int32) ((48 : Int32) + (x1 - x1 / (5 : Int32) * (5 : Int32)))).bind fun v8 =>
        if v8.1 = 0 then
          some ((0 : Int32), v8.2)
        else
          (f_F_errorPosition v8.2 a0).bind fun v11 =>
          if v11.1 = (-1 : Int32) then
            some ((1 : Int32), v11.2)
          else
            some ((0 : Int32), v11.2)
set_option maxHeartbeats 4000000 in
theorem x_Q_told_220 {l : Launch} {D : va_G} {ad : Nat → Nat} {aC : Nat → ClassId} (hf : l.flags = flags0) (hI : Inj ad) {a0 : Nat} {x1 : Int32} {x2 : Int32} {h : HP} {r : Int32 × HP} (k0 : knd a0 = 7) (e : f_Q_told_220 a0 x1 x2 h = some r) : Go l D ad aC (rmk m_Q_told) (QM D ad aC m_Q_told (.inl (some (.int r.1))) r.2) m_Q_told 220 [some (.ref a0), some (.int x1), some (.int x2), none, none] [] h 0 0 := by
  unfold f_Q_told_220 at e
  refine Go.run (pc' := 221) [.iload_n 2] (ls' := [some (.ref a0), some (.int x1), some (.int x2), none, none]) (st' := [.int x2]) (by decide +kernel) rfl rfl ?_
  refine Go.if_eq (off := 78) (tgt := 299) (by decide +kernel) (by decide) (fun c1 => ?_) (fun c1 => ?_)
  · replace e := ite_t c1 e
    refine Go.run (pc' := 300) [.iconst 0] (ls' := [some (.ref a0), some (.int x1), some (.int x2), none, none]) (st' := [.int (0 : Int32)]) (by decide +kernel) rfl rfl ?_
    obtain rfl := Option.some.inj e
    exact Go.zret rfl nar_z0 (by decide) (by decide) (by decide +kernel)
  · replace e := ite_f c1 e
    refine Go.run (pc' := 237) [.aload_n 0, .bipush (115), .bipush (48), .bipush (48), .iload_n 1, .iconst 3, .irem, .iadd, .bipush (110)] (ls' := [some (.ref a0), some (.int x1), some (.int x2), none, none]) (st' := [.int (110 : Int32), .int ((48 : Int32) + (x1 - x1 / (3 : Int32) * (3 : Int32))), .int (48 : Int32), .int (115 : Int32), .ref a0]) (by decide +kernel) rfl rfl ?_
    obtain ⟨v2, e3, e⟩ := bd_inv e
    refine Go.callS (M2 := m_Q_says) (as := [.ref a0, .int (115 : Int32), .int (48 : Int32), .int ((48 : Int32) + (x1 - x1 / (3 : Int32) * (3 : Int32))), .int (110 : Int32)]) (rest := []) (v := some (.int v2.1)) (h1 := v2.2) (x_Q_says hf hI k0 e3) ws_Q_195 (by decide +kernel) rfl rfl ⟨⟨Nat.le_of_ble_eq_true rfl, Nat.le_of_ble_eq_true rfl⟩, ⟨Nat.le_of_ble_eq_true rfl, Nat.le_of_ble_eq_true rfl⟩⟩ (Nat.le_of_ble_eq_true rfl) ?_
    show Go l D ad aC (rmk m_Q_told) _ m_Q_told 240 [some (.ref a0), some (.int x1), some (.int x2), none, none] [.int v2.1] v2.2 0 0
    refine Go.if_eq (off := 59) (tgt := 299) (by decide +kernel) (by decide) (fun c4 => ?_) (fun c4 => ?_)
    · replace e := ite_t c4 e
      refine Go.run (pc' := 300) [.iconst 0] (ls' := [some (.ref a0), some (.int x1), some (.int x2), none, none]) (st' := [.int (0 : Int32)]) (by decide +kernel) rfl rfl ?_
      obtain rfl := Option.some.inj e
      exact Go.zret rfl nar_z0 (by decide) (by decide) (by decide +kernel)
    · replace e := ite_f c4 e
      refine Go.run (pc' := 257) [.aload_n 0, .bipush (48), .bipush (49), .iload_n 1, .bipush (9), .irem, .iadd, .bipush (101), .bipush (51)] (ls' := [some (.ref a0), some (.int x1), some (.int x2), none, none]) (st' := [.int (51 : Int32), .int (101 : Int32), .int ((49 : Int32) + (x1 - x1 / (9 : Int32) * (9 : Int32))), .int (48 : Int32), .ref a0]) (by decide +kernel) rfl rfl ?_
      obtain ⟨v5, e6, e⟩ := bd_inv e
      refine Go.callS (M2 := m_Q_says) (as := [.ref a0, .int (48 : Int32), .int ((49 : Int32) + (x1 - x1 / (9 : Int32) * (9 : Int32))), .int (101 : Int32), .int (51 : Int32)]) (rest := []) (v := some (.int v5.1)) (h1 := v5.2) (x_Q_says hf hI k0 e6) ws_Q_195 (by decide +kernel) rfl rfl ⟨⟨Nat.le_of_ble_eq_true rfl, Nat.le_of_ble_eq_true rfl⟩, ⟨Nat.le_of_ble_eq_true rfl, Nat.le_of_ble_eq_true rfl⟩⟩ (Nat.le_of_ble_eq_true rfl) ?_
      show Go l D ad aC (rmk m_Q_told) _ m_Q_told 260 [some (.ref a0), some (.int x1), some (.int x2), none, none] [.int v5.1] v5.2 0 0
      refine Go.if_eq (off := 39) (tgt := 299) (by decide +kernel) (by decide) (fun c7 => ?_) (fun c7 => ?_)
      · replace e := ite_t c7 e
        refine Go.run (pc' := 300) [.iconst 0] (ls' := [some (.ref a0), some (.int x1), some (.int x2), none, none]) (st' := [.int (0 : Int32)]) (by decide +kernel) rfl rfl ?_
        obtain rfl := Option.some.inj e
        exact Go.zret rfl nar_z0 (by decide) (by decide) (by decide +kernel)
      · replace e := ite_f c7 e
        refine Go.run (pc' := 281) [.aload_n 0, .bipush (48), .bipush (48), .iload_n 1, .bipush (10), .irem, .iadd, .bipush (108), .bipush (48), .iload_n 1, .iconst 5, .irem, .iadd] (ls' := [some (.ref a0), some (.int x1), some (.int x2), none, none]) (st' := [.int ((48 : Int32) + (x1 - x1 / (5 : Int32) * (5 : Int32))), .int (108 : Int32), .int ((48 : Int32) + (x1 - x1 / (10 : Int32) * (10 : Int32))), .int (48 : Int32), .ref a0]) (by decide +kernel) rfl rfl ?_
        obtain ⟨v8, e9, e⟩ := bd_inv e
        refine Go.callS (M2 := m_Q_says) (as := [.ref a0, .int (48 : Int32), .int ((48 : Int32) + (x1 - x1 / (10 : Int32) * (10 : Int32))), .int (108 : Int32), .int ((48 : Int32) + (x1 - x1 / (5 : Int32) * (5 : Int32)))]) (rest := []) (v := some (.int v8.1)) (h1 := v8.2) (x_Q_says hf hI k0 e9) ws_Q_195 (by decide +kernel) rfl rfl ⟨⟨Nat.le_of_ble_eq_true rfl, Nat.le_of_ble_eq_true rfl⟩, ⟨Nat.le_of_ble_eq_true rfl, Nat.le_of_ble_eq_true rfl⟩⟩ (Nat.le_of_ble_eq_true rfl) ?_
        show Go l D ad aC (rmk m_Q_told) _ m_Q_told 284 [some (.ref a0), some (.int x1), some (.int x2), none, none] [.int v8.1] v8.2 0 0
        refine Go.if_eq (off := 15) (tgt := 299) (by decide +kernel) (by decide) (fun c10 => ?_) (fun c10 => ?_)
        · replace e := ite_t c10 e
          refine Go.run (pc' := 300) [.iconst 0] (ls' := [some (.ref a0), some (.int x1), some (.int x2), none, none]) (st' := [.int (0 : Int32)]) (by decide +kernel) rfl rfl ?_
          obtain rfl := Option.some.inj e
          exact Go.zret rfl nar_z0 (by decide) (by decide) (by decide +kernel)
        · replace e := ite_f c10 e
          refine Go.run (pc' := 288) [.aload_n 0] (ls' := [some (.ref a0), some (.int x1), some (.int x2), none, none]) (st' := [.ref a0]) (by decide +kernel) rfl rfl ?_
          obtain ⟨v11, e12, e⟩ := bd_inv e
          refine Go.callV (M2 := m_F_errorPosition) (a := a0) (as := []) (rest := []) (v := some (.int v11.1)) (h1 := v11.2) (x_F_errorPosition hf hI k0 e12) wv_Q_187 k0 kc_7 (by decide +kernel) rfl rfl ⟨⟨Nat.le_of_ble_eq_true rfl, Nat.le_of_ble_eq_true rfl⟩, ⟨Nat.le_of_ble_eq_true rfl, Nat.le_of_ble_eq_true rfl⟩⟩ (Nat.le_of_ble_eq_true rfl) ?_
          show Go l D ad aC (rmk m_Q_told) _ m_Q_told 291 [some (.ref a0), some (.int x1), some (.int x2), none, none] [.int v11.1] v11.2 0 0
          refine Go.run (pc' := 292) [.iconst (-1)] (ls' := [some (.ref a0), some (.int x1), some (.int x2), none, none]) (st' := [.int (-1 : Int32), .int v11.1]) (by decide +kernel) rfl rfl ?_
          refine Go.ic_ne (off := 7) (tgt := 299) (by decide +kernel) (by decide) (fun c13 => ?_) (fun c13 => ?_)
          · replace e := ite_f c13 e
            refine Go.run (pc' := 300) [.iconst 0] (ls' := [some (.ref a0), some (.int x1), some (.int x2), none, none]) (st' := [.int (0 : Int32)]) (by decide +kernel) rfl rfl ?_
            obtain rfl := Option.some.inj e
            exact Go.zret rfl nar_z0 (by decide) (by decide) (by decide +kernel)
          · replace e := ite_t c13 e
            refine Go.run (pc' := 296) [.iconst 1] (ls' := [some (.ref a0), some (.int x1), some (.int x2), none, none]) (st' := [.int (1 : Int32)]) (by decide +kernel) rfl rfl ?_
            refine Go.goto (off := 4) (tgt := 300) (by decide +kernel) (by decide) ?_
            obtain rfl := Option.some.inj e
            exact Go.zret rfl nar_z1 (by decide) (by decide) (by decide +kernel)
def f_Q_told_213 (k111_ : Nat → Int32 → Int32 → Int32 → HP → Option (Int32 × HP)) (a0 : Nat) (x1 : Int32) (x3 : Int32) (s0 : Int32) (h : HP) : Option (Int32 × HP) :=
  k111_ a0 x1 s0 (x3 + (1 : Int32)) h
set_option maxHeartbeats 4000000 in
theorem x_Q_told_213 {l : Launch} {D : va_G} {ad : Nat → Nat} {aC : Nat → ClassId} (hf : l.flags = flags0) (hI : Inj ad) {k111_ : Nat → Int32 → Int32 → Int32 → HP → Option (Int32 × HP)} (K111_ : ∀ {a0 : Nat} {x1 : Int32} {x2 : Int32} {x3 : Int32} {h : HP} {r : Int32 × HP}, knd a0 = 7 → k111_ a0 x1 x2 x3 h = some r → Go l D ad aC (rmk m_Q_told) (QM D ad aC m_Q_told (.inl (some (.int r.1))) r.2) m_Q_told 111 [some (.ref a0), some (.int x1), some (.int x2), some (.int x3), none] [] h 0 0) {a0 : Nat} {x1 : Int32} {x3 : Int32} {s0 : Int32} {h : HP} {r : Int32 × HP} (k0 : knd a0 = 7) (e : f_Q_told_213 k111_ a0 x1 x3 s0 h = some r) : Go l D ad aC (rmk m_Q_told) (QM D ad aC m_Q_told (.inl (some (.int r.1))) r.2) m_Q_told 213 [some (.ref a0), some (.int x1), none, some (.int x3), none] [.int s0] h 0 0 := by
  unfold f_Q_told_213 at e
  refine Go.run (pc' := 217) [.istore_n 2, .iinc 3 (1)] (ls' := [some (.ref a0), some (.int x1), some (.int s0), some (.int (x3 + (1 : Int32))), none]) (st' := []) (by decide +kernel) rfl rfl ?_
  refine Go.goto (off := -106) (tgt := 111) (by decide +kernel) (by decide) ?_
  exact K111_ k0 e
def f_Q_told_212 (k111_ : Nat → Int32 → Int32 → Int32 → HP → Option (Int32 × HP)) (a0 : Nat) (x1 : Int32) (x3 : Int32) (h : HP) : Option (Int32 × HP) :=
  f_Q_told_213 k111_ a0 x1 x3 (0 : Int32) h
set_option maxHeartbeats 4000000 in
theorem x_Q_told_212 {l : Launch} {D : va_G} {ad : Nat → Nat} {aC : Nat → ClassId} (hf : l.flags = flags0) (hI : Inj ad) {k111_ : Nat → Int32 → Int32 → Int32 → HP → Option (Int32 × HP)} (K111_ : ∀ {a0 : Nat} {x1 : Int32} {x2 : Int32} {x3 : Int32} {h : HP} {r : Int32 × HP}, knd a0 = 7 → k111_ a0 x1 x2 x3 h = some r → Go l D ad aC (rmk m_Q_told) (QM D ad aC m_Q_told (.inl (some (.int r.1))) r.2) m_Q_told 111 [some (.ref a0), some (.int x1), some (.int x2), some (.int x3), none] [] h 0 0) {a0 : Nat} {x1 : Int32} {x3 : Int32} {h : HP} {r : Int32 × HP} (k0 : knd a0 = 7) (e : f_Q_told_212 k111_ a0 x1 x3 h = some r) : Go l D ad aC (rmk m_Q_told) (QM D ad aC m_Q_told (.inl (some (.int r.1))) r.2) m_Q_told 212 [some (.ref a0), some (.int x1), none, some (.int x3), none] [] h 0 0 := by
  unfold f_Q_told_212 at e
  refine Go.run (pc' := 213) [.iconst 0] (ls' := [some (.ref a0), some (.int x1), none, some (.int x3), none]) (st' := [.int (0 : Int32)]) (by decide +kernel) rfl rfl ?_
  exact x_Q_told_213 hf hI K111_ k0 e
def f_Q_told_111  : Nat → Nat → Int32 → Int32 → Int32 → HP → Option (Int32 × HP)
  | 0, _, _, _, _, _ => none
  | n + 1, a0, x1, x2, x3, h =>
    if ((1 : Int32) + (x1 - x1 / (4 : Int32) * (4 : Int32))) ≤ x3 then
      f_Q_told_220 a0 x1 x2 h
    else
      if x2 = 0 then
        f_Q_told_220 a0 x1 x2 h
      else
        (f_Q_says h a0 (100 : Int32) ((48 : Int32) + ((x1 >>> (x3 &&& 31)) - (x1 >>> (x3 &&& 31)) / (6 : Int32) * (6 : Int32))) ((49 : Int32) + ((x1 >>> (x3 &&& 31)) - (x1 >>> (x3 &&& 31)) / (4 : Int32) * (4 : Int32))) ((48 : Int32) + (((x1 >>> (x3 &&& 31)) / (3 : Int32)) - ((x1 >>> (x3 &&& 31)) / (3 : Int32)) / (4 : Int32) * (4 : Int32)))).bind fun v3 =>
        if v3.1 = 0 then
          f_Q_told_212 (f_Q_told_111 n) a0 x1 x3 v3.2
        else
          (f_Q_says v3.2 a0 (112 : Int32) ((48 : Int32) + x3) ((48 : Int32) + ((x1 >>> (x3 &&& 31)) - (x1 >>> (x3 &&& 31)) / (2 : Int32) * (2 : Int32))) ((48 : Int32) + (((x1 >>> (x3 &&& 31)) / (5 : Int32)) - ((x1 >>> (x3 &&& 31)) / (5 : Int32)) / (2 : Int32) * (2 : Int32)))).bind fun v6 =>
          if v6.1 = 0 then
            f_Q_told_212 (f_Q_told_111 n) a0 x1 x3 v6.2
          else
            (g_Q_append v6.2 a0 ((48 : Int32) + ((x1 >>> (x3 &&& 31)) - (x1 >>> (x3 &&& 31)) / (10 : Int32) * (10 : Int32)))).bind fun v9 =>
            if (lg_cmp v9.1 (0 : Int64)) ≤ 0 then
              f_Q_told_212 (f_Q_told_111 n) a0 x1 x3 v9.2
            else
              f_Q_told_213 (f_Q_told_111 n) a0 x1 x3 (1 : Int32) v9.2
set_option maxHeartbeats 4000000 in
theorem x_Q_told_111 {l : Launch} {D : va_G} {ad : Nat → Nat} {aC : Nat → ClassId} (hf : l.flags = flags0) (hI : Inj ad) : ∀ (n : Nat) {a0 : Nat} {x1 : Int32} {x2 : Int32} {x3 : Int32} {h : HP} {r : Int32 × HP}, knd a0 = 7 → f_Q_told_111 n a0 x1 x2 x3 h = some r → Go l D ad aC (rmk m_Q_told) (QM D ad aC m_Q_told (.inl (some (.int r.1))) r.2) m_Q_told 111 [some (.ref a0), some (.int x1), some (.int x2), some (.int x3), none] [] h 0 0 := by
  intro n
  induction n with
  | zero => intro a0 x1 x2 x3 h r k0 e; exact no_none e
  | succ n ih =>
    intro a0 x1 x2 x3 h r k0 e
    rw [f_Q_told_111] at e
    refine Go.run (pc' := 117) [.iload_n 3, .iconst 1, .iload_n 1, .iconst 4, .irem, .iadd] (ls' := [some (.ref a0), some (.int x1), some (.int x2), some (.int x3), none]) (st' := [.int ((1 : Int32) + (x1 - x1 / (4 : Int32) * (4 : Int32))), .int x3]) (by decide +kernel) rfl rfl ?_
    refine Go.ic_ge (off := 103) (tgt := 220) (by decide +kernel) (by decide) (fun c1 => ?_) (fun c1 => ?_)
    · replace e := ite_t c1 e
      refine Go.wk' (wks (wks (wks (wkn (wks wk0))))) ?_
      exact x_Q_told_220 hf hI k0 e
    · replace e := ite_f c1 e
      refine Go.run (pc' := 121) [.iload_n 2] (ls' := [some (.ref a0), some (.int x1), some (.int x2), some (.int x3), none]) (st' := [.int x2]) (by decide +kernel) rfl rfl ?_
      refine Go.if_eq (off := 99) (tgt := 220) (by decide +kernel) (by decide) (fun c2 => ?_) (fun c2 => ?_)
      · replace e := ite_t c2 e
        refine Go.wk' (wks (wks (wks (wkn (wks wk0))))) ?_
        exact x_Q_told_220 hf hI k0 e
      · replace e := ite_f c2 e
        refine Go.run (pc' := 156) [.iload_n 1, .iload_n 3, .ishr, .istore 4, .aload_n 0, .bipush (100), .bipush (48), .iload 4, .bipush (6), .irem, .iadd, .bipush (49), .iload 4, .iconst 4, .irem, .iadd, .bipush (48), .iload 4, .iconst 3, .idiv, .iconst 4, .irem, .iadd] (ls' := [some (.ref a0), some (.int x1), some (.int x2), some (.int x3), some (.int (x1 >>> (x3 &&& 31)))]) (st' := [.int ((48 : Int32) + (((x1 >>> (x3 &&& 31)) / (3 : Int32)) - ((x1 >>> (x3 &&& 31)) / (3 : Int32)) / (4 : Int32) * (4 : Int32))), .int ((49 : Int32) + ((x1 >>> (x3 &&& 31)) - (x1 >>> (x3 &&& 31)) / (4 : Int32) * (4 : Int32))), .int ((48 : Int32) + ((x1 >>> (x3 &&& 31)) - (x1 >>> (x3 &&& 31)) / (6 : Int32) * (6 : Int32))), .int (100 : Int32), .ref a0]) (by decide +kernel) rfl rfl ?_
        obtain ⟨v3, e4, e⟩ := bd_inv e
        refine Go.callS (M2 := m_Q_says) (as := [.ref a0, .int (100 : Int32), .int ((48 : Int32) + ((x1 >>> (x3 &&& 31)) - (x1 >>> (x3 &&& 31)) / (6 : Int32) * (6 : Int32))), .int ((49 : Int32) + ((x1 >>> (x3 &&& 31)) - (x1 >>> (x3 &&& 31)) / (4 : Int32) * (4 : Int32))), .int ((48 : Int32) + (((x1 >>> (x3 &&& 31)) / (3 : Int32)) - ((x1 >>> (x3 &&& 31)) / (3 : Int32)) / (4 : Int32) * (4 : Int32)))]) (rest := []) (v := some (.int v3.1)) (h1 := v3.2) (x_Q_says hf hI k0 e4) ws_Q_195 (by decide +kernel) rfl rfl ⟨⟨Nat.le_of_ble_eq_true rfl, Nat.le_of_ble_eq_true rfl⟩, ⟨Nat.le_of_ble_eq_true rfl, Nat.le_of_ble_eq_true rfl⟩⟩ (Nat.le_of_ble_eq_true rfl) ?_
        show Go l D ad aC (rmk m_Q_told) _ m_Q_told 159 [some (.ref a0), some (.int x1), some (.int x2), some (.int x3), some (.int (x1 >>> (x3 &&& 31)))] [.int v3.1] v3.2 0 0
        refine Go.if_eq (off := 53) (tgt := 212) (by decide +kernel) (by decide) (fun c5 => ?_) (fun c5 => ?_)
        · replace e := ite_t c5 e
          refine Go.wk' (wks (wks (wkn (wks (wkn wk0))))) ?_
          exact x_Q_told_212 hf hI (fun kk0 e => ih kk0 e) k0 e
        · replace e := ite_f c5 e
          refine Go.run (pc' := 185) [.aload_n 0, .bipush (112), .bipush (48), .iload_n 3, .iadd, .bipush (48), .iload 4, .iconst 2, .irem, .iadd, .bipush (48), .iload 4, .iconst 5, .idiv, .iconst 2, .irem, .iadd] (ls' := [some (.ref a0), some (.int x1), some (.int x2), some (.int x3), some (.int (x1 >>> (x3 &&& 31)))]) (st' := [.int ((48 : Int32) + (((x1 >>> (x3 &&& 31)) / (5 : Int32)) - ((x1 >>> (x3 &&& 31)) / (5 : Int32)) / (2 : Int32) * (2 : Int32))), .int ((48 : Int32) + ((x1 >>> (x3 &&& 31)) - (x1 >>> (x3 &&& 31)) / (2 : Int32) * (2 : Int32))), .int ((48 : Int32) + x3), .int (112 : Int32), .ref a0]) (by decide +kernel) rfl rfl ?_
          obtain ⟨v6, e7, e⟩ := bd_inv e
          refine Go.callS (M2 := m_Q_says) (as := [.ref a0, .int (112 : Int32), .int ((48 : Int32) + x3), .int ((48 : Int32) + ((x1 >>> (x3 &&& 31)) - (x1 >>> (x3 &&& 31)) / (2 : Int32) * (2 : Int32))), .int ((48 : Int32) + (((x1 >>> (x3 &&& 31)) / (5 : Int32)) - ((x1 >>> (x3 &&& 31)) / (5 : Int32)) / (2 : Int32) * (2 : Int32)))]) (rest := []) (v := some (.int v6.1)) (h1 := v6.2) (x_Q_says hf hI k0 e7) ws_Q_195 (by decide +kernel) rfl rfl ⟨⟨Nat.le_of_ble_eq_true rfl, Nat.le_of_ble_eq_true rfl⟩, ⟨Nat.le_of_ble_eq_true rfl, Nat.le_of_ble_eq_true rfl⟩⟩ (Nat.le_of_ble_eq_true rfl) ?_
          show Go l D ad aC (rmk m_Q_told) _ m_Q_told 188 [some (.ref a0), some (.int x1), some (.int x2), some (.int x3), some (.int (x1 >>> (x3 &&& 31)))] [.int v6.1] v6.2 0 0
          refine Go.if_eq (off := 24) (tgt := 212) (by decide +kernel) (by decide) (fun c8 => ?_) (fun c8 => ?_)
          · replace e := ite_t c8 e
            refine Go.wk' (wks (wks (wkn (wks (wkn wk0))))) ?_
            exact x_Q_told_212 hf hI (fun kk0 e => ih kk0 e) k0 e
          · replace e := ite_f c8 e
            refine Go.run (pc' := 200) [.aload_n 0, .bipush (48), .iload 4, .bipush (10), .irem, .iadd] (ls' := [some (.ref a0), some (.int x1), some (.int x2), some (.int x3), some (.int (x1 >>> (x3 &&& 31)))]) (st' := [.int ((48 : Int32) + ((x1 >>> (x3 &&& 31)) - (x1 >>> (x3 &&& 31)) / (10 : Int32) * (10 : Int32))), .ref a0]) (by decide +kernel) rfl rfl ?_
            obtain ⟨v9, e10, e⟩ := bd_inv e
            refine Go.callH (M2 := (mr m_Q_append (.inl none))) (as := [.ref a0, .int ((48 : Int32) + ((x1 >>> (x3 &&& 31)) - (x1 >>> (x3 &&& 31)) / (10 : Int32) * (10 : Int32)))]) (rest := []) (v := some (.long v9.1)) (h1 := v9.2) (xn_Q_append hf hI k0 e10) (WH.mr wh_Q_175) (by decide +kernel) rfl rfl ⟨⟨Nat.le_of_ble_eq_true rfl, Nat.le_of_ble_eq_true rfl⟩, ⟨Nat.le_of_ble_eq_true rfl, Nat.le_of_ble_eq_true rfl⟩⟩ (Nat.le_of_ble_eq_true rfl) ?_
            show Go l D ad aC (rmk m_Q_told) _ m_Q_told 203 [some (.ref a0), some (.int x1), some (.int x2), some (.int x3), some (.int (x1 >>> (x3 &&& 31)))] [.long v9.1] v9.2 0 0
            refine Go.run (pc' := 205) [.lconst 0, .lcmp] (ls' := [some (.ref a0), some (.int x1), some (.int x2), some (.int x3), some (.int (x1 >>> (x3 &&& 31)))]) (st' := [.int (lg_cmp v9.1 (0 : Int64))]) (by decide +kernel) rfl rfl ?_
            refine Go.if_le (off := 7) (tgt := 212) (by decide +kernel) (by decide) (fun c11 => ?_) (fun c11 => ?_)
            · replace e := ite_t c11 e
              refine Go.wk' (wks (wks (wkn (wks (wkn wk0))))) ?_
              exact x_Q_told_212 hf hI (fun kk0 e => ih kk0 e) k0 e
            · replace e := ite_f c11 e
              refine Go.run (pc' := 209) [.iconst 1] (ls' := [some (.ref a0), some (.int x1), some (.int x2), some (.int x3), some (.int (x1 >>> (x3 &&& 31)))]) (st' := [.int (1 : Int32)]) (by decide +kernel) rfl rfl ?_
              refine Go.goto (off := 4) (tgt := 213) (by decide +kernel) (by decide) ?_
              refine Go.wk' (wks (wks (wkn (wks (wkn wk0))))) ?_
              exact x_Q_told_213 hf hI (fun kk0 e => ih kk0 e) k0 e
def f_Q_told_108  (a0 : Nat) (x1 : Int32) (s0 : Int32) (h : HP) : Option (Int32 × HP) :=
  f_Q_told_111 4096 a0 x1 s0 (0 : Int32) h
set_option maxHeartbeats 4000000 in
theorem x_Q_told_108 {l : Launch} {D : va_G} {ad : Nat → Nat} {aC : Nat → ClassId} (hf : l.flags = flags0) (hI : Inj ad) {a0 : Nat} {x1 : Int32} {s0 : Int32} {h : HP} {r : Int32 × HP} (k0 : knd a0 = 7) (e : f_Q_told_108 a0 x1 s0 h = some r) : Go l D ad aC (rmk m_Q_told) (QM D ad aC m_Q_told (.inl (some (.int r.1))) r.2) m_Q_told 108 [some (.ref a0), some (.int x1), none, none, none] [.int s0] h 0 0 := by
  unfold f_Q_told_108 at e
  refine Go.run (pc' := 111) [.istore_n 2, .iconst 0, .istore_n 3] (ls' := [some (.ref a0), some (.int x1), some (.int s0), some (.int (0 : Int32)), none]) (st' := []) (by decide +kernel) rfl rfl ?_
  exact x_Q_told_111 hf hI 4096 k0 e
def f_Q_told_107  (a0 : Nat) (x1 : Int32) (h : HP) : Option (Int32 × HP) :=
  f_Q_told_108 a0 x1 (0 : Int32) h
set_option maxHeartbeats 4000000 in
theorem x_Q_told_107 {l : Launch} {D : va_G} {ad : Nat → Nat} {aC : Nat → ClassId} (hf : l.flags = flags0) (hI : Inj ad) {a0 : Nat} {x1 : Int32} {h : HP} {r : Int32 × HP} (k0 : knd a0 = 7) (e : f_Q_told_107 a0 x1 h = some r) : Go l D ad aC (rmk m_Q_told) (QM D ad aC m_Q_told (.inl (some (.int r.1))) r.2) m_Q_told 107 [some (.ref a0), some (.int x1), none, none, none] [] h 0 0 := by
  unfold f_Q_told_107 at e
  refine Go.run (pc' := 108) [.iconst 0] (ls' := [some (.ref a0), some (.int x1), none, none, none]) (st' := [.int (0 : Int32)]) (by decide +kernel) rfl rfl ?_
  exact x_Q_told_108 hf hI k0 e
def f_Q_told (h : HP) (a0 : Nat) (x1 : Int32) : Option (Int32 × HP) :=
  (f_F_clearText h a0).bind fun v1 =>
  if v1.1 < 0 then
    f_Q_told_107 a0 x1 v1.2
  else
    (g_Q_append v1.2 a0 (65 : Int32)).bind fun v4 =>
    if (lg_cmp v4.1 (0 : Int64)) ≤ 0 then
      f_Q_told_107 a0 x1 v4.2
    else
      (f_Q_says v4.2 a0 (119 : Int32) (49 : Int32) ((48 : Int32) + (x1 - x1 / (10 : Int32) * (10 : Int32))) (119 : Int32)).bind fun v7 =>
      if v7.1 = 0 then
        f_Q_told_107 a0 x1 v7.2
      else
        (f_Q_says v7.2 a0 (50 : Int32) ((48 : Int32) + ((x1 / (3 : Int32)) - (x1 / (3 : Int32)) / (10 : Int32) * (10 : Int32))) (111 : Int32) (48 : Int32)).bind fun v10 =>
        if v10.1 = 0 then
          f_Q_told_107 a0 x1 v10.2
        else
          (f_Q_says v10.2 a0 (48 : Int32) ((48 : Int32) + (x1 - x1 / (10 : Int32) * (10 : Int32))) (51 : Int32) (111 : Int32)).bind fun v13 =>
          if v13.1 = 0 then
            f_Q_told_107 a0 x1 v13.2
          else
            (f_Q_says v13.2 a0 (49 : Int32) (48 : Int32) ((48 : Int32) + ((x1 / (7 : Int32)) - (x1 / (7 : Int32)) / (10 : Int32) * (10 : Int32))) (50 : Int32)).bind fun v16 =>
            if v16.1 = 0 then
              f_Q_told_107 a0 x1 v16.2
            else
              f_Q_told_108 a0 x1 (1 : Int32) v16.2
set_option maxHeartbeats 4000000 in
theorem x_Q_told {l : Launch} {D : va_G} {ad : Nat → Nat} {aC : Nat → ClassId} (hf : l.flags = flags0) (hI : Inj ad) {h : HP} {a0 : Nat} {x1 : Int32} {r : Int32 × HP} (k0 : knd a0 = 7) (e : f_Q_told h a0 x1 = some r) : CT l D ad aC m_Q_told [.ref a0, .int x1] h (.inl (some (.int r.1))) r.2 := by
  refine CT.ofGo (by decide +kernel) rfl (Nat.le_of_ble_eq_true rfl) ?_
  unfold f_Q_told at e
  show Go l D ad aC (rmk m_Q_told) _ m_Q_told 0 [some (.ref a0), some (.int x1), none, none, none] [] h 0 0
  refine Go.run (pc' := 1) [.aload_n 0] (ls' := [some (.ref a0), some (.int x1), none, none, none]) (st' := [.ref a0]) (by decide +kernel) rfl rfl ?_
  obtain ⟨v1, e2, e⟩ := bd_inv e
  refine Go.callV (M2 := m_F_clearText) (a := a0) (as := []) (rest := []) (v := some (.int v1.1)) (h1 := v1.2) (x_F_clearText hf hI k0 e2) wv_Q_192 k0 kc_7 (by decide +kernel) rfl rfl ⟨⟨Nat.le_of_ble_eq_true rfl, Nat.le_of_ble_eq_true rfl⟩, ⟨Nat.le_of_ble_eq_true rfl, Nat.le_of_ble_eq_true rfl⟩⟩ (Nat.le_of_ble_eq_true rfl) ?_
  show Go l D ad aC (rmk m_Q_told) _ m_Q_told 4 [some (.ref a0), some (.int x1), none, none, none] [.int v1.1] v1.2 0 0
  refine Go.if_lt (off := 103) (tgt := 107) (by decide +kernel) (by decide) (fun c3 => ?_) (fun c3 => ?_)
  · replace e := ite_t c3 e
    exact x_Q_told_107 hf hI k0 e
  · replace e := ite_f c3 e
    refine Go.run (pc' := 10) [.aload_n 0, .bipush (65)] (ls' := [some (.ref a0), some (.int x1), none, none, none]) (st' := [.int (65 : Int32), .ref a0]) (by decide +kernel) rfl rfl ?_
    obtain ⟨v4, e5, e⟩ := bd_inv e
    refine Go.callH (M2 := (mr m_Q_append (.inl none))) (as := [.ref a0, .int (65 : Int32)]) (rest := []) (v := some (.long v4.1)) (h1 := v4.2) (xn_Q_append hf hI k0 e5) (WH.mr wh_Q_175) (by decide +kernel) rfl rfl ⟨⟨Nat.le_of_ble_eq_true rfl, Nat.le_of_ble_eq_true rfl⟩, ⟨Nat.le_of_ble_eq_true rfl, Nat.le_of_ble_eq_true rfl⟩⟩ (Nat.le_of_ble_eq_true rfl) ?_
    show Go l D ad aC (rmk m_Q_told) _ m_Q_told 13 [some (.ref a0), some (.int x1), none, none, none] [.long v4.1] v4.2 0 0
    refine Go.run (pc' := 15) [.lconst 0, .lcmp] (ls' := [some (.ref a0), some (.int x1), none, none, none]) (st' := [.int (lg_cmp v4.1 (0 : Int64))]) (by decide +kernel) rfl rfl ?_
    refine Go.if_le (off := 92) (tgt := 107) (by decide +kernel) (by decide) (fun c6 => ?_) (fun c6 => ?_)
    · replace e := ite_t c6 e
      exact x_Q_told_107 hf hI k0 e
    · replace e := ite_f c6 e
      refine Go.run (pc' := 32) [.aload_n 0, .bipush (119), .bipush (49), .bipush (48), .iload_n 1, .bipush (10), .irem, .iadd, .bipush (119)] (ls' := [some (.ref a0), some (.int x1), none, none, none]) (st' := [.int (119 : Int32), .int ((48 : Int32) + (x1 - x1 / (10 : Int32) * (10 : Int32))), .int (49 : Int32), .int (119 : Int32), .ref a0]) (by decide +kernel) rfl rfl ?_
      obtain ⟨v7, e8, e⟩ := bd_inv e
      refine Go.callS (M2 := m_Q_says) (as := [.ref a0, .int (119 : Int32), .int (49 : Int32), .int ((48 : Int32) + (x1 - x1 / (10 : Int32) * (10 : Int32))), .int (119 : Int32)]) (rest := []) (v := some (.int v7.1)) (h1 := v7.2) (x_Q_says hf hI k0 e8) ws_Q_195 (by decide +kernel) rfl rfl ⟨⟨Nat.le_of_ble_eq_true rfl, Nat.le_of_ble_eq_true rfl⟩, ⟨Nat.le_of_ble_eq_true rfl, Nat.le_of_ble_eq_true rfl⟩⟩ (Nat.le_of_ble_eq_true rfl) ?_
      show Go l D ad aC (rmk m_Q_told) _ m_Q_told 35 [some (.ref a0), some (.int x1), none, none, none] [.int v7.1] v7.2 0 0
      refine Go.if_eq (off := 72) (tgt := 107) (by decide +kernel) (by decide) (fun c9 => ?_) (fun c9 => ?_)
      · replace e := ite_t c9 e
        exact x_Q_told_107 hf hI k0 e
      · replace e := ite_f c9 e
        refine Go.run (pc' := 54) [.aload_n 0, .bipush (50), .bipush (48), .iload_n 1, .iconst 3, .idiv, .bipush (10), .irem, .iadd, .bipush (111), .bipush (48)] (ls' := [some (.ref a0), some (.int x1), none, none, none]) (st' := [.int (48 : Int32), .int (111 : Int32), .int ((48 : Int32) + ((x1 / (3 : Int32)) - (x1 / (3 : Int32)) / (10 : Int32) * (10 : Int32))), .int (50 : Int32), .ref a0]) (by decide +kernel) rfl rfl ?_
        obtain ⟨v10, e11, e⟩ := bd_inv e
        refine Go.callS (M2 := m_Q_says) (as := [.ref a0, .int (50 : Int32), .int ((48 : Int32) + ((x1 / (3 : Int32)) - (x1 / (3 : Int32)) / (10 : Int32) * (10 : Int32))), .int (111 : Int32), .int (48 : Int32)]) (rest := []) (v := some (.int v10.1)) (h1 := v10.2) (x_Q_says hf hI k0 e11) ws_Q_195 (by decide +kernel) rfl rfl ⟨⟨Nat.le_of_ble_eq_true rfl, Nat.le_of_ble_eq_true rfl⟩, ⟨Nat.le_of_ble_eq_true rfl, Nat.le_of_ble_eq_true rfl⟩⟩ (Nat.le_of_ble_eq_true rfl) ?_
        show Go l D ad aC (rmk m_Q_told) _ m_Q_told 57 [some (.ref a0), some (.int x1), none, none, none] [.int v10.1] v10.2 0 0
        refine Go.if_eq (off := 50) (tgt := 107) (by decide +kernel) (by decide) (fun c12 => ?_) (fun c12 => ?_)
        · replace e := ite_t c12 e
          exact x_Q_told_107 hf hI k0 e
        · replace e := ite_f c12 e
          refine Go.run (pc' := 74) [.aload_n 0, .bipush (48), .bipush (48), .iload_n 1, .bipush (10), .irem, .iadd, .bipush (51), .bipush (111)] (ls' := [some (.ref a0), some (.int x1), none, none, none]) (st' := [.int (111 : Int32), .int (51 : Int32), .int ((48 : Int32) + (x1 - x1 / (10 : Int32) * (10 : Int32))), .int (48 : Int32), .ref a0]) (by decide +kernel) rfl rfl ?_
          obtain ⟨v13, e14, e⟩ := bd_inv e
          refine Go.callS (M2 := m_Q_says) (as := [.ref a0, .int (48 : Int32), .int ((48 : Int32) + (x1 - x1 / (10 : Int32) * (10 : Int32))), .int (51 : Int32), .int (111 : Int32)]) (rest := []) (v := some (.int v13.1)) (h1 := v13.2) (x_Q_says hf hI k0 e14) ws_Q_195 (by decide +kernel) rfl rfl ⟨⟨Nat.le_of_ble_eq_true rfl, Nat.le_of_ble_eq_true rfl⟩, ⟨Nat.le_of_ble_eq_true rfl, Nat.le_of_ble_eq_true rfl⟩⟩ (Nat.le_of_ble_eq_true rfl) ?_
          show Go l D ad aC (rmk m_Q_told) _ m_Q_told 77 [some (.ref a0), some (.int x1), none, none, none] [.int v13.1] v13.2 0 0
          refine Go.if_eq (off := 30) (tgt := 107) (by decide +kernel) (by decide) (fun c15 => ?_) (fun c15 => ?_)
          · replace e := ite_t c15 e
            exact x_Q_told_107 hf hI k0 e
          · replace e := ite_f c15 e
            refine Go.run (pc' := 97) [.aload_n 0, .bipush (49), .bipush (48), .bipush (48), .iload_n 1, .bipush (7), .idiv, .bipush (10), .irem, .iadd, .bipush (50)] (ls' := [some (.ref a0), some (.int x1), none, none, none]) (st' := [.int (50 : Int32), .int ((48 : Int32) + ((x1 / (7 : Int32)) - (x1 / (7 : Int32)) / (10 : Int32) * (10 : Int32))), .int (48 : Int32), .int (49 : Int32), .ref a0]) (by decide +kernel) rfl rfl ?_
            obtain ⟨v16, e17, e⟩ := bd_inv e
            refine Go.callS (M2 := m_Q_says) (as := [.ref a0, .int (49 : Int32), .int (48 : Int32), .int ((48 : Int32) + ((x1 / (7 : Int32)) - (x1 / (7 : Int32)) / (10 : Int32) * (10 : Int32))), .int (50 : Int32)]) (rest := []) (v := some (.int v16.1)) (h1 := v16.2) (x_Q_says hf hI k0 e17) ws_Q_195 (by decide +kernel) rfl rfl ⟨⟨Nat.le_of_ble_eq_true rfl, Nat.le_of_ble_eq_true rfl⟩, ⟨Nat.le_of_ble_eq_true rfl, Nat.le_of_ble_eq_true rfl⟩⟩ (Nat.le_of_ble_eq_true rfl) ?_
            show Go l D ad aC (rmk m_Q_told) _ m_Q_told 100 [some (.ref a0), some (.int x1), none, none, none] [.int v16.1] v16.2 0 0
            refine Go.if_eq (off := 7) (tgt := 107) (by decide +kernel) (by decide) (fun c18 => ?_) (fun c18 => ?_)
            · replace e := ite_t c18 e
              exact x_Q_told_107 hf hI k0 e
            · replace e := ite_f c18 e
              refine Go.run (pc' := 104) [.iconst 1] (ls' := [some (.ref a0), some (.int x1), none, none, none]) (st' := [.int (1 : Int32)]) (by decide +kernel) rfl rfl ?_
              refine Go.goto (off := 4) (tgt := 108) (by decide +kernel) (by decide) ?_
              exact x_Q_told_108 hf hI k0 e
def f_Q_kept_816  (a0 : Nat) (x1 : Int32) (y2 : Int64) (y4 : Int64) (y6 : Int64) (y8 : Int64) (y10 : Int64) (y12 : Int64) (y14 : Int64) (y16 : Int64) (x18 : Int32) (y19 : Int64) (h : HP) : Option (Int32 × HP) :=
  if x1 = 0 then
    some ((0 : Int32), h)
  else
    (g_Q_about h a0 (2 : Int32)).bind fun v2 =>
    if (lg_cmp v2.1 x18.toInt64) = 0 then
      (g_Q_about v2.2 a0 (3 : Int32)).bind fun v5 =>
      if (lg_cmp v5.1 y2) = 0 then
        (g_Q_about v5.2 a0 (4 : Int32)).bind fun v8 =>
        if (lg_cmp v8.1 y4) = 0 then
          (g_Q_about v8.2 a0 (5 : Int32)).bind fun v11 =>
          if (lg_cmp v11.1 y6) = 0 then
            (g_Q_about v11.2 a0 (6 : Int32)).bind fun v14 =>
            if (lg_cmp v14.1 y10) = 0 then
              if (lg_cmp y10 y8) = 0 then
                (g_Q_about v14.2 a0 (7 : Int32)).bind fun v18 =>
                if (lg_cmp v18.1 y12) = 0 then
                  (g_Q_about v18.2 a0 (8 : Int32)).bind fun v21 =>
                  if (lg_cmp v21.1 y14) = 0 then
                    (g_Q_about v21.2 a0 (9 : Int32)).bind fun v24 =>
                    if (lg_cmp v24.1 y16) = 0 then
                      (g_Q_about v24.2 a0 (13 : Int32)).bind fun v27 =>
                      if (lg_cmp ((2 : Int64) * v27.1) y19) = 0 then
                        (g_Q_about v27.2 a0 (11 : Int32)).bind fun v30 =>
                        if 0 < (lg_cmp v30.1 (9 : Int64)) then
                          some ((0 : Int32), v30.2)
                        else
                          some ((1 : Int32), v30.2)
                      else
                        some ((0 : Int32), v27.2)
                    else
                      some ((0 : Int32), v24.2)
                  else
                    some ((0 : Int32), v21.2)
                else
                  some ((0 : Int32), v18.2)
              else
                some ((0 : Int32), v14.2)
            else
              some ((0 : Int32), v14.2)
          else
            some ((0 : Int32), v11.2)
        else
          some ((0 : Int32), v8.2)
      else
        some ((0 : Int32), v5.2)
    else
      some ((0 : Int32), v2.2)
set_option maxHeartbeats 4000000 in
theorem x_Q_kept_816 {l : Launch} {D : va_G} {ad : Nat → Nat} {aC : Nat → ClassId} (hf : l.flags = flags0) (hI : Inj ad) {a0 : Nat} {x1 : Int32} {y2 : Int64} {y4 : Int64} {y6 : Int64} {y8 : Int64} {y10 : Int64} {y12 : Int64} {y14 : Int64} {y16 : Int64} {x18 : Int32} {y19 : Int64} {h : HP} {r : Int32 × HP} (k0 : knd a0 = 7) (e : f_Q_kept_816 a0 x1 y2 y4 y6 y8 y10 y12 y14 y16 x18 y19 h = some r) : Go l D ad aC (rmk m_Q_kept) (QM D ad aC m_Q_kept (.inl (some (.int r.1))) r.2) m_Q_kept 816 [some (.ref a0), some (.int x1), some (.long y2), none, some (.long y4), none, some (.long y6), none, some (.long y8), none, some (.long y10), none, some (.long y12), none, some (.long y14), none, some (.long y16), none, some (.int x18), some (.long y19), none, none, none, none, none, none, none, none, none, none, none, none] [] h 0 0 := by
  unfold f_Q_kept_816 at e
  refine Go.run (pc' := 817) [.iload_n 1] (ls' := [some (.ref a0), some (.int x1), some (.long y2), none, some (.long y4), none, some (.long y6), none, some (.long y8), none, some (.long y10), none, some (.long y12), none, some (.long y14), none, some (.long y16), none, some (.int x18), some (.long y19), none, none, none, none, none, none, none, none, none, none, none, none]) (st' := [.int x1]) (by decide +kernel) rfl rfl ?_
  refine Go.if_eq (off := 136) (tgt := 953) (by decide +kernel) (by decide) (fun c1 => ?_) (fun c1 => ?_)
  · replace e := ite_t c1 e
    refine Go.run (pc' := 954) [.iconst 0] (ls' := [some (.ref a0), some (.int x1), some (.long y2), none, some (.long y4), none, some (.long y6), none, some (.long y8), none, some (.long y10), none, some (.long y12), none, some (.long y14), none, some (.long y16), none, some (.int x18), some (.long y19), none, none, none, none, none, none, none, none, none, none, none, none]) (st' := [.int (0 : Int32)]) (by decide +kernel) rfl rfl ?_
    obtain rfl := Option.some.inj e
    exact Go.zret rfl nar_z0 (by decide) (by decide) (by decide +kernel)
  · replace e := ite_f c1 e
    refine Go.run (pc' := 822) [.aload_n 0, .iconst 2] (ls' := [some (.ref a0), some (.int x1), some (.long y2), none, some (.long y4), none, some (.long y6), none, some (.long y8), none, some (.long y10), none, some (.long y12), none, some (.long y14), none, some (.long y16), none, some (.int x18), some (.long y19), none, none, none, none, none, none, none, none, none, none, none, none]) (st' := [.int (2 : Int32), .ref a0]) (by decide +kernel) rfl rfl ?_
    obtain ⟨v2, e3, e⟩ := bd_inv e
    refine Go.callH (M2 := (mr m_Q_about (.inl none))) (as := [.ref a0, .int (2 : Int32)]) (rest := []) (v := some (.long v2.1)) (h1 := v2.2) (xn_Q_about hf hI k0 e3) (WH.mr wh_Q_111) (by decide +kernel) rfl rfl ⟨⟨Nat.le_of_ble_eq_true rfl, Nat.le_of_ble_eq_true rfl⟩, ⟨Nat.le_of_ble_eq_true rfl, Nat.le_of_ble_eq_true rfl⟩⟩ (Nat.le_of_ble_eq_true rfl) ?_
    show Go l D ad aC (rmk m_Q_kept) _ m_Q_kept 825 [some (.ref a0), some (.int x1), some (.long y2), none, some (.long y4), none, some (.long y6), none, some (.long y8), none, some (.long y10), none, some (.long y12), none, some (.long y14), none, some (.long y16), none, some (.int x18), some (.long y19), none, none, none, none, none, none, none, none, none, none, none, none] [.long v2.1] v2.2 0 0
    refine Go.run (pc' := 829) [.iload 18, .i2l, .lcmp] (ls' := [some (.ref a0), some (.int x1), some (.long y2), none, some (.long y4), none, some (.long y6), none, some (.long y8), none, some (.long y10), none, some (.long y12), none, some (.long y14), none, some (.long y16), none, some (.int x18), some (.long y19), none, none, none, none, none, none, none, none, none, none, none, none]) (st' := [.int (lg_cmp v2.1 x18.toInt64)]) (by decide +kernel) rfl rfl ?_
    refine Go.if_ne (off := 124) (tgt := 953) (by decide +kernel) (by decide) (fun c4 => ?_) (fun c4 => ?_)
    · replace e := ite_f c4 e
      refine Go.run (pc' := 954) [.iconst 0] (ls' := [some (.ref a0), some (.int x1), some (.long y2), none, some (.long y4), none, some (.long y6), none, some (.long y8), none, some (.long y10), none, some (.long y12), none, some (.long y14), none, some (.long y16), none, some (.int x18), some (.long y19), none, none, none, none, none, none, none, none, none, none, none, none]) (st' := [.int (0 : Int32)]) (by decide +kernel) rfl rfl ?_
      obtain rfl := Option.some.inj e
      exact Go.zret rfl nar_z0 (by decide) (by decide) (by decide +kernel)
    · replace e := ite_t c4 e
      refine Go.run (pc' := 834) [.aload_n 0, .iconst 3] (ls' := [some (.ref a0), some (.int x1), some (.long y2), none, some (.long y4), none, some (.long y6), none, some (.long y8), none, some (.long y10), none, some (.long y12), none, some (.long y14), none, some (.long y16), none, some (.int x18), some (.long y19), none, none, none, none, none, none, none, none, none, none, none, none]) (st' := [.int (3 : Int32), .ref a0]) (by decide +kernel) rfl rfl ?_
      obtain ⟨v5, e6, e⟩ := bd_inv e
      refine Go.callH (M2 := (mr m_Q_about (.inl none))) (as := [.ref a0, .int (3 : Int32)]) (rest := []) (v := some (.long v5.1)) (h1 := v5.2) (xn_Q_about hf hI k0 e6) (WH.mr wh_Q_111) (by decide +kernel) rfl rfl ⟨⟨Nat.le_of_ble_eq_true rfl, Nat.le_of_ble_eq_true rfl⟩, ⟨Nat.le_of_ble_eq_true rfl, Nat.le_of_ble_eq_true rfl⟩⟩ (Nat.le_of_ble_eq_true rfl) ?_
      show Go l D ad aC (rmk m_Q_kept) _ m_Q_kept 837 [some (.ref a0), some (.int x1), some (.long y2), none, some (.long y4), none, some (.long y6), none, some (.long y8), none, some (.long y10), none, some (.long y12), none, some (.long y14), none, some (.long y16), none, some (.int x18), some (.long y19), none, none, none, none, none, none, none, none, none, none, none, none] [.long v5.1] v5.2 0 0
      refine Go.run (pc' := 839) [.lload_n 2, .lcmp] (ls' := [some (.ref a0), some (.int x1), some (.long y2), none, some (.long y4), none, some (.long y6), none, some (.long y8), none, some (.long y10), none, some (.long y12), none, some (.long y14), none, some (.long y16), none, some (.int x18), some (.long y19), none, none, none, none, none, none, none, none, none, none, none, none]) (st' := [.int (lg_cmp v5.1 y2)]) (by decide +kernel) rfl rfl ?_
      refine Go.if_ne (off := 114) (tgt := 953) (by decide +kernel) (by decide) (fun c7 => ?_) (fun c7 => ?_)
      · replace e := ite_f c7 e
        refine Go.run (pc' := 954) [.iconst 0] (ls' := [some (.ref a0), some (.int x1), some (.long y2), none, some (.long y4), none, some (.long y6), none, some (.long y8), none, some (.long y10), none, some (.long y12), none, some (.long y14), none, some (.long y16), none, some (.int x18), some (.long y19), none, none, none, none, none, none, none, none, none, none, none, none]) (st' := [.int (0 : Int32)]) (by decide +kernel) rfl rfl ?_
        obtain rfl := Option.some.inj e
        exact Go.zret rfl nar_z0 (by decide) (by decide) (by decide +kernel)
      · replace e := ite_t c7 e
        refine Go.run (pc' := 844) [.aload_n 0, .iconst 4] (ls' := [some (.ref a0), some (.int x1), some (.long y2), none, some (.long y4), none, some (.long y6), none, some (.long y8), none, some (.long y10), none, some (.long y12), none, some (.long y14), none, some (.long y16), none, some (.int x18), some (.long y19), none, none, none, none, none, none, none, none, none, none, none, none]) (st' := [.int (4 : Int32), .ref a0]) (by decide +kernel) rfl rfl ?_
        obtain ⟨v8, e9, e⟩ := bd_inv e
        refine Go.callH (M2 := (mr m_Q_about (.inl none))) (as := [.ref a0, .int (4 : Int32)]) (rest := []) (v := some (.long v8.1)) (h1 := v8.2) (xn_Q_about hf hI k0 e9) (WH.mr wh_Q_111) (by decide +kernel) rfl rfl ⟨⟨Nat.le_of_ble_eq_true rfl, Nat.le_of_ble_eq_true rfl⟩, ⟨Nat.le_of_ble_eq_true rfl, Nat.le_of_ble_eq_true rfl⟩⟩ (Nat.le_of_ble_eq_true rfl) ?_
        show Go l D ad aC (rmk m_Q_kept) _ m_Q_kept 847 [some (.ref a0), some (.int x1), some (.long y2), none, some (.long y4), none, some (.long y6), none, some (.long y8), none, some (.long y10), none, some (.long y12), none, some (.long y14), none, some (.long y16), none, some (.int x18), some (.long y19), none, none, none, none, none, none, none, none, none, none, none, none] [.long v8.1] v8.2 0 0
        refine Go.run (pc' := 850) [.lload 4, .lcmp] (ls' := [some (.ref a0), some (.int x1), some (.long y2), none, some (.long y4), none, some (.long y6), none, some (.long y8), none, some (.long y10), none, some (.long y12), none, some (.long y14), none, some (.long y16), none, some (.int x18), some (.long y19), none, none, none, none, none, none, none, none, none, none, none, none]) (st' := [.int (lg_cmp v8.1 y4)]) (by decide +kernel) rfl rfl ?_
        refine Go.if_ne (off := 103) (tgt := 953) (by decide +kernel) (by decide) (fun c10 => ?_) (fun c10 => ?_)
        · replace e := ite_f c10 e
          refine Go.run (pc' := 954) [.iconst 0] (ls' := [some (.ref a0), some (.int x1), some (.long y2), none, some (.long y4), none, some (.long y6), none, some (.long y8), none, some (.long y10), none, some (.long y12), none, some (.long y14), none, some (.long y16), none, some (.int x18), some (.long y19), none, none, none, none, none, none, none, none, none, none, none, none]) (st' := [.int (0 : Int32)]) (by decide +kernel) rfl rfl ?_
          obtain rfl := Option.some.inj e
          exact Go.zret rfl nar_z0 (by decide) (by decide) (by decide +kernel)
        · replace e := ite_t c10 e
          refine Go.run (pc' := 855) [.aload_n 0, .iconst 5] (ls' := [some (.ref a0), some (.int x1), some (.long y2), none, some (.long y4), none, some (.long y6), none, some (.long y8), none, some (.long y10), none, some (.long y12), none, some (.long y14), none, some (.long y16), none, some (.int x18), some (.long y19), none, none, none, none, none, none, none, none, none, none, none, none]) (st' := [.int (5 : Int32), .ref a0]) (by decide +kernel) rfl rfl ?_
          obtain ⟨v11, e12, e⟩ := bd_inv e
          refine Go.callH (M2 := (mr m_Q_about (.inl none))) (as := [.ref a0, .int (5 : Int32)]) (rest := []) (v := some (.long v11.1)) (h1 := v11.2) (xn_Q_about hf hI k0 e12) (WH.mr wh_Q_111) (by decide +kernel) rfl rfl ⟨⟨Nat.le_of_ble_eq_true rfl, Nat.le_of_ble_eq_true rfl⟩, ⟨Nat.le_of_ble_eq_true rfl, Nat.le_of_ble_eq_true rfl⟩⟩ (Nat.le_of_ble_eq_true rfl) ?_
          show Go l D ad aC (rmk m_Q_kept) _ m_Q_kept 858 [some (.ref a0), some (.int x1), some (.long y2), none, some (.long y4), none, some (.long y6), none, some (.long y8), none, some (.long y10), none, some (.long y12), none, some (.long y14), none, some (.long y16), none, some (.int x18), some (.long y19), none, none, none, none, none, none, none, none, none, none, none, none] [.long v11.1] v11.2 0 0
          refine Go.run (pc' := 861) [.lload 6, .lcmp] (ls' := [some (.ref a0), some (.int x1), some (.long y2), none, some (.long y4), none, some (.long y6), none, some (.long y8), none, some (.long y10), none, some (.long y12), none, some (.long y14), none, some (.long y16), none, some (.int x18), some (.long y19), none, none, none, none, none, none, none, none, none, none, none, none]) (st' := [.int (lg_cmp v11.1 y6)]) (by decide +kernel) rfl rfl ?_
          refine Go.if_ne (off := 92) (tgt := 953) (by decide +kernel) (by decide) (fun c13 => ?_) (fun c13 => ?_)
          · replace e := ite_f c13 e
            refine Go.run (pc' := 954) [.iconst 0] (ls' := [some (.ref a0), some (.int x1), some (.long y2), none, some (.long y4), none, some (.long y6), none, some (.long y8), none, some (.long y10), none, some (.long y12), none, some (.long y14), none, some (.long y16), none, some (.int x18), some (.long y19), none, none, none, none, none, none, none, none, none, none, none, none]) (st' := [.int (0 : Int32)]) (by decide +kernel) rfl rfl ?_
            obtain rfl := Option.some.inj e
            exact Go.zret rfl nar_z0 (by decide) (by decide) (by decide +kernel)
          · replace e := ite_t c13 e
            refine Go.run (pc' := 867) [.aload_n 0, .bipush (6)] (ls' := [some (.ref a0), some (.int x1), some (.long y2), none, some (.long y4), none, some (.long y6), none, some (.long y8), none, some (.long y10), none, some (.long y12), none, some (.long y14), none, some (.long y16), none, some (.int x18), some (.long y19), none, none, none, none, none, none, none, none, none, none, none, none]) (st' := [.int (6 : Int32), .ref a0]) (by decide +kernel) rfl rfl ?_
            obtain ⟨v14, e15, e⟩ := bd_inv e
            refine Go.callH (M2 := (mr m_Q_about (.inl none))) (as := [.ref a0, .int (6 : Int32)]) (rest := []) (v := some (.long v14.1)) (h1 := v14.2) (xn_Q_about hf hI k0 e15) (WH.mr wh_Q_111) (by decide +kernel) rfl rfl ⟨⟨Nat.le_of_ble_eq_true rfl, Nat.le_of_ble_eq_true rfl⟩, ⟨Nat.le_of_ble_eq_true rfl, Nat.le_of_ble_eq_true rfl⟩⟩ (Nat.le_of_ble_eq_true rfl) ?_
            show Go l D ad aC (rmk m_Q_kept) _ m_Q_kept 870 [some (.ref a0), some (.int x1), some (.long y2), none, some (.long y4), none, some (.long y6), none, some (.long y8), none, some (.long y10), none, some (.long y12), none, some (.long y14), none, some (.long y16), none, some (.int x18), some (.long y19), none, none, none, none, none, none, none, none, none, none, none, none] [.long v14.1] v14.2 0 0
            refine Go.run (pc' := 873) [.lload 10, .lcmp] (ls' := [some (.ref a0), some (.int x1), some (.long y2), none, some (.long y4), none, some (.long y6), none, some (.long y8), none, some (.long y10), none, some (.long y12), none, some (.long y14), none, some (.long y16), none, some (.int x18), some (.long y19), none, none, none, none, none, none, none, none, none, none, none, none]) (st' := [.int (lg_cmp v14.1 y10)]) (by decide +kernel) rfl rfl ?_
            refine Go.if_ne (off := 80) (tgt := 953) (by decide +kernel) (by decide) (fun c16 => ?_) (fun c16 => ?_)
            · replace e := ite_f c16 e
              refine Go.run (pc' := 954) [.iconst 0] (ls' := [some (.ref a0), some (.int x1), some (.long y2), none, some (.long y4), none, some (.long y6), none, some (.long y8), none, some (.long y10), none, some (.long y12), none, some (.long y14), none, some (.long y16), none, some (.int x18), some (.long y19), none, none, none, none, none, none, none, none, none, none, none, none]) (st' := [.int (0 : Int32)]) (by decide +kernel) rfl rfl ?_
              obtain rfl := Option.some.inj e
              exact Go.zret rfl nar_z0 (by decide) (by decide) (by decide +kernel)
            · replace e := ite_t c16 e
              refine Go.run (pc' := 881) [.lload 10, .lload 8, .lcmp] (ls' := [some (.ref a0), some (.int x1), some (.long y2), none, some (.long y4), none, some (.long y6), none, some (.long y8), none, some (.long y10), none, some (.long y12), none, some (.long y14), none, some (.long y16), none, some (.int x18), some (.long y19), none, none, none, none, none, none, none, none, none, none, none, none]) (st' := [.int (lg_cmp y10 y8)]) (by decide +kernel) rfl rfl ?_
              refine Go.if_ne (off := 72) (tgt := 953) (by decide +kernel) (by decide) (fun c17 => ?_) (fun c17 => ?_)
              · replace e := ite_f c17 e
                refine Go.run (pc' := 954) [.iconst 0] (ls' := [some (.ref a0), some (.int x1), some (.long y2), none, some (.long y4), none, some (.long y6), none, some (.long y8), none, some (.long y10), none, some (.long y12), none, some (.long y14), none, some (.long y16), none, some (.int x18), some (.long y19), none, none, none, none, none, none, none, none, none, none, none, none]) (st' := [.int (0 : Int32)]) (by decide +kernel) rfl rfl ?_
                obtain rfl := Option.some.inj e
                exact Go.zret rfl nar_z0 (by decide) (by decide) (by decide +kernel)
              · replace e := ite_t c17 e
                refine Go.run (pc' := 887) [.aload_n 0, .bipush (7)] (ls' := [some (.ref a0), some (.int x1), some (.long y2), none, some (.long y4), none, some (.long y6), none, some (.long y8), none, some (.long y10), none, some (.long y12), none, some (.long y14), none, some (.long y16), none, some (.int x18), some (.long y19), none, none, none, none, none, none, none, none, none, none, none, none]) (st' := [.int (7 : Int32), .ref a0]) (by decide +kernel) rfl rfl ?_
                obtain ⟨v18, e19, e⟩ := bd_inv e
                refine Go.callH (M2 := (mr m_Q_about (.inl none))) (as := [.ref a0, .int (7 : Int32)]) (rest := []) (v := some (.long v18.1)) (h1 := v18.2) (xn_Q_about hf hI k0 e19) (WH.mr wh_Q_111) (by decide +kernel) rfl rfl ⟨⟨Nat.le_of_ble_eq_true rfl, Nat.le_of_ble_eq_true rfl⟩, ⟨Nat.le_of_ble_eq_true rfl, Nat.le_of_ble_eq_true rfl⟩⟩ (Nat.le_of_ble_eq_true rfl) ?_
                show Go l D ad aC (rmk m_Q_kept) _ m_Q_kept 890 [some (.ref a0), some (.int x1), some (.long y2), none, some (.long y4), none, some (.long y6), none, some (.long y8), none, some (.long y10), none, some (.long y12), none, some (.long y14), none, some (.long y16), none, some (.int x18), some (.long y19), none, none, none, none, none, none, none, none, none, none, none, none] [.long v18.1] v18.2 0 0
                refine Go.run (pc' := 893) [.lload 12, .lcmp] (ls' := [some (.ref a0), some (.int x1), some (.long y2), none, some (.long y4), none, some (.long y6), none, some (.long y8), none, some (.long y10), none, some (.long y12), none, some (.long y14), none, some (.long y16), none, some (.int x18), some (.long y19), none, none, none, none, none, none, none, none, none, none, none, none]) (st' := [.int (lg_cmp v18.1 y12)]) (by decide +kernel) rfl rfl ?_
                refine Go.if_ne (off := 60) (tgt := 953) (by decide +kernel) (by decide) (fun c20 => ?_) (fun c20 => ?_)
                · replace e := ite_f c20 e
                  refine Go.run (pc' := 954) [.iconst 0] (ls' := [some (.ref a0), some (.int x1), some (.long y2), none, some (.long y4), none, some (.long y6), none, some (.long y8), none, some (.long y10), none, some (.long y12), none, some (.long y14), none, some (.long y16), none, some (.int x18), some (.long y19), none, none, none, none, none, none, none, none, none, none, none, none]) (st' := [.int (0 : Int32)]) (by decide +kernel) rfl rfl ?_
                  obtain rfl := Option.some.inj e
                  exact Go.zret rfl nar_z0 (by decide) (by decide) (by decide +kernel)
                · replace e := ite_t c20 e
                  refine Go.run (pc' := 899) [.aload_n 0, .bipush (8)] (ls' := [some (.ref a0), some (.int x1), some (.long y2), none, some (.long y4), none, some (.long y6), none, some (.long y8), none, some (.long y10), none, some (.long y12), none, some (.long y14), none, some (.long y16), none, some (.int x18), some (.long y19), none, none, none, none, none, none, none, none, none, none, none, none]) (st' := [.int (8 : Int32), .ref a0]) (by decide +kernel) rfl rfl ?_
                  obtain ⟨v21, e22, e⟩ := bd_inv e
                  refine Go.callH (M2 := (mr m_Q_about (.inl none))) (as := [.ref a0, .int (8 : Int32)]) (rest := []) (v := some (.long v21.1)) (h1 := v21.2) (xn_Q_about hf hI k0 e22) (WH.mr wh_Q_111) (by decide +kernel) rfl rfl ⟨⟨Nat.le_of_ble_eq_true rfl, Nat.le_of_ble_eq_true rfl⟩, ⟨Nat.le_of_ble_eq_true rfl, Nat.le_of_ble_eq_true rfl⟩⟩ (Nat.le_of_ble_eq_true rfl) ?_
                  show Go l D ad aC (rmk m_Q_kept) _ m_Q_kept 902 [some (.ref a0), some (.int x1), some (.long y2), none, some (.long y4), none, some (.long y6), none, some (.long y8), none, some (.long y10), none, some (.long y12), none, some (.long y14), none, some (.long y16), none, some (.int x18), some (.long y19), none, none, none, none, none, none, none, none, none, none, none, none] [.long v21.1] v21.2 0 0
                  refine Go.run (pc' := 905) [.lload 14, .lcmp] (ls' := [some (.ref a0), some (.int x1), some (.long y2), none, some (.long y4), none, some (.long y6), none, some (.long y8), none, some (.long y10), none, some (.long y12), none, some (.long y14), none, some (.long y16), none, some (.int x18), some (.long y19), none, none, none, none, none, none, none, none, none, none, none, none]) (st' := [.int (lg_cmp v21.1 y14)]) (by decide +kernel) rfl rfl ?_
                  refine Go.if_ne (off := 48) (tgt := 953) (by decide +kernel) (by decide) (fun c23 => ?_) (fun c23 => ?_)
                  · replace e := ite_f c23 e
                    refine Go.run (pc' := 954) [.iconst 0] (ls' := [some (.ref a0), some (.int x1), some (.long y2), none, some (.long y4), none, some (.long y6), none, some (.long y8), none, some (.long y10), none, some (.long y12), none, some (.long y14), none, some (.long y16), none, some (.int x18), some (.long y19), none, none, none, none, none, none, none, none, none, none, none, none]) (st' := [.int (0 : Int32)]) (by decide +kernel) rfl rfl ?_
                    obtain rfl := Option.some.inj e
                    exact Go.zret rfl nar_z0 (by decide) (by decide) (by decide +kernel)
                  · replace e := ite_t c23 e
                    refine Go.run (pc' := 911) [.aload_n 0, .bipush (9)] (ls' := [some (.ref a0), some (.int x1), some (.long y2), none, some (.long y4), none, some (.long y6), none, some (.long y8), none, some (.long y10), none, some (.long y12), none, some (.long y14), none, some (.long y16), none, some (.int x18), some (.long y19), none, none, none, none, none, none, none, none, none, none, none, none]) (st' := [.int (9 : Int32), .ref a0]) (by decide +kernel) rfl rfl ?_
                    obtain ⟨v24, e25, e⟩ := bd_inv e
                    refine Go.callH (M2 := (mr m_Q_about (.inl none))) (as := [.ref a0, .int (9 : Int32)]) (rest := []) (v := some (.long v24.1)) (h1 := v24.2) (xn_Q_about hf hI k0 e25) (WH.mr wh_Q_111) (by decide +kernel) rfl rfl ⟨⟨Nat.le_of_ble_eq_true rfl, Nat.le_of_ble_eq_true rfl⟩, ⟨Nat.le_of_ble_eq_true rfl, Nat.le_of_ble_eq_true rfl⟩⟩ (Nat.le_of_ble_eq_true rfl) ?_
                    show Go l D ad aC (rmk m_Q_kept) _ m_Q_kept 914 [some (.ref a0), some (.int x1), some (.long y2), none, some (.long y4), none, some (.long y6), none, some (.long y8), none, some (.long y10), none, some (.long y12), none, some (.long y14), none, some (.long y16), none, some (.int x18), some (.long y19), none, none, none, none, none, none, none, none, none, none, none, none] [.long v24.1] v24.2 0 0
                    refine Go.run (pc' := 917) [.lload 16, .lcmp] (ls' := [some (.ref a0), some (.int x1), some (.long y2), none, some (.long y4), none, some (.long y6), none, some (.long y8), none, some (.long y10), none, some (.long y12), none, some (.long y14), none, some (.long y16), none, some (.int x18), some (.long y19), none, none, none, none, none, none, none, none, none, none, none, none]) (st' := [.int (lg_cmp v24.1 y16)]) (by decide +kernel) rfl rfl ?_
                    refine Go.if_ne (off := 36) (tgt := 953) (by decide +kernel) (by decide) (fun c26 => ?_) (fun c26 => ?_)
                    · replace e := ite_f c26 e
                      refine Go.run (pc' := 954) [.iconst 0] (ls' := [some (.ref a0), some (.int x1), some (.long y2), none, some (.long y4), none, some (.long y6), none, some (.long y8), none, some (.long y10), none, some (.long y12), none, some (.long y14), none, some (.long y16), none, some (.int x18), some (.long y19), none, none, none, none, none, none, none, none, none, none, none, none]) (st' := [.int (0 : Int32)]) (by decide +kernel) rfl rfl ?_
                      obtain rfl := Option.some.inj e
                      exact Go.zret rfl nar_z0 (by decide) (by decide) (by decide +kernel)
                    · replace e := ite_t c26 e
                      refine Go.ldc2 lo_Q_181 (by decide +kernel) ?_
                      refine Go.run (pc' := 926) [.aload_n 0, .bipush (13)] (ls' := [some (.ref a0), some (.int x1), some (.long y2), none, some (.long y4), none, some (.long y6), none, some (.long y8), none, some (.long y10), none, some (.long y12), none, some (.long y14), none, some (.long y16), none, some (.int x18), some (.long y19), none, none, none, none, none, none, none, none, none, none, none, none]) (st' := [.int (13 : Int32), .ref a0, .long (2 : Int64)]) (by decide +kernel) rfl rfl ?_
                      obtain ⟨v27, e28, e⟩ := bd_inv e
                      refine Go.callH (M2 := (mr m_Q_about (.inl none))) (as := [.ref a0, .int (13 : Int32)]) (rest := [.long (2 : Int64)]) (v := some (.long v27.1)) (h1 := v27.2) (xn_Q_about hf hI k0 e28) (WH.mr wh_Q_111) (by decide +kernel) rfl rfl ⟨⟨Nat.le_of_ble_eq_true rfl, Nat.le_of_ble_eq_true rfl⟩, ⟨Nat.le_of_ble_eq_true rfl, Nat.le_of_ble_eq_true rfl⟩⟩ (Nat.le_of_ble_eq_true rfl) ?_
                      show Go l D ad aC (rmk m_Q_kept) _ m_Q_kept 929 [some (.ref a0), some (.int x1), some (.long y2), none, some (.long y4), none, some (.long y6), none, some (.long y8), none, some (.long y10), none, some (.long y12), none, some (.long y14), none, some (.long y16), none, some (.int x18), some (.long y19), none, none, none, none, none, none, none, none, none, none, none, none] [.long v27.1, .long (2 : Int64)] v27.2 0 0
                      refine Go.run (pc' := 933) [.lmul, .lload 19, .lcmp] (ls' := [some (.ref a0), some (.int x1), some (.long y2), none, some (.long y4), none, some (.long y6), none, some (.long y8), none, some (.long y10), none, some (.long y12), none, some (.long y14), none, some (.long y16), none, some (.int x18), some (.long y19), none, none, none, none, none, none, none, none, none, none, none, none]) (st' := [.int (lg_cmp ((2 : Int64) * v27.1) y19)]) (by decide +kernel) rfl rfl ?_
                      refine Go.if_ne (off := 20) (tgt := 953) (by decide +kernel) (by decide) (fun c29 => ?_) (fun c29 => ?_)
                      · replace e := ite_f c29 e
                        refine Go.run (pc' := 954) [.iconst 0] (ls' := [some (.ref a0), some (.int x1), some (.long y2), none, some (.long y4), none, some (.long y6), none, some (.long y8), none, some (.long y10), none, some (.long y12), none, some (.long y14), none, some (.long y16), none, some (.int x18), some (.long y19), none, none, none, none, none, none, none, none, none, none, none, none]) (st' := [.int (0 : Int32)]) (by decide +kernel) rfl rfl ?_
                        obtain rfl := Option.some.inj e
                        exact Go.zret rfl nar_z0 (by decide) (by decide) (by decide +kernel)
                      · replace e := ite_t c29 e
                        refine Go.run (pc' := 939) [.aload_n 0, .bipush (11)] (ls' := [some (.ref a0), some (.int x1), some (.long y2), none, some (.long y4), none, some (.long y6), none, some (.long y8), none, some (.long y10), none, some (.long y12), none, some (.long y14), none, some (.long y16), none, some (.int x18), some (.long y19), none, none, none, none, none, none, none, none, none, none, none, none]) (st' := [.int (11 : Int32), .ref a0]) (by decide +kernel) rfl rfl ?_
                        obtain ⟨v30, e31, e⟩ := bd_inv e
                        refine Go.callH (M2 := (mr m_Q_about (.inl none))) (as := [.ref a0, .int (11 : Int32)]) (rest := []) (v := some (.long v30.1)) (h1 := v30.2) (xn_Q_about hf hI k0 e31) (WH.mr wh_Q_111) (by decide +kernel) rfl rfl ⟨⟨Nat.le_of_ble_eq_true rfl, Nat.le_of_ble_eq_true rfl⟩, ⟨Nat.le_of_ble_eq_true rfl, Nat.le_of_ble_eq_true rfl⟩⟩ (Nat.le_of_ble_eq_true rfl) ?_
                        show Go l D ad aC (rmk m_Q_kept) _ m_Q_kept 942 [some (.ref a0), some (.int x1), some (.long y2), none, some (.long y4), none, some (.long y6), none, some (.long y8), none, some (.long y10), none, some (.long y12), none, some (.long y14), none, some (.long y16), none, some (.int x18), some (.long y19), none, none, none, none, none, none, none, none, none, none, none, none] [.long v30.1] v30.2 0 0
                        refine Go.ldc2 lo_Q_183 (by decide +kernel) ?_
                        refine Go.run (pc' := 946) [.lcmp] (ls' := [some (.ref a0), some (.int x1), some (.long y2), none, some (.long y4), none, some (.long y6), none, some (.long y8), none, some (.long y10), none, some (.long y12), none, some (.long y14), none, some (.long y16), none, some (.int x18), some (.long y19), none, none, none, none, none, none, none, none, none, none, none, none]) (st' := [.int (lg_cmp v30.1 (9 : Int64))]) (by decide +kernel) rfl rfl ?_
                        refine Go.if_gt (off := 7) (tgt := 953) (by decide +kernel) (by decide) (fun c32 => ?_) (fun c32 => ?_)
                        · replace e := ite_t c32 e
                          refine Go.run (pc' := 954) [.iconst 0] (ls' := [some (.ref a0), some (.int x1), some (.long y2), none, some (.long y4), none, some (.long y6), none, some (.long y8), none, some (.long y10), none, some (.long y12), none, some (.long y14), none, some (.long y16), none, some (.int x18), some (.long y19), none, none, none, none, none, none, none, none, none, none, none, none]) (st' := [.int (0 : Int32)]) (by decide +kernel) rfl rfl ?_
                          obtain rfl := Option.some.inj e
                          exact Go.zret rfl nar_z0 (by decide) (by decide) (by decide +kernel)
                        · replace e := ite_f c32 e
                          refine Go.run (pc' := 950) [.iconst 1] (ls' := [some (.ref a0), some (.int x1), some (.long y2), none, some (.long y4), none, some (.long y6), none, some (.long y8), none, some (.long y10), none, some (.long y12), none, some (.long y14), none, some (.long y16), none, some (.int x18), some (.long y19), none, none, none, none, none, none, none, none, none, none, none, none]) (st' := [.int (1 : Int32)]) (by decide +kernel) rfl rfl ?_
                          refine Go.goto (off := 4) (tgt := 954) (by decide +kernel) (by decide) ?_
                          obtain rfl := Option.some.inj e
                          exact Go.zret rfl nar_z1 (by decide) (by decide) (by decide +kernel)
def f_Q_kept_794 (k397_ : Nat → Int32 → Int64 → Int64 → Int64 → Int64 → Int64 → Int64 → Int64 → Int64 → Int32 → Int64 → Int32 → HP → Option (Int32 × HP)) (a0 : Nat) (x1 : Int32) (y2 : Int64) (y4 : Int64) (y6 : Int64) (y8 : Int64) (y10 : Int64) (y12 : Int64) (y14 : Int64) (y16 : Int64) (y19 : Int64) (x21 : Int32) (s0 : Int32) (s1 : Int32) (h : HP) : Option (Int32 × HP) :=
  (g_Q_dealerOf h a0 x21 (11 : Int32)).bind fun v1 =>
  k397_ a0 x1 y2 y4 y6 y8 y10 y12 y14 y16 (s0 + s1) (y19 + v1.1) (x21 + (1 : Int32)) v1.2
set_option maxHeartbeats 4000000 in
theorem x_Q_kept_794 {l : Launch} {D : va_G} {ad : Nat → Nat} {aC : Nat → ClassId} (hf : l.flags = flags0) (hI : Inj ad) {k397_ : Nat → Int32 → Int64 → Int64 → Int64 → Int64 → Int64 → Int64 → Int64 → Int64 → Int32 → Int64 → Int32 → HP → Option (Int32 × HP)} (K397_ : ∀ {a0 : Nat} {x1 : Int32} {y2 : Int64} {y4 : Int64} {y6 : Int64} {y8 : Int64} {y10 : Int64} {y12 : Int64} {y14 : Int64} {y16 : Int64} {x18 : Int32} {y19 : Int64} {x21 : Int32} {h : HP} {r : Int32 × HP}, knd a0 = 7 → k397_ a0 x1 y2 y4 y6 y8 y10 y12 y14 y16 x18 y19 x21 h = some r → Go l D ad aC (rmk m_Q_kept) (QM D ad aC m_Q_kept (.inl (some (.int r.1))) r.2) m_Q_kept 397 [some (.ref a0), some (.int x1), some (.long y2), none, some (.long y4), none, some (.long y6), none, some (.long y8), none, some (.long y10), none, some (.long y12), none, some (.long y14), none, some (.long y16), none, some (.int x18), some (.long y19), none, some (.int x21), none, none, none, none, none, none, none, none, none, none] [] h 0 0) {a0 : Nat} {x1 : Int32} {y2 : Int64} {y4 : Int64} {y6 : Int64} {y8 : Int64} {y10 : Int64} {y12 : Int64} {y14 : Int64} {y16 : Int64} {y19 : Int64} {x21 : Int32} {s0 : Int32} {s1 : Int32} {h : HP} {r : Int32 × HP} (k0 : knd a0 = 7) (e : f_Q_kept_794 k397_ a0 x1 y2 y4 y6 y8 y10 y12 y14 y16 y19 x21 s0 s1 h = some r) : Go l D ad aC (rmk m_Q_kept) (QM D ad aC m_Q_kept (.inl (some (.int r.1))) r.2) m_Q_kept 794 [some (.ref a0), some (.int x1), some (.long y2), none, some (.long y4), none, some (.long y6), none, some (.long y8), none, some (.long y10), none, some (.long y12), none, some (.long y14), none, some (.long y16), none, none, some (.long y19), none, some (.int x21), none, none, none, none, none, none, none, none, none, none] [.int s1, .int s0] h 0 0 := by
  unfold f_Q_kept_794 at e
  refine Go.run (pc' := 804) [.iadd, .istore 18, .lload 19, .aload_n 0, .iload 21, .bipush (11)] (ls' := [some (.ref a0), some (.int x1), some (.long y2), none, some (.long y4), none, some (.long y6), none, some (.long y8), none, some (.long y10), none, some (.long y12), none, some (.long y14), none, some (.long y16), none, some (.int (s0 + s1)), some (.long y19), none, some (.int x21), none, none, none, none, none, none, none, none, none, none]) (st' := [.int (11 : Int32), .int x21, .ref a0, .long y19]) (by decide +kernel) rfl rfl ?_
  obtain ⟨v1, e2, e⟩ := bd_inv e
  refine Go.callH (M2 := (mr m_Q_dealerOf (.inl none))) (as := [.ref a0, .int x21, .int (11 : Int32)]) (rest := [.long y19]) (v := some (.long v1.1)) (h1 := v1.2) (xn_Q_dealerOf hf hI k0 e2) (WH.mr wh_Q_126) (by decide +kernel) rfl rfl ⟨⟨Nat.le_of_ble_eq_true rfl, Nat.le_of_ble_eq_true rfl⟩, ⟨Nat.le_of_ble_eq_true rfl, Nat.le_of_ble_eq_true rfl⟩⟩ (Nat.le_of_ble_eq_true rfl) ?_
  show Go l D ad aC (rmk m_Q_kept) _ m_Q_kept 807 [some (.ref a0), some (.int x1), some (.long y2), none, some (.long y4), none, some (.long y6), none, some (.long y8), none, some (.long y10), none, some (.long y12), none, some (.long y14), none, some (.long y16), none, some (.int (s0 + s1)), some (.long y19), none, some (.int x21), none, none, none, none, none, none, none, none, none, none] [.long v1.1, .long y19] v1.2 0 0
  refine Go.run (pc' := 813) [.ladd, .lstore 19, .iinc 21 (1)] (ls' := [some (.ref a0), some (.int x1), some (.long y2), none, some (.long y4), none, some (.long y6), none, some (.long y8), none, some (.long y10), none, some (.long y12), none, some (.long y14), none, some (.long y16), none, some (.int (s0 + s1)), some (.long (y19 + v1.1)), none, some (.int (x21 + (1 : Int32))), none, none, none, none, none, none, none, none, none, none]) (st' := []) (by decide +kernel) rfl rfl ?_
  refine Go.goto (off := -416) (tgt := 397) (by decide +kernel) (by decide) ?_
  exact K397_ k0 e
def f_Q_kept_736 (k397_ : Nat → Int32 → Int64 → Int64 → Int64 → Int64 → Int64 → Int64 → Int64 → Int64 → Int32 → Int64 → Int32 → HP → Option (Int32 × HP)) (a0 : Nat) (x1 : Int32) (y2 : Int64) (y4 : Int64) (y6 : Int64) (y8 : Int64) (y10 : Int64) (y12 : Int64) (y14 : Int64) (y16 : Int64) (x18 : Int32) (y19 : Int64) (x21 : Int32) (x22 : Int32) (y23 : Int64) (h : HP) : Option (Int32 × HP) :=
  (g_Q_dealerOf h a0 x21 (6 : Int32)).bind fun v1 =>
  (g_Q_dealerOf v1.2 a0 x21 (7 : Int32)).bind fun v3 =>
  (g_Q_dealerOf v3.2 a0 x21 (8 : Int32)).bind fun v5 =>
  if x22 = 0 then
    f_Q_kept_794 k397_ a0 x1 y2 y4 y6 y8 (y10 + y23) (y12 + v1.1) (y14 + v3.1) (y16 + v5.1) y19 x21 x18 (0 : Int32) v5.2
  else
    f_Q_kept_794 k397_ a0 x1 y2 y4 y6 y8 (y10 + y23) (y12 + v1.1) (y14 + v3.1) (y16 + v5.1) y19 x21 x18 (1 : Int32) v5.2
set_option maxHeartbeats 4000000 in
theorem x_Q_kept_736 {l : Launch} {D : va_G} {ad : Nat → Nat} {aC : Nat → ClassId} (hf : l.flags = flags0) (hI : Inj ad) {k397_ : Nat → Int32 → Int64 → Int64 → Int64 → Int64 → Int64 → Int64 → Int64 → Int64 → Int32 → Int64 → Int32 → HP → Option (Int32 × HP)} (K397_ : ∀ {a0 : Nat} {x1 : Int32} {y2 : Int64} {y4 : Int64} {y6 : Int64} {y8 : Int64} {y10 : Int64} {y12 : Int64} {y14 : Int64} {y16 : Int64} {x18 : Int32} {y19 : Int64} {x21 : Int32} {h : HP} {r : Int32 × HP}, knd a0 = 7 → k397_ a0 x1 y2 y4 y6 y8 y10 y12 y14 y16 x18 y19 x21 h = some r → Go l D ad aC (rmk m_Q_kept) (QM D ad aC m_Q_kept (.inl (some (.int r.1))) r.2) m_Q_kept 397 [some (.ref a0), some (.int x1), some (.long y2), none, some (.long y4), none, some (.long y6), none, some (.long y8), none, some (.long y10), none, some (.long y12), none, some (.long y14), none, some (.long y16), none, some (.int x18), some (.long y19), none, some (.int x21), none, none, none, none, none, none, none, none, none, none] [] h 0 0) {a0 : Nat} {x1 : Int32} {y2 : Int64} {y4 : Int64} {y6 : Int64} {y8 : Int64} {y10 : Int64} {y12 : Int64} {y14 : Int64} {y16 : Int64} {x18 : Int32} {y19 : Int64} {x21 : Int32} {x22 : Int32} {y23 : Int64} {h : HP} {r : Int32 × HP} (k0 : knd a0 = 7) (e : f_Q_kept_736 k397_ a0 x1 y2 y4 y6 y8 y10 y12 y14 y16 x18 y19 x21 x22 y23 h = some r) : Go l D ad aC (rmk m_Q_kept) (QM D ad aC m_Q_kept (.inl (some (.int r.1))) r.2) m_Q_kept 736 [some (.ref a0), some (.int x1), some (.long y2), none, some (.long y4), none, some (.long y6), none, some (.long y8), none, some (.long y10), none, some (.long y12), none, some (.long y14), none, some (.long y16), none, some (.int x18), some (.long y19), none, some (.int x21), some (.int x22), some (.long y23), none, none, none, none, none, none, none, none] [] h 0 0 := by
  unfold f_Q_kept_736 at e
  refine Go.run (pc' := 750) [.lload 10, .lload 23, .ladd, .lstore 10, .lload 12, .aload_n 0, .iload 21, .bipush (6)] (ls' := [some (.ref a0), some (.int x1), some (.long y2), none, some (.long y4), none, some (.long y6), none, some (.long y8), none, some (.long (y10 + y23)), none, some (.long y12), none, some (.long y14), none, some (.long y16), none, some (.int x18), some (.long y19), none, some (.int x21), some (.int x22), some (.long y23), none, none, none, none, none, none, none, none]) (st' := [.int (6 : Int32), .int x21, .ref a0, .long y12]) (by decide +kernel) rfl rfl ?_
  obtain ⟨v1, e2, e⟩ := bd_inv e
  refine Go.callH (M2 := (mr m_Q_dealerOf (.inl none))) (as := [.ref a0, .int x21, .int (6 : Int32)]) (rest := [.long y12]) (v := some (.long v1.1)) (h1 := v1.2) (xn_Q_dealerOf hf hI k0 e2) (WH.mr wh_Q_126) (by decide +kernel) rfl rfl ⟨⟨Nat.le_of_ble_eq_true rfl, Nat.le_of_ble_eq_true rfl⟩, ⟨Nat.le_of_ble_eq_true rfl, Nat.le_of_ble_eq_true rfl⟩⟩ (Nat.le_of_ble_eq_true rfl) ?_
  show Go l D ad aC (rmk m_Q_kept) _ m_Q_kept 753 [some (.ref a0), some (.int x1), some (.long y2), none, some (.long y4), none, some (.long y6), none, some (.long y8), none, some (.long (y10 + y23)), none, some (.long y12), none, some (.long y14), none, some (.long y16), none, some (.int x18), some (.long y19), none, some (.int x21), some (.int x22), some (.long y23), none, none, none, none, none, none, none, none] [.long v1.1, .long y12] v1.2 0 0
  refine Go.run (pc' := 763) [.ladd, .lstore 12, .lload 14, .aload_n 0, .iload 21, .bipush (7)] (ls' := [some (.ref a0), some (.int x1), some (.long y2), none, some (.long y4), none, some (.long y6), none, some (.long y8), none, some (.long (y10 + y23)), none, some (.long (y12 + v1.1)), none, some (.long y14), none, some (.long y16), none, some (.int x18), some (.long y19), none, some (.int x21), some (.int x22), some (.long y23), none, none, none, none, none, none, none, none]) (st' := [.int (7 : Int32), .int x21, .ref a0, .long y14]) (by decide +kernel) rfl rfl ?_
  obtain ⟨v3, e4, e⟩ := bd_inv e
  refine Go.callH (M2 := (mr m_Q_dealerOf (.inl none))) (as := [.ref a0, .int x21, .int (7 : Int32)]) (rest := [.long y14]) (v := some (.long v3.1)) (h1 := v3.2) (xn_Q_dealerOf hf hI k0 e4) (WH.mr wh_Q_126) (by decide +kernel) rfl rfl ⟨⟨Nat.le_of_ble_eq_true rfl, Nat.le_of_ble_eq_true rfl⟩, ⟨Nat.le_of_ble_eq_true rfl, Nat.le_of_ble_eq_true rfl⟩⟩ (Nat.le_of_ble_eq_true rfl) ?_
  show Go l D ad aC (rmk m_Q_kept) _ m_Q_kept 766 [some (.ref a0), some (.int x1), some (.long y2), none, some (.long y4), none, some (.long y6), none, some (.long y8), none, some (.long (y10 + y23)), none, some (.long (y12 + v1.1)), none, some (.long y14), none, some (.long y16), none, some (.int x18), some (.long y19), none, some (.int x21), some (.int x22), some (.long y23), none, none, none, none, none, none, none, none] [.long v3.1, .long y14] v3.2 0 0
  refine Go.run (pc' := 776) [.ladd, .lstore 14, .lload 16, .aload_n 0, .iload 21, .bipush (8)] (ls' := [some (.ref a0), some (.int x1), some (.long y2), none, some (.long y4), none, some (.long y6), none, some (.long y8), none, some (.long (y10 + y23)), none, some (.long (y12 + v1.1)), none, some (.long (y14 + v3.1)), none, some (.long y16), none, some (.int x18), some (.long y19), none, some (.int x21), some (.int x22), some (.long y23), none, none, none, none, none, none, none, none]) (st' := [.int (8 : Int32), .int x21, .ref a0, .long y16]) (by decide +kernel) rfl rfl ?_
  obtain ⟨v5, e6, e⟩ := bd_inv e
  refine Go.callH (M2 := (mr m_Q_dealerOf (.inl none))) (as := [.ref a0, .int x21, .int (8 : Int32)]) (rest := [.long y16]) (v := some (.long v5.1)) (h1 := v5.2) (xn_Q_dealerOf hf hI k0 e6) (WH.mr wh_Q_126) (by decide +kernel) rfl rfl ⟨⟨Nat.le_of_ble_eq_true rfl, Nat.le_of_ble_eq_true rfl⟩, ⟨Nat.le_of_ble_eq_true rfl, Nat.le_of_ble_eq_true rfl⟩⟩ (Nat.le_of_ble_eq_true rfl) ?_
  show Go l D ad aC (rmk m_Q_kept) _ m_Q_kept 779 [some (.ref a0), some (.int x1), some (.long y2), none, some (.long y4), none, some (.long y6), none, some (.long y8), none, some (.long (y10 + y23)), none, some (.long (y12 + v1.1)), none, some (.long (y14 + v3.1)), none, some (.long y16), none, some (.int x18), some (.long y19), none, some (.int x21), some (.int x22), some (.long y23), none, none, none, none, none, none, none, none] [.long v5.1, .long y16] v5.2 0 0
  refine Go.run (pc' := 786) [.ladd, .lstore 16, .iload 18, .iload 22] (ls' := [some (.ref a0), some (.int x1), some (.long y2), none, some (.long y4), none, some (.long y6), none, some (.long y8), none, some (.long (y10 + y23)), none, some (.long (y12 + v1.1)), none, some (.long (y14 + v3.1)), none, some (.long (y16 + v5.1)), none, some (.int x18), some (.long y19), none, some (.int x21), some (.int x22), some (.long y23), none, none, none, none, none, none, none, none]) (st' := [.int x22, .int x18]) (by decide +kernel) rfl rfl ?_
  refine Go.if_eq (off := 7) (tgt := 793) (by decide +kernel) (by decide) (fun c7 => ?_) (fun c7 => ?_)
  · replace e := ite_t c7 e
    refine Go.run (pc' := 794) [.iconst 0] (ls' := [some (.ref a0), some (.int x1), some (.long y2), none, some (.long y4), none, some (.long y6), none, some (.long y8), none, some (.long (y10 + y23)), none, some (.long (y12 + v1.1)), none, some (.long (y14 + v3.1)), none, some (.long (y16 + v5.1)), none, some (.int x18), some (.long y19), none, some (.int x21), some (.int x22), some (.long y23), none, none, none, none, none, none, none, none]) (st' := [.int (0 : Int32), .int x18]) (by decide +kernel) rfl rfl ?_
    refine Go.wk' (wks (wks (wks (wks (wks (wks (wks (wks (wks (wks (wks (wks (wks (wks (wks (wks (wks (wks (wkn (wks (wks (wks (wkn (wkn (wks (wks (wks (wks (wks (wks (wks (wks wk0)))))))))))))))))))))))))))))))) ?_
    exact x_Q_kept_794 hf hI K397_ k0 e
  · replace e := ite_f c7 e
    refine Go.run (pc' := 790) [.iconst 1] (ls' := [some (.ref a0), some (.int x1), some (.long y2), none, some (.long y4), none, some (.long y6), none, some (.long y8), none, some (.long (y10 + y23)), none, some (.long (y12 + v1.1)), none, some (.long (y14 + v3.1)), none, some (.long (y16 + v5.1)), none, some (.int x18), some (.long y19), none, some (.int x21), some (.int x22), some (.long y23), none, none, none, none, none, none, none, none]) (st' := [.int (1 : Int32), .int x18]) (by decide +kernel) rfl rfl ?_
    refine Go.goto (off := 4) (tgt := 794) (by decide +kernel) (by decide) ?_
    refine Go.wk' (wks (wks (wks (wks (wks (wks (wks (wks (wks (wks (wks (wks (wks (wks (wks (wks (wks (wks (wkn (wks (wks (wks (wkn (wkn (wks (wks (wks (wks (wks (wks (wks (wks wk0)))))))))))))))))))))))))))))))) ?_
    exact x_Q_kept_794 hf hI K397_ k0 e
def f_Q_kept_729 (k397_ : Nat → Int32 → Int64 → Int64 → Int64 → Int64 → Int64 → Int64 → Int64 → Int64 → Int32 → Int64 → Int32 → HP → Option (Int32 × HP)) (k613_ : Nat → Int32 → Int64 → Int64 → Int64 → Int64 → Int64 → Int64 → Int64 → Int64 → Int32 → Int64 → Int32 → Int32 → Int64 → Int32 → HP → Option (Int32 × HP)) (a0 : Nat) (y2 : Int64) (y4 : Int64) (y6 : Int64) (y8 : Int64) (y10 : Int64) (y12 : Int64) (y14 : Int64) (y16 : Int64) (x18 : Int32) (y19 : Int64) (x21 : Int32) (x22 : Int32) (y23 : Int64) (x25 : Int32) (s0 : Int32) (h : HP) : Option (Int32 × HP) :=
  k613_ a0 s0 y2 y4 y6 y8 y10 y12 y14 y16 x18 y19 x21 x22 y23 (x25 + (1 : Int32)) h
set_option maxHeartbeats 4000000 in
theorem x_Q_kept_729 {l : Launch} {D : va_G} {ad : Nat → Nat} {aC : Nat → ClassId} (hf : l.flags = flags0) (hI : Inj ad) {k397_ : Nat → Int32 → Int64 → Int64 → Int64 → Int64 → Int64 → Int64 → Int64 → Int64 → Int32 → Int64 → Int32 → HP → Option (Int32 × HP)} {k613_ : Nat → Int32 → Int64 → Int64 → Int64 → Int64 → Int64 → Int64 → Int64 → Int64 → Int32 → Int64 → Int32 → Int32 → Int64 → Int32 → HP → Option (Int32 × HP)} (K397_ : ∀ {a0 : Nat} {x1 : Int32} {y2 : Int64} {y4 : Int64} {y6 : Int64} {y8 : Int64} {y10 : Int64} {y12 : Int64} {y14 : Int64} {y16 : Int64} {x18 : Int32} {y19 : Int64} {x21 : Int32} {h : HP} {r : Int32 × HP}, knd a0 = 7 → k397_ a0 x1 y2 y4 y6 y8 y10 y12 y14 y16 x18 y19 x21 h = some r → Go l D ad aC (rmk m_Q_kept) (QM D ad aC m_Q_kept (.inl (some (.int r.1))) r.2) m_Q_kept 397 [some (.ref a0), some (.int x1), some (.long y2), none, some (.long y4), none, some (.long y6), none, some (.long y8), none, some (.long y10), none, some (.long y12), none, some (.long y14), none, some (.long y16), none, some (.int x18), some (.long y19), none, some (.int x21), none, none, none, none, none, none, none, none, none, none] [] h 0 0) (K613_ : ∀ {a0 : Nat} {x1 : Int32} {y2 : Int64} {y4 : Int64} {y6 : Int64} {y8 : Int64} {y10 : Int64} {y12 : Int64} {y14 : Int64} {y16 : Int64} {x18 : Int32} {y19 : Int64} {x21 : Int32} {x22 : Int32} {y23 : Int64} {x25 : Int32} {h : HP} {r : Int32 × HP}, knd a0 = 7 → k613_ a0 x1 y2 y4 y6 y8 y10 y12 y14 y16 x18 y19 x21 x22 y23 x25 h = some r → Go l D ad aC (rmk m_Q_kept) (QM D ad aC m_Q_kept (.inl (some (.int r.1))) r.2) m_Q_kept 613 [some (.ref a0), some (.int x1), some (.long y2), none, some (.long y4), none, some (.long y6), none, some (.long y8), none, some (.long y10), none, some (.long y12), none, some (.long y14), none, some (.long y16), none, some (.int x18), some (.long y19), none, some (.int x21), some (.int x22), some (.long y23), none, some (.int x25), none, none, none, none, none, none] [] h 0 0) {a0 : Nat} {y2 : Int64} {y4 : Int64} {y6 : Int64} {y8 : Int64} {y10 : Int64} {y12 : Int64} {y14 : Int64} {y16 : Int64} {x18 : Int32} {y19 : Int64} {x21 : Int32} {x22 : Int32} {y23 : Int64} {x25 : Int32} {s0 : Int32} {h : HP} {r : Int32 × HP} (k0 : knd a0 = 7) (e : f_Q_kept_729 k397_ k613_ a0 y2 y4 y6 y8 y10 y12 y14 y16 x18 y19 x21 x22 y23 x25 s0 h = some r) : Go l D ad aC (rmk m_Q_kept) (QM D ad aC m_Q_kept (.inl (some (.int r.1))) r.2) m_Q_kept 729 [some (.ref a0), none, some (.long y2), none, some (.long y4), none, some (.long y6), none, some (.long y8), none, some (.long y10), none, some (.long y12), none, some (.long y14), none, some (.long y16), none, some (.int x18), some (.long y19), none, some (.int x21), some (.int x22), some (.long y23), none, some (.int x25), none, none, none, none, none, none] [.int s0] h 0 0 := by
  unfold f_Q_kept_729 at e
  refine Go.run (pc' := 733) [.istore_n 1, .iinc 25 (1)] (ls' := [some (.ref a0), some (.int s0), some (.long y2), none, some (.long y4), none, some (.long y6), none, some (.long y8), none, some (.long y10), none, some (.long y12), none, some (.long y14), none, some (.long y16), none, some (.int x18), some (.long y19), none, some (.int x21), some (.int x22), some (.long y23), none, some (.int (x25 + (1 : Int32))), none, none, none, none, none, none]) (st' := []) (by decide +kernel) rfl rfl ?_
  refine Go.goto (off := -120) (tgt := 613) (by decide +kernel) (by decide) ?_
  exact K613_ k0 e
def f_Q_kept_728 (k397_ : Nat → Int32 → Int64 → Int64 → Int64 → Int64 → Int64 → Int64 → Int64 → Int64 → Int32 → Int64 → Int32 → HP → Option (Int32 × HP)) (k613_ : Nat → Int32 → Int64 → Int64 → Int64 → Int64 → Int64 → Int64 → Int64 → Int64 → Int32 → Int64 → Int32 → Int32 → Int64 → Int32 → HP → Option (Int32 × HP)) (a0 : Nat) (y2 : Int64) (y4 : Int64) (y6 : Int64) (y8 : Int64) (y10 : Int64) (y12 : Int64) (y14 : Int64) (y16 : Int64) (x18 : Int32) (y19 : Int64) (x21 : Int32) (x22 : Int32) (y23 : Int64) (x25 : Int32) (h : HP) : Option (Int32 × HP) :=
  f_Q_kept_729 k397_ k613_ a0 y2 y4 y6 y8 y10 y12 y14 y16 x18 y19 x21 x22 y23 x25 (0 : Int32) h
set_option maxHeartbeats 4000000 in
theorem x_Q_kept_728 {l : Launch} {D : va_G} {ad : Nat → Nat} {aC : Nat → ClassId} (hf : l.flags = flags0) (hI : Inj ad) {k397_ : Nat → Int32 → Int64 → Int64 → Int64 → Int64 → Int64 → Int64 → Int64 → Int64 → Int32 → Int64 → Int32 → HP → Option (Int32 × HP)} {k613_ : Nat → Int32 → Int64 → Int64 → Int64 → Int64 → Int64 → Int64 → Int64 → Int64 → Int32 → Int64 → Int32 → Int32 → Int64 → Int32 → HP → Option (Int32 × HP)} (K397_ : ∀ {a0 : Nat} {x1 : Int32} {y2 : Int64} {y4 : Int64} {y6 : Int64} {y8 : Int64} {y10 : Int64} {y12 : Int64} {y14 : Int64} {y16 : Int64} {x18 : Int32} {y19 : Int64} {x21 : Int32} {h : HP} {r : Int32 × HP}, knd a0 = 7 → k397_ a0 x1 y2 y4 y6 y8 y10 y12 y14 y16 x18 y19 x21 h = some r → Go l D ad aC (rmk m_Q_kept) (QM D ad aC m_Q_kept (.inl (some (.int r.1))) r.2) m_Q_kept 397 [some (.ref a0), some (.int x1), some (.long y2), none, some (.long y4), none, some (.long y6), none, some (.long y8), none, some (.long y10), none, some (.long y12), none, some (.long y14), none, some (.long y16), none, some (.int x18), some (.long y19), none, some (.int x21), none, none, none, none, none, none, none, none, none, none] [] h 0 0) (K613_ : ∀ {a0 : Nat} {x1 : Int32} {y2 : Int64} {y4 : Int64} {y6 : Int64} {y8 : Int64} {y10 : Int64} {y12 : Int64} {y14 : Int64} {y16 : Int64} {x18 : Int32} {y19 : Int64} {x21 : Int32} {x22 : Int32} {y23 : Int64} {x25 : Int32} {h : HP} {r : Int32 × HP}, knd a0 = 7 → k613_ a0 x1 y2 y4 y6 y8 y10 y12 y14 y16 x18 y19 x21 x22 y23 x25 h = some r → Go l D ad aC (rmk m_Q_kept) (QM D ad aC m_Q_kept (.inl (some (.int r.1))) r.2) m_Q_kept 613 [some (.ref a0), some (.int x1), some (.long y2), none, some (.long y4), none, some (.long y6), none, some (.long y8), none, some (.long y10), none, some (.long y12), none, some (.long y14), none, some (.long y16), none, some (.int x18), some (.long y19), none, some (.int x21), some (.int x22), some (.long y23), none, some (.int x25), none, none, none, none, none, none] [] h 0 0) {a0 : Nat} {y2 : Int64} {y4 : Int64} {y6 : Int64} {y8 : Int64} {y10 : Int64} {y12 : Int64} {y14 : Int64} {y16 : Int64} {x18 : Int32} {y19 : Int64} {x21 : Int32} {x22 : Int32} {y23 : Int64} {x25 : Int32} {h : HP} {r : Int32 × HP} (k0 : knd a0 = 7) (e : f_Q_kept_728 k397_ k613_ a0 y2 y4 y6 y8 y10 y12 y14 y16 x18 y19 x21 x22 y23 x25 h = some r) : Go l D ad aC (rmk m_Q_kept) (QM D ad aC m_Q_kept (.inl (some (.int r.1))) r.2) m_Q_kept 728 [some (.ref a0), none, some (.long y2), none, some (.long y4), none, some (.long y6), none, some (.long y8), none, some (.long y10), none, some (.long y12), none, some (.long y14), none, some (.long y16), none, some (.int x18), some (.long y19), none, some (.int x21), some (.int x22), some (.long y23), none, some (.int x25), none, none, none, none, none, none] [] h 0 0 := by
  unfold f_Q_kept_728 at e
  refine Go.run (pc' := 729) [.iconst 0] (ls' := [some (.ref a0), none, some (.long y2), none, some (.long y4), none, some (.long y6), none, some (.long y8), none, some (.long y10), none, some (.long y12), none, some (.long y14), none, some (.long y16), none, some (.int x18), some (.long y19), none, some (.int x21), some (.int x22), some (.long y23), none, some (.int x25), none, none, none, none, none, none]) (st' := [.int (0 : Int32)]) (by decide +kernel) rfl rfl ?_
  exact x_Q_kept_729 hf hI K397_ K613_ k0 e
def f_Q_kept_724 (k397_ : Nat → Int32 → Int64 → Int64 → Int64 → Int64 → Int64 → Int64 → Int64 → Int64 → Int32 → Int64 → Int32 → HP → Option (Int32 × HP)) (k613_ : Nat → Int32 → Int64 → Int64 → Int64 → Int64 → Int64 → Int64 → Int64 → Int64 → Int32 → Int64 → Int32 → Int32 → Int64 → Int32 → HP → Option (Int32 × HP)) (a0 : Nat) (y2 : Int64) (y4 : Int64) (y6 : Int64) (y8 : Int64) (y10 : Int64) (y12 : Int64) (y14 : Int64) (y16 : Int64) (x18 : Int32) (y19 : Int64) (x21 : Int32) (x22 : Int32) (y23 : Int64) (x25 : Int32) (h : HP) : Option (Int32 × HP) :=
  f_Q_kept_729 k397_ k613_ a0 y2 y4 y6 y8 y10 y12 y14 y16 x18 y19 x21 x22 y23 x25 (1 : Int32) h
set_option maxHeartbeats 4000000 in
theorem x_Q_kept_724 {l : Launch} {D : va_G} {ad : Nat → Nat} {aC : Nat → ClassId} (hf : l.flags = flags0) (hI : Inj ad) {k397_ : Nat → Int32 → Int64 → Int64 → Int64 → Int64 → Int64 → Int64 → Int64 → Int64 → Int32 → Int64 → Int32 → HP → Option (Int32 × HP)} {k613_ : Nat → Int32 → Int64 → Int64 → Int64 → Int64 → Int64 → Int64 → Int64 → Int64 → Int32 → Int64 → Int32 → Int32 → Int64 → Int32 → HP → Option (Int32 × HP)} (K397_ : ∀ {a0 : Nat} {x1 : Int32} {y2 : Int64} {y4 : Int64} {y6 : Int64} {y8 : Int64} {y10 : Int64} {y12 : Int64} {y14 : Int64} {y16 : Int64} {x18 : Int32} {y19 : Int64} {x21 : Int32} {h : HP} {r : Int32 × HP}, knd a0 = 7 → k397_ a0 x1 y2 y4 y6 y8 y10 y12 y14 y16 x18 y19 x21 h = some r → Go l D ad aC (rmk m_Q_kept) (QM D ad aC m_Q_kept (.inl (some (.int r.1))) r.2) m_Q_kept 397 [some (.ref a0), some (.int x1), some (.long y2), none, some (.long y4), none, some (.long y6), none, some (.long y8), none, some (.long y10), none, some (.long y12), none, some (.long y14), none, some (.long y16), none, some (.int x18), some (.long y19), none, some (.int x21), none, none, none, none, none, none, none, none, none, none] [] h 0 0) (K613_ : ∀ {a0 : Nat} {x1 : Int32} {y2 : Int64} {y4 : Int64} {y6 : Int64} {y8 : Int64} {y10 : Int64} {y12 : Int64} {y14 : Int64} {y16 : Int64} {x18 : Int32} {y19 : Int64} {x21 : Int32} {x22 : Int32} {y23 : Int64} {x25 : Int32} {h : HP} {r : Int32 × HP}, knd a0 = 7 → k613_ a0 x1 y2 y4 y6 y8 y10 y12 y14 y16 x18 y19 x21 x22 y23 x25 h = some r → Go l D ad aC (rmk m_Q_kept) (QM D ad aC m_Q_kept (.inl (some (.int r.1))) r.2) m_Q_kept 613 [some (.ref a0), some (.int x1), some (.long y2), none, some (.long y4), none, some (.long y6), none, some (.long y8), none, some (.long y10), none, some (.long y12), none, some (.long y14), none, some (.long y16), none, some (.int x18), some (.long y19), none, some (.int x21), some (.int x22), some (.long y23), none, some (.int x25), none, none, none, none, none, none] [] h 0 0) {a0 : Nat} {y2 : Int64} {y4 : Int64} {y6 : Int64} {y8 : Int64} {y10 : Int64} {y12 : Int64} {y14 : Int64} {y16 : Int64} {x18 : Int32} {y19 : Int64} {x21 : Int32} {x22 : Int32} {y23 : Int64} {x25 : Int32} {h : HP} {r : Int32 × HP} (k0 : knd a0 = 7) (e : f_Q_kept_724 k397_ k613_ a0 y2 y4 y6 y8 y10 y12 y14 y16 x18 y19 x21 x22 y23 x25 h = some r) : Go l D ad aC (rmk m_Q_kept) (QM D ad aC m_Q_kept (.inl (some (.int r.1))) r.2) m_Q_kept 724 [some (.ref a0), none, some (.long y2), none, some (.long y4), none, some (.long y6), none, some (.long y8), none, some (.long y10), none, some (.long y12), none, some (.long y14), none, some (.long y16), none, some (.int x18), some (.long y19), none, some (.int x21), some (.int x22), some (.long y23), none, some (.int x25), none, none, none, none, none, none] [] h 0 0 := by
  unfold f_Q_kept_724 at e
  refine Go.run (pc' := 725) [.iconst 1] (ls' := [some (.ref a0), none, some (.long y2), none, some (.long y4), none, some (.long y6), none, some (.long y8), none, some (.long y10), none, some (.long y12), none, some (.long y14), none, some (.long y16), none, some (.int x18), some (.long y19), none, some (.int x21), some (.int x22), some (.long y23), none, some (.int x25), none, none, none, none, none, none]) (st' := [.int (1 : Int32)]) (by decide +kernel) rfl rfl ?_
  refine Go.goto (off := 4) (tgt := 729) (by decide +kernel) (by decide) ?_
  exact x_Q_kept_729 hf hI K397_ K613_ k0 e
def f_Q_kept_684 (k397_ : Nat → Int32 → Int64 → Int64 → Int64 → Int64 → Int64 → Int64 → Int64 → Int64 → Int32 → Int64 → Int32 → HP → Option (Int32 × HP)) (k613_ : Nat → Int32 → Int64 → Int64 → Int64 → Int64 → Int64 → Int64 → Int64 → Int64 → Int32 → Int64 → Int32 → Int32 → Int64 → Int32 → HP → Option (Int32 × HP)) (a0 : Nat) (y2 : Int64) (y4 : Int64) (y6 : Int64) (y8 : Int64) (y10 : Int64) (y12 : Int64) (y14 : Int64) (y16 : Int64) (x18 : Int32) (y19 : Int64) (x21 : Int32) (x22 : Int32) (y23 : Int64) (x25 : Int32) (y26 : Int64) (y28 : Int64) (y30 : Int64) (s0 : Int32) (s1 : Int32) (h : HP) : Option (Int32 × HP) :=
  if s0 = s1 then
    if (lg_cmp y26 (-1 : Int64)) = 0 then
      f_Q_kept_724 k397_ k613_ a0 y2 y4 y6 y8 y10 y12 y14 y16 x18 y19 x21 x22 y23 x25 h
    else
      (g_Q_setting h a0 (1 : Int32)).bind fun v3 =>
      if (lg_cmp y26 (y28 - v3.1)) < 0 then
        f_Q_kept_728 k397_ k613_ a0 y2 y4 y6 y8 y10 y12 y14 y16 x18 y19 x21 x22 y23 x25 v3.2
      else
        (g_Q_setting v3.2 a0 (1 : Int32)).bind fun v6 =>
        if 0 < (lg_cmp y26 (y30 + v6.1)) then
          f_Q_kept_728 k397_ k613_ a0 y2 y4 y6 y8 y10 y12 y14 y16 x18 y19 x21 x22 y23 x25 v6.2
        else
          f_Q_kept_724 k397_ k613_ a0 y2 y4 y6 y8 y10 y12 y14 y16 x18 y19 x21 x22 y23 x25 v6.2
  else
    f_Q_kept_728 k397_ k613_ a0 y2 y4 y6 y8 y10 y12 y14 y16 x18 y19 x21 x22 y23 x25 h
set_option maxHeartbeats 4000000 in
theorem x_Q_kept_684 {l : Launch} {D : va_G} {ad : Nat → Nat} {aC : Nat → ClassId} (hf : l.flags = flags0) (hI : Inj ad) {k397_ : Nat → Int32 → Int64 → Int64 → Int64 → Int64 → Int64 → Int64 → Int64 → Int64 → Int32 → Int64 → Int32 → HP → Option (Int32 × HP)} {k613_ : Nat → Int32 → Int64 → Int64 → Int64 → Int64 → Int64 → Int64 → Int64 → Int64 → Int32 → Int64 → Int32 → Int32 → Int64 → Int32 → HP → Option (Int32 × HP)} (K397_ : ∀ {a0 : Nat} {x1 : Int32} {y2 : Int64} {y4 : Int64} {y6 : Int64} {y8 : Int64} {y10 : Int64} {y12 : Int64} {y14 : Int64} {y16 : Int64} {x18 : Int32} {y19 : Int64} {x21 : Int32} {h : HP} {r : Int32 × HP}, knd a0 = 7 → k397_ a0 x1 y2 y4 y6 y8 y10 y12 y14 y16 x18 y19 x21 h = some r → Go l D ad aC (rmk m_Q_kept) (QM D ad aC m_Q_kept (.inl (some (.int r.1))) r.2) m_Q_kept 397 [some (.ref a0), some (.int x1), some (.long y2), none, some (.long y4), none, some (.long y6), none, some (.long y8), none, some (.long y10), none, some (.long y12), none, some (.long y14), none, some (.long y16), none, some (.int x18), some (.long y19), none, some (.int x21), none, none, none, none, none, none, none, none, none, none] [] h 0 0) (K613_ : ∀ {a0 : Nat} {x1 : Int32} {y2 : Int64} {y4 : Int64} {y6 : Int64} {y8 : Int64} {y10 : Int64} {y12 : Int64} {y14 : Int64} {y16 : Int64} {x18 : Int32} {y19 : Int64} {x21 : Int32} {x22 : Int32} {y23 : Int64} {x25 : Int32} {h : HP} {r : Int32 × HP}, knd a0 = 7 → k613_ a0 x1 y2 y4 y6 y8 y10 y12 y14 y16 x18 y19 x21 x22 y23 x25 h = some r → Go l D ad aC (rmk m_Q_kept) (QM D ad aC m_Q_kept (.inl (some (.int r.1))) r.2) m_Q_kept 613 [some (.ref a0), some (.int x1), some (.long y2), none, some (.long y4), none, some (.long y6), none, some (.long y8), none, some (.long y10), none, some (.long y12), none, some (.long y14), none, some (.long y16), none, some (.int x18), some (.long y19), none, some (.int x21), some (.int x22), some (.long y23), none, some (.int x25), none, none, none, none, none, none] [] h 0 0) {a0 : Nat} {y2 : Int64} {y4 : Int64} {y6 : Int64} {y8 : Int64} {y10 : Int64} {y12 : Int64} {y14 : Int64} {y16 : Int64} {x18 : Int32} {y19 : Int64} {x21 : Int32} {x22 : Int32} {y23 : Int64} {x25 : Int32} {y26 : Int64} {y28 : Int64} {y30 : Int64} {s0 : Int32} {s1 : Int32} {h : HP} {r : Int32 × HP} (k0 : knd a0 = 7) (e : f_Q_kept_684 k397_ k613_ a0 y2 y4 y6 y8 y10 y12 y14 y16 x18 y19 x21 x22 y23 x25 y26 y28 y30 s0 s1 h = some r) : Go l D ad aC (rmk m_Q_kept) (QM D ad aC m_Q_kept (.inl (some (.int r.1))) r.2) m_Q_kept 684 [some (.ref a0), none, some (.long y2), none, some (.long y4), none, some (.long y6), none, some (.long y8), none, some (.long y10), none, some (.long y12), none, some (.long y14), none, some (.long y16), none, some (.int x18), some (.long y19), none, some (.int x21), some (.int x22), some (.long y23), none, some (.int x25), some (.long y26), none, some (.long y28), none, some (.long y30), none] [.int s1, .int s0] h 0 0 := by
  unfold f_Q_kept_684 at e
  refine Go.ic_ne (off := 44) (tgt := 728) (by decide +kernel) (by decide) (fun c1 => ?_) (fun c1 => ?_)
  · replace e := ite_f c1 e
    refine Go.wk' (wks (wks (wks (wks (wks (wks (wks (wks (wks (wks (wks (wks (wks (wks (wks (wks (wks (wks (wks (wks (wks (wks (wks (wks (wks (wks (wkn (wks (wkn (wks (wkn (wks wk0)))))))))))))))))))))))))))))))) ?_
    exact x_Q_kept_728 hf hI K397_ K613_ k0 e
  · replace e := ite_t c1 e
    refine Go.run (pc' := 689) [.lload 26] (ls' := [some (.ref a0), none, some (.long y2), none, some (.long y4), none, some (.long y6), none, some (.long y8), none, some (.long y10), none, some (.long y12), none, some (.long y14), none, some (.long y16), none, some (.int x18), some (.long y19), none, some (.int x21), some (.int x22), some (.long y23), none, some (.int x25), some (.long y26), none, some (.long y28), none, some (.long y30), none]) (st' := [.long y26]) (by decide +kernel) rfl rfl ?_
    refine Go.ldc2 lo_Q_160 (by decide +kernel) ?_
    refine Go.run (pc' := 693) [.lcmp] (ls' := [some (.ref a0), none, some (.long y2), none, some (.long y4), none, some (.long y6), none, some (.long y8), none, some (.long y10), none, some (.long y12), none, some (.long y14), none, some (.long y16), none, some (.int x18), some (.long y19), none, some (.int x21), some (.int x22), some (.long y23), none, some (.int x25), some (.long y26), none, some (.long y28), none, some (.long y30), none]) (st' := [.int (lg_cmp y26 (-1 : Int64))]) (by decide +kernel) rfl rfl ?_
    refine Go.if_eq (off := 31) (tgt := 724) (by decide +kernel) (by decide) (fun c2 => ?_) (fun c2 => ?_)
    · replace e := ite_t c2 e
      refine Go.wk' (wks (wks (wks (wks (wks (wks (wks (wks (wks (wks (wks (wks (wks (wks (wks (wks (wks (wks (wks (wks (wks (wks (wks (wks (wks (wks (wkn (wks (wkn (wks (wkn (wks wk0)))))))))))))))))))))))))))))))) ?_
      exact x_Q_kept_724 hf hI K397_ K613_ k0 e
    · replace e := ite_f c2 e
      refine Go.run (pc' := 702) [.lload 26, .lload 28, .aload_n 0, .iconst 1] (ls' := [some (.ref a0), none, some (.long y2), none, some (.long y4), none, some (.long y6), none, some (.long y8), none, some (.long y10), none, some (.long y12), none, some (.long y14), none, some (.long y16), none, some (.int x18), some (.long y19), none, some (.int x21), some (.int x22), some (.long y23), none, some (.int x25), some (.long y26), none, some (.long y28), none, some (.long y30), none]) (st' := [.int (1 : Int32), .ref a0, .long y28, .long y26]) (by decide +kernel) rfl rfl ?_
      obtain ⟨v3, e4, e⟩ := bd_inv e
      refine Go.callH (M2 := (mr m_Q_setting (.inl none))) (as := [.ref a0, .int (1 : Int32)]) (rest := [.long y28, .long y26]) (v := some (.long v3.1)) (h1 := v3.2) (xn_Q_setting hf hI k0 e4) (WH.mr wh_Q_118) (by decide +kernel) rfl rfl ⟨⟨Nat.le_of_ble_eq_true rfl, Nat.le_of_ble_eq_true rfl⟩, ⟨Nat.le_of_ble_eq_true rfl, Nat.le_of_ble_eq_true rfl⟩⟩ (Nat.le_of_ble_eq_true rfl) ?_
      show Go l D ad aC (rmk m_Q_kept) _ m_Q_kept 705 [some (.ref a0), none, some (.long y2), none, some (.long y4), none, some (.long y6), none, some (.long y8), none, some (.long y10), none, some (.long y12), none, some (.long y14), none, some (.long y16), none, some (.int x18), some (.long y19), none, some (.int x21), some (.int x22), some (.long y23), none, some (.int x25), some (.long y26), none, some (.long y28), none, some (.long y30), none] [.long v3.1, .long y28, .long y26] v3.2 0 0
      refine Go.run (pc' := 707) [.lsub, .lcmp] (ls' := [some (.ref a0), none, some (.long y2), none, some (.long y4), none, some (.long y6), none, some (.long y8), none, some (.long y10), none, some (.long y12), none, some (.long y14), none, some (.long y16), none, some (.int x18), some (.long y19), none, some (.int x21), some (.int x22), some (.long y23), none, some (.int x25), some (.long y26), none, some (.long y28), none, some (.long y30), none]) (st' := [.int (lg_cmp y26 (y28 - v3.1))]) (by decide +kernel) rfl rfl ?_
      refine Go.if_lt (off := 21) (tgt := 728) (by decide +kernel) (by decide) (fun c5 => ?_) (fun c5 => ?_)
      · replace e := ite_t c5 e
        refine Go.wk' (wks (wks (wks (wks (wks (wks (wks (wks (wks (wks (wks (wks (wks (wks (wks (wks (wks (wks (wks (wks (wks (wks (wks (wks (wks (wks (wkn (wks (wkn (wks (wkn (wks wk0)))))))))))))))))))))))))))))))) ?_
        exact x_Q_kept_728 hf hI K397_ K613_ k0 e
      · replace e := ite_f c5 e
        refine Go.run (pc' := 716) [.lload 26, .lload 30, .aload_n 0, .iconst 1] (ls' := [some (.ref a0), none, some (.long y2), none, some (.long y4), none, some (.long y6), none, some (.long y8), none, some (.long y10), none, some (.long y12), none, some (.long y14), none, some (.long y16), none, some (.int x18), some (.long y19), none, some (.int x21), some (.int x22), some (.long y23), none, some (.int x25), some (.long y26), none, some (.long y28), none, some (.long y30), none]) (st' := [.int (1 : Int32), .ref a0, .long y30, .long y26]) (by decide +kernel) rfl rfl ?_
        obtain ⟨v6, e7, e⟩ := bd_inv e
        refine Go.callH (M2 := (mr m_Q_setting (.inl none))) (as := [.ref a0, .int (1 : Int32)]) (rest := [.long y30, .long y26]) (v := some (.long v6.1)) (h1 := v6.2) (xn_Q_setting hf hI k0 e7) (WH.mr wh_Q_118) (by decide +kernel) rfl rfl ⟨⟨Nat.le_of_ble_eq_true rfl, Nat.le_of_ble_eq_true rfl⟩, ⟨Nat.le_of_ble_eq_true rfl, Nat.le_of_ble_eq_true rfl⟩⟩ (Nat.le_of_ble_eq_true rfl) ?_
        show Go l D ad aC (rmk m_Q_kept) _ m_Q_kept 719 [some (.ref a0), none, some (.long y2), none, some (.long y4), none, some (.long y6), none, some (.long y8), none, some (.long y10), none, some (.long y12), none, some (.long y14), none, some (.long y16), none, some (.int x18), some (.long y19), none, some (.int x21), some (.int x22), some (.long y23), none, some (.int x25), some (.long y26), none, some (.long y28), none, some (.long y30), none] [.long v6.1, .long y30, .long y26] v6.2 0 0
        refine Go.run (pc' := 721) [.ladd, .lcmp] (ls' := [some (.ref a0), none, some (.long y2), none, some (.long y4), none, some (.long y6), none, some (.long y8), none, some (.long y10), none, some (.long y12), none, some (.long y14), none, some (.long y16), none, some (.int x18), some (.long y19), none, some (.int x21), some (.int x22), some (.long y23), none, some (.int x25), some (.long y26), none, some (.long y28), none, some (.long y30), none]) (st' := [.int (lg_cmp y26 (y30 + v6.1))]) (by decide +kernel) rfl rfl ?_
        refine Go.if_gt (off := 7) (tgt := 728) (by decide +kernel) (by decide) (fun c8 => ?_) (fun c8 => ?_)
        · replace e := ite_t c8 e
          refine Go.wk' (wks (wks (wks (wks (wks (wks (wks (wks (wks (wks (wks (wks (wks (wks (wks (wks (wks (wks (wks (wks (wks (wks (wks (wks (wks (wks (wkn (wks (wkn (wks (wkn (wks wk0)))))))))))))))))))))))))))))))) ?_
          exact x_Q_kept_728 hf hI K397_ K613_ k0 e
        · replace e := ite_f c8 e
          refine Go.wk' (wks (wks (wks (wks (wks (wks (wks (wks (wks (wks (wks (wks (wks (wks (wks (wks (wks (wks (wks (wks (wks (wks (wks (wks (wks (wks (wkn (wks (wkn (wks (wkn (wks wk0)))))))))))))))))))))))))))))))) ?_
          exact x_Q_kept_724 hf hI K397_ K613_ k0 e
def f_Q_kept_670 (k397_ : Nat → Int32 → Int64 → Int64 → Int64 → Int64 → Int64 → Int64 → Int64 → Int64 → Int32 → Int64 → Int32 → HP → Option (Int32 × HP)) (k613_ : Nat → Int32 → Int64 → Int64 → Int64 → Int64 → Int64 → Int64 → Int64 → Int64 → Int32 → Int64 → Int32 → Int32 → Int64 → Int32 → HP → Option (Int32 × HP)) (a0 : Nat) (y2 : Int64) (y4 : Int64) (y6 : Int64) (y8 : Int64) (y10 : Int64) (y12 : Int64) (y14 : Int64) (y16 : Int64) (x18 : Int32) (y19 : Int64) (x21 : Int32) (x22 : Int32) (y23 : Int64) (x25 : Int32) (y26 : Int64) (y28 : Int64) (y30 : Int64) (s0 : Int32) (h : HP) : Option (Int32 × HP) :=
  if (lg_cmp x25.toInt64 y23) < 0 then
    f_Q_kept_684 k397_ k613_ a0 y2 y4 y6 y8 y10 y12 y14 y16 x18 y19 x21 x22 y23 x25 y26 y28 y30 s0 (0 : Int32) h
  else
    f_Q_kept_684 k397_ k613_ a0 y2 y4 y6 y8 y10 y12 y14 y16 x18 y19 x21 x22 y23 x25 y26 y28 y30 s0 (1 : Int32) h
set_option maxHeartbeats 4000000 in
theorem x_Q_kept_670 {l : Launch} {D : va_G} {ad : Nat → Nat} {aC : Nat → ClassId} (hf : l.flags = flags0) (hI : Inj ad) {k397_ : Nat → Int32 → Int64 → Int64 → Int64 → Int64 → Int64 → Int64 → Int64 → Int64 → Int32 → Int64 → Int32 → HP → Option (Int32 × HP)} {k613_ : Nat → Int32 → Int64 → Int64 → Int64 → Int64 → Int64 → Int64 → Int64 → Int64 → Int32 → Int64 → Int32 → Int32 → Int64 → Int32 → HP → Option (Int32 × HP)} (K397_ : ∀ {a0 : Nat} {x1 : Int32} {y2 : Int64} {y4 : Int64} {y6 : Int64} {y8 : Int64} {y10 : Int64} {y12 : Int64} {y14 : Int64} {y16 : Int64} {x18 : Int32} {y19 : Int64} {x21 : Int32} {h : HP} {r : Int32 × HP}, knd a0 = 7 → k397_ a0 x1 y2 y4 y6 y8 y10 y12 y14 y16 x18 y19 x21 h = some r → Go l D ad aC (rmk m_Q_kept) (QM D ad aC m_Q_kept (.inl (some (.int r.1))) r.2) m_Q_kept 397 [some (.ref a0), some (.int x1), some (.long y2), none, some (.long y4), none, some (.long y6), none, some (.long y8), none, some (.long y10), none, some (.long y12), none, some (.long y14), none, some (.long y16), none, some (.int x18), some (.long y19), none, some (.int x21), none, none, none, none, none, none, none, none, none, none] [] h 0 0) (K613_ : ∀ {a0 : Nat} {x1 : Int32} {y2 : Int64} {y4 : Int64} {y6 : Int64} {y8 : Int64} {y10 : Int64} {y12 : Int64} {y14 : Int64} {y16 : Int64} {x18 : Int32} {y19 : Int64} {x21 : Int32} {x22 : Int32} {y23 : Int64} {x25 : Int32} {h : HP} {r : Int32 × HP}, knd a0 = 7 → k613_ a0 x1 y2 y4 y6 y8 y10 y12 y14 y16 x18 y19 x21 x22 y23 x25 h = some r → Go l D ad aC (rmk m_Q_kept) (QM D ad aC m_Q_kept (.inl (some (.int r.1))) r.2) m_Q_kept 613 [some (.ref a0), some (.int x1), some (.long y2), none, some (.long y4), none, some (.long y6), none, some (.long y8), none, some (.long y10), none, some (.long y12), none, some (.long y14), none, some (.long y16), none, some (.int x18), some (.long y19), none, some (.int x21), some (.int x22), some (.long y23), none, some (.int x25), none, none, none, none, none, none] [] h 0 0) {a0 : Nat} {y2 : Int64} {y4 : Int64} {y6 : Int64} {y8 : Int64} {y10 : Int64} {y12 : Int64} {y14 : Int64} {y16 : Int64} {x18 : Int32} {y19 : Int64} {x21 : Int32} {x22 : Int32} {y23 : Int64} {x25 : Int32} {y26 : Int64} {y28 : Int64} {y30 : Int64} {s0 : Int32} {h : HP} {r : Int32 × HP} (k0 : knd a0 = 7) (e : f_Q_kept_670 k397_ k613_ a0 y2 y4 y6 y8 y10 y12 y14 y16 x18 y19 x21 x22 y23 x25 y26 y28 y30 s0 h = some r) : Go l D ad aC (rmk m_Q_kept) (QM D ad aC m_Q_kept (.inl (some (.int r.1))) r.2) m_Q_kept 670 [some (.ref a0), none, some (.long y2), none, some (.long y4), none, some (.long y6), none, some (.long y8), none, some (.long y10), none, some (.long y12), none, some (.long y14), none, some (.long y16), none, some (.int x18), some (.long y19), none, some (.int x21), some (.int x22), some (.long y23), none, some (.int x25), some (.long y26), none, some (.long y28), none, some (.long y30), none] [.int s0] h 0 0 := by
  unfold f_Q_kept_670 at e
  refine Go.run (pc' := 676) [.iload 25, .i2l, .lload 23, .lcmp] (ls' := [some (.ref a0), none, some (.long y2), none, some (.long y4), none, some (.long y6), none, some (.long y8), none, some (.long y10), none, some (.long y12), none, some (.long y14), none, some (.long y16), none, some (.int x18), some (.long y19), none, some (.int x21), some (.int x22), some (.long y23), none, some (.int x25), some (.long y26), none, some (.long y28), none, some (.long y30), none]) (st' := [.int (lg_cmp x25.toInt64 y23), .int s0]) (by decide +kernel) rfl rfl ?_
  refine Go.if_lt (off := 7) (tgt := 683) (by decide +kernel) (by decide) (fun c1 => ?_) (fun c1 => ?_)
  · replace e := ite_t c1 e
    refine Go.run (pc' := 684) [.iconst 0] (ls' := [some (.ref a0), none, some (.long y2), none, some (.long y4), none, some (.long y6), none, some (.long y8), none, some (.long y10), none, some (.long y12), none, some (.long y14), none, some (.long y16), none, some (.int x18), some (.long y19), none, some (.int x21), some (.int x22), some (.long y23), none, some (.int x25), some (.long y26), none, some (.long y28), none, some (.long y30), none]) (st' := [.int (0 : Int32), .int s0]) (by decide +kernel) rfl rfl ?_
    exact x_Q_kept_684 hf hI K397_ K613_ k0 e
  · replace e := ite_f c1 e
    refine Go.run (pc' := 680) [.iconst 1] (ls' := [some (.ref a0), none, some (.long y2), none, some (.long y4), none, some (.long y6), none, some (.long y8), none, some (.long y10), none, some (.long y12), none, some (.long y14), none, some (.long y16), none, some (.int x18), some (.long y19), none, some (.int x21), some (.int x22), some (.long y23), none, some (.int x25), some (.long y26), none, some (.long y28), none, some (.long y30), none]) (st' := [.int (1 : Int32), .int s0]) (by decide +kernel) rfl rfl ?_
    refine Go.goto (off := 4) (tgt := 684) (by decide +kernel) (by decide) ?_
    exact x_Q_kept_684 hf hI K397_ K613_ k0 e
def f_Q_kept_613 (k397_ : Nat → Int32 → Int64 → Int64 → Int64 → Int64 → Int64 → Int64 → Int64 → Int64 → Int32 → Int64 → Int32 → HP → Option (Int32 × HP)) : Nat → Nat → Int32 → Int64 → Int64 → Int64 → Int64 → Int64 → Int64 → Int64 → Int64 → Int32 → Int64 → Int32 → Int32 → Int64 → Int32 → HP → Option (Int32 × HP)
  | 0, _, _, _, _, _, _, _, _, _, _, _, _, _, _, _, _, _ => none
  | n + 1, a0, x1, y2, y4, y6, y8, y10, y12, y14, y16, x18, y19, x21, x22, y23, x25, h =>
    if (3 : Int32) ≤ x25 then
      f_Q_kept_736 k397_ a0 x1 y2 y4 y6 y8 y10 y12 y14 y16 x18 y19 x21 x22 y23 h
    else
      if x1 = 0 then
        f_Q_kept_736 k397_ a0 x1 y2 y4 y6 y8 y10 y12 y14 y16 x18 y19 x21 x22 y23 h
      else
        (g_Q_plugOf h a0 x21 x25).bind fun v3 =>
        (g_Q_dealerOf v3.2 a0 x21 (4 : Int32)).bind fun v5 =>
        (g_Q_dealerOf v5.2 a0 x21 (1 : Int32)).bind fun v7 =>
        if (lg_cmp v3.1 (-1 : Int64)) = 0 then
          f_Q_kept_670 k397_ (f_Q_kept_613 k397_ n) a0 y2 y4 y6 y8 y10 y12 y14 y16 x18 y19 x21 x22 y23 x25 v3.1 v5.1 ((v5.1 + v7.1) - (1 : Int64)) (1 : Int32) v7.2
        else
          f_Q_kept_670 k397_ (f_Q_kept_613 k397_ n) a0 y2 y4 y6 y8 y10 y12 y14 y16 x18 y19 x21 x22 y23 x25 v3.1 v5.1 ((v5.1 + v7.1) - (1 : Int64)) (0 : Int32) v7.2
set_option maxHeartbeats 4000000 in
theorem x_Q_kept_613 {l : Launch} {D : va_G} {ad : Nat → Nat} {aC : Nat → ClassId} (hf : l.flags = flags0) (hI : Inj ad) {k397_ : Nat → Int32 → Int64 → Int64 → Int64 → Int64 → Int64 → Int64 → Int64 → Int64 → Int32 → Int64 → Int32 → HP → Option (Int32 × HP)} (K397_ : ∀ {a0 : Nat} {x1 : Int32} {y2 : Int64} {y4 : Int64} {y6 : Int64} {y8 : Int64} {y10 : Int64} {y12 : Int64} {y14 : Int64} {y16 : Int64} {x18 : Int32} {y19 : Int64} {x21 : Int32} {h : HP} {r : Int32 × HP}, knd a0 = 7 → k397_ a0 x1 y2 y4 y6 y8 y10 y12 y14 y16 x18 y19 x21 h = some r → Go l D ad aC (rmk m_Q_kept) (QM D ad aC m_Q_kept (.inl (some (.int r.1))) r.2) m_Q_kept 397 [some (.ref a0), some (.int x1), some (.long y2), none, some (.long y4), none, some (.long y6), none, some (.long y8), none, some (.long y10), none, some (.long y12), none, some (.long y14), none, some (.long y16), none, some (.int x18), some (.long y19), none, some (.int x21), none, none, none, none, none, none, none, none, none, none] [] h 0 0) : ∀ (n : Nat) {a0 : Nat} {x1 : Int32} {y2 : Int64} {y4 : Int64} {y6 : Int64} {y8 : Int64} {y10 : Int64} {y12 : Int64} {y14 : Int64} {y16 : Int64} {x18 : Int32} {y19 : Int64} {x21 : Int32} {x22 : Int32} {y23 : Int64} {x25 : Int32} {h : HP} {r : Int32 × HP}, knd a0 = 7 → f_Q_kept_613 k397_ n a0 x1 y2 y4 y6 y8 y10 y12 y14 y16 x18 y19 x21 x22 y23 x25 h = some r → Go l D ad aC (rmk m_Q_kept) (QM D ad aC m_Q_kept (.inl (some (.int r.1))) r.2) m_Q_kept 613 [some (.ref a0), some (.int x1), some (.long y2), none, some (.long y4), none, some (.long y6), none, some (.long y8), none, some (.long y10), none, some (.long y12), none, some (.long y14), none, some (.long y16), none, some (.int x18), some (.long y19), none, some (.int x21), some (.int x22), some (.long y23), none, some (.int x25), none, none, none, none, none, none] [] h 0 0 := by
  intro n
  induction n with
  | zero => intro a0 x1 y2 y4 y6 y8 y10 y12 y14 y16 x18 y19 x21 x22 y23 x25 h r k0 e; exact no_none e
  | succ n ih =>
    intro a0 x1 y2 y4 y6 y8 y10 y12 y14 y16 x18 y19 x21 x22 y23 x25 h r k0 e
    rw [f_Q_kept_613] at e
    refine Go.run (pc' := 616) [.iload 25, .iconst 3] (ls' := [some (.ref a0), some (.int x1), some (.long y2), none, some (.long y4), none, some (.long y6), none, some (.long y8), none, some (.long y10), none, some (.long y12), none, some (.long y14), none, some (.long y16), none, some (.int x18), some (.long y19), none, some (.int x21), some (.int x22), some (.long y23), none, some (.int x25), none, none, none, none, none, none]) (st' := [.int (3 : Int32), .int x25]) (by decide +kernel) rfl rfl ?_
    refine Go.ic_ge (off := 120) (tgt := 736) (by decide +kernel) (by decide) (fun c1 => ?_) (fun c1 => ?_)
    · replace e := ite_t c1 e
      refine Go.wk' (wks (wks (wks (wks (wks (wks (wks (wks (wks (wks (wks (wks (wks (wks (wks (wks (wks (wks (wks (wks (wks (wks (wks (wks (wks (wkn (wks (wks (wks (wks (wks (wks wk0)))))))))))))))))))))))))))))))) ?_
      exact x_Q_kept_736 hf hI K397_ k0 e
    · replace e := ite_f c1 e
      refine Go.run (pc' := 620) [.iload_n 1] (ls' := [some (.ref a0), some (.int x1), some (.long y2), none, some (.long y4), none, some (.long y6), none, some (.long y8), none, some (.long y10), none, some (.long y12), none, some (.long y14), none, some (.long y16), none, some (.int x18), some (.long y19), none, some (.int x21), some (.int x22), some (.long y23), none, some (.int x25), none, none, none, none, none, none]) (st' := [.int x1]) (by decide +kernel) rfl rfl ?_
      refine Go.if_eq (off := 116) (tgt := 736) (by decide +kernel) (by decide) (fun c2 => ?_) (fun c2 => ?_)
      · replace e := ite_t c2 e
        refine Go.wk' (wks (wks (wks (wks (wks (wks (wks (wks (wks (wks (wks (wks (wks (wks (wks (wks (wks (wks (wks (wks (wks (wks (wks (wks (wks (wkn (wks (wks (wks (wks (wks (wks wk0)))))))))))))))))))))))))))))))) ?_
        exact x_Q_kept_736 hf hI K397_ k0 e
      · replace e := ite_f c2 e
        refine Go.run (pc' := 628) [.aload_n 0, .iload 21, .iload 25] (ls' := [some (.ref a0), some (.int x1), some (.long y2), none, some (.long y4), none, some (.long y6), none, some (.long y8), none, some (.long y10), none, some (.long y12), none, some (.long y14), none, some (.long y16), none, some (.int x18), some (.long y19), none, some (.int x21), some (.int x22), some (.long y23), none, some (.int x25), none, none, none, none, none, none]) (st' := [.int x25, .int x21, .ref a0]) (by decide +kernel) rfl rfl ?_
        obtain ⟨v3, e4, e⟩ := bd_inv e
        refine Go.callH (M2 := (mr m_Q_plugOf (.inl none))) (as := [.ref a0, .int x21, .int x25]) (rest := []) (v := some (.long v3.1)) (h1 := v3.2) (xn_Q_plugOf hf hI k0 e4) (WH.mr wh_Q_132) (by decide +kernel) rfl rfl ⟨⟨Nat.le_of_ble_eq_true rfl, Nat.le_of_ble_eq_true rfl⟩, ⟨Nat.le_of_ble_eq_true rfl, Nat.le_of_ble_eq_true rfl⟩⟩ (Nat.le_of_ble_eq_true rfl) ?_
        show Go l D ad aC (rmk m_Q_kept) _ m_Q_kept 631 [some (.ref a0), some (.int x1), some (.long y2), none, some (.long y4), none, some (.long y6), none, some (.long y8), none, some (.long y10), none, some (.long y12), none, some (.long y14), none, some (.long y16), none, some (.int x18), some (.long y19), none, some (.int x21), some (.int x22), some (.long y23), none, some (.int x25), none, none, none, none, none, none] [.long v3.1] v3.2 0 0
        refine Go.run (pc' := 637) [.lstore 26, .aload_n 0, .iload 21, .iconst 4] (ls' := [some (.ref a0), some (.int x1), some (.long y2), none, some (.long y4), none, some (.long y6), none, some (.long y8), none, some (.long y10), none, some (.long y12), none, some (.long y14), none, some (.long y16), none, some (.int x18), some (.long y19), none, some (.int x21), some (.int x22), some (.long y23), none, some (.int x25), some (.long v3.1), none, none, none, none, none]) (st' := [.int (4 : Int32), .int x21, .ref a0]) (by decide +kernel) rfl rfl ?_
        obtain ⟨v5, e6, e⟩ := bd_inv e
        refine Go.callH (M2 := (mr m_Q_dealerOf (.inl none))) (as := [.ref a0, .int x21, .int (4 : Int32)]) (rest := []) (v := some (.long v5.1)) (h1 := v5.2) (xn_Q_dealerOf hf hI k0 e6) (WH.mr wh_Q_126) (by decide +kernel) rfl rfl ⟨⟨Nat.le_of_ble_eq_true rfl, Nat.le_of_ble_eq_true rfl⟩, ⟨Nat.le_of_ble_eq_true rfl, Nat.le_of_ble_eq_true rfl⟩⟩ (Nat.le_of_ble_eq_true rfl) ?_
        show Go l D ad aC (rmk m_Q_kept) _ m_Q_kept 640 [some (.ref a0), some (.int x1), some (.long y2), none, some (.long y4), none, some (.long y6), none, some (.long y8), none, some (.long y10), none, some (.long y12), none, some (.long y14), none, some (.long y16), none, some (.int x18), some (.long y19), none, some (.int x21), some (.int x22), some (.long y23), none, some (.int x25), some (.long v3.1), none, none, none, none, none] [.long v5.1] v5.2 0 0
        refine Go.run (pc' := 648) [.lstore 28, .lload 28, .aload_n 0, .iload 21, .iconst 1] (ls' := [some (.ref a0), some (.int x1), some (.long y2), none, some (.long y4), none, some (.long y6), none, some (.long y8), none, some (.long y10), none, some (.long y12), none, some (.long y14), none, some (.long y16), none, some (.int x18), some (.long y19), none, some (.int x21), some (.int x22), some (.long y23), none, some (.int x25), some (.long v3.1), none, some (.long v5.1), none, none, none]) (st' := [.int (1 : Int32), .int x21, .ref a0, .long v5.1]) (by decide +kernel) rfl rfl ?_
        obtain ⟨v7, e8, e⟩ := bd_inv e
        refine Go.callH (M2 := (mr m_Q_dealerOf (.inl none))) (as := [.ref a0, .int x21, .int (1 : Int32)]) (rest := [.long v5.1]) (v := some (.long v7.1)) (h1 := v7.2) (xn_Q_dealerOf hf hI k0 e8) (WH.mr wh_Q_126) (by decide +kernel) rfl rfl ⟨⟨Nat.le_of_ble_eq_true rfl, Nat.le_of_ble_eq_true rfl⟩, ⟨Nat.le_of_ble_eq_true rfl, Nat.le_of_ble_eq_true rfl⟩⟩ (Nat.le_of_ble_eq_true rfl) ?_
        show Go l D ad aC (rmk m_Q_kept) _ m_Q_kept 651 [some (.ref a0), some (.int x1), some (.long y2), none, some (.long y4), none, some (.long y6), none, some (.long y8), none, some (.long y10), none, some (.long y12), none, some (.long y14), none, some (.long y16), none, some (.int x18), some (.long y19), none, some (.int x21), some (.int x22), some (.long y23), none, some (.int x25), some (.long v3.1), none, some (.long v5.1), none, none, none] [.long v7.1, .long v5.1] v7.2 0 0
        refine Go.run (pc' := 658) [.ladd, .lconst 1, .lsub, .lstore 30, .lload 26] (ls' := [some (.ref a0), some (.int x1), some (.long y2), none, some (.long y4), none, some (.long y6), none, some (.long y8), none, some (.long y10), none, some (.long y12), none, some (.long y14), none, some (.long y16), none, some (.int x18), some (.long y19), none, some (.int x21), some (.int x22), some (.long y23), none, some (.int x25), some (.long v3.1), none, some (.long v5.1), none, some (.long ((v5.1 + v7.1) - (1 : Int64))), none]) (st' := [.long v3.1]) (by decide +kernel) rfl rfl ?_
        refine Go.ldc2 lo_Q_160 (by decide +kernel) ?_
        refine Go.run (pc' := 662) [.lcmp] (ls' := [some (.ref a0), some (.int x1), some (.long y2), none, some (.long y4), none, some (.long y6), none, some (.long y8), none, some (.long y10), none, some (.long y12), none, some (.long y14), none, some (.long y16), none, some (.int x18), some (.long y19), none, some (.int x21), some (.int x22), some (.long y23), none, some (.int x25), some (.long v3.1), none, some (.long v5.1), none, some (.long ((v5.1 + v7.1) - (1 : Int64))), none]) (st' := [.int (lg_cmp v3.1 (-1 : Int64))]) (by decide +kernel) rfl rfl ?_
        refine Go.if_ne (off := 7) (tgt := 669) (by decide +kernel) (by decide) (fun c9 => ?_) (fun c9 => ?_)
        · replace e := ite_f c9 e
          refine Go.run (pc' := 670) [.iconst 0] (ls' := [some (.ref a0), some (.int x1), some (.long y2), none, some (.long y4), none, some (.long y6), none, some (.long y8), none, some (.long y10), none, some (.long y12), none, some (.long y14), none, some (.long y16), none, some (.int x18), some (.long y19), none, some (.int x21), some (.int x22), some (.long y23), none, some (.int x25), some (.long v3.1), none, some (.long v5.1), none, some (.long ((v5.1 + v7.1) - (1 : Int64))), none]) (st' := [.int (0 : Int32)]) (by decide +kernel) rfl rfl ?_
          refine Go.wk' (wks (wkn (wks (wks (wks (wks (wks (wks (wks (wks (wks (wks (wks (wks (wks (wks (wks (wks (wks (wks (wks (wks (wks (wks (wks (wks (wks (wks (wks (wks (wks (wks wk0)))))))))))))))))))))))))))))))) ?_
          exact x_Q_kept_670 hf hI K397_ (fun kk0 e => ih kk0 e) k0 e
        · replace e := ite_t c9 e
          refine Go.run (pc' := 666) [.iconst 1] (ls' := [some (.ref a0), some (.int x1), some (.long y2), none, some (.long y4), none, some (.long y6), none, some (.long y8), none, some (.long y10), none, some (.long y12), none, some (.long y14), none, some (.long y16), none, some (.int x18), some (.long y19), none, some (.int x21), some (.int x22), some (.long y23), none, some (.int x25), some (.long v3.1), none, some (.long v5.1), none, some (.long ((v5.1 + v7.1) - (1 : Int64))), none]) (st' := [.int (1 : Int32)]) (by decide +kernel) rfl rfl ?_
          refine Go.goto (off := 4) (tgt := 670) (by decide +kernel) (by decide) ?_
          refine Go.wk' (wks (wkn (wks (wks (wks (wks (wks (wks (wks (wks (wks (wks (wks (wks (wks (wks (wks (wks (wks (wks (wks (wks (wks (wks (wks (wks (wks (wks (wks (wks (wks (wks wk0)))))))))))))))))))))))))))))))) ?_
          exact x_Q_kept_670 hf hI K397_ (fun kk0 e => ih kk0 e) k0 e
def f_Q_kept_609 (k397_ : Nat → Int32 → Int64 → Int64 → Int64 → Int64 → Int64 → Int64 → Int64 → Int64 → Int32 → Int64 → Int32 → HP → Option (Int32 × HP)) (a0 : Nat) (y2 : Int64) (y4 : Int64) (y6 : Int64) (y8 : Int64) (y10 : Int64) (y12 : Int64) (y14 : Int64) (y16 : Int64) (x18 : Int32) (y19 : Int64) (x21 : Int32) (x22 : Int32) (y23 : Int64) (s0 : Int32) (h : HP) : Option (Int32 × HP) :=
  f_Q_kept_613 k397_ 4096 a0 s0 y2 y4 y6 y8 y10 y12 y14 y16 x18 y19 x21 x22 y23 (0 : Int32) h
set_option maxHeartbeats 4000000 in
theorem x_Q_kept_609 {l : Launch} {D : va_G} {ad : Nat → Nat} {aC : Nat → ClassId} (hf : l.flags = flags0) (hI : Inj ad) {k397_ : Nat → Int32 → Int64 → Int64 → Int64 → Int64 → Int64 → Int64 → Int64 → Int64 → Int32 → Int64 → Int32 → HP → Option (Int32 × HP)} (K397_ : ∀ {a0 : Nat} {x1 : Int32} {y2 : Int64} {y4 : Int64} {y6 : Int64} {y8 : Int64} {y10 : Int64} {y12 : Int64} {y14 : Int64} {y16 : Int64} {x18 : Int32} {y19 : Int64} {x21 : Int32} {h : HP} {r : Int32 × HP}, knd a0 = 7 → k397_ a0 x1 y2 y4 y6 y8 y10 y12 y14 y16 x18 y19 x21 h = some r → Go l D ad aC (rmk m_Q_kept) (QM D ad aC m_Q_kept (.inl (some (.int r.1))) r.2) m_Q_kept 397 [some (.ref a0), some (.int x1), some (.long y2), none, some (.long y4), none, some (.long y6), none, some (.long y8), none, some (.long y10), none, some (.long y12), none, some (.long y14), none, some (.long y16), none, some (.int x18), some (.long y19), none, some (.int x21), none, none, none, none, none, none, none, none, none, none] [] h 0 0) {a0 : Nat} {y2 : Int64} {y4 : Int64} {y6 : Int64} {y8 : Int64} {y10 : Int64} {y12 : Int64} {y14 : Int64} {y16 : Int64} {x18 : Int32} {y19 : Int64} {x21 : Int32} {x22 : Int32} {y23 : Int64} {s0 : Int32} {h : HP} {r : Int32 × HP} (k0 : knd a0 = 7) (e : f_Q_kept_609 k397_ a0 y2 y4 y6 y8 y10 y12 y14 y16 x18 y19 x21 x22 y23 s0 h = some r) : Go l D ad aC (rmk m_Q_kept) (QM D ad aC m_Q_kept (.inl (some (.int r.1))) r.2) m_Q_kept 609 [some (.ref a0), none, some (.long y2), none, some (.long y4), none, some (.long y6), none, some (.long y8), none, some (.long y10), none, some (.long y12), none, some (.long y14), none, some (.long y16), none, some (.int x18), some (.long y19), none, some (.int x21), some (.int x22), some (.long y23), none, none, none, none, none, none, none, none] [.int s0] h 0 0 := by
  unfold f_Q_kept_609 at e
  refine Go.run (pc' := 613) [.istore_n 1, .iconst 0, .istore 25] (ls' := [some (.ref a0), some (.int s0), some (.long y2), none, some (.long y4), none, some (.long y6), none, some (.long y8), none, some (.long y10), none, some (.long y12), none, some (.long y14), none, some (.long y16), none, some (.int x18), some (.long y19), none, some (.int x21), some (.int x22), some (.long y23), none, some (.int (0 : Int32)), none, none, none, none, none, none]) (st' := []) (by decide +kernel) rfl rfl ?_
  exact x_Q_kept_613 hf hI K397_ 4096 k0 e
def f_Q_kept_608 (k397_ : Nat → Int32 → Int64 → Int64 → Int64 → Int64 → Int64 → Int64 → Int64 → Int64 → Int32 → Int64 → Int32 → HP → Option (Int32 × HP)) (a0 : Nat) (y2 : Int64) (y4 : Int64) (y6 : Int64) (y8 : Int64) (y10 : Int64) (y12 : Int64) (y14 : Int64) (y16 : Int64) (x18 : Int32) (y19 : Int64) (x21 : Int32) (x22 : Int32) (y23 : Int64) (h : HP) : Option (Int32 × HP) :=
  f_Q_kept_609 k397_ a0 y2 y4 y6 y8 y10 y12 y14 y16 x18 y19 x21 x22 y23 (0 : Int32) h
set_option maxHeartbeats 4000000 in
theorem x_Q_kept_608 {l : Launch} {D : va_G} {ad : Nat → Nat} {aC : Nat → ClassId} (hf : l.flags = flags0) (hI : Inj ad) {k397_ : Nat → Int32 → Int64 → Int64 → Int64 → Int64 → Int64 → Int64 → Int64 → Int64 → Int32 → Int64 → Int32 → HP → Option (Int32 × HP)} (K397_ : ∀ {a0 : Nat} {x1 : Int32} {y2 : Int64} {y4 : Int64} {y6 : Int64} {y8 : Int64} {y10 : Int64} {y12 : Int64} {y14 : Int64} {y16 : Int64} {x18 : Int32} {y19 : Int64} {x21 : Int32} {h : HP} {r : Int32 × HP}, knd a0 = 7 → k397_ a0 x1 y2 y4 y6 y8 y10 y12 y14 y16 x18 y19 x21 h = some r → Go l D ad aC (rmk m_Q_kept) (QM D ad aC m_Q_kept (.inl (some (.int r.1))) r.2) m_Q_kept 397 [some (.ref a0), some (.int x1), some (.long y2), none, some (.long y4), none, some (.long y6), none, some (.long y8), none, some (.long y10), none, some (.long y12), none, some (.long y14), none, some (.long y16), none, some (.int x18), some (.long y19), none, some (.int x21), none, none, none, none, none, none, none, none, none, none] [] h 0 0) {a0 : Nat} {y2 : Int64} {y4 : Int64} {y6 : Int64} {y8 : Int64} {y10 : Int64} {y12 : Int64} {y14 : Int64} {y16 : Int64} {x18 : Int32} {y19 : Int64} {x21 : Int32} {x22 : Int32} {y23 : Int64} {h : HP} {r : Int32 × HP} (k0 : knd a0 = 7) (e : f_Q_kept_608 k397_ a0 y2 y4 y6 y8 y10 y12 y14 y16 x18 y19 x21 x22 y23 h = some r) : Go l D ad aC (rmk m_Q_kept) (QM D ad aC m_Q_kept (.inl (some (.int r.1))) r.2) m_Q_kept 608 [some (.ref a0), none, some (.long y2), none, some (.long y4), none, some (.long y6), none, some (.long y8), none, some (.long y10), none, some (.long y12), none, some (.long y14), none, some (.long y16), none, some (.int x18), some (.long y19), none, some (.int x21), some (.int x22), some (.long y23), none, none, none, none, none, none, none, none] [] h 0 0 := by
  unfold f_Q_kept_608 at e
  refine Go.run (pc' := 609) [.iconst 0] (ls' := [some (.ref a0), none, some (.long y2), none, some (.long y4), none, some (.long y6), none, some (.long y8), none, some (.long y10), none, some (.long y12), none, some (.long y14), none, some (.long y16), none, some (.int x18), some (.long y19), none, some (.int x21), some (.int x22), some (.long y23), none, none, none, none, none, none, none, none]) (st' := [.int (0 : Int32)]) (by decide +kernel) rfl rfl ?_
  exact x_Q_kept_609 hf hI K397_ k0 e
def f_Q_kept_556 (k397_ : Nat → Int32 → Int64 → Int64 → Int64 → Int64 → Int64 → Int64 → Int64 → Int64 → Int32 → Int64 → Int32 → HP → Option (Int32 × HP)) (a0 : Nat) (y2 : Int64) (y4 : Int64) (y6 : Int64) (y8 : Int64) (y10 : Int64) (y12 : Int64) (y14 : Int64) (y16 : Int64) (x18 : Int32) (y19 : Int64) (x21 : Int32) (x22 : Int32) (y23 : Int64) (h : HP) : Option (Int32 × HP) :=
  (g_Q_dealerOf h a0 x21 (11 : Int32)).bind fun v1 =>
  (g_Q_dealerOf v1.2 a0 x21 (10 : Int32)).bind fun v3 =>
  if 0 < (lg_cmp v1.1 v3.1) then
    f_Q_kept_608 k397_ a0 y2 y4 y6 y8 y10 y12 y14 y16 x18 y19 x21 x22 y23 v3.2
  else
    (g_Q_dealerOf v3.2 a0 x21 (10 : Int32)).bind fun v6 =>
    if 0 < (lg_cmp v6.1 (2 : Int64)) then
      f_Q_kept_608 k397_ a0 y2 y4 y6 y8 y10 y12 y14 y16 x18 y19 x21 x22 y23 v6.2
    else
      (g_Q_dealerOf v6.2 a0 x21 (7 : Int32)).bind fun v9 =>
      if (lg_cmp v9.1 (0 : Int64)) < 0 then
        f_Q_kept_608 k397_ a0 y2 y4 y6 y8 y10 y12 y14 y16 x18 y19 x21 x22 y23 v9.2
      else
        f_Q_kept_609 k397_ a0 y2 y4 y6 y8 y10 y12 y14 y16 x18 y19 x21 x22 y23 (1 : Int32) v9.2
set_option maxHeartbeats 4000000 in
theorem x_Q_kept_556 {l : Launch} {D : va_G} {ad : Nat → Nat} {aC : Nat → ClassId} (hf : l.flags = flags0) (hI : Inj ad) {k397_ : Nat → Int32 → Int64 → Int64 → Int64 → Int64 → Int64 → Int64 → Int64 → Int64 → Int32 → Int64 → Int32 → HP → Option (Int32 × HP)} (K397_ : ∀ {a0 : Nat} {x1 : Int32} {y2 : Int64} {y4 : Int64} {y6 : Int64} {y8 : Int64} {y10 : Int64} {y12 : Int64} {y14 : Int64} {y16 : Int64} {x18 : Int32} {y19 : Int64} {x21 : Int32} {h : HP} {r : Int32 × HP}, knd a0 = 7 → k397_ a0 x1 y2 y4 y6 y8 y10 y12 y14 y16 x18 y19 x21 h = some r → Go l D ad aC (rmk m_Q_kept) (QM D ad aC m_Q_kept (.inl (some (.int r.1))) r.2) m_Q_kept 397 [some (.ref a0), some (.int x1), some (.long y2), none, some (.long y4), none, some (.long y6), none, some (.long y8), none, some (.long y10), none, some (.long y12), none, some (.long y14), none, some (.long y16), none, some (.int x18), some (.long y19), none, some (.int x21), none, none, none, none, none, none, none, none, none, none] [] h 0 0) {a0 : Nat} {y2 : Int64} {y4 : Int64} {y6 : Int64} {y8 : Int64} {y10 : Int64} {y12 : Int64} {y14 : Int64} {y16 : Int64} {x18 : Int32} {y19 : Int64} {x21 : Int32} {x22 : Int32} {y23 : Int64} {h : HP} {r : Int32 × HP} (k0 : knd a0 = 7) (e : f_Q_kept_556 k397_ a0 y2 y4 y6 y8 y10 y12 y14 y16 x18 y19 x21 x22 y23 h = some r) : Go l D ad aC (rmk m_Q_kept) (QM D ad aC m_Q_kept (.inl (some (.int r.1))) r.2) m_Q_kept 556 [some (.ref a0), none, some (.long y2), none, some (.long y4), none, some (.long y6), none, some (.long y8), none, some (.long y10), none, some (.long y12), none, some (.long y14), none, some (.long y16), none, some (.int x18), some (.long y19), none, some (.int x21), some (.int x22), some (.long y23), none, none, none, none, none, none, none, none] [] h 0 0 := by
  unfold f_Q_kept_556 at e
  refine Go.run (pc' := 561) [.aload_n 0, .iload 21, .bipush (11)] (ls' := [some (.ref a0), none, some (.long y2), none, some (.long y4), none, some (.long y6), none, some (.long y8), none, some (.long y10), none, some (.long y12), none, some (.long y14), none, some (.long y16), none, some (.int x18), some (.long y19), none, some (.int x21), some (.int x22), some (.long y23), none, none, none, none, none, none, none, none]) (st' := [.int (11 : Int32), .int x21, .ref a0]) (by decide +kernel) rfl rfl ?_
  obtain ⟨v1, e2, e⟩ := bd_inv e
  refine Go.callH (M2 := (mr m_Q_dealerOf (.inl none))) (as := [.ref a0, .int x21, .int (11 : Int32)]) (rest := []) (v := some (.long v1.1)) (h1 := v1.2) (xn_Q_dealerOf hf hI k0 e2) (WH.mr wh_Q_126) (by decide +kernel) rfl rfl ⟨⟨Nat.le_of_ble_eq_true rfl, Nat.le_of_ble_eq_true rfl⟩, ⟨Nat.le_of_ble_eq_true rfl, Nat.le_of_ble_eq_true rfl⟩⟩ (Nat.le_of_ble_eq_true rfl) ?_
  show Go l D ad aC (rmk m_Q_kept) _ m_Q_kept 564 [some (.ref a0), none, some (.long y2), none, some (.long y4), none, some (.long y6), none, some (.long y8), none, some (.long y10), none, some (.long y12), none, some (.long y14), none, some (.long y16), none, some (.int x18), some (.long y19), none, some (.int x21), some (.int x22), some (.long y23), none, none, none, none, none, none, none, none] [.long v1.1] v1.2 0 0
  refine Go.run (pc' := 569) [.aload_n 0, .iload 21, .bipush (10)] (ls' := [some (.ref a0), none, some (.long y2), none, some (.long y4), none, some (.long y6), none, some (.long y8), none, some (.long y10), none, some (.long y12), none, some (.long y14), none, some (.long y16), none, some (.int x18), some (.long y19), none, some (.int x21), some (.int x22), some (.long y23), none, none, none, none, none, none, none, none]) (st' := [.int (10 : Int32), .int x21, .ref a0, .long v1.1]) (by decide +kernel) rfl rfl ?_
  obtain ⟨v3, e4, e⟩ := bd_inv e
  refine Go.callH (M2 := (mr m_Q_dealerOf (.inl none))) (as := [.ref a0, .int x21, .int (10 : Int32)]) (rest := [.long v1.1]) (v := some (.long v3.1)) (h1 := v3.2) (xn_Q_dealerOf hf hI k0 e4) (WH.mr wh_Q_126) (by decide +kernel) rfl rfl ⟨⟨Nat.le_of_ble_eq_true rfl, Nat.le_of_ble_eq_true rfl⟩, ⟨Nat.le_of_ble_eq_true rfl, Nat.le_of_ble_eq_true rfl⟩⟩ (Nat.le_of_ble_eq_true rfl) ?_
  show Go l D ad aC (rmk m_Q_kept) _ m_Q_kept 572 [some (.ref a0), none, some (.long y2), none, some (.long y4), none, some (.long y6), none, some (.long y8), none, some (.long y10), none, some (.long y12), none, some (.long y14), none, some (.long y16), none, some (.int x18), some (.long y19), none, some (.int x21), some (.int x22), some (.long y23), none, none, none, none, none, none, none, none] [.long v3.1, .long v1.1] v3.2 0 0
  refine Go.run (pc' := 573) [.lcmp] (ls' := [some (.ref a0), none, some (.long y2), none, some (.long y4), none, some (.long y6), none, some (.long y8), none, some (.long y10), none, some (.long y12), none, some (.long y14), none, some (.long y16), none, some (.int x18), some (.long y19), none, some (.int x21), some (.int x22), some (.long y23), none, none, none, none, none, none, none, none]) (st' := [.int (lg_cmp v1.1 v3.1)]) (by decide +kernel) rfl rfl ?_
  refine Go.if_gt (off := 35) (tgt := 608) (by decide +kernel) (by decide) (fun c5 => ?_) (fun c5 => ?_)
  · replace e := ite_t c5 e
    exact x_Q_kept_608 hf hI K397_ k0 e
  · replace e := ite_f c5 e
    refine Go.run (pc' := 581) [.aload_n 0, .iload 21, .bipush (10)] (ls' := [some (.ref a0), none, some (.long y2), none, some (.long y4), none, some (.long y6), none, some (.long y8), none, some (.long y10), none, some (.long y12), none, some (.long y14), none, some (.long y16), none, some (.int x18), some (.long y19), none, some (.int x21), some (.int x22), some (.long y23), none, none, none, none, none, none, none, none]) (st' := [.int (10 : Int32), .int x21, .ref a0]) (by decide +kernel) rfl rfl ?_
    obtain ⟨v6, e7, e⟩ := bd_inv e
    refine Go.callH (M2 := (mr m_Q_dealerOf (.inl none))) (as := [.ref a0, .int x21, .int (10 : Int32)]) (rest := []) (v := some (.long v6.1)) (h1 := v6.2) (xn_Q_dealerOf hf hI k0 e7) (WH.mr wh_Q_126) (by decide +kernel) rfl rfl ⟨⟨Nat.le_of_ble_eq_true rfl, Nat.le_of_ble_eq_true rfl⟩, ⟨Nat.le_of_ble_eq_true rfl, Nat.le_of_ble_eq_true rfl⟩⟩ (Nat.le_of_ble_eq_true rfl) ?_
    show Go l D ad aC (rmk m_Q_kept) _ m_Q_kept 584 [some (.ref a0), none, some (.long y2), none, some (.long y4), none, some (.long y6), none, some (.long y8), none, some (.long y10), none, some (.long y12), none, some (.long y14), none, some (.long y16), none, some (.int x18), some (.long y19), none, some (.int x21), some (.int x22), some (.long y23), none, none, none, none, none, none, none, none] [.long v6.1] v6.2 0 0
    refine Go.ldc2 lo_Q_181 (by decide +kernel) ?_
    refine Go.run (pc' := 588) [.lcmp] (ls' := [some (.ref a0), none, some (.long y2), none, some (.long y4), none, some (.long y6), none, some (.long y8), none, some (.long y10), none, some (.long y12), none, some (.long y14), none, some (.long y16), none, some (.int x18), some (.long y19), none, some (.int x21), some (.int x22), some (.long y23), none, none, none, none, none, none, none, none]) (st' := [.int (lg_cmp v6.1 (2 : Int64))]) (by decide +kernel) rfl rfl ?_
    refine Go.if_gt (off := 20) (tgt := 608) (by decide +kernel) (by decide) (fun c8 => ?_) (fun c8 => ?_)
    · replace e := ite_t c8 e
      exact x_Q_kept_608 hf hI K397_ k0 e
    · replace e := ite_f c8 e
      refine Go.run (pc' := 596) [.aload_n 0, .iload 21, .bipush (7)] (ls' := [some (.ref a0), none, some (.long y2), none, some (.long y4), none, some (.long y6), none, some (.long y8), none, some (.long y10), none, some (.long y12), none, some (.long y14), none, some (.long y16), none, some (.int x18), some (.long y19), none, some (.int x21), some (.int x22), some (.long y23), none, none, none, none, none, none, none, none]) (st' := [.int (7 : Int32), .int x21, .ref a0]) (by decide +kernel) rfl rfl ?_
      obtain ⟨v9, e10, e⟩ := bd_inv e
      refine Go.callH (M2 := (mr m_Q_dealerOf (.inl none))) (as := [.ref a0, .int x21, .int (7 : Int32)]) (rest := []) (v := some (.long v9.1)) (h1 := v9.2) (xn_Q_dealerOf hf hI k0 e10) (WH.mr wh_Q_126) (by decide +kernel) rfl rfl ⟨⟨Nat.le_of_ble_eq_true rfl, Nat.le_of_ble_eq_true rfl⟩, ⟨Nat.le_of_ble_eq_true rfl, Nat.le_of_ble_eq_true rfl⟩⟩ (Nat.le_of_ble_eq_true rfl) ?_
      show Go l D ad aC (rmk m_Q_kept) _ m_Q_kept 599 [some (.ref a0), none, some (.long y2), none, some (.long y4), none, some (.long y6), none, some (.long y8), none, some (.long y10), none, some (.long y12), none, some (.long y14), none, some (.long y16), none, some (.int x18), some (.long y19), none, some (.int x21), some (.int x22), some (.long y23), none, none, none, none, none, none, none, none] [.long v9.1] v9.2 0 0
      refine Go.run (pc' := 601) [.lconst 0, .lcmp] (ls' := [some (.ref a0), none, some (.long y2), none, some (.long y4), none, some (.long y6), none, some (.long y8), none, some (.long y10), none, some (.long y12), none, some (.long y14), none, some (.long y16), none, some (.int x18), some (.long y19), none, some (.int x21), some (.int x22), some (.long y23), none, none, none, none, none, none, none, none]) (st' := [.int (lg_cmp v9.1 (0 : Int64))]) (by decide +kernel) rfl rfl ?_
      refine Go.if_lt (off := 7) (tgt := 608) (by decide +kernel) (by decide) (fun c11 => ?_) (fun c11 => ?_)
      · replace e := ite_t c11 e
        exact x_Q_kept_608 hf hI K397_ k0 e
      · replace e := ite_f c11 e
        refine Go.run (pc' := 605) [.iconst 1] (ls' := [some (.ref a0), none, some (.long y2), none, some (.long y4), none, some (.long y6), none, some (.long y8), none, some (.long y10), none, some (.long y12), none, some (.long y14), none, some (.long y16), none, some (.int x18), some (.long y19), none, some (.int x21), some (.int x22), some (.long y23), none, none, none, none, none, none, none, none]) (st' := [.int (1 : Int32)]) (by decide +kernel) rfl rfl ?_
        refine Go.goto (off := 4) (tgt := 609) (by decide +kernel) (by decide) ?_
        exact x_Q_kept_609 hf hI K397_ k0 e
def f_Q_kept_464 (k397_ : Nat → Int32 → Int64 → Int64 → Int64 → Int64 → Int64 → Int64 → Int64 → Int64 → Int32 → Int64 → Int32 → HP → Option (Int32 × HP)) (a0 : Nat) (y2 : Int64) (y4 : Int64) (y6 : Int64) (y8 : Int64) (y10 : Int64) (y12 : Int64) (y14 : Int64) (y16 : Int64) (x18 : Int32) (y19 : Int64) (x21 : Int32) (x22 : Int32) (y23 : Int64) (s0 : Int32) (s1 : Int32) (h : HP) : Option (Int32 × HP) :=
  if s0 = s1 then
    if x22 = 0 then
      if (lg_cmp y23 (0 : Int64)) = 0 then
        (g_Q_dealerOf h a0 x21 (6 : Int32)).bind fun v4 =>
        if (lg_cmp v4.1 (0 : Int64)) = 0 then
          (g_Q_dealerOf v4.2 a0 x21 (7 : Int32)).bind fun v7 =>
          if (lg_cmp v7.1 (0 : Int64)) = 0 then
            (g_Q_dealerOf v7.2 a0 x21 (9 : Int32)).bind fun v10 =>
            if (lg_cmp v10.1 (0 : Int64)) = 0 then
              (g_Q_dealerOf v10.2 a0 x21 (10 : Int32)).bind fun v13 =>
              if (lg_cmp v13.1 (0 : Int64)) = 0 then
                f_Q_kept_556 k397_ a0 y2 y4 y6 y8 y10 y12 y14 y16 x18 y19 x21 x22 y23 v13.2
              else
                f_Q_kept_608 k397_ a0 y2 y4 y6 y8 y10 y12 y14 y16 x18 y19 x21 x22 y23 v13.2
            else
              f_Q_kept_608 k397_ a0 y2 y4 y6 y8 y10 y12 y14 y16 x18 y19 x21 x22 y23 v10.2
          else
            f_Q_kept_608 k397_ a0 y2 y4 y6 y8 y10 y12 y14 y16 x18 y19 x21 x22 y23 v7.2
        else
          f_Q_kept_608 k397_ a0 y2 y4 y6 y8 y10 y12 y14 y16 x18 y19 x21 x22 y23 v4.2
      else
        f_Q_kept_608 k397_ a0 y2 y4 y6 y8 y10 y12 y14 y16 x18 y19 x21 x22 y23 h
    else
      (g_Q_dealerOf h a0 x21 (6 : Int32)).bind fun v16 =>
      (g_Q_dealerOf v16.2 a0 x21 (2 : Int32)).bind fun v18 =>
      if (lg_cmp (y23 + v16.1) v18.1) = 0 then
        f_Q_kept_556 k397_ a0 y2 y4 y6 y8 y10 y12 y14 y16 x18 y19 x21 x22 y23 v18.2
      else
        f_Q_kept_608 k397_ a0 y2 y4 y6 y8 y10 y12 y14 y16 x18 y19 x21 x22 y23 v18.2
  else
    f_Q_kept_608 k397_ a0 y2 y4 y6 y8 y10 y12 y14 y16 x18 y19 x21 x22 y23 h
set_option maxHeartbeats 4000000 in
theorem x_Q_kept_464 {l : Launch} {D : va_G} {ad : Nat → Nat} {aC : Nat → ClassId} (hf : l.flags = flags0) (hI : Inj ad) {k397_ : Nat → Int32 → Int64 → Int64 → Int64 → Int64 → Int64 → Int64 → Int64 → Int64 → Int32 → Int64 → Int32 → HP → Option (Int32 × HP)} (K397_ : ∀ {a0 : Nat} {x1 : Int32} {y2 : Int64} {y4 : Int64} {y6 : Int64} {y8 : Int64} {y10 : Int64} {y12 : Int64} {y14 : Int64} {y16 : Int64} {x18 : Int32} {y19 : Int64} {x21 : Int32} {h : HP} {r : Int32 × HP}, knd a0 = 7 → k397_ a0 x1 y2 y4 y6 y8 y10 y12 y14 y16 x18 y19 x21 h = some r → Go l D ad aC (rmk m_Q_kept) (QM D ad aC m_Q_kept (.inl (some (.int r.1))) r.2) m_Q_kept 397 [some (.ref a0), some (.int x1), some (.long y2), none, some (.long y4), none, some (.long y6), none, some (.long y8), none, some (.long y10), none, some (.long y12), none, some (.long y14), none, some (.long y16), none, some (.int x18), some (.long y19), none, some (.int x21), none, none, none, none, none, none, none, none, none, none] [] h 0 0) {a0 : Nat} {y2 : Int64} {y4 : Int64} {y6 : Int64} {y8 : Int64} {y10 : Int64} {y12 : Int64} {y14 : Int64} {y16 : Int64} {x18 : Int32} {y19 : Int64} {x21 : Int32} {x22 : Int32} {y23 : Int64} {s0 : Int32} {s1 : Int32} {h : HP} {r : Int32 × HP} (k0 : knd a0 = 7) (e : f_Q_kept_464 k397_ a0 y2 y4 y6 y8 y10 y12 y14 y16 x18 y19 x21 x22 y23 s0 s1 h = some r) : Go l D ad aC (rmk m_Q_kept) (QM D ad aC m_Q_kept (.inl (some (.int r.1))) r.2) m_Q_kept 464 [some (.ref a0), none, some (.long y2), none, some (.long y4), none, some (.long y6), none, some (.long y8), none, some (.long y10), none, some (.long y12), none, some (.long y14), none, some (.long y16), none, some (.int x18), some (.long y19), none, some (.int x21), some (.int x22), some (.long y23), none, none, none, none, none, none, none, none] [.int s1, .int s0] h 0 0 := by
  unfold f_Q_kept_464 at e
  refine Go.ic_ne (off := 144) (tgt := 608) (by decide +kernel) (by decide) (fun c1 => ?_) (fun c1 => ?_)
  · replace e := ite_f c1 e
    exact x_Q_kept_608 hf hI K397_ k0 e
  · replace e := ite_t c1 e
    refine Go.run (pc' := 469) [.iload 22] (ls' := [some (.ref a0), none, some (.long y2), none, some (.long y4), none, some (.long y6), none, some (.long y8), none, some (.long y10), none, some (.long y12), none, some (.long y14), none, some (.long y16), none, some (.int x18), some (.long y19), none, some (.int x21), some (.int x22), some (.long y23), none, none, none, none, none, none, none, none]) (st' := [.int x22]) (by decide +kernel) rfl rfl ?_
    refine Go.if_eq (off := 28) (tgt := 497) (by decide +kernel) (by decide) (fun c2 => ?_) (fun c2 => ?_)
    · replace e := ite_t c2 e
      refine Go.run (pc' := 501) [.lload 23, .lconst 0, .lcmp] (ls' := [some (.ref a0), none, some (.long y2), none, some (.long y4), none, some (.long y6), none, some (.long y8), none, some (.long y10), none, some (.long y12), none, some (.long y14), none, some (.long y16), none, some (.int x18), some (.long y19), none, some (.int x21), some (.int x22), some (.long y23), none, none, none, none, none, none, none, none]) (st' := [.int (lg_cmp y23 (0 : Int64))]) (by decide +kernel) rfl rfl ?_
      refine Go.if_ne (off := 107) (tgt := 608) (by decide +kernel) (by decide) (fun c3 => ?_) (fun c3 => ?_)
      · replace e := ite_f c3 e
        exact x_Q_kept_608 hf hI K397_ k0 e
      · replace e := ite_t c3 e
        refine Go.run (pc' := 509) [.aload_n 0, .iload 21, .bipush (6)] (ls' := [some (.ref a0), none, some (.long y2), none, some (.long y4), none, some (.long y6), none, some (.long y8), none, some (.long y10), none, some (.long y12), none, some (.long y14), none, some (.long y16), none, some (.int x18), some (.long y19), none, some (.int x21), some (.int x22), some (.long y23), none, none, none, none, none, none, none, none]) (st' := [.int (6 : Int32), .int x21, .ref a0]) (by decide +kernel) rfl rfl ?_
        obtain ⟨v4, e5, e⟩ := bd_inv e
        refine Go.callH (M2 := (mr m_Q_dealerOf (.inl none))) (as := [.ref a0, .int x21, .int (6 : Int32)]) (rest := []) (v := some (.long v4.1)) (h1 := v4.2) (xn_Q_dealerOf hf hI k0 e5) (WH.mr wh_Q_126) (by decide +kernel) rfl rfl ⟨⟨Nat.le_of_ble_eq_true rfl, Nat.le_of_ble_eq_true rfl⟩, ⟨Nat.le_of_ble_eq_true rfl, Nat.le_of_ble_eq_true rfl⟩⟩ (Nat.le_of_ble_eq_true rfl) ?_
        show Go l D ad aC (rmk m_Q_kept) _ m_Q_kept 512 [some (.ref a0), none, some (.long y2), none, some (.long y4), none, some (.long y6), none, some (.long y8), none, some (.long y10), none, some (.long y12), none, some (.long y14), none, some (.long y16), none, some (.int x18), some (.long y19), none, some (.int x21), some (.int x22), some (.long y23), none, none, none, none, none, none, none, none] [.long v4.1] v4.2 0 0
        refine Go.run (pc' := 514) [.lconst 0, .lcmp] (ls' := [some (.ref a0), none, some (.long y2), none, some (.long y4), none, some (.long y6), none, some (.long y8), none, some (.long y10), none, some (.long y12), none, some (.long y14), none, some (.long y16), none, some (.int x18), some (.long y19), none, some (.int x21), some (.int x22), some (.long y23), none, none, none, none, none, none, none, none]) (st' := [.int (lg_cmp v4.1 (0 : Int64))]) (by decide +kernel) rfl rfl ?_
        refine Go.if_ne (off := 94) (tgt := 608) (by decide +kernel) (by decide) (fun c6 => ?_) (fun c6 => ?_)
        · replace e := ite_f c6 e
          exact x_Q_kept_608 hf hI K397_ k0 e
        · replace e := ite_t c6 e
          refine Go.run (pc' := 522) [.aload_n 0, .iload 21, .bipush (7)] (ls' := [some (.ref a0), none, some (.long y2), none, some (.long y4), none, some (.long y6), none, some (.long y8), none, some (.long y10), none, some (.long y12), none, some (.long y14), none, some (.long y16), none, some (.int x18), some (.long y19), none, some (.int x21), some (.int x22), some (.long y23), none, none, none, none, none, none, none, none]) (st' := [.int (7 : Int32), .int x21, .ref a0]) (by decide +kernel) rfl rfl ?_
          obtain ⟨v7, e8, e⟩ := bd_inv e
          refine Go.callH (M2 := (mr m_Q_dealerOf (.inl none))) (as := [.ref a0, .int x21, .int (7 : Int32)]) (rest := []) (v := some (.long v7.1)) (h1 := v7.2) (xn_Q_dealerOf hf hI k0 e8) (WH.mr wh_Q_126) (by decide +kernel) rfl rfl ⟨⟨Nat.le_of_ble_eq_true rfl, Nat.le_of_ble_eq_true rfl⟩, ⟨Nat.le_of_ble_eq_true rfl, Nat.le_of_ble_eq_true rfl⟩⟩ (Nat.le_of_ble_eq_true rfl) ?_
          show Go l D ad aC (rmk m_Q_kept) _ m_Q_kept 525 [some (.ref a0), none, some (.long y2), none, some (.long y4), none, some (.long y6), none, some (.long y8), none, some (.long y10), none, some (.long y12), none, some (.long y14), none, some (.long y16), none, some (.int x18), some (.long y19), none, some (.int x21), some (.int x22), some (.long y23), none, none, none, none, none, none, none, none] [.long v7.1] v7.2 0 0
          refine Go.run (pc' := 527) [.lconst 0, .lcmp] (ls' := [some (.ref a0), none, some (.long y2), none, some (.long y4), none, some (.long y6), none, some (.long y8), none, some (.long y10), none, some (.long y12), none, some (.long y14), none, some (.long y16), none, some (.int x18), some (.long y19), none, some (.int x21), some (.int x22), some (.long y23), none, none, none, none, none, none, none, none]) (st' := [.int (lg_cmp v7.1 (0 : Int64))]) (by decide +kernel) rfl rfl ?_
          refine Go.if_ne (off := 81) (tgt := 608) (by decide +kernel) (by decide) (fun c9 => ?_) (fun c9 => ?_)
          · replace e := ite_f c9 e
            exact x_Q_kept_608 hf hI K397_ k0 e
          · replace e := ite_t c9 e
            refine Go.run (pc' := 535) [.aload_n 0, .iload 21, .bipush (9)] (ls' := [some (.ref a0), none, some (.long y2), none, some (.long y4), none, some (.long y6), none, some (.long y8), none, some (.long y10), none, some (.long y12), none, some (.long y14), none, some (.long y16), none, some (.int x18), some (.long y19), none, some (.int x21), some (.int x22), some (.long y23), none, none, none, none, none, none, none, none]) (st' := [.int (9 : Int32), .int x21, .ref a0]) (by decide +kernel) rfl rfl ?_
            obtain ⟨v10, e11, e⟩ := bd_inv e
            refine Go.callH (M2 := (mr m_Q_dealerOf (.inl none))) (as := [.ref a0, .int x21, .int (9 : Int32)]) (rest := []) (v := some (.long v10.1)) (h1 := v10.2) (xn_Q_dealerOf hf hI k0 e11) (WH.mr wh_Q_126) (by decide +kernel) rfl rfl ⟨⟨Nat.le_of_ble_eq_true rfl, Nat.le_of_ble_eq_true rfl⟩, ⟨Nat.le_of_ble_eq_true rfl, Nat.le_of_ble_eq_true rfl⟩⟩ (Nat.le_of_ble_eq_true rfl) ?_
            show Go l D ad aC (rmk m_Q_kept) _ m_Q_kept 538 [some (.ref a0), none, some (.long y2), none, some (.long y4), none, some (.long y6), none, some (.long y8), none, some (.long y10), none, some (.long y12), none, some (.long y14), none, some (.long y16), none, some (.int x18), some (.long y19), none, some (.int x21), some (.int x22), some (.long y23), none, none, none, none, none, none, none, none] [.long v10.1] v10.2 0 0
            refine Go.run (pc' := 540) [.lconst 0, .lcmp] (ls' := [some (.ref a0), none, some (.long y2), none, some (.long y4), none, some (.long y6), none, some (.long y8), none, some (.long y10), none, some (.long y12), none, some (.long y14), none, some (.long y16), none, some (.int x18), some (.long y19), none, some (.int x21), some (.int x22), some (.long y23), none, none, none, none, none, none, none, none]) (st' := [.int (lg_cmp v10.1 (0 : Int64))]) (by decide +kernel) rfl rfl ?_
            refine Go.if_ne (off := 68) (tgt := 608) (by decide +kernel) (by decide) (fun c12 => ?_) (fun c12 => ?_)
            · replace e := ite_f c12 e
              exact x_Q_kept_608 hf hI K397_ k0 e
            · replace e := ite_t c12 e
              refine Go.run (pc' := 548) [.aload_n 0, .iload 21, .bipush (10)] (ls' := [some (.ref a0), none, some (.long y2), none, some (.long y4), none, some (.long y6), none, some (.long y8), none, some (.long y10), none, some (.long y12), none, some (.long y14), none, some (.long y16), none, some (.int x18), some (.long y19), none, some (.int x21), some (.int x22), some (.long y23), none, none, none, none, none, none, none, none]) (st' := [.int (10 : Int32), .int x21, .ref a0]) (by decide +kernel) rfl rfl ?_
              obtain ⟨v13, e14, e⟩ := bd_inv e
              refine Go.callH (M2 := (mr m_Q_dealerOf (.inl none))) (as := [.ref a0, .int x21, .int (10 : Int32)]) (rest := []) (v := some (.long v13.1)) (h1 := v13.2) (xn_Q_dealerOf hf hI k0 e14) (WH.mr wh_Q_126) (by decide +kernel) rfl rfl ⟨⟨Nat.le_of_ble_eq_true rfl, Nat.le_of_ble_eq_true rfl⟩, ⟨Nat.le_of_ble_eq_true rfl, Nat.le_of_ble_eq_true rfl⟩⟩ (Nat.le_of_ble_eq_true rfl) ?_
              show Go l D ad aC (rmk m_Q_kept) _ m_Q_kept 551 [some (.ref a0), none, some (.long y2), none, some (.long y4), none, some (.long y6), none, some (.long y8), none, some (.long y10), none, some (.long y12), none, some (.long y14), none, some (.long y16), none, some (.int x18), some (.long y19), none, some (.int x21), some (.int x22), some (.long y23), none, none, none, none, none, none, none, none] [.long v13.1] v13.2 0 0
              refine Go.run (pc' := 553) [.lconst 0, .lcmp] (ls' := [some (.ref a0), none, some (.long y2), none, some (.long y4), none, some (.long y6), none, some (.long y8), none, some (.long y10), none, some (.long y12), none, some (.long y14), none, some (.long y16), none, some (.int x18), some (.long y19), none, some (.int x21), some (.int x22), some (.long y23), none, none, none, none, none, none, none, none]) (st' := [.int (lg_cmp v13.1 (0 : Int64))]) (by decide +kernel) rfl rfl ?_
              refine Go.if_ne (off := 55) (tgt := 608) (by decide +kernel) (by decide) (fun c15 => ?_) (fun c15 => ?_)
              · replace e := ite_f c15 e
                exact x_Q_kept_608 hf hI K397_ k0 e
              · replace e := ite_t c15 e
                exact x_Q_kept_556 hf hI K397_ k0 e
    · replace e := ite_f c2 e
      refine Go.run (pc' := 479) [.lload 23, .aload_n 0, .iload 21, .bipush (6)] (ls' := [some (.ref a0), none, some (.long y2), none, some (.long y4), none, some (.long y6), none, some (.long y8), none, some (.long y10), none, some (.long y12), none, some (.long y14), none, some (.long y16), none, some (.int x18), some (.long y19), none, some (.int x21), some (.int x22), some (.long y23), none, none, none, none, none, none, none, none]) (st' := [.int (6 : Int32), .int x21, .ref a0, .long y23]) (by decide +kernel) rfl rfl ?_
      obtain ⟨v16, e17, e⟩ := bd_inv e
      refine Go.callH (M2 := (mr m_Q_dealerOf (.inl none))) (as := [.ref a0, .int x21, .int (6 : Int32)]) (rest := [.long y23]) (v := some (.long v16.1)) (h1 := v16.2) (xn_Q_dealerOf hf hI k0 e17) (WH.mr wh_Q_126) (by decide +kernel) rfl rfl ⟨⟨Nat.le_of_ble_eq_true rfl, Nat.le_of_ble_eq_true rfl⟩, ⟨Nat.le_of_ble_eq_true rfl, Nat.le_of_ble_eq_true rfl⟩⟩ (Nat.le_of_ble_eq_true rfl) ?_
      show Go l D ad aC (rmk m_Q_kept) _ m_Q_kept 482 [some (.ref a0), none, some (.long y2), none, some (.long y4), none, some (.long y6), none, some (.long y8), none, some (.long y10), none, some (.long y12), none, some (.long y14), none, some (.long y16), none, some (.int x18), some (.long y19), none, some (.int x21), some (.int x22), some (.long y23), none, none, none, none, none, none, none, none] [.long v16.1, .long y23] v16.2 0 0
      refine Go.run (pc' := 487) [.ladd, .aload_n 0, .iload 21, .iconst 2] (ls' := [some (.ref a0), none, some (.long y2), none, some (.long y4), none, some (.long y6), none, some (.long y8), none, some (.long y10), none, some (.long y12), none, some (.long y14), none, some (.long y16), none, some (.int x18), some (.long y19), none, some (.int x21), some (.int x22), some (.long y23), none, none, none, none, none, none, none, none]) (st' := [.int (2 : Int32), .int x21, .ref a0, .long (y23 + v16.1)]) (by decide +kernel) rfl rfl ?_
      obtain ⟨v18, e19, e⟩ := bd_inv e
      refine Go.callH (M2 := (mr m_Q_dealerOf (.inl none))) (as := [.ref a0, .int x21, .int (2 : Int32)]) (rest := [.long (y23 + v16.1)]) (v := some (.long v18.1)) (h1 := v18.2) (xn_Q_dealerOf hf hI k0 e19) (WH.mr wh_Q_126) (by decide +kernel) rfl rfl ⟨⟨Nat.le_of_ble_eq_true rfl, Nat.le_of_ble_eq_true rfl⟩, ⟨Nat.le_of_ble_eq_true rfl, Nat.le_of_ble_eq_true rfl⟩⟩ (Nat.le_of_ble_eq_true rfl) ?_
      show Go l D ad aC (rmk m_Q_kept) _ m_Q_kept 490 [some (.ref a0), none, some (.long y2), none, some (.long y4), none, some (.long y6), none, some (.long y8), none, some (.long y10), none, some (.long y12), none, some (.long y14), none, some (.long y16), none, some (.int x18), some (.long y19), none, some (.int x21), some (.int x22), some (.long y23), none, none, none, none, none, none, none, none] [.long v18.1, .long (y23 + v16.1)] v18.2 0 0
      refine Go.run (pc' := 491) [.lcmp] (ls' := [some (.ref a0), none, some (.long y2), none, some (.long y4), none, some (.long y6), none, some (.long y8), none, some (.long y10), none, some (.long y12), none, some (.long y14), none, some (.long y16), none, some (.int x18), some (.long y19), none, some (.int x21), some (.int x22), some (.long y23), none, none, none, none, none, none, none, none]) (st' := [.int (lg_cmp (y23 + v16.1) v18.1)]) (by decide +kernel) rfl rfl ?_
      refine Go.if_ne (off := 117) (tgt := 608) (by decide +kernel) (by decide) (fun c20 => ?_) (fun c20 => ?_)
      · replace e := ite_f c20 e
        exact x_Q_kept_608 hf hI K397_ k0 e
      · replace e := ite_t c20 e
        refine Go.goto (off := 62) (tgt := 556) (by decide +kernel) (by decide) ?_
        exact x_Q_kept_556 hf hI K397_ k0 e
def f_Q_kept_432 (k397_ : Nat → Int32 → Int64 → Int64 → Int64 → Int64 → Int64 → Int64 → Int64 → Int64 → Int32 → Int64 → Int32 → HP → Option (Int32 × HP)) (a0 : Nat) (y2 : Int64) (y4 : Int64) (y6 : Int64) (y8 : Int64) (y10 : Int64) (y12 : Int64) (y14 : Int64) (y16 : Int64) (x18 : Int32) (y19 : Int64) (x21 : Int32) (s0 : Int32) (h : HP) : Option (Int32 × HP) :=
  (g_Q_dealerOf h a0 x21 (5 : Int32)).bind fun v1 =>
  (g_Q_dealerOf v1.2 a0 x21 (4 : Int32)).bind fun v3 =>
  if (lg_cmp v3.1 (-1 : Int64)) = 0 then
    f_Q_kept_464 k397_ a0 y2 y4 y6 y8 y10 y12 y14 y16 x18 y19 x21 s0 v1.1 s0 (0 : Int32) v3.2
  else
    f_Q_kept_464 k397_ a0 y2 y4 y6 y8 y10 y12 y14 y16 x18 y19 x21 s0 v1.1 s0 (1 : Int32) v3.2
set_option maxHeartbeats 4000000 in
theorem x_Q_kept_432 {l : Launch} {D : va_G} {ad : Nat → Nat} {aC : Nat → ClassId} (hf : l.flags = flags0) (hI : Inj ad) {k397_ : Nat → Int32 → Int64 → Int64 → Int64 → Int64 → Int64 → Int64 → Int64 → Int64 → Int32 → Int64 → Int32 → HP → Option (Int32 × HP)} (K397_ : ∀ {a0 : Nat} {x1 : Int32} {y2 : Int64} {y4 : Int64} {y6 : Int64} {y8 : Int64} {y10 : Int64} {y12 : Int64} {y14 : Int64} {y16 : Int64} {x18 : Int32} {y19 : Int64} {x21 : Int32} {h : HP} {r : Int32 × HP}, knd a0 = 7 → k397_ a0 x1 y2 y4 y6 y8 y10 y12 y14 y16 x18 y19 x21 h = some r → Go l D ad aC (rmk m_Q_kept) (QM D ad aC m_Q_kept (.inl (some (.int r.1))) r.2) m_Q_kept 397 [some (.ref a0), some (.int x1), some (.long y2), none, some (.long y4), none, some (.long y6), none, some (.long y8), none, some (.long y10), none, some (.long y12), none, some (.long y14), none, some (.long y16), none, some (.int x18), some (.long y19), none, some (.int x21), none, none, none, none, none, none, none, none, none, none] [] h 0 0) {a0 : Nat} {y2 : Int64} {y4 : Int64} {y6 : Int64} {y8 : Int64} {y10 : Int64} {y12 : Int64} {y14 : Int64} {y16 : Int64} {x18 : Int32} {y19 : Int64} {x21 : Int32} {s0 : Int32} {h : HP} {r : Int32 × HP} (k0 : knd a0 = 7) (e : f_Q_kept_432 k397_ a0 y2 y4 y6 y8 y10 y12 y14 y16 x18 y19 x21 s0 h = some r) : Go l D ad aC (rmk m_Q_kept) (QM D ad aC m_Q_kept (.inl (some (.int r.1))) r.2) m_Q_kept 432 [some (.ref a0), none, some (.long y2), none, some (.long y4), none, some (.long y6), none, some (.long y8), none, some (.long y10), none, some (.long y12), none, some (.long y14), none, some (.long y16), none, some (.int x18), some (.long y19), none, some (.int x21), none, none, none, none, none, none, none, none, none, none] [.int s0] h 0 0 := by
  unfold f_Q_kept_432 at e
  refine Go.run (pc' := 438) [.istore 22, .aload_n 0, .iload 21, .iconst 5] (ls' := [some (.ref a0), none, some (.long y2), none, some (.long y4), none, some (.long y6), none, some (.long y8), none, some (.long y10), none, some (.long y12), none, some (.long y14), none, some (.long y16), none, some (.int x18), some (.long y19), none, some (.int x21), some (.int s0), none, none, none, none, none, none, none, none, none]) (st' := [.int (5 : Int32), .int x21, .ref a0]) (by decide +kernel) rfl rfl ?_
  obtain ⟨v1, e2, e⟩ := bd_inv e
  refine Go.callH (M2 := (mr m_Q_dealerOf (.inl none))) (as := [.ref a0, .int x21, .int (5 : Int32)]) (rest := []) (v := some (.long v1.1)) (h1 := v1.2) (xn_Q_dealerOf hf hI k0 e2) (WH.mr wh_Q_126) (by decide +kernel) rfl rfl ⟨⟨Nat.le_of_ble_eq_true rfl, Nat.le_of_ble_eq_true rfl⟩, ⟨Nat.le_of_ble_eq_true rfl, Nat.le_of_ble_eq_true rfl⟩⟩ (Nat.le_of_ble_eq_true rfl) ?_
  show Go l D ad aC (rmk m_Q_kept) _ m_Q_kept 441 [some (.ref a0), none, some (.long y2), none, some (.long y4), none, some (.long y6), none, some (.long y8), none, some (.long y10), none, some (.long y12), none, some (.long y14), none, some (.long y16), none, some (.int x18), some (.long y19), none, some (.int x21), some (.int s0), none, none, none, none, none, none, none, none, none] [.long v1.1] v1.2 0 0
  refine Go.run (pc' := 449) [.lstore 23, .iload 22, .aload_n 0, .iload 21, .iconst 4] (ls' := [some (.ref a0), none, some (.long y2), none, some (.long y4), none, some (.long y6), none, some (.long y8), none, some (.long y10), none, some (.long y12), none, some (.long y14), none, some (.long y16), none, some (.int x18), some (.long y19), none, some (.int x21), some (.int s0), some (.long v1.1), none, none, none, none, none, none, none, none]) (st' := [.int (4 : Int32), .int x21, .ref a0, .int s0]) (by decide +kernel) rfl rfl ?_
  obtain ⟨v3, e4, e⟩ := bd_inv e
  refine Go.callH (M2 := (mr m_Q_dealerOf (.inl none))) (as := [.ref a0, .int x21, .int (4 : Int32)]) (rest := [.int s0]) (v := some (.long v3.1)) (h1 := v3.2) (xn_Q_dealerOf hf hI k0 e4) (WH.mr wh_Q_126) (by decide +kernel) rfl rfl ⟨⟨Nat.le_of_ble_eq_true rfl, Nat.le_of_ble_eq_true rfl⟩, ⟨Nat.le_of_ble_eq_true rfl, Nat.le_of_ble_eq_true rfl⟩⟩ (Nat.le_of_ble_eq_true rfl) ?_
  show Go l D ad aC (rmk m_Q_kept) _ m_Q_kept 452 [some (.ref a0), none, some (.long y2), none, some (.long y4), none, some (.long y6), none, some (.long y8), none, some (.long y10), none, some (.long y12), none, some (.long y14), none, some (.long y16), none, some (.int x18), some (.long y19), none, some (.int x21), some (.int s0), some (.long v1.1), none, none, none, none, none, none, none, none] [.long v3.1, .int s0] v3.2 0 0
  refine Go.ldc2 lo_Q_160 (by decide +kernel) ?_
  refine Go.run (pc' := 456) [.lcmp] (ls' := [some (.ref a0), none, some (.long y2), none, some (.long y4), none, some (.long y6), none, some (.long y8), none, some (.long y10), none, some (.long y12), none, some (.long y14), none, some (.long y16), none, some (.int x18), some (.long y19), none, some (.int x21), some (.int s0), some (.long v1.1), none, none, none, none, none, none, none, none]) (st' := [.int (lg_cmp v3.1 (-1 : Int64)), .int s0]) (by decide +kernel) rfl rfl ?_
  refine Go.if_eq (off := 7) (tgt := 463) (by decide +kernel) (by decide) (fun c5 => ?_) (fun c5 => ?_)
  · replace e := ite_t c5 e
    refine Go.run (pc' := 464) [.iconst 0] (ls' := [some (.ref a0), none, some (.long y2), none, some (.long y4), none, some (.long y6), none, some (.long y8), none, some (.long y10), none, some (.long y12), none, some (.long y14), none, some (.long y16), none, some (.int x18), some (.long y19), none, some (.int x21), some (.int s0), some (.long v1.1), none, none, none, none, none, none, none, none]) (st' := [.int (0 : Int32), .int s0]) (by decide +kernel) rfl rfl ?_
    exact x_Q_kept_464 hf hI K397_ k0 e
  · replace e := ite_f c5 e
    refine Go.run (pc' := 460) [.iconst 1] (ls' := [some (.ref a0), none, some (.long y2), none, some (.long y4), none, some (.long y6), none, some (.long y8), none, some (.long y10), none, some (.long y12), none, some (.long y14), none, some (.long y16), none, some (.int x18), some (.long y19), none, some (.int x21), some (.int s0), some (.long v1.1), none, none, none, none, none, none, none, none]) (st' := [.int (1 : Int32), .int s0]) (by decide +kernel) rfl rfl ?_
    refine Go.goto (off := 4) (tgt := 464) (by decide +kernel) (by decide) ?_
    exact x_Q_kept_464 hf hI K397_ k0 e
def f_Q_kept_397  : Nat → Nat → Int32 → Int64 → Int64 → Int64 → Int64 → Int64 → Int64 → Int64 → Int64 → Int32 → Int64 → Int32 → HP → Option (Int32 × HP)
  | 0, _, _, _, _, _, _, _, _, _, _, _, _, _, _ => none
  | n + 1, a0, x1, y2, y4, y6, y8, y10, y12, y14, y16, x18, y19, x21, h =>
    (g_Q_about h a0 (1 : Int32)).bind fun v1 =>
    if 0 ≤ (lg_cmp x21.toInt64 v1.1) then
      f_Q_kept_816 a0 x1 y2 y4 y6 y8 y10 y12 y14 y16 x18 y19 v1.2
    else
      if x1 = 0 then
        f_Q_kept_816 a0 x1 y2 y4 y6 y8 y10 y12 y14 y16 x18 y19 v1.2
      else
        (g_Q_dealerOf v1.2 a0 x21 (3 : Int32)).bind fun v5 =>
        if (lg_cmp v5.1 (-1 : Int64)) = 0 then
          f_Q_kept_432 (f_Q_kept_397 n) a0 y2 y4 y6 y8 y10 y12 y14 y16 x18 y19 x21 (0 : Int32) v5.2
        else
          f_Q_kept_432 (f_Q_kept_397 n) a0 y2 y4 y6 y8 y10 y12 y14 y16 x18 y19 x21 (1 : Int32) v5.2
set_option maxHeartbeats 4000000 in
theorem x_Q_kept_397 {l : Launch} {D : va_G} {ad : Nat → Nat} {aC : Nat → ClassId} (hf : l.flags = flags0) (hI : Inj ad) : ∀ (n : Nat) {a0 : Nat} {x1 : Int32} {y2 : Int64} {y4 : Int64} {y6 : Int64} {y8 : Int64} {y10 : Int64} {y12 : Int64} {y14 : Int64} {y16 : Int64} {x18 : Int32} {y19 : Int64} {x21 : Int32} {h : HP} {r : Int32 × HP}, knd a0 = 7 → f_Q_kept_397 n a0 x1 y2 y4 y6 y8 y10 y12 y14 y16 x18 y19 x21 h = some r → Go l D ad aC (rmk m_Q_kept) (QM D ad aC m_Q_kept (.inl (some (.int r.1))) r.2) m_Q_kept 397 [some (.ref a0), some (.int x1), some (.long y2), none, some (.long y4), none, some (.long y6), none, some (.long y8), none, some (.long y10), none, some (.long y12), none, some (.long y14), none, some (.long y16), none, some (.int x18), some (.long y19), none, some (.int x21), none, none, none, none, none, none, none, none, none, none] [] h 0 0 := by
  intro n
  induction n with
  | zero => intro a0 x1 y2 y4 y6 y8 y10 y12 y14 y16 x18 y19 x21 h r k0 e; exact no_none e
  | succ n ih =>
    intro a0 x1 y2 y4 y6 y8 y10 y12 y14 y16 x18 y19 x21 h r k0 e
    rw [f_Q_kept_397] at e
    refine Go.run (pc' := 402) [.iload 21, .i2l, .aload_n 0, .iconst 1] (ls' := [some (.ref a0), some (.int x1), some (.long y2), none, some (.long y4), none, some (.long y6), none, some (.long y8), none, some (.long y10), none, some (.long y12), none, some (.long y14), none, some (.long y16), none, some (.int x18), some (.long y19), none, some (.int x21), none, none, none, none, none, none, none, none, none, none]) (st' := [.int (1 : Int32), .ref a0, .long x21.toInt64]) (by decide +kernel) rfl rfl ?_
    obtain ⟨v1, e2, e⟩ := bd_inv e
    refine Go.callH (M2 := (mr m_Q_about (.inl none))) (as := [.ref a0, .int (1 : Int32)]) (rest := [.long x21.toInt64]) (v := some (.long v1.1)) (h1 := v1.2) (xn_Q_about hf hI k0 e2) (WH.mr wh_Q_111) (by decide +kernel) rfl rfl ⟨⟨Nat.le_of_ble_eq_true rfl, Nat.le_of_ble_eq_true rfl⟩, ⟨Nat.le_of_ble_eq_true rfl, Nat.le_of_ble_eq_true rfl⟩⟩ (Nat.le_of_ble_eq_true rfl) ?_
    show Go l D ad aC (rmk m_Q_kept) _ m_Q_kept 405 [some (.ref a0), some (.int x1), some (.long y2), none, some (.long y4), none, some (.long y6), none, some (.long y8), none, some (.long y10), none, some (.long y12), none, some (.long y14), none, some (.long y16), none, some (.int x18), some (.long y19), none, some (.int x21), none, none, none, none, none, none, none, none, none, none] [.long v1.1, .long x21.toInt64] v1.2 0 0
    refine Go.run (pc' := 406) [.lcmp] (ls' := [some (.ref a0), some (.int x1), some (.long y2), none, some (.long y4), none, some (.long y6), none, some (.long y8), none, some (.long y10), none, some (.long y12), none, some (.long y14), none, some (.long y16), none, some (.int x18), some (.long y19), none, some (.int x21), none, none, none, none, none, none, none, none, none, none]) (st' := [.int (lg_cmp x21.toInt64 v1.1)]) (by decide +kernel) rfl rfl ?_
    refine Go.if_ge (off := 410) (tgt := 816) (by decide +kernel) (by decide) (fun c3 => ?_) (fun c3 => ?_)
    · replace e := ite_t c3 e
      refine Go.wk' (wks (wks (wks (wks (wks (wks (wks (wks (wks (wks (wks (wks (wks (wks (wks (wks (wks (wks (wks (wks (wks (wkn (wks (wks (wks (wks (wks (wks (wks (wks (wks (wks wk0)))))))))))))))))))))))))))))))) ?_
      exact x_Q_kept_816 hf hI k0 e
    · replace e := ite_f c3 e
      refine Go.run (pc' := 410) [.iload_n 1] (ls' := [some (.ref a0), some (.int x1), some (.long y2), none, some (.long y4), none, some (.long y6), none, some (.long y8), none, some (.long y10), none, some (.long y12), none, some (.long y14), none, some (.long y16), none, some (.int x18), some (.long y19), none, some (.int x21), none, none, none, none, none, none, none, none, none, none]) (st' := [.int x1]) (by decide +kernel) rfl rfl ?_
      refine Go.if_eq (off := 406) (tgt := 816) (by decide +kernel) (by decide) (fun c4 => ?_) (fun c4 => ?_)
      · replace e := ite_t c4 e
        refine Go.wk' (wks (wks (wks (wks (wks (wks (wks (wks (wks (wks (wks (wks (wks (wks (wks (wks (wks (wks (wks (wks (wks (wkn (wks (wks (wks (wks (wks (wks (wks (wks (wks (wks wk0)))))))))))))))))))))))))))))))) ?_
        exact x_Q_kept_816 hf hI k0 e
      · replace e := ite_f c4 e
        refine Go.run (pc' := 417) [.aload_n 0, .iload 21, .iconst 3] (ls' := [some (.ref a0), some (.int x1), some (.long y2), none, some (.long y4), none, some (.long y6), none, some (.long y8), none, some (.long y10), none, some (.long y12), none, some (.long y14), none, some (.long y16), none, some (.int x18), some (.long y19), none, some (.int x21), none, none, none, none, none, none, none, none, none, none]) (st' := [.int (3 : Int32), .int x21, .ref a0]) (by decide +kernel) rfl rfl ?_
        obtain ⟨v5, e6, e⟩ := bd_inv e
        refine Go.callH (M2 := (mr m_Q_dealerOf (.inl none))) (as := [.ref a0, .int x21, .int (3 : Int32)]) (rest := []) (v := some (.long v5.1)) (h1 := v5.2) (xn_Q_dealerOf hf hI k0 e6) (WH.mr wh_Q_126) (by decide +kernel) rfl rfl ⟨⟨Nat.le_of_ble_eq_true rfl, Nat.le_of_ble_eq_true rfl⟩, ⟨Nat.le_of_ble_eq_true rfl, Nat.le_of_ble_eq_true rfl⟩⟩ (Nat.le_of_ble_eq_true rfl) ?_
        show Go l D ad aC (rmk m_Q_kept) _ m_Q_kept 420 [some (.ref a0), some (.int x1), some (.long y2), none, some (.long y4), none, some (.long y6), none, some (.long y8), none, some (.long y10), none, some (.long y12), none, some (.long y14), none, some (.long y16), none, some (.int x18), some (.long y19), none, some (.int x21), none, none, none, none, none, none, none, none, none, none] [.long v5.1] v5.2 0 0
        refine Go.ldc2 lo_Q_160 (by decide +kernel) ?_
        refine Go.run (pc' := 424) [.lcmp] (ls' := [some (.ref a0), some (.int x1), some (.long y2), none, some (.long y4), none, some (.long y6), none, some (.long y8), none, some (.long y10), none, some (.long y12), none, some (.long y14), none, some (.long y16), none, some (.int x18), some (.long y19), none, some (.int x21), none, none, none, none, none, none, none, none, none, none]) (st' := [.int (lg_cmp v5.1 (-1 : Int64))]) (by decide +kernel) rfl rfl ?_
        refine Go.if_eq (off := 7) (tgt := 431) (by decide +kernel) (by decide) (fun c7 => ?_) (fun c7 => ?_)
        · replace e := ite_t c7 e
          refine Go.run (pc' := 432) [.iconst 0] (ls' := [some (.ref a0), some (.int x1), some (.long y2), none, some (.long y4), none, some (.long y6), none, some (.long y8), none, some (.long y10), none, some (.long y12), none, some (.long y14), none, some (.long y16), none, some (.int x18), some (.long y19), none, some (.int x21), none, none, none, none, none, none, none, none, none, none]) (st' := [.int (0 : Int32)]) (by decide +kernel) rfl rfl ?_
          refine Go.wk' (wks (wkn (wks (wks (wks (wks (wks (wks (wks (wks (wks (wks (wks (wks (wks (wks (wks (wks (wks (wks (wks (wks (wks (wks (wks (wks (wks (wks (wks (wks (wks (wks wk0)))))))))))))))))))))))))))))))) ?_
          exact x_Q_kept_432 hf hI (fun kk0 e => ih kk0 e) k0 e
        · replace e := ite_f c7 e
          refine Go.run (pc' := 428) [.iconst 1] (ls' := [some (.ref a0), some (.int x1), some (.long y2), none, some (.long y4), none, some (.long y6), none, some (.long y8), none, some (.long y10), none, some (.long y12), none, some (.long y14), none, some (.long y16), none, some (.int x18), some (.long y19), none, some (.int x21), none, none, none, none, none, none, none, none, none, none]) (st' := [.int (1 : Int32)]) (by decide +kernel) rfl rfl ?_
          refine Go.goto (off := 4) (tgt := 432) (by decide +kernel) (by decide) ?_
          refine Go.wk' (wks (wkn (wks (wks (wks (wks (wks (wks (wks (wks (wks (wks (wks (wks (wks (wks (wks (wks (wks (wks (wks (wks (wks (wks (wks (wks (wks (wks (wks (wks (wks (wks wk0)))))))))))))))))))))))))))))))) ?_
          exact x_Q_kept_432 hf hI (fun kk0 e => ih kk0 e) k0 e
def f_Q_kept_376  (a0 : Nat) (x1 : Int32) (y2 : Int64) (y4 : Int64) (y6 : Int64) (y8 : Int64) (h : HP) : Option (Int32 × HP) :=
  f_Q_kept_397 4096 a0 x1 y2 y4 y6 y8 (0 : Int64) (0 : Int64) (0 : Int64) (0 : Int64) (0 : Int32) (0 : Int64) (0 : Int32) h
set_option maxHeartbeats 4000000 in
theorem x_Q_kept_376 {l : Launch} {D : va_G} {ad : Nat → Nat} {aC : Nat → ClassId} (hf : l.flags = flags0) (hI : Inj ad) {a0 : Nat} {x1 : Int32} {y2 : Int64} {y4 : Int64} {y6 : Int64} {y8 : Int64} {h : HP} {r : Int32 × HP} (k0 : knd a0 = 7) (e : f_Q_kept_376 a0 x1 y2 y4 y6 y8 h = some r) : Go l D ad aC (rmk m_Q_kept) (QM D ad aC m_Q_kept (.inl (some (.int r.1))) r.2) m_Q_kept 376 [some (.ref a0), some (.int x1), some (.long y2), none, some (.long y4), none, some (.long y6), none, some (.long y8), none, none, none, none, none, none, none, none, none, none, none, none, none, none, none, none, none, none, none, none, none, none, none] [] h 0 0 := by
  unfold f_Q_kept_376 at e
  refine Go.run (pc' := 397) [.lconst 0, .lstore 10, .lconst 0, .lstore 12, .lconst 0, .lstore 14, .lconst 0, .lstore 16, .iconst 0, .istore 18, .lconst 0, .lstore 19, .iconst 0, .istore 21] (ls' := [some (.ref a0), some (.int x1), some (.long y2), none, some (.long y4), none, some (.long y6), none, some (.long y8), none, some (.long (0 : Int64)), none, some (.long (0 : Int64)), none, some (.long (0 : Int64)), none, some (.long (0 : Int64)), none, some (.int (0 : Int32)), some (.long (0 : Int64)), none, some (.int (0 : Int32)), none, none, none, none, none, none, none, none, none, none]) (st' := []) (by decide +kernel) rfl rfl ?_
  exact x_Q_kept_397 hf hI 4096 k0 e
def f_Q_kept_343 (k16_ : Nat → Int32 → Int64 → Int64 → Int64 → Int64 → Int32 → HP → Option (Int32 × HP)) (a0 : Nat) (y2 : Int64) (y4 : Int64) (y6 : Int64) (y8 : Int64) (x10 : Int32) (y11 : Int64) (y13 : Int64) (y15 : Int64) (y17 : Int64) (s0 : Int32) (h : HP) : Option (Int32 × HP) :=
  k16_ a0 s0 (y2 + y11) (y4 + y13) (y6 + y15) (y8 + y17) (x10 + (1 : Int32)) h
set_option maxHeartbeats 4000000 in
theorem x_Q_kept_343 {l : Launch} {D : va_G} {ad : Nat → Nat} {aC : Nat → ClassId} (hf : l.flags = flags0) (hI : Inj ad) {k16_ : Nat → Int32 → Int64 → Int64 → Int64 → Int64 → Int32 → HP → Option (Int32 × HP)} (K16_ : ∀ {a0 : Nat} {x1 : Int32} {y2 : Int64} {y4 : Int64} {y6 : Int64} {y8 : Int64} {x10 : Int32} {h : HP} {r : Int32 × HP}, knd a0 = 7 → k16_ a0 x1 y2 y4 y6 y8 x10 h = some r → Go l D ad aC (rmk m_Q_kept) (QM D ad aC m_Q_kept (.inl (some (.int r.1))) r.2) m_Q_kept 16 [some (.ref a0), some (.int x1), some (.long y2), none, some (.long y4), none, some (.long y6), none, some (.long y8), none, some (.int x10), none, none, none, none, none, none, none, none, none, none, none, none, none, none, none, none, none, none, none, none, none] [] h 0 0) {a0 : Nat} {y2 : Int64} {y4 : Int64} {y6 : Int64} {y8 : Int64} {x10 : Int32} {y11 : Int64} {y13 : Int64} {y15 : Int64} {y17 : Int64} {s0 : Int32} {h : HP} {r : Int32 × HP} (k0 : knd a0 = 7) (e : f_Q_kept_343 k16_ a0 y2 y4 y6 y8 x10 y11 y13 y15 y17 s0 h = some r) : Go l D ad aC (rmk m_Q_kept) (QM D ad aC m_Q_kept (.inl (some (.int r.1))) r.2) m_Q_kept 343 [some (.ref a0), none, some (.long y2), none, some (.long y4), none, some (.long y6), none, some (.long y8), none, some (.int x10), some (.long y11), none, some (.long y13), none, some (.long y15), none, some (.long y17), none, none, none, none, none, none, none, none, none, none, none, none, none, none] [.int s0] h 0 0 := by
  unfold f_Q_kept_343 at e
  refine Go.run (pc' := 373) [.istore_n 1, .lload_n 2, .lload 11, .ladd, .lstore_n 2, .lload 4, .lload 13, .ladd, .lstore 4, .lload 6, .lload 15, .ladd, .lstore 6, .lload 8, .lload 17, .ladd, .lstore 8, .iinc 10 (1)] (ls' := [some (.ref a0), some (.int s0), some (.long (y2 + y11)), none, some (.long (y4 + y13)), none, some (.long (y6 + y15)), none, some (.long (y8 + y17)), none, some (.int (x10 + (1 : Int32))), some (.long y11), none, some (.long y13), none, some (.long y15), none, some (.long y17), none, none, none, none, none, none, none, none, none, none, none, none, none, none]) (st' := []) (by decide +kernel) rfl rfl ?_
  refine Go.goto (off := -357) (tgt := 16) (by decide +kernel) (by decide) ?_
  refine Go.wk' (wks (wks (wks (wks (wks (wks (wks (wks (wks (wks (wks (wkn (wks (wkn (wks (wkn (wks (wkn (wks (wks (wks (wks (wks (wks (wks (wks (wks (wks (wks (wks (wks (wks wk0)))))))))))))))))))))))))))))))) ?_
  exact K16_ k0 e
def f_Q_kept_342 (k16_ : Nat → Int32 → Int64 → Int64 → Int64 → Int64 → Int32 → HP → Option (Int32 × HP)) (a0 : Nat) (y2 : Int64) (y4 : Int64) (y6 : Int64) (y8 : Int64) (x10 : Int32) (y11 : Int64) (y13 : Int64) (y15 : Int64) (y17 : Int64) (h : HP) : Option (Int32 × HP) :=
  f_Q_kept_343 k16_ a0 y2 y4 y6 y8 x10 y11 y13 y15 y17 (0 : Int32) h
set_option maxHeartbeats 4000000 in
theorem x_Q_kept_342 {l : Launch} {D : va_G} {ad : Nat → Nat} {aC : Nat → ClassId} (hf : l.flags = flags0) (hI : Inj ad) {k16_ : Nat → Int32 → Int64 → Int64 → Int64 → Int64 → Int32 → HP → Option (Int32 × HP)} (K16_ : ∀ {a0 : Nat} {x1 : Int32} {y2 : Int64} {y4 : Int64} {y6 : Int64} {y8 : Int64} {x10 : Int32} {h : HP} {r : Int32 × HP}, knd a0 = 7 → k16_ a0 x1 y2 y4 y6 y8 x10 h = some r → Go l D ad aC (rmk m_Q_kept) (QM D ad aC m_Q_kept (.inl (some (.int r.1))) r.2) m_Q_kept 16 [some (.ref a0), some (.int x1), some (.long y2), none, some (.long y4), none, some (.long y6), none, some (.long y8), none, some (.int x10), none, none, none, none, none, none, none, none, none, none, none, none, none, none, none, none, none, none, none, none, none] [] h 0 0) {a0 : Nat} {y2 : Int64} {y4 : Int64} {y6 : Int64} {y8 : Int64} {x10 : Int32} {y11 : Int64} {y13 : Int64} {y15 : Int64} {y17 : Int64} {h : HP} {r : Int32 × HP} (k0 : knd a0 = 7) (e : f_Q_kept_342 k16_ a0 y2 y4 y6 y8 x10 y11 y13 y15 y17 h = some r) : Go l D ad aC (rmk m_Q_kept) (QM D ad aC m_Q_kept (.inl (some (.int r.1))) r.2) m_Q_kept 342 [some (.ref a0), none, some (.long y2), none, some (.long y4), none, some (.long y6), none, some (.long y8), none, some (.int x10), some (.long y11), none, some (.long y13), none, some (.long y15), none, some (.long y17), none, none, none, none, none, none, none, none, none, none, none, none, none, none] [] h 0 0 := by
  unfold f_Q_kept_342 at e
  refine Go.run (pc' := 343) [.iconst 0] (ls' := [some (.ref a0), none, some (.long y2), none, some (.long y4), none, some (.long y6), none, some (.long y8), none, some (.int x10), some (.long y11), none, some (.long y13), none, some (.long y15), none, some (.long y17), none, none, none, none, none, none, none, none, none, none, none, none, none, none]) (st' := [.int (0 : Int32)]) (by decide +kernel) rfl rfl ?_
  exact x_Q_kept_343 hf hI K16_ k0 e
def f_Q_kept_335 (k16_ : Nat → Int32 → Int64 → Int64 → Int64 → Int64 → Int32 → HP → Option (Int32 × HP)) (a0 : Nat) (y2 : Int64) (y4 : Int64) (y6 : Int64) (y8 : Int64) (x10 : Int32) (y11 : Int64) (y13 : Int64) (y15 : Int64) (y17 : Int64) (s0 : Int32) (s1 : Int32) (h : HP) : Option (Int32 × HP) :=
  if s0 = s1 then
    f_Q_kept_343 k16_ a0 y2 y4 y6 y8 x10 y11 y13 y15 y17 (1 : Int32) h
  else
    f_Q_kept_342 k16_ a0 y2 y4 y6 y8 x10 y11 y13 y15 y17 h
set_option maxHeartbeats 4000000 in
theorem x_Q_kept_335 {l : Launch} {D : va_G} {ad : Nat → Nat} {aC : Nat → ClassId} (hf : l.flags = flags0) (hI : Inj ad) {k16_ : Nat → Int32 → Int64 → Int64 → Int64 → Int64 → Int32 → HP → Option (Int32 × HP)} (K16_ : ∀ {a0 : Nat} {x1 : Int32} {y2 : Int64} {y4 : Int64} {y6 : Int64} {y8 : Int64} {x10 : Int32} {h : HP} {r : Int32 × HP}, knd a0 = 7 → k16_ a0 x1 y2 y4 y6 y8 x10 h = some r → Go l D ad aC (rmk m_Q_kept) (QM D ad aC m_Q_kept (.inl (some (.int r.1))) r.2) m_Q_kept 16 [some (.ref a0), some (.int x1), some (.long y2), none, some (.long y4), none, some (.long y6), none, some (.long y8), none, some (.int x10), none, none, none, none, none, none, none, none, none, none, none, none, none, none, none, none, none, none, none, none, none] [] h 0 0) {a0 : Nat} {y2 : Int64} {y4 : Int64} {y6 : Int64} {y8 : Int64} {x10 : Int32} {y11 : Int64} {y13 : Int64} {y15 : Int64} {y17 : Int64} {s0 : Int32} {s1 : Int32} {h : HP} {r : Int32 × HP} (k0 : knd a0 = 7) (e : f_Q_kept_335 k16_ a0 y2 y4 y6 y8 x10 y11 y13 y15 y17 s0 s1 h = some r) : Go l D ad aC (rmk m_Q_kept) (QM D ad aC m_Q_kept (.inl (some (.int r.1))) r.2) m_Q_kept 335 [some (.ref a0), none, some (.long y2), none, some (.long y4), none, some (.long y6), none, some (.long y8), none, some (.int x10), some (.long y11), none, some (.long y13), none, some (.long y15), none, some (.long y17), none, none, none, none, none, none, none, none, none, none, none, none, none, none] [.int s1, .int s0] h 0 0 := by
  unfold f_Q_kept_335 at e
  refine Go.ic_ne (off := 7) (tgt := 342) (by decide +kernel) (by decide) (fun c1 => ?_) (fun c1 => ?_)
  · replace e := ite_f c1 e
    exact x_Q_kept_342 hf hI K16_ k0 e
  · replace e := ite_t c1 e
    refine Go.run (pc' := 339) [.iconst 1] (ls' := [some (.ref a0), none, some (.long y2), none, some (.long y4), none, some (.long y6), none, some (.long y8), none, some (.int x10), some (.long y11), none, some (.long y13), none, some (.long y15), none, some (.long y17), none, none, none, none, none, none, none, none, none, none, none, none, none, none]) (st' := [.int (1 : Int32)]) (by decide +kernel) rfl rfl ?_
    refine Go.goto (off := 4) (tgt := 343) (by decide +kernel) (by decide) ?_
    exact x_Q_kept_343 hf hI K16_ k0 e
def f_Q_kept_323 (k16_ : Nat → Int32 → Int64 → Int64 → Int64 → Int64 → Int32 → HP → Option (Int32 × HP)) (a0 : Nat) (y2 : Int64) (y4 : Int64) (y6 : Int64) (y8 : Int64) (x10 : Int32) (y11 : Int64) (y13 : Int64) (y15 : Int64) (y17 : Int64) (s0 : Int32) (h : HP) : Option (Int32 × HP) :=
  if (lg_cmp y13 (0 : Int64)) = 0 then
    f_Q_kept_335 k16_ a0 y2 y4 y6 y8 x10 y11 y13 y15 y17 s0 (1 : Int32) h
  else
    f_Q_kept_335 k16_ a0 y2 y4 y6 y8 x10 y11 y13 y15 y17 s0 (0 : Int32) h
set_option maxHeartbeats 4000000 in
theorem x_Q_kept_323 {l : Launch} {D : va_G} {ad : Nat → Nat} {aC : Nat → ClassId} (hf : l.flags = flags0) (hI : Inj ad) {k16_ : Nat → Int32 → Int64 → Int64 → Int64 → Int64 → Int32 → HP → Option (Int32 × HP)} (K16_ : ∀ {a0 : Nat} {x1 : Int32} {y2 : Int64} {y4 : Int64} {y6 : Int64} {y8 : Int64} {x10 : Int32} {h : HP} {r : Int32 × HP}, knd a0 = 7 → k16_ a0 x1 y2 y4 y6 y8 x10 h = some r → Go l D ad aC (rmk m_Q_kept) (QM D ad aC m_Q_kept (.inl (some (.int r.1))) r.2) m_Q_kept 16 [some (.ref a0), some (.int x1), some (.long y2), none, some (.long y4), none, some (.long y6), none, some (.long y8), none, some (.int x10), none, none, none, none, none, none, none, none, none, none, none, none, none, none, none, none, none, none, none, none, none] [] h 0 0) {a0 : Nat} {y2 : Int64} {y4 : Int64} {y6 : Int64} {y8 : Int64} {x10 : Int32} {y11 : Int64} {y13 : Int64} {y15 : Int64} {y17 : Int64} {s0 : Int32} {h : HP} {r : Int32 × HP} (k0 : knd a0 = 7) (e : f_Q_kept_323 k16_ a0 y2 y4 y6 y8 x10 y11 y13 y15 y17 s0 h = some r) : Go l D ad aC (rmk m_Q_kept) (QM D ad aC m_Q_kept (.inl (some (.int r.1))) r.2) m_Q_kept 323 [some (.ref a0), none, some (.long y2), none, some (.long y4), none, some (.long y6), none, some (.long y8), none, some (.int x10), some (.long y11), none, some (.long y13), none, some (.long y15), none, some (.long y17), none, none, none, none, none, none, none, none, none, none, none, none, none, none] [.int s0] h 0 0 := by
  unfold f_Q_kept_323 at e
  refine Go.run (pc' := 327) [.lload 13, .lconst 0, .lcmp] (ls' := [some (.ref a0), none, some (.long y2), none, some (.long y4), none, some (.long y6), none, some (.long y8), none, some (.int x10), some (.long y11), none, some (.long y13), none, some (.long y15), none, some (.long y17), none, none, none, none, none, none, none, none, none, none, none, none, none, none]) (st' := [.int (lg_cmp y13 (0 : Int64)), .int s0]) (by decide +kernel) rfl rfl ?_
  refine Go.if_ne (off := 7) (tgt := 334) (by decide +kernel) (by decide) (fun c1 => ?_) (fun c1 => ?_)
  · replace e := ite_f c1 e
    refine Go.run (pc' := 335) [.iconst 0] (ls' := [some (.ref a0), none, some (.long y2), none, some (.long y4), none, some (.long y6), none, some (.long y8), none, some (.int x10), some (.long y11), none, some (.long y13), none, some (.long y15), none, some (.long y17), none, none, none, none, none, none, none, none, none, none, none, none, none, none]) (st' := [.int (0 : Int32), .int s0]) (by decide +kernel) rfl rfl ?_
    exact x_Q_kept_335 hf hI K16_ k0 e
  · replace e := ite_t c1 e
    refine Go.run (pc' := 331) [.iconst 1] (ls' := [some (.ref a0), none, some (.long y2), none, some (.long y4), none, some (.long y6), none, some (.long y8), none, some (.int x10), some (.long y11), none, some (.long y13), none, some (.long y15), none, some (.long y17), none, none, none, none, none, none, none, none, none, none, none, none, none, none]) (st' := [.int (1 : Int32), .int s0]) (by decide +kernel) rfl rfl ?_
    refine Go.goto (off := 4) (tgt := 335) (by decide +kernel) (by decide) ?_
    exact x_Q_kept_335 hf hI K16_ k0 e
def f_Q_kept_232 (k16_ : Nat → Int32 → Int64 → Int64 → Int64 → Int64 → Int32 → HP → Option (Int32 × HP)) (a0 : Nat) (x1 : Int32) (y2 : Int64) (y4 : Int64) (y6 : Int64) (y8 : Int64) (x10 : Int32) (y11 : Int64) (y13 : Int64) (y15 : Int64) (y17 : Int64) (h : HP) : Option (Int32 × HP) :=
  if x1 = 0 then
    f_Q_kept_342 k16_ a0 y2 y4 y6 y8 x10 y11 y13 y15 y17 h
  else
    (g_Q_free h a0 x10 (0 : Int32)).bind fun v2 =>
    if (lg_cmp v2.1 y13) = 0 then
      (g_Q_free v2.2 a0 x10 (1 : Int32)).bind fun v5 =>
      if (lg_cmp v5.1 y13) = 0 then
        (g_Q_wallOf v5.2 a0 x10 (2 : Int32)).bind fun v8 =>
        if (lg_cmp v8.1 y15) = 0 then
          (g_Q_wallOf v8.2 a0 x10 (3 : Int32)).bind fun v11 =>
          if (lg_cmp v11.1 y17) = 0 then
            (g_Q_wallOf v11.2 a0 x10 (4 : Int32)).bind fun v14 =>
            (f_Q_in v14.2 v14.1 (0 : Int64) y13).bind fun v16 =>
            if v16 = 0 then
              f_Q_kept_342 k16_ a0 y2 y4 y6 y8 x10 y11 y13 y15 y17 v14.2
            else
              (g_Q_wallOf v14.2 a0 x10 (5 : Int32)).bind fun v19 =>
              if (lg_cmp v19.1 (-1 : Int64)) = 0 then
                f_Q_kept_323 k16_ a0 y2 y4 y6 y8 x10 y11 y13 y15 y17 (1 : Int32) v19.2
              else
                f_Q_kept_323 k16_ a0 y2 y4 y6 y8 x10 y11 y13 y15 y17 (0 : Int32) v19.2
          else
            f_Q_kept_342 k16_ a0 y2 y4 y6 y8 x10 y11 y13 y15 y17 v11.2
        else
          f_Q_kept_342 k16_ a0 y2 y4 y6 y8 x10 y11 y13 y15 y17 v8.2
      else
        f_Q_kept_342 k16_ a0 y2 y4 y6 y8 x10 y11 y13 y15 y17 v5.2
    else
      f_Q_kept_342 k16_ a0 y2 y4 y6 y8 x10 y11 y13 y15 y17 v2.2
set_option maxHeartbeats 4000000 in
theorem x_Q_kept_232 {l : Launch} {D : va_G} {ad : Nat → Nat} {aC : Nat → ClassId} (hf : l.flags = flags0) (hI : Inj ad) {k16_ : Nat → Int32 → Int64 → Int64 → Int64 → Int64 → Int32 → HP → Option (Int32 × HP)} (K16_ : ∀ {a0 : Nat} {x1 : Int32} {y2 : Int64} {y4 : Int64} {y6 : Int64} {y8 : Int64} {x10 : Int32} {h : HP} {r : Int32 × HP}, knd a0 = 7 → k16_ a0 x1 y2 y4 y6 y8 x10 h = some r → Go l D ad aC (rmk m_Q_kept) (QM D ad aC m_Q_kept (.inl (some (.int r.1))) r.2) m_Q_kept 16 [some (.ref a0), some (.int x1), some (.long y2), none, some (.long y4), none, some (.long y6), none, some (.long y8), none, some (.int x10), none, none, none, none, none, none, none, none, none, none, none, none, none, none, none, none, none, none, none, none, none] [] h 0 0) {a0 : Nat} {x1 : Int32} {y2 : Int64} {y4 : Int64} {y6 : Int64} {y8 : Int64} {x10 : Int32} {y11 : Int64} {y13 : Int64} {y15 : Int64} {y17 : Int64} {h : HP} {r : Int32 × HP} (k0 : knd a0 = 7) (e : f_Q_kept_232 k16_ a0 x1 y2 y4 y6 y8 x10 y11 y13 y15 y17 h = some r) : Go l D ad aC (rmk m_Q_kept) (QM D ad aC m_Q_kept (.inl (some (.int r.1))) r.2) m_Q_kept 232 [some (.ref a0), some (.int x1), some (.long y2), none, some (.long y4), none, some (.long y6), none, some (.long y8), none, some (.int x10), some (.long y11), none, some (.long y13), none, some (.long y15), none, some (.long y17), none, none, none, none, none, none, none, none, none, none, none, none, none, none] [] h 0 0 := by
  unfold f_Q_kept_232 at e
  refine Go.run (pc' := 233) [.iload_n 1] (ls' := [some (.ref a0), some (.int x1), some (.long y2), none, some (.long y4), none, some (.long y6), none, some (.long y8), none, some (.int x10), some (.long y11), none, some (.long y13), none, some (.long y15), none, some (.long y17), none, none, none, none, none, none, none, none, none, none, none, none, none, none]) (st' := [.int x1]) (by decide +kernel) rfl rfl ?_
  refine Go.if_eq (off := 109) (tgt := 342) (by decide +kernel) (by decide) (fun c1 => ?_) (fun c1 => ?_)
  · replace e := ite_t c1 e
    refine Go.wk' (wks (wkn (wks (wks (wks (wks (wks (wks (wks (wks (wks (wks (wks (wks (wks (wks (wks (wks (wks (wks (wks (wks (wks (wks (wks (wks (wks (wks (wks (wks (wks (wks wk0)))))))))))))))))))))))))))))))) ?_
    exact x_Q_kept_342 hf hI K16_ k0 e
  · replace e := ite_f c1 e
    refine Go.run (pc' := 240) [.aload_n 0, .iload 10, .iconst 0] (ls' := [some (.ref a0), some (.int x1), some (.long y2), none, some (.long y4), none, some (.long y6), none, some (.long y8), none, some (.int x10), some (.long y11), none, some (.long y13), none, some (.long y15), none, some (.long y17), none, none, none, none, none, none, none, none, none, none, none, none, none, none]) (st' := [.int (0 : Int32), .int x10, .ref a0]) (by decide +kernel) rfl rfl ?_
    obtain ⟨v2, e3, e⟩ := bd_inv e
    refine Go.callH (M2 := (mr m_Q_free (.inl none))) (as := [.ref a0, .int x10, .int (0 : Int32)]) (rest := []) (v := some (.long v2.1)) (h1 := v2.2) (xn_Q_free hf hI k0 e3) (WH.mr wh_Q_134) (by decide +kernel) rfl rfl ⟨⟨Nat.le_of_ble_eq_true rfl, Nat.le_of_ble_eq_true rfl⟩, ⟨Nat.le_of_ble_eq_true rfl, Nat.le_of_ble_eq_true rfl⟩⟩ (Nat.le_of_ble_eq_true rfl) ?_
    show Go l D ad aC (rmk m_Q_kept) _ m_Q_kept 243 [some (.ref a0), some (.int x1), some (.long y2), none, some (.long y4), none, some (.long y6), none, some (.long y8), none, some (.int x10), some (.long y11), none, some (.long y13), none, some (.long y15), none, some (.long y17), none, none, none, none, none, none, none, none, none, none, none, none, none, none] [.long v2.1] v2.2 0 0
    refine Go.run (pc' := 246) [.lload 13, .lcmp] (ls' := [some (.ref a0), some (.int x1), some (.long y2), none, some (.long y4), none, some (.long y6), none, some (.long y8), none, some (.int x10), some (.long y11), none, some (.long y13), none, some (.long y15), none, some (.long y17), none, none, none, none, none, none, none, none, none, none, none, none, none, none]) (st' := [.int (lg_cmp v2.1 y13)]) (by decide +kernel) rfl rfl ?_
    refine Go.if_ne (off := 96) (tgt := 342) (by decide +kernel) (by decide) (fun c4 => ?_) (fun c4 => ?_)
    · replace e := ite_f c4 e
      refine Go.wk' (wks (wkn (wks (wks (wks (wks (wks (wks (wks (wks (wks (wks (wks (wks (wks (wks (wks (wks (wks (wks (wks (wks (wks (wks (wks (wks (wks (wks (wks (wks (wks (wks wk0)))))))))))))))))))))))))))))))) ?_
      exact x_Q_kept_342 hf hI K16_ k0 e
    · replace e := ite_t c4 e
      refine Go.run (pc' := 253) [.aload_n 0, .iload 10, .iconst 1] (ls' := [some (.ref a0), some (.int x1), some (.long y2), none, some (.long y4), none, some (.long y6), none, some (.long y8), none, some (.int x10), some (.long y11), none, some (.long y13), none, some (.long y15), none, some (.long y17), none, none, none, none, none, none, none, none, none, none, none, none, none, none]) (st' := [.int (1 : Int32), .int x10, .ref a0]) (by decide +kernel) rfl rfl ?_
      obtain ⟨v5, e6, e⟩ := bd_inv e
      refine Go.callH (M2 := (mr m_Q_free (.inl none))) (as := [.ref a0, .int x10, .int (1 : Int32)]) (rest := []) (v := some (.long v5.1)) (h1 := v5.2) (xn_Q_free hf hI k0 e6) (WH.mr wh_Q_134) (by decide +kernel) rfl rfl ⟨⟨Nat.le_of_ble_eq_true rfl, Nat.le_of_ble_eq_true rfl⟩, ⟨Nat.le_of_ble_eq_true rfl, Nat.le_of_ble_eq_true rfl⟩⟩ (Nat.le_of_ble_eq_true rfl) ?_
      show Go l D ad aC (rmk m_Q_kept) _ m_Q_kept 256 [some (.ref a0), some (.int x1), some (.long y2), none, some (.long y4), none, some (.long y6), none, some (.long y8), none, some (.int x10), some (.long y11), none, some (.long y13), none, some (.long y15), none, some (.long y17), none, none, none, none, none, none, none, none, none, none, none, none, none, none] [.long v5.1] v5.2 0 0
      refine Go.run (pc' := 259) [.lload 13, .lcmp] (ls' := [some (.ref a0), some (.int x1), some (.long y2), none, some (.long y4), none, some (.long y6), none, some (.long y8), none, some (.int x10), some (.long y11), none, some (.long y13), none, some (.long y15), none, some (.long y17), none, none, none, none, none, none, none, none, none, none, none, none, none, none]) (st' := [.int (lg_cmp v5.1 y13)]) (by decide +kernel) rfl rfl ?_
      refine Go.if_ne (off := 83) (tgt := 342) (by decide +kernel) (by decide) (fun c7 => ?_) (fun c7 => ?_)
      · replace e := ite_f c7 e
        refine Go.wk' (wks (wkn (wks (wks (wks (wks (wks (wks (wks (wks (wks (wks (wks (wks (wks (wks (wks (wks (wks (wks (wks (wks (wks (wks (wks (wks (wks (wks (wks (wks (wks (wks wk0)))))))))))))))))))))))))))))))) ?_
        exact x_Q_kept_342 hf hI K16_ k0 e
      · replace e := ite_t c7 e
        refine Go.run (pc' := 266) [.aload_n 0, .iload 10, .iconst 2] (ls' := [some (.ref a0), some (.int x1), some (.long y2), none, some (.long y4), none, some (.long y6), none, some (.long y8), none, some (.int x10), some (.long y11), none, some (.long y13), none, some (.long y15), none, some (.long y17), none, none, none, none, none, none, none, none, none, none, none, none, none, none]) (st' := [.int (2 : Int32), .int x10, .ref a0]) (by decide +kernel) rfl rfl ?_
        obtain ⟨v8, e9, e⟩ := bd_inv e
        refine Go.callH (M2 := (mr m_Q_wallOf (.inl none))) (as := [.ref a0, .int x10, .int (2 : Int32)]) (rest := []) (v := some (.long v8.1)) (h1 := v8.2) (xn_Q_wallOf hf hI k0 e9) (WH.mr wh_Q_120) (by decide +kernel) rfl rfl ⟨⟨Nat.le_of_ble_eq_true rfl, Nat.le_of_ble_eq_true rfl⟩, ⟨Nat.le_of_ble_eq_true rfl, Nat.le_of_ble_eq_true rfl⟩⟩ (Nat.le_of_ble_eq_true rfl) ?_
        show Go l D ad aC (rmk m_Q_kept) _ m_Q_kept 269 [some (.ref a0), some (.int x1), some (.long y2), none, some (.long y4), none, some (.long y6), none, some (.long y8), none, some (.int x10), some (.long y11), none, some (.long y13), none, some (.long y15), none, some (.long y17), none, none, none, none, none, none, none, none, none, none, none, none, none, none] [.long v8.1] v8.2 0 0
        refine Go.run (pc' := 272) [.lload 15, .lcmp] (ls' := [some (.ref a0), some (.int x1), some (.long y2), none, some (.long y4), none, some (.long y6), none, some (.long y8), none, some (.int x10), some (.long y11), none, some (.long y13), none, some (.long y15), none, some (.long y17), none, none, none, none, none, none, none, none, none, none, none, none, none, none]) (st' := [.int (lg_cmp v8.1 y15)]) (by decide +kernel) rfl rfl ?_
        refine Go.if_ne (off := 70) (tgt := 342) (by decide +kernel) (by decide) (fun c10 => ?_) (fun c10 => ?_)
        · replace e := ite_f c10 e
          refine Go.wk' (wks (wkn (wks (wks (wks (wks (wks (wks (wks (wks (wks (wks (wks (wks (wks (wks (wks (wks (wks (wks (wks (wks (wks (wks (wks (wks (wks (wks (wks (wks (wks (wks wk0)))))))))))))))))))))))))))))))) ?_
          exact x_Q_kept_342 hf hI K16_ k0 e
        · replace e := ite_t c10 e
          refine Go.run (pc' := 279) [.aload_n 0, .iload 10, .iconst 3] (ls' := [some (.ref a0), some (.int x1), some (.long y2), none, some (.long y4), none, some (.long y6), none, some (.long y8), none, some (.int x10), some (.long y11), none, some (.long y13), none, some (.long y15), none, some (.long y17), none, none, none, none, none, none, none, none, none, none, none, none, none, none]) (st' := [.int (3 : Int32), .int x10, .ref a0]) (by decide +kernel) rfl rfl ?_
          obtain ⟨v11, e12, e⟩ := bd_inv e
          refine Go.callH (M2 := (mr m_Q_wallOf (.inl none))) (as := [.ref a0, .int x10, .int (3 : Int32)]) (rest := []) (v := some (.long v11.1)) (h1 := v11.2) (xn_Q_wallOf hf hI k0 e12) (WH.mr wh_Q_120) (by decide +kernel) rfl rfl ⟨⟨Nat.le_of_ble_eq_true rfl, Nat.le_of_ble_eq_true rfl⟩, ⟨Nat.le_of_ble_eq_true rfl, Nat.le_of_ble_eq_true rfl⟩⟩ (Nat.le_of_ble_eq_true rfl) ?_
          show Go l D ad aC (rmk m_Q_kept) _ m_Q_kept 282 [some (.ref a0), some (.int x1), some (.long y2), none, some (.long y4), none, some (.long y6), none, some (.long y8), none, some (.int x10), some (.long y11), none, some (.long y13), none, some (.long y15), none, some (.long y17), none, none, none, none, none, none, none, none, none, none, none, none, none, none] [.long v11.1] v11.2 0 0
          refine Go.run (pc' := 285) [.lload 17, .lcmp] (ls' := [some (.ref a0), some (.int x1), some (.long y2), none, some (.long y4), none, some (.long y6), none, some (.long y8), none, some (.int x10), some (.long y11), none, some (.long y13), none, some (.long y15), none, some (.long y17), none, none, none, none, none, none, none, none, none, none, none, none, none, none]) (st' := [.int (lg_cmp v11.1 y17)]) (by decide +kernel) rfl rfl ?_
          refine Go.if_ne (off := 57) (tgt := 342) (by decide +kernel) (by decide) (fun c13 => ?_) (fun c13 => ?_)
          · replace e := ite_f c13 e
            refine Go.wk' (wks (wkn (wks (wks (wks (wks (wks (wks (wks (wks (wks (wks (wks (wks (wks (wks (wks (wks (wks (wks (wks (wks (wks (wks (wks (wks (wks (wks (wks (wks (wks (wks wk0)))))))))))))))))))))))))))))))) ?_
            exact x_Q_kept_342 hf hI K16_ k0 e
          · replace e := ite_t c13 e
            refine Go.run (pc' := 292) [.aload_n 0, .iload 10, .iconst 4] (ls' := [some (.ref a0), some (.int x1), some (.long y2), none, some (.long y4), none, some (.long y6), none, some (.long y8), none, some (.int x10), some (.long y11), none, some (.long y13), none, some (.long y15), none, some (.long y17), none, none, none, none, none, none, none, none, none, none, none, none, none, none]) (st' := [.int (4 : Int32), .int x10, .ref a0]) (by decide +kernel) rfl rfl ?_
            obtain ⟨v14, e15, e⟩ := bd_inv e
            refine Go.callH (M2 := (mr m_Q_wallOf (.inl none))) (as := [.ref a0, .int x10, .int (4 : Int32)]) (rest := []) (v := some (.long v14.1)) (h1 := v14.2) (xn_Q_wallOf hf hI k0 e15) (WH.mr wh_Q_120) (by decide +kernel) rfl rfl ⟨⟨Nat.le_of_ble_eq_true rfl, Nat.le_of_ble_eq_true rfl⟩, ⟨Nat.le_of_ble_eq_true rfl, Nat.le_of_ble_eq_true rfl⟩⟩ (Nat.le_of_ble_eq_true rfl) ?_
            show Go l D ad aC (rmk m_Q_kept) _ m_Q_kept 295 [some (.ref a0), some (.int x1), some (.long y2), none, some (.long y4), none, some (.long y6), none, some (.long y8), none, some (.int x10), some (.long y11), none, some (.long y13), none, some (.long y15), none, some (.long y17), none, none, none, none, none, none, none, none, none, none, none, none, none, none] [.long v14.1] v14.2 0 0
            refine Go.run (pc' := 298) [.lconst 0, .lload 13] (ls' := [some (.ref a0), some (.int x1), some (.long y2), none, some (.long y4), none, some (.long y6), none, some (.long y8), none, some (.int x10), some (.long y11), none, some (.long y13), none, some (.long y15), none, some (.long y17), none, none, none, none, none, none, none, none, none, none, none, none, none, none]) (st' := [.long y13, .long (0 : Int64), .long v14.1]) (by decide +kernel) rfl rfl ?_
            obtain ⟨v16, e17, e⟩ := bd_inv e
            refine Go.callS (M2 := m_Q_in) (as := [.long v14.1, .long (0 : Int64), .long y13]) (rest := []) (v := some (.int v16)) (h1 := v14.2) (x_Q_in hf hI  e17) ws_Q_177 (by decide +kernel) rfl rfl ⟨⟨Nat.le_of_ble_eq_true rfl, Nat.le_of_ble_eq_true rfl⟩, ⟨Nat.le_of_ble_eq_true rfl, Nat.le_of_ble_eq_true rfl⟩⟩ (Nat.le_of_ble_eq_true rfl) ?_
            show Go l D ad aC (rmk m_Q_kept) _ m_Q_kept 301 [some (.ref a0), some (.int x1), some (.long y2), none, some (.long y4), none, some (.long y6), none, some (.long y8), none, some (.int x10), some (.long y11), none, some (.long y13), none, some (.long y15), none, some (.long y17), none, none, none, none, none, none, none, none, none, none, none, none, none, none] [.int v16] v14.2 0 0
            refine Go.if_eq (off := 41) (tgt := 342) (by decide +kernel) (by decide) (fun c18 => ?_) (fun c18 => ?_)
            · replace e := ite_t c18 e
              refine Go.wk' (wks (wkn (wks (wks (wks (wks (wks (wks (wks (wks (wks (wks (wks (wks (wks (wks (wks (wks (wks (wks (wks (wks (wks (wks (wks (wks (wks (wks (wks (wks (wks (wks wk0)))))))))))))))))))))))))))))))) ?_
              exact x_Q_kept_342 hf hI K16_ k0 e
            · replace e := ite_f c18 e
              refine Go.run (pc' := 308) [.aload_n 0, .iload 10, .iconst 5] (ls' := [some (.ref a0), some (.int x1), some (.long y2), none, some (.long y4), none, some (.long y6), none, some (.long y8), none, some (.int x10), some (.long y11), none, some (.long y13), none, some (.long y15), none, some (.long y17), none, none, none, none, none, none, none, none, none, none, none, none, none, none]) (st' := [.int (5 : Int32), .int x10, .ref a0]) (by decide +kernel) rfl rfl ?_
              obtain ⟨v19, e20, e⟩ := bd_inv e
              refine Go.callH (M2 := (mr m_Q_wallOf (.inl none))) (as := [.ref a0, .int x10, .int (5 : Int32)]) (rest := []) (v := some (.long v19.1)) (h1 := v19.2) (xn_Q_wallOf hf hI k0 e20) (WH.mr wh_Q_120) (by decide +kernel) rfl rfl ⟨⟨Nat.le_of_ble_eq_true rfl, Nat.le_of_ble_eq_true rfl⟩, ⟨Nat.le_of_ble_eq_true rfl, Nat.le_of_ble_eq_true rfl⟩⟩ (Nat.le_of_ble_eq_true rfl) ?_
              show Go l D ad aC (rmk m_Q_kept) _ m_Q_kept 311 [some (.ref a0), some (.int x1), some (.long y2), none, some (.long y4), none, some (.long y6), none, some (.long y8), none, some (.int x10), some (.long y11), none, some (.long y13), none, some (.long y15), none, some (.long y17), none, none, none, none, none, none, none, none, none, none, none, none, none, none] [.long v19.1] v19.2 0 0
              refine Go.ldc2 lo_Q_160 (by decide +kernel) ?_
              refine Go.run (pc' := 315) [.lcmp] (ls' := [some (.ref a0), some (.int x1), some (.long y2), none, some (.long y4), none, some (.long y6), none, some (.long y8), none, some (.int x10), some (.long y11), none, some (.long y13), none, some (.long y15), none, some (.long y17), none, none, none, none, none, none, none, none, none, none, none, none, none, none]) (st' := [.int (lg_cmp v19.1 (-1 : Int64))]) (by decide +kernel) rfl rfl ?_
              refine Go.if_ne (off := 7) (tgt := 322) (by decide +kernel) (by decide) (fun c21 => ?_) (fun c21 => ?_)
              · replace e := ite_f c21 e
                refine Go.run (pc' := 323) [.iconst 0] (ls' := [some (.ref a0), some (.int x1), some (.long y2), none, some (.long y4), none, some (.long y6), none, some (.long y8), none, some (.int x10), some (.long y11), none, some (.long y13), none, some (.long y15), none, some (.long y17), none, none, none, none, none, none, none, none, none, none, none, none, none, none]) (st' := [.int (0 : Int32)]) (by decide +kernel) rfl rfl ?_
                refine Go.wk' (wks (wkn (wks (wks (wks (wks (wks (wks (wks (wks (wks (wks (wks (wks (wks (wks (wks (wks (wks (wks (wks (wks (wks (wks (wks (wks (wks (wks (wks (wks (wks (wks wk0)))))))))))))))))))))))))))))))) ?_
                exact x_Q_kept_323 hf hI K16_ k0 e
              · replace e := ite_t c21 e
                refine Go.run (pc' := 319) [.iconst 1] (ls' := [some (.ref a0), some (.int x1), some (.long y2), none, some (.long y4), none, some (.long y6), none, some (.long y8), none, some (.int x10), some (.long y11), none, some (.long y13), none, some (.long y15), none, some (.long y17), none, none, none, none, none, none, none, none, none, none, none, none, none, none]) (st' := [.int (1 : Int32)]) (by decide +kernel) rfl rfl ?_
                refine Go.goto (off := 4) (tgt := 323) (by decide +kernel) (by decide) ?_
                refine Go.wk' (wks (wkn (wks (wks (wks (wks (wks (wks (wks (wks (wks (wks (wks (wks (wks (wks (wks (wks (wks (wks (wks (wks (wks (wks (wks (wks (wks (wks (wks (wks (wks (wks wk0)))))))))))))))))))))))))))))))) ?_
                exact x_Q_kept_323 hf hI K16_ k0 e
def f_Q_kept_195 (k16_ : Nat → Int32 → Int64 → Int64 → Int64 → Int64 → Int32 → HP → Option (Int32 × HP)) (k53_ : Nat → Int32 → Int64 → Int64 → Int64 → Int64 → Int32 → Int64 → Int64 → Int64 → Int64 → Int32 → HP → Option (Int32 × HP)) (a0 : Nat) (x1 : Int32) (y2 : Int64) (y4 : Int64) (y6 : Int64) (y8 : Int64) (x10 : Int32) (y11 : Int64) (y15 : Int64) (y17 : Int64) (x19 : Int32) (t0 : Int64) (t1 : Int64) (h : HP) : Option (Int32 × HP) :=
  (g_Q_metreOf h a0 x10 x19 (0 : Int32)).bind fun v1 =>
  (g_Q_metreOf v1.2 a0 x10 x19 (1 : Int32)).bind fun v3 =>
  k53_ a0 x1 y2 y4 y6 y8 x10 y11 (t0 + t1) (y15 + v1.1) (y17 + v3.1) (x19 + (1 : Int32)) v3.2
set_option maxHeartbeats 4000000 in
theorem x_Q_kept_195 {l : Launch} {D : va_G} {ad : Nat → Nat} {aC : Nat → ClassId} (hf : l.flags = flags0) (hI : Inj ad) {k16_ : Nat → Int32 → Int64 → Int64 → Int64 → Int64 → Int32 → HP → Option (Int32 × HP)} {k53_ : Nat → Int32 → Int64 → Int64 → Int64 → Int64 → Int32 → Int64 → Int64 → Int64 → Int64 → Int32 → HP → Option (Int32 × HP)} (K16_ : ∀ {a0 : Nat} {x1 : Int32} {y2 : Int64} {y4 : Int64} {y6 : Int64} {y8 : Int64} {x10 : Int32} {h : HP} {r : Int32 × HP}, knd a0 = 7 → k16_ a0 x1 y2 y4 y6 y8 x10 h = some r → Go l D ad aC (rmk m_Q_kept) (QM D ad aC m_Q_kept (.inl (some (.int r.1))) r.2) m_Q_kept 16 [some (.ref a0), some (.int x1), some (.long y2), none, some (.long y4), none, some (.long y6), none, some (.long y8), none, some (.int x10), none, none, none, none, none, none, none, none, none, none, none, none, none, none, none, none, none, none, none, none, none] [] h 0 0) (K53_ : ∀ {a0 : Nat} {x1 : Int32} {y2 : Int64} {y4 : Int64} {y6 : Int64} {y8 : Int64} {x10 : Int32} {y11 : Int64} {y13 : Int64} {y15 : Int64} {y17 : Int64} {x19 : Int32} {h : HP} {r : Int32 × HP}, knd a0 = 7 → k53_ a0 x1 y2 y4 y6 y8 x10 y11 y13 y15 y17 x19 h = some r → Go l D ad aC (rmk m_Q_kept) (QM D ad aC m_Q_kept (.inl (some (.int r.1))) r.2) m_Q_kept 53 [some (.ref a0), some (.int x1), some (.long y2), none, some (.long y4), none, some (.long y6), none, some (.long y8), none, some (.int x10), some (.long y11), none, some (.long y13), none, some (.long y15), none, some (.long y17), none, some (.int x19), none, none, none, none, none, none, none, none, none, none, none, none] [] h 0 0) {a0 : Nat} {x1 : Int32} {y2 : Int64} {y4 : Int64} {y6 : Int64} {y8 : Int64} {x10 : Int32} {y11 : Int64} {y15 : Int64} {y17 : Int64} {x19 : Int32} {t0 : Int64} {t1 : Int64} {h : HP} {r : Int32 × HP} (k0 : knd a0 = 7) (e : f_Q_kept_195 k16_ k53_ a0 x1 y2 y4 y6 y8 x10 y11 y15 y17 x19 t0 t1 h = some r) : Go l D ad aC (rmk m_Q_kept) (QM D ad aC m_Q_kept (.inl (some (.int r.1))) r.2) m_Q_kept 195 [some (.ref a0), some (.int x1), some (.long y2), none, some (.long y4), none, some (.long y6), none, some (.long y8), none, some (.int x10), some (.long y11), none, none, none, some (.long y15), none, some (.long y17), none, some (.int x19), none, none, none, none, none, none, none, none, none, none, none, none] [.long t1, .long t0] h 0 0 := by
  unfold f_Q_kept_195 at e
  refine Go.run (pc' := 206) [.ladd, .lstore 13, .lload 15, .aload_n 0, .iload 10, .iload 19, .iconst 0] (ls' := [some (.ref a0), some (.int x1), some (.long y2), none, some (.long y4), none, some (.long y6), none, some (.long y8), none, some (.int x10), some (.long y11), none, some (.long (t0 + t1)), none, some (.long y15), none, some (.long y17), none, some (.int x19), none, none, none, none, none, none, none, none, none, none, none, none]) (st' := [.int (0 : Int32), .int x19, .int x10, .ref a0, .long y15]) (by decide +kernel) rfl rfl ?_
  obtain ⟨v1, e2, e⟩ := bd_inv e
  refine Go.callH (M2 := (mr m_Q_metreOf (.inl none))) (as := [.ref a0, .int x10, .int x19, .int (0 : Int32)]) (rest := [.long y15]) (v := some (.long v1.1)) (h1 := v1.2) (xn_Q_metreOf hf hI k0 e2) (WH.mr wh_Q_123) (by decide +kernel) rfl rfl ⟨⟨Nat.le_of_ble_eq_true rfl, Nat.le_of_ble_eq_true rfl⟩, ⟨Nat.le_of_ble_eq_true rfl, Nat.le_of_ble_eq_true rfl⟩⟩ (Nat.le_of_ble_eq_true rfl) ?_
  show Go l D ad aC (rmk m_Q_kept) _ m_Q_kept 209 [some (.ref a0), some (.int x1), some (.long y2), none, some (.long y4), none, some (.long y6), none, some (.long y8), none, some (.int x10), some (.long y11), none, some (.long (t0 + t1)), none, some (.long y15), none, some (.long y17), none, some (.int x19), none, none, none, none, none, none, none, none, none, none, none, none] [.long v1.1, .long y15] v1.2 0 0
  refine Go.run (pc' := 220) [.ladd, .lstore 15, .lload 17, .aload_n 0, .iload 10, .iload 19, .iconst 1] (ls' := [some (.ref a0), some (.int x1), some (.long y2), none, some (.long y4), none, some (.long y6), none, some (.long y8), none, some (.int x10), some (.long y11), none, some (.long (t0 + t1)), none, some (.long (y15 + v1.1)), none, some (.long y17), none, some (.int x19), none, none, none, none, none, none, none, none, none, none, none, none]) (st' := [.int (1 : Int32), .int x19, .int x10, .ref a0, .long y17]) (by decide +kernel) rfl rfl ?_
  obtain ⟨v3, e4, e⟩ := bd_inv e
  refine Go.callH (M2 := (mr m_Q_metreOf (.inl none))) (as := [.ref a0, .int x10, .int x19, .int (1 : Int32)]) (rest := [.long y17]) (v := some (.long v3.1)) (h1 := v3.2) (xn_Q_metreOf hf hI k0 e4) (WH.mr wh_Q_123) (by decide +kernel) rfl rfl ⟨⟨Nat.le_of_ble_eq_true rfl, Nat.le_of_ble_eq_true rfl⟩, ⟨Nat.le_of_ble_eq_true rfl, Nat.le_of_ble_eq_true rfl⟩⟩ (Nat.le_of_ble_eq_true rfl) ?_
  show Go l D ad aC (rmk m_Q_kept) _ m_Q_kept 223 [some (.ref a0), some (.int x1), some (.long y2), none, some (.long y4), none, some (.long y6), none, some (.long y8), none, some (.int x10), some (.long y11), none, some (.long (t0 + t1)), none, some (.long (y15 + v1.1)), none, some (.long y17), none, some (.int x19), none, none, none, none, none, none, none, none, none, none, none, none] [.long v3.1, .long y17] v3.2 0 0
  refine Go.run (pc' := 229) [.ladd, .lstore 17, .iinc 19 (1)] (ls' := [some (.ref a0), some (.int x1), some (.long y2), none, some (.long y4), none, some (.long y6), none, some (.long y8), none, some (.int x10), some (.long y11), none, some (.long (t0 + t1)), none, some (.long (y15 + v1.1)), none, some (.long (y17 + v3.1)), none, some (.int (x19 + (1 : Int32))), none, none, none, none, none, none, none, none, none, none, none, none]) (st' := []) (by decide +kernel) rfl rfl ?_
  refine Go.goto (off := -176) (tgt := 53) (by decide +kernel) (by decide) ?_
  exact K53_ k0 e
def f_Q_kept_178 (k16_ : Nat → Int32 → Int64 → Int64 → Int64 → Int64 → Int32 → HP → Option (Int32 × HP)) (k53_ : Nat → Int32 → Int64 → Int64 → Int64 → Int64 → Int32 → Int64 → Int64 → Int64 → Int64 → Int32 → HP → Option (Int32 × HP)) (a0 : Nat) (y2 : Int64) (y4 : Int64) (y6 : Int64) (y8 : Int64) (x10 : Int32) (y11 : Int64) (y13 : Int64) (y15 : Int64) (y17 : Int64) (x19 : Int32) (y20 : Int64) (s0 : Int32) (h : HP) : Option (Int32 × HP) :=
  if (lg_cmp y20 (-1 : Int64)) = 0 then
    f_Q_kept_195 k16_ k53_ a0 s0 y2 y4 y6 y8 x10 y11 y15 y17 x19 y13 (1 : Int64) h
  else
    f_Q_kept_195 k16_ k53_ a0 s0 y2 y4 y6 y8 x10 y11 y15 y17 x19 y13 (0 : Int64) h
set_option maxHeartbeats 4000000 in
theorem x_Q_kept_178 {l : Launch} {D : va_G} {ad : Nat → Nat} {aC : Nat → ClassId} (hf : l.flags = flags0) (hI : Inj ad) {k16_ : Nat → Int32 → Int64 → Int64 → Int64 → Int64 → Int32 → HP → Option (Int32 × HP)} {k53_ : Nat → Int32 → Int64 → Int64 → Int64 → Int64 → Int32 → Int64 → Int64 → Int64 → Int64 → Int32 → HP → Option (Int32 × HP)} (K16_ : ∀ {a0 : Nat} {x1 : Int32} {y2 : Int64} {y4 : Int64} {y6 : Int64} {y8 : Int64} {x10 : Int32} {h : HP} {r : Int32 × HP}, knd a0 = 7 → k16_ a0 x1 y2 y4 y6 y8 x10 h = some r → Go l D ad aC (rmk m_Q_kept) (QM D ad aC m_Q_kept (.inl (some (.int r.1))) r.2) m_Q_kept 16 [some (.ref a0), some (.int x1), some (.long y2), none, some (.long y4), none, some (.long y6), none, some (.long y8), none, some (.int x10), none, none, none, none, none, none, none, none, none, none, none, none, none, none, none, none, none, none, none, none, none] [] h 0 0) (K53_ : ∀ {a0 : Nat} {x1 : Int32} {y2 : Int64} {y4 : Int64} {y6 : Int64} {y8 : Int64} {x10 : Int32} {y11 : Int64} {y13 : Int64} {y15 : Int64} {y17 : Int64} {x19 : Int32} {h : HP} {r : Int32 × HP}, knd a0 = 7 → k53_ a0 x1 y2 y4 y6 y8 x10 y11 y13 y15 y17 x19 h = some r → Go l D ad aC (rmk m_Q_kept) (QM D ad aC m_Q_kept (.inl (some (.int r.1))) r.2) m_Q_kept 53 [some (.ref a0), some (.int x1), some (.long y2), none, some (.long y4), none, some (.long y6), none, some (.long y8), none, some (.int x10), some (.long y11), none, some (.long y13), none, some (.long y15), none, some (.long y17), none, some (.int x19), none, none, none, none, none, none, none, none, none, none, none, none] [] h 0 0) {a0 : Nat} {y2 : Int64} {y4 : Int64} {y6 : Int64} {y8 : Int64} {x10 : Int32} {y11 : Int64} {y13 : Int64} {y15 : Int64} {y17 : Int64} {x19 : Int32} {y20 : Int64} {s0 : Int32} {h : HP} {r : Int32 × HP} (k0 : knd a0 = 7) (e : f_Q_kept_178 k16_ k53_ a0 y2 y4 y6 y8 x10 y11 y13 y15 y17 x19 y20 s0 h = some r) : Go l D ad aC (rmk m_Q_kept) (QM D ad aC m_Q_kept (.inl (some (.int r.1))) r.2) m_Q_kept 178 [some (.ref a0), none, some (.long y2), none, some (.long y4), none, some (.long y6), none, some (.long y8), none, some (.int x10), some (.long y11), none, some (.long y13), none, some (.long y15), none, some (.long y17), none, some (.int x19), some (.long y20), none, none, none, none, none, none, none, none, none, none, none] [.int s0] h 0 0 := by
  unfold f_Q_kept_178 at e
  refine Go.run (pc' := 183) [.istore_n 1, .lload 13, .lload 20] (ls' := [some (.ref a0), some (.int s0), some (.long y2), none, some (.long y4), none, some (.long y6), none, some (.long y8), none, some (.int x10), some (.long y11), none, some (.long y13), none, some (.long y15), none, some (.long y17), none, some (.int x19), some (.long y20), none, none, none, none, none, none, none, none, none, none, none]) (st' := [.long y20, .long y13]) (by decide +kernel) rfl rfl ?_
  refine Go.ldc2 lo_Q_160 (by decide +kernel) ?_
  refine Go.run (pc' := 187) [.lcmp] (ls' := [some (.ref a0), some (.int s0), some (.long y2), none, some (.long y4), none, some (.long y6), none, some (.long y8), none, some (.int x10), some (.long y11), none, some (.long y13), none, some (.long y15), none, some (.long y17), none, some (.int x19), some (.long y20), none, none, none, none, none, none, none, none, none, none, none]) (st' := [.int (lg_cmp y20 (-1 : Int64)), .long y13]) (by decide +kernel) rfl rfl ?_
  refine Go.if_ne (off := 7) (tgt := 194) (by decide +kernel) (by decide) (fun c1 => ?_) (fun c1 => ?_)
  · replace e := ite_f c1 e
    refine Go.run (pc' := 195) [.lconst 0] (ls' := [some (.ref a0), some (.int s0), some (.long y2), none, some (.long y4), none, some (.long y6), none, some (.long y8), none, some (.int x10), some (.long y11), none, some (.long y13), none, some (.long y15), none, some (.long y17), none, some (.int x19), some (.long y20), none, none, none, none, none, none, none, none, none, none, none]) (st' := [.long (0 : Int64), .long y13]) (by decide +kernel) rfl rfl ?_
    refine Go.wk' (wks (wks (wks (wks (wks (wks (wks (wks (wks (wks (wks (wks (wks (wkn (wks (wks (wks (wks (wks (wks (wkn (wks (wks (wks (wks (wks (wks (wks (wks (wks (wks (wks wk0)))))))))))))))))))))))))))))))) ?_
    exact x_Q_kept_195 hf hI K16_ K53_ k0 e
  · replace e := ite_t c1 e
    refine Go.run (pc' := 191) [.lconst 1] (ls' := [some (.ref a0), some (.int s0), some (.long y2), none, some (.long y4), none, some (.long y6), none, some (.long y8), none, some (.int x10), some (.long y11), none, some (.long y13), none, some (.long y15), none, some (.long y17), none, some (.int x19), some (.long y20), none, none, none, none, none, none, none, none, none, none, none]) (st' := [.long (1 : Int64), .long y13]) (by decide +kernel) rfl rfl ?_
    refine Go.goto (off := 4) (tgt := 195) (by decide +kernel) (by decide) ?_
    refine Go.wk' (wks (wks (wks (wks (wks (wks (wks (wks (wks (wks (wks (wks (wks (wkn (wks (wks (wks (wks (wks (wks (wkn (wks (wks (wks (wks (wks (wks (wks (wks (wks (wks (wks wk0)))))))))))))))))))))))))))))))) ?_
    exact x_Q_kept_195 hf hI K16_ K53_ k0 e
def f_Q_kept_177 (k16_ : Nat → Int32 → Int64 → Int64 → Int64 → Int64 → Int32 → HP → Option (Int32 × HP)) (k53_ : Nat → Int32 → Int64 → Int64 → Int64 → Int64 → Int32 → Int64 → Int64 → Int64 → Int64 → Int32 → HP → Option (Int32 × HP)) (a0 : Nat) (y2 : Int64) (y4 : Int64) (y6 : Int64) (y8 : Int64) (x10 : Int32) (y11 : Int64) (y13 : Int64) (y15 : Int64) (y17 : Int64) (x19 : Int32) (y20 : Int64) (h : HP) : Option (Int32 × HP) :=
  f_Q_kept_178 k16_ k53_ a0 y2 y4 y6 y8 x10 y11 y13 y15 y17 x19 y20 (0 : Int32) h
set_option maxHeartbeats 4000000 in
theorem x_Q_kept_177 {l : Launch} {D : va_G} {ad : Nat → Nat} {aC : Nat → ClassId} (hf : l.flags = flags0) (hI : Inj ad) {k16_ : Nat → Int32 → Int64 → Int64 → Int64 → Int64 → Int32 → HP → Option (Int32 × HP)} {k53_ : Nat → Int32 → Int64 → Int64 → Int64 → Int64 → Int32 → Int64 → Int64 → Int64 → Int64 → Int32 → HP → Option (Int32 × HP)} (K16_ : ∀ {a0 : Nat} {x1 : Int32} {y2 : Int64} {y4 : Int64} {y6 : Int64} {y8 : Int64} {x10 : Int32} {h : HP} {r : Int32 × HP}, knd a0 = 7 → k16_ a0 x1 y2 y4 y6 y8 x10 h = some r → Go l D ad aC (rmk m_Q_kept) (QM D ad aC m_Q_kept (.inl (some (.int r.1))) r.2) m_Q_kept 16 [some (.ref a0), some (.int x1), some (.long y2), none, some (.long y4), none, some (.long y6), none, some (.long y8), none, some (.int x10), none, none, none, none, none, none, none, none, none, none, none, none, none, none, none, none, none, none, none, none, none] [] h 0 0) (K53_ : ∀ {a0 : Nat} {x1 : Int32} {y2 : Int64} {y4 : Int64} {y6 : Int64} {y8 : Int64} {x10 : Int32} {y11 : Int64} {y13 : Int64} {y15 : Int64} {y17 : Int64} {x19 : Int32} {h : HP} {r : Int32 × HP}, knd a0 = 7 → k53_ a0 x1 y2 y4 y6 y8 x10 y11 y13 y15 y17 x19 h = some r → Go l D ad aC (rmk m_Q_kept) (QM D ad aC m_Q_kept (.inl (some (.int r.1))) r.2) m_Q_kept 53 [some (.ref a0), some (.int x1), some (.long y2), none, some (.long y4), none, some (.long y6), none, some (.long y8), none, some (.int x10), some (.long y11), none, some (.long y13), none, some (.long y15), none, some (.long y17), none, some (.int x19), none, none, none, none, none, none, none, none, none, none, none, none] [] h 0 0) {a0 : Nat} {y2 : Int64} {y4 : Int64} {y6 : Int64} {y8 : Int64} {x10 : Int32} {y11 : Int64} {y13 : Int64} {y15 : Int64} {y17 : Int64} {x19 : Int32} {y20 : Int64} {h : HP} {r : Int32 × HP} (k0 : knd a0 = 7) (e : f_Q_kept_177 k16_ k53_ a0 y2 y4 y6 y8 x10 y11 y13 y15 y17 x19 y20 h = some r) : Go l D ad aC (rmk m_Q_kept) (QM D ad aC m_Q_kept (.inl (some (.int r.1))) r.2) m_Q_kept 177 [some (.ref a0), none, some (.long y2), none, some (.long y4), none, some (.long y6), none, some (.long y8), none, some (.int x10), some (.long y11), none, some (.long y13), none, some (.long y15), none, some (.long y17), none, some (.int x19), some (.long y20), none, none, none, none, none, none, none, none, none, none, none] [] h 0 0 := by
  unfold f_Q_kept_177 at e
  refine Go.run (pc' := 178) [.iconst 0] (ls' := [some (.ref a0), none, some (.long y2), none, some (.long y4), none, some (.long y6), none, some (.long y8), none, some (.int x10), some (.long y11), none, some (.long y13), none, some (.long y15), none, some (.long y17), none, some (.int x19), some (.long y20), none, none, none, none, none, none, none, none, none, none, none]) (st' := [.int (0 : Int32)]) (by decide +kernel) rfl rfl ?_
  exact x_Q_kept_178 hf hI K16_ K53_ k0 e
def f_Q_kept_151 (k16_ : Nat → Int32 → Int64 → Int64 → Int64 → Int64 → Int32 → HP → Option (Int32 × HP)) (k53_ : Nat → Int32 → Int64 → Int64 → Int64 → Int64 → Int32 → Int64 → Int64 → Int64 → Int64 → Int32 → HP → Option (Int32 × HP)) (a0 : Nat) (y2 : Int64) (y4 : Int64) (y6 : Int64) (y8 : Int64) (x10 : Int32) (y11 : Int64) (y13 : Int64) (y15 : Int64) (y17 : Int64) (x19 : Int32) (y20 : Int64) (h : HP) : Option (Int32 × HP) :=
  (g_Q_metreOf h a0 x10 x19 (1 : Int32)).bind fun v1 =>
  (g_Q_metreOf v1.2 a0 x10 x19 (0 : Int32)).bind fun v3 =>
  if 0 < (lg_cmp v1.1 v3.1) then
    f_Q_kept_177 k16_ k53_ a0 y2 y4 y6 y8 x10 y11 y13 y15 y17 x19 y20 v3.2
  else
    f_Q_kept_178 k16_ k53_ a0 y2 y4 y6 y8 x10 y11 y13 y15 y17 x19 y20 (1 : Int32) v3.2
set_option maxHeartbeats 4000000 in
theorem x_Q_kept_151 {l : Launch} {D : va_G} {ad : Nat → Nat} {aC : Nat → ClassId} (hf : l.flags = flags0) (hI : Inj ad) {k16_ : Nat → Int32 → Int64 → Int64 → Int64 → Int64 → Int32 → HP → Option (Int32 × HP)} {k53_ : Nat → Int32 → Int64 → Int64 → Int64 → Int64 → Int32 → Int64 → Int64 → Int64 → Int64 → Int32 → HP → Option (Int32 × HP)} (K16_ : ∀ {a0 : Nat} {x1 : Int32} {y2 : Int64} {y4 : Int64} {y6 : Int64} {y8 : Int64} {x10 : Int32} {h : HP} {r : Int32 × HP}, knd a0 = 7 → k16_ a0 x1 y2 y4 y6 y8 x10 h = some r → Go l D ad aC (rmk m_Q_kept) (QM D ad aC m_Q_kept (.inl (some (.int r.1))) r.2) m_Q_kept 16 [some (.ref a0), some (.int x1), some (.long y2), none, some (.long y4), none, some (.long y6), none, some (.long y8), none, some (.int x10), none, none, none, none, none, none, none, none, none, none, none, none, none, none, none, none, none, none, none, none, none] [] h 0 0) (K53_ : ∀ {a0 : Nat} {x1 : Int32} {y2 : Int64} {y4 : Int64} {y6 : Int64} {y8 : Int64} {x10 : Int32} {y11 : Int64} {y13 : Int64} {y15 : Int64} {y17 : Int64} {x19 : Int32} {h : HP} {r : Int32 × HP}, knd a0 = 7 → k53_ a0 x1 y2 y4 y6 y8 x10 y11 y13 y15 y17 x19 h = some r → Go l D ad aC (rmk m_Q_kept) (QM D ad aC m_Q_kept (.inl (some (.int r.1))) r.2) m_Q_kept 53 [some (.ref a0), some (.int x1), some (.long y2), none, some (.long y4), none, some (.long y6), none, some (.long y8), none, some (.int x10), some (.long y11), none, some (.long y13), none, some (.long y15), none, some (.long y17), none, some (.int x19), none, none, none, none, none, none, none, none, none, none, none, none] [] h 0 0) {a0 : Nat} {y2 : Int64} {y4 : Int64} {y6 : Int64} {y8 : Int64} {x10 : Int32} {y11 : Int64} {y13 : Int64} {y15 : Int64} {y17 : Int64} {x19 : Int32} {y20 : Int64} {h : HP} {r : Int32 × HP} (k0 : knd a0 = 7) (e : f_Q_kept_151 k16_ k53_ a0 y2 y4 y6 y8 x10 y11 y13 y15 y17 x19 y20 h = some r) : Go l D ad aC (rmk m_Q_kept) (QM D ad aC m_Q_kept (.inl (some (.int r.1))) r.2) m_Q_kept 151 [some (.ref a0), none, some (.long y2), none, some (.long y4), none, some (.long y6), none, some (.long y8), none, some (.int x10), some (.long y11), none, some (.long y13), none, some (.long y15), none, some (.long y17), none, some (.int x19), some (.long y20), none, none, none, none, none, none, none, none, none, none, none] [] h 0 0 := by
  unfold f_Q_kept_151 at e
  refine Go.run (pc' := 157) [.aload_n 0, .iload 10, .iload 19, .iconst 1] (ls' := [some (.ref a0), none, some (.long y2), none, some (.long y4), none, some (.long y6), none, some (.long y8), none, some (.int x10), some (.long y11), none, some (.long y13), none, some (.long y15), none, some (.long y17), none, some (.int x19), some (.long y20), none, none, none, none, none, none, none, none, none, none, none]) (st' := [.int (1 : Int32), .int x19, .int x10, .ref a0]) (by decide +kernel) rfl rfl ?_
  obtain ⟨v1, e2, e⟩ := bd_inv e
  refine Go.callH (M2 := (mr m_Q_metreOf (.inl none))) (as := [.ref a0, .int x10, .int x19, .int (1 : Int32)]) (rest := []) (v := some (.long v1.1)) (h1 := v1.2) (xn_Q_metreOf hf hI k0 e2) (WH.mr wh_Q_123) (by decide +kernel) rfl rfl ⟨⟨Nat.le_of_ble_eq_true rfl, Nat.le_of_ble_eq_true rfl⟩, ⟨Nat.le_of_ble_eq_true rfl, Nat.le_of_ble_eq_true rfl⟩⟩ (Nat.le_of_ble_eq_true rfl) ?_
  show Go l D ad aC (rmk m_Q_kept) _ m_Q_kept 160 [some (.ref a0), none, some (.long y2), none, some (.long y4), none, some (.long y6), none, some (.long y8), none, some (.int x10), some (.long y11), none, some (.long y13), none, some (.long y15), none, some (.long y17), none, some (.int x19), some (.long y20), none, none, none, none, none, none, none, none, none, none, none] [.long v1.1] v1.2 0 0
  refine Go.run (pc' := 166) [.aload_n 0, .iload 10, .iload 19, .iconst 0] (ls' := [some (.ref a0), none, some (.long y2), none, some (.long y4), none, some (.long y6), none, some (.long y8), none, some (.int x10), some (.long y11), none, some (.long y13), none, some (.long y15), none, some (.long y17), none, some (.int x19), some (.long y20), none, none, none, none, none, none, none, none, none, none, none]) (st' := [.int (0 : Int32), .int x19, .int x10, .ref a0, .long v1.1]) (by decide +kernel) rfl rfl ?_
  obtain ⟨v3, e4, e⟩ := bd_inv e
  refine Go.callH (M2 := (mr m_Q_metreOf (.inl none))) (as := [.ref a0, .int x10, .int x19, .int (0 : Int32)]) (rest := [.long v1.1]) (v := some (.long v3.1)) (h1 := v3.2) (xn_Q_metreOf hf hI k0 e4) (WH.mr wh_Q_123) (by decide +kernel) rfl rfl ⟨⟨Nat.le_of_ble_eq_true rfl, Nat.le_of_ble_eq_true rfl⟩, ⟨Nat.le_of_ble_eq_true rfl, Nat.le_of_ble_eq_true rfl⟩⟩ (Nat.le_of_ble_eq_true rfl) ?_
  show Go l D ad aC (rmk m_Q_kept) _ m_Q_kept 169 [some (.ref a0), none, some (.long y2), none, some (.long y4), none, some (.long y6), none, some (.long y8), none, some (.int x10), some (.long y11), none, some (.long y13), none, some (.long y15), none, some (.long y17), none, some (.int x19), some (.long y20), none, none, none, none, none, none, none, none, none, none, none] [.long v3.1, .long v1.1] v3.2 0 0
  refine Go.run (pc' := 170) [.lcmp] (ls' := [some (.ref a0), none, some (.long y2), none, some (.long y4), none, some (.long y6), none, some (.long y8), none, some (.int x10), some (.long y11), none, some (.long y13), none, some (.long y15), none, some (.long y17), none, some (.int x19), some (.long y20), none, none, none, none, none, none, none, none, none, none, none]) (st' := [.int (lg_cmp v1.1 v3.1)]) (by decide +kernel) rfl rfl ?_
  refine Go.if_gt (off := 7) (tgt := 177) (by decide +kernel) (by decide) (fun c5 => ?_) (fun c5 => ?_)
  · replace e := ite_t c5 e
    exact x_Q_kept_177 hf hI K16_ K53_ k0 e
  · replace e := ite_f c5 e
    refine Go.run (pc' := 174) [.iconst 1] (ls' := [some (.ref a0), none, some (.long y2), none, some (.long y4), none, some (.long y6), none, some (.long y8), none, some (.int x10), some (.long y11), none, some (.long y13), none, some (.long y15), none, some (.long y17), none, some (.int x19), some (.long y20), none, none, none, none, none, none, none, none, none, none, none]) (st' := [.int (1 : Int32)]) (by decide +kernel) rfl rfl ?_
    refine Go.goto (off := 4) (tgt := 178) (by decide +kernel) (by decide) ?_
    exact x_Q_kept_178 hf hI K16_ K53_ k0 e
def f_Q_kept_98 (k16_ : Nat → Int32 → Int64 → Int64 → Int64 → Int64 → Int32 → HP → Option (Int32 × HP)) (k53_ : Nat → Int32 → Int64 → Int64 → Int64 → Int64 → Int32 → Int64 → Int64 → Int64 → Int64 → Int32 → HP → Option (Int32 × HP)) (a0 : Nat) (y2 : Int64) (y4 : Int64) (y6 : Int64) (y8 : Int64) (x10 : Int32) (y11 : Int64) (y13 : Int64) (y15 : Int64) (y17 : Int64) (x19 : Int32) (y20 : Int64) (t0 : Int64) (h : HP) : Option (Int32 × HP) :=
  if (lg_cmp y20 (-1 : Int64)) = 0 then
    f_Q_kept_151 k16_ k53_ a0 y2 y4 y6 y8 x10 y11 y13 y15 y17 x19 y20 h
  else
    (g_Q_dealerOf h a0 y20.toInt32 (3 : Int32)).bind fun v2 =>
    if (lg_cmp v2.1 x10.toInt64) = 0 then
      if (lg_cmp x19.toInt64 t0) < 0 then
        f_Q_kept_177 k16_ k53_ a0 y2 y4 y6 y8 x10 y11 y13 y15 y17 x19 y20 v2.2
      else
        (g_Q_dealerOf v2.2 a0 y20.toInt32 (1 : Int32)).bind fun v6 =>
        if 0 ≤ (lg_cmp x19.toInt64 (t0 + v6.1)) then
          f_Q_kept_177 k16_ k53_ a0 y2 y4 y6 y8 x10 y11 y13 y15 y17 x19 y20 v6.2
        else
          f_Q_kept_151 k16_ k53_ a0 y2 y4 y6 y8 x10 y11 y13 y15 y17 x19 y20 v6.2
    else
      f_Q_kept_177 k16_ k53_ a0 y2 y4 y6 y8 x10 y11 y13 y15 y17 x19 y20 v2.2
set_option maxHeartbeats 4000000 in
theorem x_Q_kept_98 {l : Launch} {D : va_G} {ad : Nat → Nat} {aC : Nat → ClassId} (hf : l.flags = flags0) (hI : Inj ad) {k16_ : Nat → Int32 → Int64 → Int64 → Int64 → Int64 → Int32 → HP → Option (Int32 × HP)} {k53_ : Nat → Int32 → Int64 → Int64 → Int64 → Int64 → Int32 → Int64 → Int64 → Int64 → Int64 → Int32 → HP → Option (Int32 × HP)} (K16_ : ∀ {a0 : Nat} {x1 : Int32} {y2 : Int64} {y4 : Int64} {y6 : Int64} {y8 : Int64} {x10 : Int32} {h : HP} {r : Int32 × HP}, knd a0 = 7 → k16_ a0 x1 y2 y4 y6 y8 x10 h = some r → Go l D ad aC (rmk m_Q_kept) (QM D ad aC m_Q_kept (.inl (some (.int r.1))) r.2) m_Q_kept 16 [some (.ref a0), some (.int x1), some (.long y2), none, some (.long y4), none, some (.long y6), none, some (.long y8), none, some (.int x10), none, none, none, none, none, none, none, none, none, none, none, none, none, none, none, none, none, none, none, none, none] [] h 0 0) (K53_ : ∀ {a0 : Nat} {x1 : Int32} {y2 : Int64} {y4 : Int64} {y6 : Int64} {y8 : Int64} {x10 : Int32} {y11 : Int64} {y13 : Int64} {y15 : Int64} {y17 : Int64} {x19 : Int32} {h : HP} {r : Int32 × HP}, knd a0 = 7 → k53_ a0 x1 y2 y4 y6 y8 x10 y11 y13 y15 y17 x19 h = some r → Go l D ad aC (rmk m_Q_kept) (QM D ad aC m_Q_kept (.inl (some (.int r.1))) r.2) m_Q_kept 53 [some (.ref a0), some (.int x1), some (.long y2), none, some (.long y4), none, some (.long y6), none, some (.long y8), none, some (.int x10), some (.long y11), none, some (.long y13), none, some (.long y15), none, some (.long y17), none, some (.int x19), none, none, none, none, none, none, none, none, none, none, none, none] [] h 0 0) {a0 : Nat} {y2 : Int64} {y4 : Int64} {y6 : Int64} {y8 : Int64} {x10 : Int32} {y11 : Int64} {y13 : Int64} {y15 : Int64} {y17 : Int64} {x19 : Int32} {y20 : Int64} {t0 : Int64} {h : HP} {r : Int32 × HP} (k0 : knd a0 = 7) (e : f_Q_kept_98 k16_ k53_ a0 y2 y4 y6 y8 x10 y11 y13 y15 y17 x19 y20 t0 h = some r) : Go l D ad aC (rmk m_Q_kept) (QM D ad aC m_Q_kept (.inl (some (.int r.1))) r.2) m_Q_kept 98 [some (.ref a0), none, some (.long y2), none, some (.long y4), none, some (.long y6), none, some (.long y8), none, some (.int x10), some (.long y11), none, some (.long y13), none, some (.long y15), none, some (.long y17), none, some (.int x19), some (.long y20), none, none, none, none, none, none, none, none, none, none, none] [.long t0] h 0 0 := by
  unfold f_Q_kept_98 at e
  refine Go.run (pc' := 102) [.lstore 22, .lload 20] (ls' := [some (.ref a0), none, some (.long y2), none, some (.long y4), none, some (.long y6), none, some (.long y8), none, some (.int x10), some (.long y11), none, some (.long y13), none, some (.long y15), none, some (.long y17), none, some (.int x19), some (.long y20), none, some (.long t0), none, none, none, none, none, none, none, none, none]) (st' := [.long y20]) (by decide +kernel) rfl rfl ?_
  refine Go.ldc2 lo_Q_160 (by decide +kernel) ?_
  refine Go.run (pc' := 106) [.lcmp] (ls' := [some (.ref a0), none, some (.long y2), none, some (.long y4), none, some (.long y6), none, some (.long y8), none, some (.int x10), some (.long y11), none, some (.long y13), none, some (.long y15), none, some (.long y17), none, some (.int x19), some (.long y20), none, some (.long t0), none, none, none, none, none, none, none, none, none]) (st' := [.int (lg_cmp y20 (-1 : Int64))]) (by decide +kernel) rfl rfl ?_
  refine Go.if_eq (off := 45) (tgt := 151) (by decide +kernel) (by decide) (fun c1 => ?_) (fun c1 => ?_)
  · replace e := ite_t c1 e
    refine Go.wk' (wks (wks (wks (wks (wks (wks (wks (wks (wks (wks (wks (wks (wks (wks (wks (wks (wks (wks (wks (wks (wks (wks (wkn (wks (wks (wks (wks (wks (wks (wks (wks (wks wk0)))))))))))))))))))))))))))))))) ?_
    exact x_Q_kept_151 hf hI K16_ K53_ k0 e
  · replace e := ite_f c1 e
    refine Go.run (pc' := 114) [.aload_n 0, .lload 20, .l2i, .iconst 3] (ls' := [some (.ref a0), none, some (.long y2), none, some (.long y4), none, some (.long y6), none, some (.long y8), none, some (.int x10), some (.long y11), none, some (.long y13), none, some (.long y15), none, some (.long y17), none, some (.int x19), some (.long y20), none, some (.long t0), none, none, none, none, none, none, none, none, none]) (st' := [.int (3 : Int32), .int y20.toInt32, .ref a0]) (by decide +kernel) rfl rfl ?_
    obtain ⟨v2, e3, e⟩ := bd_inv e
    refine Go.callH (M2 := (mr m_Q_dealerOf (.inl none))) (as := [.ref a0, .int y20.toInt32, .int (3 : Int32)]) (rest := []) (v := some (.long v2.1)) (h1 := v2.2) (xn_Q_dealerOf hf hI k0 e3) (WH.mr wh_Q_126) (by decide +kernel) rfl rfl ⟨⟨Nat.le_of_ble_eq_true rfl, Nat.le_of_ble_eq_true rfl⟩, ⟨Nat.le_of_ble_eq_true rfl, Nat.le_of_ble_eq_true rfl⟩⟩ (Nat.le_of_ble_eq_true rfl) ?_
    show Go l D ad aC (rmk m_Q_kept) _ m_Q_kept 117 [some (.ref a0), none, some (.long y2), none, some (.long y4), none, some (.long y6), none, some (.long y8), none, some (.int x10), some (.long y11), none, some (.long y13), none, some (.long y15), none, some (.long y17), none, some (.int x19), some (.long y20), none, some (.long t0), none, none, none, none, none, none, none, none, none] [.long v2.1] v2.2 0 0
    refine Go.run (pc' := 121) [.iload 10, .i2l, .lcmp] (ls' := [some (.ref a0), none, some (.long y2), none, some (.long y4), none, some (.long y6), none, some (.long y8), none, some (.int x10), some (.long y11), none, some (.long y13), none, some (.long y15), none, some (.long y17), none, some (.int x19), some (.long y20), none, some (.long t0), none, none, none, none, none, none, none, none, none]) (st' := [.int (lg_cmp v2.1 x10.toInt64)]) (by decide +kernel) rfl rfl ?_
    refine Go.if_ne (off := 56) (tgt := 177) (by decide +kernel) (by decide) (fun c4 => ?_) (fun c4 => ?_)
    · replace e := ite_f c4 e
      refine Go.wk' (wks (wks (wks (wks (wks (wks (wks (wks (wks (wks (wks (wks (wks (wks (wks (wks (wks (wks (wks (wks (wks (wks (wkn (wks (wks (wks (wks (wks (wks (wks (wks (wks wk0)))))))))))))))))))))))))))))))) ?_
      exact x_Q_kept_177 hf hI K16_ K53_ k0 e
    · replace e := ite_t c4 e
      refine Go.run (pc' := 130) [.iload 19, .i2l, .lload 22, .lcmp] (ls' := [some (.ref a0), none, some (.long y2), none, some (.long y4), none, some (.long y6), none, some (.long y8), none, some (.int x10), some (.long y11), none, some (.long y13), none, some (.long y15), none, some (.long y17), none, some (.int x19), some (.long y20), none, some (.long t0), none, none, none, none, none, none, none, none, none]) (st' := [.int (lg_cmp x19.toInt64 t0)]) (by decide +kernel) rfl rfl ?_
      refine Go.if_lt (off := 47) (tgt := 177) (by decide +kernel) (by decide) (fun c5 => ?_) (fun c5 => ?_)
      · replace e := ite_t c5 e
        refine Go.wk' (wks (wks (wks (wks (wks (wks (wks (wks (wks (wks (wks (wks (wks (wks (wks (wks (wks (wks (wks (wks (wks (wks (wkn (wks (wks (wks (wks (wks (wks (wks (wks (wks wk0)))))))))))))))))))))))))))))))) ?_
        exact x_Q_kept_177 hf hI K16_ K53_ k0 e
      · replace e := ite_f c5 e
        refine Go.run (pc' := 143) [.iload 19, .i2l, .lload 22, .aload_n 0, .lload 20, .l2i, .iconst 1] (ls' := [some (.ref a0), none, some (.long y2), none, some (.long y4), none, some (.long y6), none, some (.long y8), none, some (.int x10), some (.long y11), none, some (.long y13), none, some (.long y15), none, some (.long y17), none, some (.int x19), some (.long y20), none, some (.long t0), none, none, none, none, none, none, none, none, none]) (st' := [.int (1 : Int32), .int y20.toInt32, .ref a0, .long t0, .long x19.toInt64]) (by decide +kernel) rfl rfl ?_
        obtain ⟨v6, e7, e⟩ := bd_inv e
        refine Go.callH (M2 := (mr m_Q_dealerOf (.inl none))) (as := [.ref a0, .int y20.toInt32, .int (1 : Int32)]) (rest := [.long t0, .long x19.toInt64]) (v := some (.long v6.1)) (h1 := v6.2) (xn_Q_dealerOf hf hI k0 e7) (WH.mr wh_Q_126) (by decide +kernel) rfl rfl ⟨⟨Nat.le_of_ble_eq_true rfl, Nat.le_of_ble_eq_true rfl⟩, ⟨Nat.le_of_ble_eq_true rfl, Nat.le_of_ble_eq_true rfl⟩⟩ (Nat.le_of_ble_eq_true rfl) ?_
        show Go l D ad aC (rmk m_Q_kept) _ m_Q_kept 146 [some (.ref a0), none, some (.long y2), none, some (.long y4), none, some (.long y6), none, some (.long y8), none, some (.int x10), some (.long y11), none, some (.long y13), none, some (.long y15), none, some (.long y17), none, some (.int x19), some (.long y20), none, some (.long t0), none, none, none, none, none, none, none, none, none] [.long v6.1, .long t0, .long x19.toInt64] v6.2 0 0
        refine Go.run (pc' := 148) [.ladd, .lcmp] (ls' := [some (.ref a0), none, some (.long y2), none, some (.long y4), none, some (.long y6), none, some (.long y8), none, some (.int x10), some (.long y11), none, some (.long y13), none, some (.long y15), none, some (.long y17), none, some (.int x19), some (.long y20), none, some (.long t0), none, none, none, none, none, none, none, none, none]) (st' := [.int (lg_cmp x19.toInt64 (t0 + v6.1))]) (by decide +kernel) rfl rfl ?_
        refine Go.if_ge (off := 29) (tgt := 177) (by decide +kernel) (by decide) (fun c8 => ?_) (fun c8 => ?_)
        · replace e := ite_t c8 e
          refine Go.wk' (wks (wks (wks (wks (wks (wks (wks (wks (wks (wks (wks (wks (wks (wks (wks (wks (wks (wks (wks (wks (wks (wks (wkn (wks (wks (wks (wks (wks (wks (wks (wks (wks wk0)))))))))))))))))))))))))))))))) ?_
          exact x_Q_kept_177 hf hI K16_ K53_ k0 e
        · replace e := ite_f c8 e
          refine Go.wk' (wks (wks (wks (wks (wks (wks (wks (wks (wks (wks (wks (wks (wks (wks (wks (wks (wks (wks (wks (wks (wks (wks (wkn (wks (wks (wks (wks (wks (wks (wks (wks (wks wk0)))))))))))))))))))))))))))))))) ?_
          exact x_Q_kept_151 hf hI K16_ K53_ k0 e
def f_Q_kept_53 (k16_ : Nat → Int32 → Int64 → Int64 → Int64 → Int64 → Int32 → HP → Option (Int32 × HP)) : Nat → Nat → Int32 → Int64 → Int64 → Int64 → Int64 → Int32 → Int64 → Int64 → Int64 → Int64 → Int32 → HP → Option (Int32 × HP)
  | 0, _, _, _, _, _, _, _, _, _, _, _, _, _ => none
  | n + 1, a0, x1, y2, y4, y6, y8, x10, y11, y13, y15, y17, x19, h =>
    if 0 ≤ (lg_cmp x19.toInt64 y11) then
      f_Q_kept_232 k16_ a0 x1 y2 y4 y6 y8 x10 y11 y13 y15 y17 h
    else
      if x1 = 0 then
        f_Q_kept_232 k16_ a0 x1 y2 y4 y6 y8 x10 y11 y13 y15 y17 h
      else
        (g_Q_metreOf h a0 x10 x19 (2 : Int32)).bind fun v3 =>
        if (lg_cmp v3.1 (-1 : Int64)) = 0 then
          f_Q_kept_98 k16_ (f_Q_kept_53 k16_ n) a0 y2 y4 y6 y8 x10 y11 y13 y15 y17 x19 v3.1 (0 : Int64) v3.2
        else
          (g_Q_dealerOf v3.2 a0 v3.1.toInt32 (4 : Int32)).bind fun v6 =>
          f_Q_kept_98 k16_ (f_Q_kept_53 k16_ n) a0 y2 y4 y6 y8 x10 y11 y13 y15 y17 x19 v3.1 v6.1 v6.2
set_option maxHeartbeats 4000000 in
theorem x_Q_kept_53 {l : Launch} {D : va_G} {ad : Nat → Nat} {aC : Nat → ClassId} (hf : l.flags = flags0) (hI : Inj ad) {k16_ : Nat → Int32 → Int64 → Int64 → Int64 → Int64 → Int32 → HP → Option (Int32 × HP)} (K16_ : ∀ {a0 : Nat} {x1 : Int32} {y2 : Int64} {y4 : Int64} {y6 : Int64} {y8 : Int64} {x10 : Int32} {h : HP} {r : Int32 × HP}, knd a0 = 7 → k16_ a0 x1 y2 y4 y6 y8 x10 h = some r → Go l D ad aC (rmk m_Q_kept) (QM D ad aC m_Q_kept (.inl (some (.int r.1))) r.2) m_Q_kept 16 [some (.ref a0), some (.int x1), some (.long y2), none, some (.long y4), none, some (.long y6), none, some (.long y8), none, some (.int x10), none, none, none, none, none, none, none, none, none, none, none, none, none, none, none, none, none, none, none, none, none] [] h 0 0) : ∀ (n : Nat) {a0 : Nat} {x1 : Int32} {y2 : Int64} {y4 : Int64} {y6 : Int64} {y8 : Int64} {x10 : Int32} {y11 : Int64} {y13 : Int64} {y15 : Int64} {y17 : Int64} {x19 : Int32} {h : HP} {r : Int32 × HP}, knd a0 = 7 → f_Q_kept_53 k16_ n a0 x1 y2 y4 y6 y8 x10 y11 y13 y15 y17 x19 h = some r → Go l D ad aC (rmk m_Q_kept) (QM D ad aC m_Q_kept (.inl (some (.int r.1))) r.2) m_Q_kept 53 [some (.ref a0), some (.int x1), some (.long y2), none, some (.long y4), none, some (.long y6), none, some (.long y8), none, some (.int x10), some (.long y11), none, some (.long y13), none, some (.long y15), none, some (.long y17), none, some (.int x19), none, none, none, none, none, none, none, none, none, none, none, none] [] h 0 0 := by
  intro n
  induction n with
  | zero => intro a0 x1 y2 y4 y6 y8 x10 y11 y13 y15 y17 x19 h r k0 e; exact no_none e
  | succ n ih =>
    intro a0 x1 y2 y4 y6 y8 x10 y11 y13 y15 y17 x19 h r k0 e
    rw [f_Q_kept_53] at e
    refine Go.run (pc' := 59) [.iload 19, .i2l, .lload 11, .lcmp] (ls' := [some (.ref a0), some (.int x1), some (.long y2), none, some (.long y4), none, some (.long y6), none, some (.long y8), none, some (.int x10), some (.long y11), none, some (.long y13), none, some (.long y15), none, some (.long y17), none, some (.int x19), none, none, none, none, none, none, none, none, none, none, none, none]) (st' := [.int (lg_cmp x19.toInt64 y11)]) (by decide +kernel) rfl rfl ?_
    refine Go.if_ge (off := 173) (tgt := 232) (by decide +kernel) (by decide) (fun c1 => ?_) (fun c1 => ?_)
    · replace e := ite_t c1 e
      refine Go.wk' (wks (wks (wks (wks (wks (wks (wks (wks (wks (wks (wks (wks (wks (wks (wks (wks (wks (wks (wks (wkn (wks (wks (wks (wks (wks (wks (wks (wks (wks (wks (wks (wks wk0)))))))))))))))))))))))))))))))) ?_
      exact x_Q_kept_232 hf hI K16_ k0 e
    · replace e := ite_f c1 e
      refine Go.run (pc' := 63) [.iload_n 1] (ls' := [some (.ref a0), some (.int x1), some (.long y2), none, some (.long y4), none, some (.long y6), none, some (.long y8), none, some (.int x10), some (.long y11), none, some (.long y13), none, some (.long y15), none, some (.long y17), none, some (.int x19), none, none, none, none, none, none, none, none, none, none, none, none]) (st' := [.int x1]) (by decide +kernel) rfl rfl ?_
      refine Go.if_eq (off := 169) (tgt := 232) (by decide +kernel) (by decide) (fun c2 => ?_) (fun c2 => ?_)
      · replace e := ite_t c2 e
        refine Go.wk' (wks (wks (wks (wks (wks (wks (wks (wks (wks (wks (wks (wks (wks (wks (wks (wks (wks (wks (wks (wkn (wks (wks (wks (wks (wks (wks (wks (wks (wks (wks (wks (wks wk0)))))))))))))))))))))))))))))))) ?_
        exact x_Q_kept_232 hf hI K16_ k0 e
      · replace e := ite_f c2 e
        refine Go.run (pc' := 72) [.aload_n 0, .iload 10, .iload 19, .iconst 2] (ls' := [some (.ref a0), some (.int x1), some (.long y2), none, some (.long y4), none, some (.long y6), none, some (.long y8), none, some (.int x10), some (.long y11), none, some (.long y13), none, some (.long y15), none, some (.long y17), none, some (.int x19), none, none, none, none, none, none, none, none, none, none, none, none]) (st' := [.int (2 : Int32), .int x19, .int x10, .ref a0]) (by decide +kernel) rfl rfl ?_
        obtain ⟨v3, e4, e⟩ := bd_inv e
        refine Go.callH (M2 := (mr m_Q_metreOf (.inl none))) (as := [.ref a0, .int x10, .int x19, .int (2 : Int32)]) (rest := []) (v := some (.long v3.1)) (h1 := v3.2) (xn_Q_metreOf hf hI k0 e4) (WH.mr wh_Q_123) (by decide +kernel) rfl rfl ⟨⟨Nat.le_of_ble_eq_true rfl, Nat.le_of_ble_eq_true rfl⟩, ⟨Nat.le_of_ble_eq_true rfl, Nat.le_of_ble_eq_true rfl⟩⟩ (Nat.le_of_ble_eq_true rfl) ?_
        show Go l D ad aC (rmk m_Q_kept) _ m_Q_kept 75 [some (.ref a0), some (.int x1), some (.long y2), none, some (.long y4), none, some (.long y6), none, some (.long y8), none, some (.int x10), some (.long y11), none, some (.long y13), none, some (.long y15), none, some (.long y17), none, some (.int x19), none, none, none, none, none, none, none, none, none, none, none, none] [.long v3.1] v3.2 0 0
        refine Go.run (pc' := 79) [.lstore 20, .lload 20] (ls' := [some (.ref a0), some (.int x1), some (.long y2), none, some (.long y4), none, some (.long y6), none, some (.long y8), none, some (.int x10), some (.long y11), none, some (.long y13), none, some (.long y15), none, some (.long y17), none, some (.int x19), some (.long v3.1), none, none, none, none, none, none, none, none, none, none, none]) (st' := [.long v3.1]) (by decide +kernel) rfl rfl ?_
        refine Go.ldc2 lo_Q_160 (by decide +kernel) ?_
        refine Go.run (pc' := 83) [.lcmp] (ls' := [some (.ref a0), some (.int x1), some (.long y2), none, some (.long y4), none, some (.long y6), none, some (.long y8), none, some (.int x10), some (.long y11), none, some (.long y13), none, some (.long y15), none, some (.long y17), none, some (.int x19), some (.long v3.1), none, none, none, none, none, none, none, none, none, none, none]) (st' := [.int (lg_cmp v3.1 (-1 : Int64))]) (by decide +kernel) rfl rfl ?_
        refine Go.if_ne (off := 7) (tgt := 90) (by decide +kernel) (by decide) (fun c5 => ?_) (fun c5 => ?_)
        · replace e := ite_f c5 e
          refine Go.run (pc' := 95) [.aload_n 0, .lload 20, .l2i, .iconst 4] (ls' := [some (.ref a0), some (.int x1), some (.long y2), none, some (.long y4), none, some (.long y6), none, some (.long y8), none, some (.int x10), some (.long y11), none, some (.long y13), none, some (.long y15), none, some (.long y17), none, some (.int x19), some (.long v3.1), none, none, none, none, none, none, none, none, none, none, none]) (st' := [.int (4 : Int32), .int v3.1.toInt32, .ref a0]) (by decide +kernel) rfl rfl ?_
          obtain ⟨v6, e7, e⟩ := bd_inv e
          refine Go.callH (M2 := (mr m_Q_dealerOf (.inl none))) (as := [.ref a0, .int v3.1.toInt32, .int (4 : Int32)]) (rest := []) (v := some (.long v6.1)) (h1 := v6.2) (xn_Q_dealerOf hf hI k0 e7) (WH.mr wh_Q_126) (by decide +kernel) rfl rfl ⟨⟨Nat.le_of_ble_eq_true rfl, Nat.le_of_ble_eq_true rfl⟩, ⟨Nat.le_of_ble_eq_true rfl, Nat.le_of_ble_eq_true rfl⟩⟩ (Nat.le_of_ble_eq_true rfl) ?_
          show Go l D ad aC (rmk m_Q_kept) _ m_Q_kept 98 [some (.ref a0), some (.int x1), some (.long y2), none, some (.long y4), none, some (.long y6), none, some (.long y8), none, some (.int x10), some (.long y11), none, some (.long y13), none, some (.long y15), none, some (.long y17), none, some (.int x19), some (.long v3.1), none, none, none, none, none, none, none, none, none, none, none] [.long v6.1] v6.2 0 0
          refine Go.wk' (wks (wkn (wks (wks (wks (wks (wks (wks (wks (wks (wks (wks (wks (wks (wks (wks (wks (wks (wks (wks (wks (wks (wks (wks (wks (wks (wks (wks (wks (wks (wks (wks wk0)))))))))))))))))))))))))))))))) ?_
          exact x_Q_kept_98 hf hI K16_ (fun kk0 e => ih kk0 e) k0 e
        · replace e := ite_t c5 e
          refine Go.run (pc' := 87) [.lconst 0] (ls' := [some (.ref a0), some (.int x1), some (.long y2), none, some (.long y4), none, some (.long y6), none, some (.long y8), none, some (.int x10), some (.long y11), none, some (.long y13), none, some (.long y15), none, some (.long y17), none, some (.int x19), some (.long v3.1), none, none, none, none, none, none, none, none, none, none, none]) (st' := [.long (0 : Int64)]) (by decide +kernel) rfl rfl ?_
          refine Go.goto (off := 11) (tgt := 98) (by decide +kernel) (by decide) ?_
          refine Go.wk' (wks (wkn (wks (wks (wks (wks (wks (wks (wks (wks (wks (wks (wks (wks (wks (wks (wks (wks (wks (wks (wks (wks (wks (wks (wks (wks (wks (wks (wks (wks (wks (wks wk0)))))))))))))))))))))))))))))))) ?_
          exact x_Q_kept_98 hf hI K16_ (fun kk0 e => ih kk0 e) k0 e
def f_Q_kept_16  : Nat → Nat → Int32 → Int64 → Int64 → Int64 → Int64 → Int32 → HP → Option (Int32 × HP)
  | 0, _, _, _, _, _, _, _, _ => none
  | n + 1, a0, x1, y2, y4, y6, y8, x10, h =>
    (g_Q_about h a0 (0 : Int32)).bind fun v1 =>
    if 0 ≤ (lg_cmp x10.toInt64 v1.1) then
      f_Q_kept_376 a0 x1 y2 y4 y6 y8 v1.2
    else
      if x1 = 0 then
        f_Q_kept_376 a0 x1 y2 y4 y6 y8 v1.2
      else
        (g_Q_wallOf v1.2 a0 x10 (0 : Int32)).bind fun v5 =>
        f_Q_kept_53 (f_Q_kept_16 n) 4096 a0 x1 y2 y4 y6 y8 x10 v5.1 (0 : Int64) (0 : Int64) (0 : Int64) (0 : Int32) v5.2
set_option maxHeartbeats 4000000 in
theorem x_Q_kept_16 {l : Launch} {D : va_G} {ad : Nat → Nat} {aC : Nat → ClassId} (hf : l.flags = flags0) (hI : Inj ad) : ∀ (n : Nat) {a0 : Nat} {x1 : Int32} {y2 : Int64} {y4 : Int64} {y6 : Int64} {y8 : Int64} {x10 : Int32} {h : HP} {r : Int32 × HP}, knd a0 = 7 → f_Q_kept_16 n a0 x1 y2 y4 y6 y8 x10 h = some r → Go l D ad aC (rmk m_Q_kept) (QM D ad aC m_Q_kept (.inl (some (.int r.1))) r.2) m_Q_kept 16 [some (.ref a0), some (.int x1), some (.long y2), none, some (.long y4), none, some (.long y6), none, some (.long y8), none, some (.int x10), none, none, none, none, none, none, none, none, none, none, none, none, none, none, none, none, none, none, none, none, none] [] h 0 0 := by
  intro n
  induction n with
  | zero => intro a0 x1 y2 y4 y6 y8 x10 h r k0 e; exact no_none e
  | succ n ih =>
    intro a0 x1 y2 y4 y6 y8 x10 h r k0 e
    rw [f_Q_kept_16] at e
    refine Go.run (pc' := 21) [.iload 10, .i2l, .aload_n 0, .iconst 0] (ls' := [some (.ref a0), some (.int x1), some (.long y2), none, some (.long y4), none, some (.long y6), none, some (.long y8), none, some (.int x10), none, none, none, none, none, none, none, none, none, none, none, none, none, none, none, none, none, none, none, none, none]) (st' := [.int (0 : Int32), .ref a0, .long x10.toInt64]) (by decide +kernel) rfl rfl ?_
    obtain ⟨v1, e2, e⟩ := bd_inv e
    refine Go.callH (M2 := (mr m_Q_about (.inl none))) (as := [.ref a0, .int (0 : Int32)]) (rest := [.long x10.toInt64]) (v := some (.long v1.1)) (h1 := v1.2) (xn_Q_about hf hI k0 e2) (WH.mr wh_Q_111) (by decide +kernel) rfl rfl ⟨⟨Nat.le_of_ble_eq_true rfl, Nat.le_of_ble_eq_true rfl⟩, ⟨Nat.le_of_ble_eq_true rfl, Nat.le_of_ble_eq_true rfl⟩⟩ (Nat.le_of_ble_eq_true rfl) ?_
    show Go l D ad aC (rmk m_Q_kept) _ m_Q_kept 24 [some (.ref a0), some (.int x1), some (.long y2), none, some (.long y4), none, some (.long y6), none, some (.long y8), none, some (.int x10), none, none, none, none, none, none, none, none, none, none, none, none, none, none, none, none, none, none, none, none, none] [.long v1.1, .long x10.toInt64] v1.2 0 0
    refine Go.run (pc' := 25) [.lcmp] (ls' := [some (.ref a0), some (.int x1), some (.long y2), none, some (.long y4), none, some (.long y6), none, some (.long y8), none, some (.int x10), none, none, none, none, none, none, none, none, none, none, none, none, none, none, none, none, none, none, none, none, none]) (st' := [.int (lg_cmp x10.toInt64 v1.1)]) (by decide +kernel) rfl rfl ?_
    refine Go.if_ge (off := 351) (tgt := 376) (by decide +kernel) (by decide) (fun c3 => ?_) (fun c3 => ?_)
    · replace e := ite_t c3 e
      refine Go.wk' (wks (wks (wks (wks (wks (wks (wks (wks (wks (wks (wkn (wks (wks (wks (wks (wks (wks (wks (wks (wks (wks (wks (wks (wks (wks (wks (wks (wks (wks (wks (wks (wks wk0)))))))))))))))))))))))))))))))) ?_
      exact x_Q_kept_376 hf hI k0 e
    · replace e := ite_f c3 e
      refine Go.run (pc' := 29) [.iload_n 1] (ls' := [some (.ref a0), some (.int x1), some (.long y2), none, some (.long y4), none, some (.long y6), none, some (.long y8), none, some (.int x10), none, none, none, none, none, none, none, none, none, none, none, none, none, none, none, none, none, none, none, none, none]) (st' := [.int x1]) (by decide +kernel) rfl rfl ?_
      refine Go.if_eq (off := 347) (tgt := 376) (by decide +kernel) (by decide) (fun c4 => ?_) (fun c4 => ?_)
      · replace e := ite_t c4 e
        refine Go.wk' (wks (wks (wks (wks (wks (wks (wks (wks (wks (wks (wkn (wks (wks (wks (wks (wks (wks (wks (wks (wks (wks (wks (wks (wks (wks (wks (wks (wks (wks (wks (wks (wks wk0)))))))))))))))))))))))))))))))) ?_
        exact x_Q_kept_376 hf hI k0 e
      · replace e := ite_f c4 e
        refine Go.run (pc' := 36) [.aload_n 0, .iload 10, .iconst 0] (ls' := [some (.ref a0), some (.int x1), some (.long y2), none, some (.long y4), none, some (.long y6), none, some (.long y8), none, some (.int x10), none, none, none, none, none, none, none, none, none, none, none, none, none, none, none, none, none, none, none, none, none]) (st' := [.int (0 : Int32), .int x10, .ref a0]) (by decide +kernel) rfl rfl ?_
        obtain ⟨v5, e6, e⟩ := bd_inv e
        refine Go.callH (M2 := (mr m_Q_wallOf (.inl none))) (as := [.ref a0, .int x10, .int (0 : Int32)]) (rest := []) (v := some (.long v5.1)) (h1 := v5.2) (xn_Q_wallOf hf hI k0 e6) (WH.mr wh_Q_120) (by decide +kernel) rfl rfl ⟨⟨Nat.le_of_ble_eq_true rfl, Nat.le_of_ble_eq_true rfl⟩, ⟨Nat.le_of_ble_eq_true rfl, Nat.le_of_ble_eq_true rfl⟩⟩ (Nat.le_of_ble_eq_true rfl) ?_
        show Go l D ad aC (rmk m_Q_kept) _ m_Q_kept 39 [some (.ref a0), some (.int x1), some (.long y2), none, some (.long y4), none, some (.long y6), none, some (.long y8), none, some (.int x10), none, none, none, none, none, none, none, none, none, none, none, none, none, none, none, none, none, none, none, none, none] [.long v5.1] v5.2 0 0
        refine Go.run (pc' := 53) [.lstore 11, .lconst 0, .lstore 13, .lconst 0, .lstore 15, .lconst 0, .lstore 17, .iconst 0, .istore 19] (ls' := [some (.ref a0), some (.int x1), some (.long y2), none, some (.long y4), none, some (.long y6), none, some (.long y8), none, some (.int x10), some (.long v5.1), none, some (.long (0 : Int64)), none, some (.long (0 : Int64)), none, some (.long (0 : Int64)), none, some (.int (0 : Int32)), none, none, none, none, none, none, none, none, none, none, none, none]) (st' := []) (by decide +kernel) rfl rfl ?_
        exact x_Q_kept_53 hf hI (fun kk0 e => ih kk0 e) 4096 k0 e
def f_Q_kept (h : HP) (a0 : Nat) : Option (Int32 × HP) :=
  f_Q_kept_16 4096 a0 (1 : Int32) (0 : Int64) (0 : Int64) (0 : Int64) (0 : Int64) (0 : Int32) h
set_option maxHeartbeats 4000000 in
theorem x_Q_kept {l : Launch} {D : va_G} {ad : Nat → Nat} {aC : Nat → ClassId} (hf : l.flags = flags0) (hI : Inj ad) {h : HP} {a0 : Nat} {r : Int32 × HP} (k0 : knd a0 = 7) (e : f_Q_kept h a0 = some r) : CT l D ad aC m_Q_kept [.ref a0] h (.inl (some (.int r.1))) r.2 := by
  refine CT.ofGo (by decide +kernel) rfl (Nat.le_of_ble_eq_true rfl) ?_
  unfold f_Q_kept at e
  show Go l D ad aC (rmk m_Q_kept) _ m_Q_kept 0 [some (.ref a0), none, none, none, none, none, none, none, none, none, none, none, none, none, none, none, none, none, none, none, none, none, none, none, none, none, none, none, none, none, none, none] [] h 0 0
  refine Go.run (pc' := 16) [.iconst 1, .istore_n 1, .lconst 0, .lstore_n 2, .lconst 0, .lstore 4, .lconst 0, .lstore 6, .lconst 0, .lstore 8, .iconst 0, .istore 10] (ls' := [some (.ref a0), some (.int (1 : Int32)), some (.long (0 : Int64)), none, some (.long (0 : Int64)), none, some (.long (0 : Int64)), none, some (.long (0 : Int64)), none, some (.int (0 : Int32)), none, none, none, none, none, none, none, none, none, none, none, none, none, none, none, none, none, none, none, none, none]) (st' := []) (by decide +kernel) rfl rfl ?_
  exact x_Q_kept_16 hf hI 4096 k0 e
def f_Q_follows_518  (a0 : Nat) (y2 : Int64) (x4 : Int32) (h : HP) : Option (Int32 × HP) :=
  if x4 = 0 then
    some ((0 : Int32), h)
  else
    (f_Q_now h a0).bind fun v2 =>
    if (lg_cmp v2.1 y2) = 0 then
      (f_Q_restore v2.2 a0 (1 : Int32)).bind fun v5 =>
      if (lg_cmp v5.1 (0 : Int64)) < 0 then
        some ((0 : Int32), v5.2)
      else
        (f_Q_now v5.2 a0).bind fun v8 =>
        if (lg_cmp v8.1 y2) = 0 then
          (f_Q_undo v8.2 a0).bind fun v11 =>
          if (lg_cmp v11.1 (-9000000000000000003 : Int64)) = 0 then
            some ((1 : Int32), v11.2)
          else
            some ((0 : Int32), v11.2)
        else
          some ((0 : Int32), v8.2)
    else
      some ((0 : Int32), v2.2)
set_option maxHeartbeats 4000000 in
theorem x_Q_follows_518 {l : Launch} {D : va_G} {ad : Nat → Nat} {aC : Nat → ClassId} (hf : l.flags = flags0) (hI : Inj ad) {a0 : Nat} {y2 : Int64} {x4 : Int32} {h : HP} {r : Int32 × HP} (k0 : knd a0 = 7) (e : f_Q_follows_518 a0 y2 x4 h = some r) : Go l D ad aC (rmk m_Q_follows) (QM D ad aC m_Q_follows (.inl (some (.int r.1))) r.2) m_Q_follows 518 [some (.ref a0), none, some (.long y2), none, some (.int x4), none, none, none, none, none, none, none, none, none, none, none, none, none, none] [] h 30 180 := by
  unfold f_Q_follows_518 at e
  refine Go.run (pc' := 520) [.iload 4] (ls' := [some (.ref a0), none, some (.long y2), none, some (.int x4), none, none, none, none, none, none, none, none, none, none, none, none, none, none]) (st' := [.int x4]) (by decide +kernel) rfl rfl ?_
  refine Go.if_eq (off := 46) (tgt := 566) (by decide +kernel) (by decide) (fun c1 => ?_) (fun c1 => ?_)
  · replace e := ite_t c1 e
    refine Go.run (pc' := 567) [.iconst 0] (ls' := [some (.ref a0), none, some (.long y2), none, some (.int x4), none, none, none, none, none, none, none, none, none, none, none, none, none, none]) (st' := [.int (0 : Int32)]) (by decide +kernel) rfl rfl ?_
    obtain rfl := Option.some.inj e
    exact Go.zret rfl nar_z0 (by decide) (by decide) (by decide +kernel)
  · replace e := ite_f c1 e
    refine Go.run (pc' := 524) [.aload_n 0] (ls' := [some (.ref a0), none, some (.long y2), none, some (.int x4), none, none, none, none, none, none, none, none, none, none, none, none, none, none]) (st' := [.ref a0]) (by decide +kernel) rfl rfl ?_
    obtain ⟨v2, e3, e⟩ := bd_inv e
    refine Go.callS (M2 := m_Q_now) (as := [.ref a0]) (rest := []) (v := some (.long v2.1)) (h1 := v2.2) (x_Q_now hf hI k0 e3) ws_Q_128 (by decide +kernel) rfl rfl ⟨⟨Nat.le_of_ble_eq_true rfl, Nat.le_of_ble_eq_true rfl⟩, ⟨Nat.le_of_ble_eq_true rfl, Nat.le_of_ble_eq_true rfl⟩⟩ (Nat.le_of_ble_eq_true rfl) ?_
    show Go l D ad aC (rmk m_Q_follows) _ m_Q_follows 527 [some (.ref a0), none, some (.long y2), none, some (.int x4), none, none, none, none, none, none, none, none, none, none, none, none, none, none] [.long v2.1] v2.2 30 180
    refine Go.run (pc' := 529) [.lload_n 2, .lcmp] (ls' := [some (.ref a0), none, some (.long y2), none, some (.int x4), none, none, none, none, none, none, none, none, none, none, none, none, none, none]) (st' := [.int (lg_cmp v2.1 y2)]) (by decide +kernel) rfl rfl ?_
    refine Go.if_ne (off := 37) (tgt := 566) (by decide +kernel) (by decide) (fun c4 => ?_) (fun c4 => ?_)
    · replace e := ite_f c4 e
      refine Go.run (pc' := 567) [.iconst 0] (ls' := [some (.ref a0), none, some (.long y2), none, some (.int x4), none, none, none, none, none, none, none, none, none, none, none, none, none, none]) (st' := [.int (0 : Int32)]) (by decide +kernel) rfl rfl ?_
      obtain rfl := Option.some.inj e
      exact Go.zret rfl nar_z0 (by decide) (by decide) (by decide +kernel)
    · replace e := ite_t c4 e
      refine Go.run (pc' := 534) [.aload_n 0, .iconst 1] (ls' := [some (.ref a0), none, some (.long y2), none, some (.int x4), none, none, none, none, none, none, none, none, none, none, none, none, none, none]) (st' := [.int (1 : Int32), .ref a0]) (by decide +kernel) rfl rfl ?_
      obtain ⟨v5, e6, e⟩ := bd_inv e
      refine Go.callH (M2 := m_Q_restore) (as := [.ref a0, .int (1 : Int32)]) (rest := []) (v := some (.long v5.1)) (h1 := v5.2) (x_Q_restore hf hI k0 e6) wh_Q_173 (by decide +kernel) rfl rfl ⟨⟨Nat.le_of_ble_eq_true rfl, Nat.le_of_ble_eq_true rfl⟩, ⟨Nat.le_of_ble_eq_true rfl, Nat.le_of_ble_eq_true rfl⟩⟩ (Nat.le_of_ble_eq_true rfl) ?_
      show Go l D ad aC (rmk m_Q_follows) _ m_Q_follows 537 [some (.ref a0), none, some (.long y2), none, some (.int x4), none, none, none, none, none, none, none, none, none, none, none, none, none, none] [.long v5.1] v5.2 31 186
      refine Go.run (pc' := 539) [.lconst 0, .lcmp] (ls' := [some (.ref a0), none, some (.long y2), none, some (.int x4), none, none, none, none, none, none, none, none, none, none, none, none, none, none]) (st' := [.int (lg_cmp v5.1 (0 : Int64))]) (by decide +kernel) rfl rfl ?_
      refine Go.if_lt (off := 27) (tgt := 566) (by decide +kernel) (by decide) (fun c7 => ?_) (fun c7 => ?_)
      · replace e := ite_t c7 e
        refine Go.run (pc' := 567) [.iconst 0] (ls' := [some (.ref a0), none, some (.long y2), none, some (.int x4), none, none, none, none, none, none, none, none, none, none, none, none, none, none]) (st' := [.int (0 : Int32)]) (by decide +kernel) rfl rfl ?_
        obtain rfl := Option.some.inj e
        exact Go.zret rfl nar_z0 (by decide) (by decide) (by decide +kernel)
      · replace e := ite_f c7 e
        refine Go.run (pc' := 543) [.aload_n 0] (ls' := [some (.ref a0), none, some (.long y2), none, some (.int x4), none, none, none, none, none, none, none, none, none, none, none, none, none, none]) (st' := [.ref a0]) (by decide +kernel) rfl rfl ?_
        obtain ⟨v8, e9, e⟩ := bd_inv e
        refine Go.callS (M2 := m_Q_now) (as := [.ref a0]) (rest := []) (v := some (.long v8.1)) (h1 := v8.2) (x_Q_now hf hI k0 e9) ws_Q_128 (by decide +kernel) rfl rfl ⟨⟨Nat.le_of_ble_eq_true rfl, Nat.le_of_ble_eq_true rfl⟩, ⟨Nat.le_of_ble_eq_true rfl, Nat.le_of_ble_eq_true rfl⟩⟩ (Nat.le_of_ble_eq_true rfl) ?_
        show Go l D ad aC (rmk m_Q_follows) _ m_Q_follows 546 [some (.ref a0), none, some (.long y2), none, some (.int x4), none, none, none, none, none, none, none, none, none, none, none, none, none, none] [.long v8.1] v8.2 31 186
        refine Go.run (pc' := 548) [.lload_n 2, .lcmp] (ls' := [some (.ref a0), none, some (.long y2), none, some (.int x4), none, none, none, none, none, none, none, none, none, none, none, none, none, none]) (st' := [.int (lg_cmp v8.1 y2)]) (by decide +kernel) rfl rfl ?_
        refine Go.if_ne (off := 18) (tgt := 566) (by decide +kernel) (by decide) (fun c10 => ?_) (fun c10 => ?_)
        · replace e := ite_f c10 e
          refine Go.run (pc' := 567) [.iconst 0] (ls' := [some (.ref a0), none, some (.long y2), none, some (.int x4), none, none, none, none, none, none, none, none, none, none, none, none, none, none]) (st' := [.int (0 : Int32)]) (by decide +kernel) rfl rfl ?_
          obtain rfl := Option.some.inj e
          exact Go.zret rfl nar_z0 (by decide) (by decide) (by decide +kernel)
        · replace e := ite_t c10 e
          refine Go.run (pc' := 552) [.aload_n 0] (ls' := [some (.ref a0), none, some (.long y2), none, some (.int x4), none, none, none, none, none, none, none, none, none, none, none, none, none, none]) (st' := [.ref a0]) (by decide +kernel) rfl rfl ?_
          obtain ⟨v11, e12, e⟩ := bd_inv e
          refine Go.callH (M2 := m_Q_undo) (as := [.ref a0]) (rest := []) (v := some (.long v11.1)) (h1 := v11.2) (x_Q_undo hf hI k0 e12) wh_Q_185 (by decide +kernel) rfl rfl ⟨⟨Nat.le_of_ble_eq_true rfl, Nat.le_of_ble_eq_true rfl⟩, ⟨Nat.le_of_ble_eq_true rfl, Nat.le_of_ble_eq_true rfl⟩⟩ (Nat.le_of_ble_eq_true rfl) ?_
          show Go l D ad aC (rmk m_Q_follows) _ m_Q_follows 555 [some (.ref a0), none, some (.long y2), none, some (.int x4), none, none, none, none, none, none, none, none, none, none, none, none, none, none] [.long v11.1] v11.2 32 192
          refine Go.ldc2 lo_Q_21 (by decide +kernel) ?_
          refine Go.run (pc' := 559) [.lcmp] (ls' := [some (.ref a0), none, some (.long y2), none, some (.int x4), none, none, none, none, none, none, none, none, none, none, none, none, none, none]) (st' := [.int (lg_cmp v11.1 (-9000000000000000003 : Int64))]) (by decide +kernel) rfl rfl ?_
          refine Go.if_ne (off := 7) (tgt := 566) (by decide +kernel) (by decide) (fun c13 => ?_) (fun c13 => ?_)
          · replace e := ite_f c13 e
            refine Go.run (pc' := 567) [.iconst 0] (ls' := [some (.ref a0), none, some (.long y2), none, some (.int x4), none, none, none, none, none, none, none, none, none, none, none, none, none, none]) (st' := [.int (0 : Int32)]) (by decide +kernel) rfl rfl ?_
            obtain rfl := Option.some.inj e
            exact Go.zret rfl nar_z0 (by decide) (by decide) (by decide +kernel)
          · replace e := ite_t c13 e
            refine Go.run (pc' := 563) [.iconst 1] (ls' := [some (.ref a0), none, some (.long y2), none, some (.int x4), none, none, none, none, none, none, none, none, none, none, none, none, none, none]) (st' := [.int (1 : Int32)]) (by decide +kernel) rfl rfl ?_
            refine Go.goto (off := 4) (tgt := 567) (by decide +kernel) (by decide) ?_
            obtain rfl := Option.some.inj e
            exact Go.zret rfl nar_z1 (by decide) (by decide) (by decide +kernel)
def f_Q_follows_516  (a0 : Nat) (y2 : Int64) (s0 : Int32) (h : HP) : Option (Int32 × HP) :=
  f_Q_follows_518 a0 y2 s0 h
set_option maxHeartbeats 4000000 in
theorem x_Q_follows_516 {l : Launch} {D : va_G} {ad : Nat → Nat} {aC : Nat → ClassId} (hf : l.flags = flags0) (hI : Inj ad) {a0 : Nat} {y2 : Int64} {s0 : Int32} {h : HP} {r : Int32 × HP} (k0 : knd a0 = 7) (e : f_Q_follows_516 a0 y2 s0 h = some r) : Go l D ad aC (rmk m_Q_follows) (QM D ad aC m_Q_follows (.inl (some (.int r.1))) r.2) m_Q_follows 516 [some (.ref a0), none, some (.long y2), none, none, none, none, none, none, none, none, none, none, none, none, none, none, none, none] [.int s0] h 30 180 := by
  unfold f_Q_follows_516 at e
  refine Go.run (pc' := 518) [.istore 4] (ls' := [some (.ref a0), none, some (.long y2), none, some (.int s0), none, none, none, none, none, none, none, none, none, none, none, none, none, none]) (st' := []) (by decide +kernel) rfl rfl ?_
  exact x_Q_follows_518 hf hI k0 e
def f_Q_follows_515  (a0 : Nat) (y2 : Int64) (h : HP) : Option (Int32 × HP) :=
  f_Q_follows_516 a0 y2 (0 : Int32) h
set_option maxHeartbeats 4000000 in
theorem x_Q_follows_515 {l : Launch} {D : va_G} {ad : Nat → Nat} {aC : Nat → ClassId} (hf : l.flags = flags0) (hI : Inj ad) {a0 : Nat} {y2 : Int64} {h : HP} {r : Int32 × HP} (k0 : knd a0 = 7) (e : f_Q_follows_515 a0 y2 h = some r) : Go l D ad aC (rmk m_Q_follows) (QM D ad aC m_Q_follows (.inl (some (.int r.1))) r.2) m_Q_follows 515 [some (.ref a0), none, some (.long y2), none, none, none, none, none, none, none, none, none, none, none, none, none, none, none, none] [] h 30 180 := by
  unfold f_Q_follows_515 at e
  refine Go.run (pc' := 516) [.iconst 0] (ls' := [some (.ref a0), none, some (.long y2), none, none, none, none, none, none, none, none, none, none, none, none, none, none, none, none]) (st' := [.int (0 : Int32)]) (by decide +kernel) rfl rfl ?_
  exact x_Q_follows_516 hf hI k0 e
def f_Q_follows_511  (a0 : Nat) (y2 : Int64) (h : HP) : Option (Int32 × HP) :=
  f_Q_follows_516 a0 y2 (1 : Int32) h
set_option maxHeartbeats 4000000 in
theorem x_Q_follows_511 {l : Launch} {D : va_G} {ad : Nat → Nat} {aC : Nat → ClassId} (hf : l.flags = flags0) (hI : Inj ad) {a0 : Nat} {y2 : Int64} {h : HP} {r : Int32 × HP} (k0 : knd a0 = 7) (e : f_Q_follows_511 a0 y2 h = some r) : Go l D ad aC (rmk m_Q_follows) (QM D ad aC m_Q_follows (.inl (some (.int r.1))) r.2) m_Q_follows 511 [some (.ref a0), none, some (.long y2), none, none, none, none, none, none, none, none, none, none, none, none, none, none, none, none] [] h 30 180 := by
  unfold f_Q_follows_511 at e
  refine Go.run (pc' := 512) [.iconst 1] (ls' := [some (.ref a0), none, some (.long y2), none, none, none, none, none, none, none, none, none, none, none, none, none, none, none, none]) (st' := [.int (1 : Int32)]) (by decide +kernel) rfl rfl ?_
  refine Go.goto (off := 4) (tgt := 516) (by decide +kernel) (by decide) ?_
  exact x_Q_follows_516 hf hI k0 e
def f_Q_follows_478  (a0 : Nat) (y2 : Int64) (x4 : Int32) (x10 : Int32) (x12 : Int32) (y13 : Int64) (y15 : Int64) (h : HP) : Option (Int32 × HP) :=
  if x4 = 0 then
    f_Q_follows_515 a0 y2 h
  else
    if x12 = 0 then
      f_Q_follows_511 a0 y2 h
    else
      if (lg_cmp y13 (-1 : Int64)) = 0 then
        f_Q_follows_515 a0 y2 h
      else
        (f_Q_dealerOf h a0 x10 (7 : Int32)).bind fun v4 =>
        if 0 < (lg_cmp y15 v4.1) then
          f_Q_follows_515 a0 y2 v4.2
        else
          f_Q_follows_511 a0 y2 v4.2
set_option maxHeartbeats 4000000 in
theorem x_Q_follows_478 {l : Launch} {D : va_G} {ad : Nat → Nat} {aC : Nat → ClassId} (hf : l.flags = flags0) (hI : Inj ad) {a0 : Nat} {y2 : Int64} {x4 : Int32} {x10 : Int32} {x12 : Int32} {y13 : Int64} {y15 : Int64} {h : HP} {r : Int32 × HP} (k0 : knd a0 = 7) (e : f_Q_follows_478 a0 y2 x4 x10 x12 y13 y15 h = some r) : Go l D ad aC (rmk m_Q_follows) (QM D ad aC m_Q_follows (.inl (some (.int r.1))) r.2) m_Q_follows 478 [some (.ref a0), none, some (.long y2), none, some (.int x4), none, none, none, none, none, some (.int x10), none, some (.int x12), some (.long y13), none, some (.long y15), none, none, none] [] h 29 174 := by
  unfold f_Q_follows_478 at e
  refine Go.run (pc' := 480) [.iload 4] (ls' := [some (.ref a0), none, some (.long y2), none, some (.int x4), none, none, none, none, none, some (.int x10), none, some (.int x12), some (.long y13), none, some (.long y15), none, none, none]) (st' := [.int x4]) (by decide +kernel) rfl rfl ?_
  refine Go.if_eq (off := 35) (tgt := 515) (by decide +kernel) (by decide) (fun c1 => ?_) (fun c1 => ?_)
  · replace e := ite_t c1 e
    refine Go.wid (k' := 30) (n' := 180) (by decide) (by decide) ?_
    refine Go.wk' (wks (wks (wks (wks (wkn (wks (wks (wks (wks (wks (wkn (wks (wkn (wkn (wks (wkn (wks (wks (wks wk0))))))))))))))))))) ?_
    exact x_Q_follows_515 hf hI k0 e
  · replace e := ite_f c1 e
    refine Go.run (pc' := 485) [.iload 12] (ls' := [some (.ref a0), none, some (.long y2), none, some (.int x4), none, none, none, none, none, some (.int x10), none, some (.int x12), some (.long y13), none, some (.long y15), none, none, none]) (st' := [.int x12]) (by decide +kernel) rfl rfl ?_
    refine Go.if_eq (off := 26) (tgt := 511) (by decide +kernel) (by decide) (fun c2 => ?_) (fun c2 => ?_)
    · replace e := ite_t c2 e
      refine Go.wid (k' := 30) (n' := 180) (by decide) (by decide) ?_
      refine Go.wk' (wks (wks (wks (wks (wkn (wks (wks (wks (wks (wks (wkn (wks (wkn (wkn (wks (wkn (wks (wks (wks wk0))))))))))))))))))) ?_
      exact x_Q_follows_511 hf hI k0 e
    · replace e := ite_f c2 e
      refine Go.run (pc' := 490) [.lload 13] (ls' := [some (.ref a0), none, some (.long y2), none, some (.int x4), none, none, none, none, none, some (.int x10), none, some (.int x12), some (.long y13), none, some (.long y15), none, none, none]) (st' := [.long y13]) (by decide +kernel) rfl rfl ?_
      refine Go.ldc2 lo_Q_160 (by decide +kernel) ?_
      refine Go.run (pc' := 494) [.lcmp] (ls' := [some (.ref a0), none, some (.long y2), none, some (.int x4), none, none, none, none, none, some (.int x10), none, some (.int x12), some (.long y13), none, some (.long y15), none, none, none]) (st' := [.int (lg_cmp y13 (-1 : Int64))]) (by decide +kernel) rfl rfl ?_
      refine Go.if_eq (off := 21) (tgt := 515) (by decide +kernel) (by decide) (fun c3 => ?_) (fun c3 => ?_)
      · replace e := ite_t c3 e
        refine Go.wid (k' := 30) (n' := 180) (by decide) (by decide) ?_
        refine Go.wk' (wks (wks (wks (wks (wkn (wks (wks (wks (wks (wks (wkn (wks (wkn (wkn (wks (wkn (wks (wks (wks wk0))))))))))))))))))) ?_
        exact x_Q_follows_515 hf hI k0 e
      · replace e := ite_f c3 e
        refine Go.run (pc' := 504) [.lload 15, .aload_n 0, .iload 10, .bipush (7)] (ls' := [some (.ref a0), none, some (.long y2), none, some (.int x4), none, none, none, none, none, some (.int x10), none, some (.int x12), some (.long y13), none, some (.long y15), none, none, none]) (st' := [.int (7 : Int32), .int x10, .ref a0, .long y15]) (by decide +kernel) rfl rfl ?_
        obtain ⟨v4, e5, e⟩ := bd_inv e
        refine Go.callH (M2 := m_Q_dealerOf) (as := [.ref a0, .int x10, .int (7 : Int32)]) (rest := [.long y15]) (v := some (.long v4.1)) (h1 := v4.2) (x_Q_dealerOf hf hI k0 e5) wh_Q_126 (by decide +kernel) rfl rfl ⟨⟨Nat.le_of_ble_eq_true rfl, Nat.le_of_ble_eq_true rfl⟩, ⟨Nat.le_of_ble_eq_true rfl, Nat.le_of_ble_eq_true rfl⟩⟩ (Nat.le_of_ble_eq_true rfl) ?_
        show Go l D ad aC (rmk m_Q_follows) _ m_Q_follows 507 [some (.ref a0), none, some (.long y2), none, some (.int x4), none, none, none, none, none, some (.int x10), none, some (.int x12), some (.long y13), none, some (.long y15), none, none, none] [.long v4.1, .long y15] v4.2 30 180
        refine Go.run (pc' := 508) [.lcmp] (ls' := [some (.ref a0), none, some (.long y2), none, some (.int x4), none, none, none, none, none, some (.int x10), none, some (.int x12), some (.long y13), none, some (.long y15), none, none, none]) (st' := [.int (lg_cmp y15 v4.1)]) (by decide +kernel) rfl rfl ?_
        refine Go.if_gt (off := 7) (tgt := 515) (by decide +kernel) (by decide) (fun c6 => ?_) (fun c6 => ?_)
        · replace e := ite_t c6 e
          refine Go.wk' (wks (wks (wks (wks (wkn (wks (wks (wks (wks (wks (wkn (wks (wkn (wkn (wks (wkn (wks (wks (wks wk0))))))))))))))))))) ?_
          exact x_Q_follows_515 hf hI k0 e
        · replace e := ite_f c6 e
          refine Go.wk' (wks (wks (wks (wks (wkn (wks (wks (wks (wks (wks (wkn (wks (wkn (wkn (wks (wkn (wks (wks (wks wk0))))))))))))))))))) ?_
          exact x_Q_follows_511 hf hI k0 e
def f_Q_follows_476  (a0 : Nat) (y2 : Int64) (x10 : Int32) (x12 : Int32) (y13 : Int64) (y15 : Int64) (s0 : Int32) (h : HP) : Option (Int32 × HP) :=
  f_Q_follows_478 a0 y2 s0 x10 x12 y13 y15 h
set_option maxHeartbeats 4000000 in
theorem x_Q_follows_476 {l : Launch} {D : va_G} {ad : Nat → Nat} {aC : Nat → ClassId} (hf : l.flags = flags0) (hI : Inj ad) {a0 : Nat} {y2 : Int64} {x10 : Int32} {x12 : Int32} {y13 : Int64} {y15 : Int64} {s0 : Int32} {h : HP} {r : Int32 × HP} (k0 : knd a0 = 7) (e : f_Q_follows_476 a0 y2 x10 x12 y13 y15 s0 h = some r) : Go l D ad aC (rmk m_Q_follows) (QM D ad aC m_Q_follows (.inl (some (.int r.1))) r.2) m_Q_follows 476 [some (.ref a0), none, some (.long y2), none, none, none, none, none, none, none, some (.int x10), none, some (.int x12), some (.long y13), none, some (.long y15), none, none, none] [.int s0] h 29 174 := by
  unfold f_Q_follows_476 at e
  refine Go.run (pc' := 478) [.istore 4] (ls' := [some (.ref a0), none, some (.long y2), none, some (.int s0), none, none, none, none, none, some (.int x10), none, some (.int x12), some (.long y13), none, some (.long y15), none, none, none]) (st' := []) (by decide +kernel) rfl rfl ?_
  exact x_Q_follows_478 hf hI k0 e
def f_Q_follows_475  (a0 : Nat) (y2 : Int64) (x10 : Int32) (x12 : Int32) (y13 : Int64) (y15 : Int64) (h : HP) : Option (Int32 × HP) :=
  f_Q_follows_476 a0 y2 x10 x12 y13 y15 (0 : Int32) h
set_option maxHeartbeats 4000000 in
theorem x_Q_follows_475 {l : Launch} {D : va_G} {ad : Nat → Nat} {aC : Nat → ClassId} (hf : l.flags = flags0) (hI : Inj ad) {a0 : Nat} {y2 : Int64} {x10 : Int32} {x12 : Int32} {y13 : Int64} {y15 : Int64} {h : HP} {r : Int32 × HP} (k0 : knd a0 = 7) (e : f_Q_follows_475 a0 y2 x10 x12 y13 y15 h = some r) : Go l D ad aC (rmk m_Q_follows) (QM D ad aC m_Q_follows (.inl (some (.int r.1))) r.2) m_Q_follows 475 [some (.ref a0), none, some (.long y2), none, none, none, none, none, none, none, some (.int x10), none, some (.int x12), some (.long y13), none, some (.long y15), none, none, none] [] h 29 174 := by
  unfold f_Q_follows_475 at e
  refine Go.run (pc' := 476) [.iconst 0] (ls' := [some (.ref a0), none, some (.long y2), none, none, none, none, none, none, none, some (.int x10), none, some (.int x12), some (.long y13), none, some (.long y15), none, none, none]) (st' := [.int (0 : Int32)]) (by decide +kernel) rfl rfl ?_
  exact x_Q_follows_476 hf hI k0 e
def f_Q_follows_471  (a0 : Nat) (y2 : Int64) (x10 : Int32) (x12 : Int32) (y13 : Int64) (y15 : Int64) (h : HP) : Option (Int32 × HP) :=
  f_Q_follows_476 a0 y2 x10 x12 y13 y15 (1 : Int32) h
set_option maxHeartbeats 4000000 in
theorem x_Q_follows_471 {l : Launch} {D : va_G} {ad : Nat → Nat} {aC : Nat → ClassId} (hf : l.flags = flags0) (hI : Inj ad) {a0 : Nat} {y2 : Int64} {x10 : Int32} {x12 : Int32} {y13 : Int64} {y15 : Int64} {h : HP} {r : Int32 × HP} (k0 : knd a0 = 7) (e : f_Q_follows_471 a0 y2 x10 x12 y13 y15 h = some r) : Go l D ad aC (rmk m_Q_follows) (QM D ad aC m_Q_follows (.inl (some (.int r.1))) r.2) m_Q_follows 471 [some (.ref a0), none, some (.long y2), none, none, none, none, none, none, none, some (.int x10), none, some (.int x12), some (.long y13), none, some (.long y15), none, none, none] [] h 29 174 := by
  unfold f_Q_follows_471 at e
  refine Go.run (pc' := 472) [.iconst 1] (ls' := [some (.ref a0), none, some (.long y2), none, none, none, none, none, none, none, some (.int x10), none, some (.int x12), some (.long y13), none, some (.long y15), none, none, none]) (st' := [.int (1 : Int32)]) (by decide +kernel) rfl rfl ?_
  refine Go.goto (off := 4) (tgt := 476) (by decide +kernel) (by decide) ?_
  exact x_Q_follows_476 hf hI k0 e
def f_Q_follows_411  (a0 : Nat) (y2 : Int64) (x10 : Int32) (x12 : Int32) (y13 : Int64) (y15 : Int64) (h : HP) : Option (Int32 × HP) :=
  (f_Q_place h a0 x10 (y13.toInt32 / (100 : Int32)) (y13.toInt32 - y13.toInt32 / (100 : Int32) * (100 : Int32))).bind fun v1 =>
  if (lg_cmp v1.1 (0 : Int64)) = 0 then
    (f_Q_dealerOf v1.2 a0 x10 (7 : Int32)).bind fun v4 =>
    if (lg_cmp v4.1 y15) = 0 then
      (f_Q_undo v4.2 a0).bind fun v7 =>
      if (lg_cmp v7.1 (0 : Int64)) < 0 then
        f_Q_follows_475 a0 y2 x10 x12 y13 y15 v7.2
      else
        if x12 = 0 then
          f_Q_follows_471 a0 y2 x10 x12 y13 y15 v7.2
        else
          (f_Q_undo v7.2 a0).bind fun v11 =>
          if (lg_cmp v11.1 (0 : Int64)) < 0 then
            f_Q_follows_475 a0 y2 x10 x12 y13 y15 v11.2
          else
            f_Q_follows_471 a0 y2 x10 x12 y13 y15 v11.2
    else
      f_Q_follows_475 a0 y2 x10 x12 y13 y15 v4.2
  else
    f_Q_follows_475 a0 y2 x10 x12 y13 y15 v1.2
set_option maxHeartbeats 4000000 in
theorem x_Q_follows_411 {l : Launch} {D : va_G} {ad : Nat → Nat} {aC : Nat → ClassId} (hf : l.flags = flags0) (hI : Inj ad) {a0 : Nat} {y2 : Int64} {x10 : Int32} {x12 : Int32} {y13 : Int64} {y15 : Int64} {h : HP} {r : Int32 × HP} (k0 : knd a0 = 7) (e : f_Q_follows_411 a0 y2 x10 x12 y13 y15 h = some r) : Go l D ad aC (rmk m_Q_follows) (QM D ad aC m_Q_follows (.inl (some (.int r.1))) r.2) m_Q_follows 411 [some (.ref a0), none, some (.long y2), none, none, none, none, none, none, none, some (.int x10), none, some (.int x12), some (.long y13), none, some (.long y15), none, none, none] [] h 25 150 := by
  unfold f_Q_follows_411 at e
  refine Go.run (pc' := 426) [.aload_n 0, .iload 10, .lload 13, .l2i, .bipush (100), .idiv, .lload 13, .l2i, .bipush (100), .irem] (ls' := [some (.ref a0), none, some (.long y2), none, none, none, none, none, none, none, some (.int x10), none, some (.int x12), some (.long y13), none, some (.long y15), none, none, none]) (st' := [.int (y13.toInt32 - y13.toInt32 / (100 : Int32) * (100 : Int32)), .int (y13.toInt32 / (100 : Int32)), .int x10, .ref a0]) (by decide +kernel) rfl rfl ?_
  obtain ⟨v1, e2, e⟩ := bd_inv e
  refine Go.callH (M2 := m_Q_place) (as := [.ref a0, .int x10, .int (y13.toInt32 / (100 : Int32)), .int (y13.toInt32 - y13.toInt32 / (100 : Int32) * (100 : Int32))]) (rest := []) (v := some (.long v1.1)) (h1 := v1.2) (x_Q_place hf hI k0 e2) wh_Q_142 (by decide +kernel) rfl rfl ⟨⟨Nat.le_of_ble_eq_true rfl, Nat.le_of_ble_eq_true rfl⟩, ⟨Nat.le_of_ble_eq_true rfl, Nat.le_of_ble_eq_true rfl⟩⟩ (Nat.le_of_ble_eq_true rfl) ?_
  show Go l D ad aC (rmk m_Q_follows) _ m_Q_follows 429 [some (.ref a0), none, some (.long y2), none, none, none, none, none, none, none, some (.int x10), none, some (.int x12), some (.long y13), none, some (.long y15), none, none, none] [.long v1.1] v1.2 26 156
  refine Go.run (pc' := 431) [.lconst 0, .lcmp] (ls' := [some (.ref a0), none, some (.long y2), none, none, none, none, none, none, none, some (.int x10), none, some (.int x12), some (.long y13), none, some (.long y15), none, none, none]) (st' := [.int (lg_cmp v1.1 (0 : Int64))]) (by decide +kernel) rfl rfl ?_
  refine Go.if_ne (off := 44) (tgt := 475) (by decide +kernel) (by decide) (fun c3 => ?_) (fun c3 => ?_)
  · replace e := ite_f c3 e
    refine Go.wid (k' := 29) (n' := 174) (by decide) (by decide) ?_
    exact x_Q_follows_475 hf hI k0 e
  · replace e := ite_t c3 e
    refine Go.run (pc' := 439) [.aload_n 0, .iload 10, .bipush (7)] (ls' := [some (.ref a0), none, some (.long y2), none, none, none, none, none, none, none, some (.int x10), none, some (.int x12), some (.long y13), none, some (.long y15), none, none, none]) (st' := [.int (7 : Int32), .int x10, .ref a0]) (by decide +kernel) rfl rfl ?_
    obtain ⟨v4, e5, e⟩ := bd_inv e
    refine Go.callH (M2 := m_Q_dealerOf) (as := [.ref a0, .int x10, .int (7 : Int32)]) (rest := []) (v := some (.long v4.1)) (h1 := v4.2) (x_Q_dealerOf hf hI k0 e5) wh_Q_126 (by decide +kernel) rfl rfl ⟨⟨Nat.le_of_ble_eq_true rfl, Nat.le_of_ble_eq_true rfl⟩, ⟨Nat.le_of_ble_eq_true rfl, Nat.le_of_ble_eq_true rfl⟩⟩ (Nat.le_of_ble_eq_true rfl) ?_
    show Go l D ad aC (rmk m_Q_follows) _ m_Q_follows 442 [some (.ref a0), none, some (.long y2), none, none, none, none, none, none, none, some (.int x10), none, some (.int x12), some (.long y13), none, some (.long y15), none, none, none] [.long v4.1] v4.2 27 162
    refine Go.run (pc' := 445) [.lload 15, .lcmp] (ls' := [some (.ref a0), none, some (.long y2), none, none, none, none, none, none, none, some (.int x10), none, some (.int x12), some (.long y13), none, some (.long y15), none, none, none]) (st' := [.int (lg_cmp v4.1 y15)]) (by decide +kernel) rfl rfl ?_
    refine Go.if_ne (off := 30) (tgt := 475) (by decide +kernel) (by decide) (fun c6 => ?_) (fun c6 => ?_)
    · replace e := ite_f c6 e
      refine Go.wid (k' := 29) (n' := 174) (by decide) (by decide) ?_
      exact x_Q_follows_475 hf hI k0 e
    · replace e := ite_t c6 e
      refine Go.run (pc' := 449) [.aload_n 0] (ls' := [some (.ref a0), none, some (.long y2), none, none, none, none, none, none, none, some (.int x10), none, some (.int x12), some (.long y13), none, some (.long y15), none, none, none]) (st' := [.ref a0]) (by decide +kernel) rfl rfl ?_
      obtain ⟨v7, e8, e⟩ := bd_inv e
      refine Go.callH (M2 := m_Q_undo) (as := [.ref a0]) (rest := []) (v := some (.long v7.1)) (h1 := v7.2) (x_Q_undo hf hI k0 e8) wh_Q_185 (by decide +kernel) rfl rfl ⟨⟨Nat.le_of_ble_eq_true rfl, Nat.le_of_ble_eq_true rfl⟩, ⟨Nat.le_of_ble_eq_true rfl, Nat.le_of_ble_eq_true rfl⟩⟩ (Nat.le_of_ble_eq_true rfl) ?_
      show Go l D ad aC (rmk m_Q_follows) _ m_Q_follows 452 [some (.ref a0), none, some (.long y2), none, none, none, none, none, none, none, some (.int x10), none, some (.int x12), some (.long y13), none, some (.long y15), none, none, none] [.long v7.1] v7.2 28 168
      refine Go.run (pc' := 454) [.lconst 0, .lcmp] (ls' := [some (.ref a0), none, some (.long y2), none, none, none, none, none, none, none, some (.int x10), none, some (.int x12), some (.long y13), none, some (.long y15), none, none, none]) (st' := [.int (lg_cmp v7.1 (0 : Int64))]) (by decide +kernel) rfl rfl ?_
      refine Go.if_lt (off := 21) (tgt := 475) (by decide +kernel) (by decide) (fun c9 => ?_) (fun c9 => ?_)
      · replace e := ite_t c9 e
        refine Go.wid (k' := 29) (n' := 174) (by decide) (by decide) ?_
        exact x_Q_follows_475 hf hI k0 e
      · replace e := ite_f c9 e
        refine Go.run (pc' := 459) [.iload 12] (ls' := [some (.ref a0), none, some (.long y2), none, none, none, none, none, none, none, some (.int x10), none, some (.int x12), some (.long y13), none, some (.long y15), none, none, none]) (st' := [.int x12]) (by decide +kernel) rfl rfl ?_
        refine Go.if_eq (off := 12) (tgt := 471) (by decide +kernel) (by decide) (fun c10 => ?_) (fun c10 => ?_)
        · replace e := ite_t c10 e
          refine Go.wid (k' := 29) (n' := 174) (by decide) (by decide) ?_
          exact x_Q_follows_471 hf hI k0 e
        · replace e := ite_f c10 e
          refine Go.run (pc' := 463) [.aload_n 0] (ls' := [some (.ref a0), none, some (.long y2), none, none, none, none, none, none, none, some (.int x10), none, some (.int x12), some (.long y13), none, some (.long y15), none, none, none]) (st' := [.ref a0]) (by decide +kernel) rfl rfl ?_
          obtain ⟨v11, e12, e⟩ := bd_inv e
          refine Go.callH (M2 := m_Q_undo) (as := [.ref a0]) (rest := []) (v := some (.long v11.1)) (h1 := v11.2) (x_Q_undo hf hI k0 e12) wh_Q_185 (by decide +kernel) rfl rfl ⟨⟨Nat.le_of_ble_eq_true rfl, Nat.le_of_ble_eq_true rfl⟩, ⟨Nat.le_of_ble_eq_true rfl, Nat.le_of_ble_eq_true rfl⟩⟩ (Nat.le_of_ble_eq_true rfl) ?_
          show Go l D ad aC (rmk m_Q_follows) _ m_Q_follows 466 [some (.ref a0), none, some (.long y2), none, none, none, none, none, none, none, some (.int x10), none, some (.int x12), some (.long y13), none, some (.long y15), none, none, none] [.long v11.1] v11.2 29 174
          refine Go.run (pc' := 468) [.lconst 0, .lcmp] (ls' := [some (.ref a0), none, some (.long y2), none, none, none, none, none, none, none, some (.int x10), none, some (.int x12), some (.long y13), none, some (.long y15), none, none, none]) (st' := [.int (lg_cmp v11.1 (0 : Int64))]) (by decide +kernel) rfl rfl ?_
          refine Go.if_lt (off := 7) (tgt := 475) (by decide +kernel) (by decide) (fun c13 => ?_) (fun c13 => ?_)
          · replace e := ite_t c13 e
            exact x_Q_follows_475 hf hI k0 e
          · replace e := ite_f c13 e
            exact x_Q_follows_471 hf hI k0 e
def f_Q_follows_348  (a0 : Nat) (y2 : Int64) (x10 : Int32) (x12 : Int32) (y13 : Int64) (y15 : Int64) (s0 : Int32) (h : HP) : Option (Int32 × HP) :=
  if (lg_cmp y13 (-1 : Int64)) = 0 then
    f_Q_follows_478 a0 y2 s0 x10 x12 y13 y15 h
  else
    if s0 = 0 then
      f_Q_follows_478 a0 y2 s0 x10 x12 y13 y15 h
    else
      (f_Q_rentIf h a0 x10 (y13.toInt32 / (100 : Int32)) (y13.toInt32 - y13.toInt32 / (100 : Int32) * (100 : Int32))).bind fun v3 =>
      if (lg_cmp v3.1 y15) = 0 then
        if x12 = 0 then
          f_Q_follows_411 a0 y2 x10 x12 y13 y15 v3.2
        else
          (f_Q_leave v3.2 a0 x10).bind fun v7 =>
          (f_Q_dealerOf v7.2 a0 x10 (8 : Int32)).bind fun v9 =>
          if (lg_cmp v7.1 v9.1) = 0 then
            f_Q_follows_411 a0 y2 x10 x12 y13 y15 v9.2
          else
            f_Q_follows_475 a0 y2 x10 x12 y13 y15 v9.2
      else
        f_Q_follows_475 a0 y2 x10 x12 y13 y15 v3.2
set_option maxHeartbeats 4000000 in
theorem x_Q_follows_348 {l : Launch} {D : va_G} {ad : Nat → Nat} {aC : Nat → ClassId} (hf : l.flags = flags0) (hI : Inj ad) {a0 : Nat} {y2 : Int64} {x10 : Int32} {x12 : Int32} {y13 : Int64} {y15 : Int64} {s0 : Int32} {h : HP} {r : Int32 × HP} (k0 : knd a0 = 7) (e : f_Q_follows_348 a0 y2 x10 x12 y13 y15 s0 h = some r) : Go l D ad aC (rmk m_Q_follows) (QM D ad aC m_Q_follows (.inl (some (.int r.1))) r.2) m_Q_follows 348 [some (.ref a0), none, some (.long y2), none, none, none, none, none, none, none, some (.int x10), none, some (.int x12), some (.long y13), none, some (.long y15), none, none, none] [.int s0] h 22 132 := by
  unfold f_Q_follows_348 at e
  refine Go.run (pc' := 352) [.istore 4, .lload 13] (ls' := [some (.ref a0), none, some (.long y2), none, some (.int s0), none, none, none, none, none, some (.int x10), none, some (.int x12), some (.long y13), none, some (.long y15), none, none, none]) (st' := [.long y13]) (by decide +kernel) rfl rfl ?_
  refine Go.ldc2 lo_Q_160 (by decide +kernel) ?_
  refine Go.run (pc' := 356) [.lcmp] (ls' := [some (.ref a0), none, some (.long y2), none, some (.int s0), none, none, none, none, none, some (.int x10), none, some (.int x12), some (.long y13), none, some (.long y15), none, none, none]) (st' := [.int (lg_cmp y13 (-1 : Int64))]) (by decide +kernel) rfl rfl ?_
  refine Go.if_eq (off := 122) (tgt := 478) (by decide +kernel) (by decide) (fun c1 => ?_) (fun c1 => ?_)
  · replace e := ite_t c1 e
    refine Go.wid (k' := 29) (n' := 174) (by decide) (by decide) ?_
    exact x_Q_follows_478 hf hI k0 e
  · replace e := ite_f c1 e
    refine Go.run (pc' := 361) [.iload 4] (ls' := [some (.ref a0), none, some (.long y2), none, some (.int s0), none, none, none, none, none, some (.int x10), none, some (.int x12), some (.long y13), none, some (.long y15), none, none, none]) (st' := [.int s0]) (by decide +kernel) rfl rfl ?_
    refine Go.if_eq (off := 117) (tgt := 478) (by decide +kernel) (by decide) (fun c2 => ?_) (fun c2 => ?_)
    · replace e := ite_t c2 e
      refine Go.wid (k' := 29) (n' := 174) (by decide) (by decide) ?_
      exact x_Q_follows_478 hf hI k0 e
    · replace e := ite_f c2 e
      refine Go.run (pc' := 379) [.aload_n 0, .iload 10, .lload 13, .l2i, .bipush (100), .idiv, .lload 13, .l2i, .bipush (100), .irem] (ls' := [some (.ref a0), none, some (.long y2), none, some (.int s0), none, none, none, none, none, some (.int x10), none, some (.int x12), some (.long y13), none, some (.long y15), none, none, none]) (st' := [.int (y13.toInt32 - y13.toInt32 / (100 : Int32) * (100 : Int32)), .int (y13.toInt32 / (100 : Int32)), .int x10, .ref a0]) (by decide +kernel) rfl rfl ?_
      obtain ⟨v3, e4, e⟩ := bd_inv e
      refine Go.callH (M2 := m_Q_rentIf) (as := [.ref a0, .int x10, .int (y13.toInt32 / (100 : Int32)), .int (y13.toInt32 - y13.toInt32 / (100 : Int32) * (100 : Int32))]) (rest := []) (v := some (.long v3.1)) (h1 := v3.2) (x_Q_rentIf hf hI k0 e4) wh_Q_152 (by decide +kernel) rfl rfl ⟨⟨Nat.le_of_ble_eq_true rfl, Nat.le_of_ble_eq_true rfl⟩, ⟨Nat.le_of_ble_eq_true rfl, Nat.le_of_ble_eq_true rfl⟩⟩ (Nat.le_of_ble_eq_true rfl) ?_
      show Go l D ad aC (rmk m_Q_follows) _ m_Q_follows 382 [some (.ref a0), none, some (.long y2), none, some (.int s0), none, none, none, none, none, some (.int x10), none, some (.int x12), some (.long y13), none, some (.long y15), none, none, none] [.long v3.1] v3.2 23 138
      refine Go.run (pc' := 385) [.lload 15, .lcmp] (ls' := [some (.ref a0), none, some (.long y2), none, some (.int s0), none, none, none, none, none, some (.int x10), none, some (.int x12), some (.long y13), none, some (.long y15), none, none, none]) (st' := [.int (lg_cmp v3.1 y15)]) (by decide +kernel) rfl rfl ?_
      refine Go.if_ne (off := 90) (tgt := 475) (by decide +kernel) (by decide) (fun c5 => ?_) (fun c5 => ?_)
      · replace e := ite_f c5 e
        refine Go.wid (k' := 29) (n' := 174) (by decide) (by decide) ?_
        refine Go.wk' (wks (wks (wks (wks (wkn (wks (wks (wks (wks (wks (wks (wks (wks (wks (wks (wks (wks (wks (wks wk0))))))))))))))))))) ?_
        exact x_Q_follows_475 hf hI k0 e
      · replace e := ite_t c5 e
        refine Go.run (pc' := 390) [.iload 12] (ls' := [some (.ref a0), none, some (.long y2), none, some (.int s0), none, none, none, none, none, some (.int x10), none, some (.int x12), some (.long y13), none, some (.long y15), none, none, none]) (st' := [.int x12]) (by decide +kernel) rfl rfl ?_
        refine Go.if_eq (off := 21) (tgt := 411) (by decide +kernel) (by decide) (fun c6 => ?_) (fun c6 => ?_)
        · replace e := ite_t c6 e
          refine Go.wid (k' := 25) (n' := 150) (by decide) (by decide) ?_
          refine Go.wk' (wks (wks (wks (wks (wkn (wks (wks (wks (wks (wks (wks (wks (wks (wks (wks (wks (wks (wks (wks wk0))))))))))))))))))) ?_
          exact x_Q_follows_411 hf hI k0 e
        · replace e := ite_f c6 e
          refine Go.run (pc' := 396) [.aload_n 0, .iload 10] (ls' := [some (.ref a0), none, some (.long y2), none, some (.int s0), none, none, none, none, none, some (.int x10), none, some (.int x12), some (.long y13), none, some (.long y15), none, none, none]) (st' := [.int x10, .ref a0]) (by decide +kernel) rfl rfl ?_
          obtain ⟨v7, e8, e⟩ := bd_inv e
          refine Go.callH (M2 := m_Q_leave) (as := [.ref a0, .int x10]) (rest := []) (v := some (.long v7.1)) (h1 := v7.2) (x_Q_leave hf hI k0 e8) wh_Q_144 (by decide +kernel) rfl rfl ⟨⟨Nat.le_of_ble_eq_true rfl, Nat.le_of_ble_eq_true rfl⟩, ⟨Nat.le_of_ble_eq_true rfl, Nat.le_of_ble_eq_true rfl⟩⟩ (Nat.le_of_ble_eq_true rfl) ?_
          show Go l D ad aC (rmk m_Q_follows) _ m_Q_follows 399 [some (.ref a0), none, some (.long y2), none, some (.int s0), none, none, none, none, none, some (.int x10), none, some (.int x12), some (.long y13), none, some (.long y15), none, none, none] [.long v7.1] v7.2 24 144
          refine Go.run (pc' := 404) [.aload_n 0, .iload 10, .bipush (8)] (ls' := [some (.ref a0), none, some (.long y2), none, some (.int s0), none, none, none, none, none, some (.int x10), none, some (.int x12), some (.long y13), none, some (.long y15), none, none, none]) (st' := [.int (8 : Int32), .int x10, .ref a0, .long v7.1]) (by decide +kernel) rfl rfl ?_
          obtain ⟨v9, e10, e⟩ := bd_inv e
          refine Go.callH (M2 := m_Q_dealerOf) (as := [.ref a0, .int x10, .int (8 : Int32)]) (rest := [.long v7.1]) (v := some (.long v9.1)) (h1 := v9.2) (x_Q_dealerOf hf hI k0 e10) wh_Q_126 (by decide +kernel) rfl rfl ⟨⟨Nat.le_of_ble_eq_true rfl, Nat.le_of_ble_eq_true rfl⟩, ⟨Nat.le_of_ble_eq_true rfl, Nat.le_of_ble_eq_true rfl⟩⟩ (Nat.le_of_ble_eq_true rfl) ?_
          show Go l D ad aC (rmk m_Q_follows) _ m_Q_follows 407 [some (.ref a0), none, some (.long y2), none, some (.int s0), none, none, none, none, none, some (.int x10), none, some (.int x12), some (.long y13), none, some (.long y15), none, none, none] [.long v9.1, .long v7.1] v9.2 25 150
          refine Go.run (pc' := 408) [.lcmp] (ls' := [some (.ref a0), none, some (.long y2), none, some (.int s0), none, none, none, none, none, some (.int x10), none, some (.int x12), some (.long y13), none, some (.long y15), none, none, none]) (st' := [.int (lg_cmp v7.1 v9.1)]) (by decide +kernel) rfl rfl ?_
          refine Go.if_ne (off := 67) (tgt := 475) (by decide +kernel) (by decide) (fun c11 => ?_) (fun c11 => ?_)
          · replace e := ite_f c11 e
            refine Go.wid (k' := 29) (n' := 174) (by decide) (by decide) ?_
            refine Go.wk' (wks (wks (wks (wks (wkn (wks (wks (wks (wks (wks (wks (wks (wks (wks (wks (wks (wks (wks (wks wk0))))))))))))))))))) ?_
            exact x_Q_follows_475 hf hI k0 e
          · replace e := ite_t c11 e
            refine Go.wk' (wks (wks (wks (wks (wkn (wks (wks (wks (wks (wks (wks (wks (wks (wks (wks (wks (wks (wks (wks wk0))))))))))))))))))) ?_
            exact x_Q_follows_411 hf hI k0 e
def f_Q_follows_343  (a0 : Nat) (y2 : Int64) (x10 : Int32) (x12 : Int32) (y13 : Int64) (y15 : Int64) (h : HP) : Option (Int32 × HP) :=
  f_Q_follows_348 a0 y2 x10 x12 y13 y15 (1 : Int32) h
set_option maxHeartbeats 4000000 in
theorem x_Q_follows_343 {l : Launch} {D : va_G} {ad : Nat → Nat} {aC : Nat → ClassId} (hf : l.flags = flags0) (hI : Inj ad) {a0 : Nat} {y2 : Int64} {x10 : Int32} {x12 : Int32} {y13 : Int64} {y15 : Int64} {h : HP} {r : Int32 × HP} (k0 : knd a0 = 7) (e : f_Q_follows_343 a0 y2 x10 x12 y13 y15 h = some r) : Go l D ad aC (rmk m_Q_follows) (QM D ad aC m_Q_follows (.inl (some (.int r.1))) r.2) m_Q_follows 343 [some (.ref a0), none, some (.long y2), none, none, none, none, none, none, none, some (.int x10), none, some (.int x12), some (.long y13), none, some (.long y15), none, none, none] [] h 22 132 := by
  unfold f_Q_follows_343 at e
  refine Go.run (pc' := 344) [.iconst 1] (ls' := [some (.ref a0), none, some (.long y2), none, none, none, none, none, none, none, some (.int x10), none, some (.int x12), some (.long y13), none, some (.long y15), none, none, none]) (st' := [.int (1 : Int32)]) (by decide +kernel) rfl rfl ?_
  refine Go.goto (off := 4) (tgt := 348) (by decide +kernel) (by decide) ?_
  exact x_Q_follows_348 hf hI k0 e
def f_Q_follows_347  (a0 : Nat) (y2 : Int64) (x10 : Int32) (x12 : Int32) (y13 : Int64) (y15 : Int64) (h : HP) : Option (Int32 × HP) :=
  f_Q_follows_348 a0 y2 x10 x12 y13 y15 (0 : Int32) h
set_option maxHeartbeats 4000000 in
theorem x_Q_follows_347 {l : Launch} {D : va_G} {ad : Nat → Nat} {aC : Nat → ClassId} (hf : l.flags = flags0) (hI : Inj ad) {a0 : Nat} {y2 : Int64} {x10 : Int32} {x12 : Int32} {y13 : Int64} {y15 : Int64} {h : HP} {r : Int32 × HP} (k0 : knd a0 = 7) (e : f_Q_follows_347 a0 y2 x10 x12 y13 y15 h = some r) : Go l D ad aC (rmk m_Q_follows) (QM D ad aC m_Q_follows (.inl (some (.int r.1))) r.2) m_Q_follows 347 [some (.ref a0), none, some (.long y2), none, none, none, none, none, none, none, some (.int x10), none, some (.int x12), some (.long y13), none, some (.long y15), none, none, none] [] h 22 132 := by
  unfold f_Q_follows_347 at e
  refine Go.run (pc' := 348) [.iconst 0] (ls' := [some (.ref a0), none, some (.long y2), none, none, none, none, none, none, none, some (.int x10), none, some (.int x12), some (.long y13), none, some (.long y15), none, none, none]) (st' := [.int (0 : Int32)]) (by decide +kernel) rfl rfl ?_
  exact x_Q_follows_348 hf hI k0 e
def f_Q_follows_311  (a0 : Nat) (y2 : Int64) (x10 : Int32) (x11 : Int32) (x12 : Int32) (y13 : Int64) (y15 : Int64) (t0 : Int64) (h : HP) : Option (Int32 × HP) :=
  if x10 = x11 then
    f_Q_follows_343 a0 y2 x10 x12 y13 y15 h
  else
    (f_Q_swap h a0 x10 x11).bind fun v2 =>
    if (lg_cmp v2.1 t0) = 0 then
      (f_Q_undo v2.2 a0).bind fun v5 =>
      if (lg_cmp v5.1 (0 : Int64)) < 0 then
        f_Q_follows_347 a0 y2 x10 x12 y13 y15 v5.2
      else
        f_Q_follows_343 a0 y2 x10 x12 y13 y15 v5.2
    else
      f_Q_follows_347 a0 y2 x10 x12 y13 y15 v2.2
set_option maxHeartbeats 4000000 in
theorem x_Q_follows_311 {l : Launch} {D : va_G} {ad : Nat → Nat} {aC : Nat → ClassId} (hf : l.flags = flags0) (hI : Inj ad) {a0 : Nat} {y2 : Int64} {x10 : Int32} {x11 : Int32} {x12 : Int32} {y13 : Int64} {y15 : Int64} {t0 : Int64} {h : HP} {r : Int32 × HP} (k0 : knd a0 = 7) (e : f_Q_follows_311 a0 y2 x10 x11 x12 y13 y15 t0 h = some r) : Go l D ad aC (rmk m_Q_follows) (QM D ad aC m_Q_follows (.inl (some (.int r.1))) r.2) m_Q_follows 311 [some (.ref a0), none, some (.long y2), none, none, none, none, none, none, none, some (.int x10), some (.int x11), some (.int x12), some (.long y13), none, some (.long y15), none, none, none] [.long t0] h 20 120 := by
  unfold f_Q_follows_311 at e
  refine Go.run (pc' := 317) [.lstore 17, .iload 10, .iload 11] (ls' := [some (.ref a0), none, some (.long y2), none, none, none, none, none, none, none, some (.int x10), some (.int x11), some (.int x12), some (.long y13), none, some (.long y15), none, some (.long t0), none]) (st' := [.int x11, .int x10]) (by decide +kernel) rfl rfl ?_
  refine Go.ic_eq (off := 26) (tgt := 343) (by decide +kernel) (by decide) (fun c1 => ?_) (fun c1 => ?_)
  · replace e := ite_t c1 e
    refine Go.wid (k' := 22) (n' := 132) (by decide) (by decide) ?_
    refine Go.wk' (wks (wks (wks (wks (wks (wks (wks (wks (wks (wks (wks (wkn (wks (wks (wks (wks (wks (wkn (wks wk0))))))))))))))))))) ?_
    exact x_Q_follows_343 hf hI k0 e
  · replace e := ite_f c1 e
    refine Go.run (pc' := 325) [.aload_n 0, .iload 10, .iload 11] (ls' := [some (.ref a0), none, some (.long y2), none, none, none, none, none, none, none, some (.int x10), some (.int x11), some (.int x12), some (.long y13), none, some (.long y15), none, some (.long t0), none]) (st' := [.int x11, .int x10, .ref a0]) (by decide +kernel) rfl rfl ?_
    obtain ⟨v2, e3, e⟩ := bd_inv e
    refine Go.callH (M2 := m_Q_swap) (as := [.ref a0, .int x10, .int x11]) (rest := []) (v := some (.long v2.1)) (h1 := v2.2) (x_Q_swap hf hI k0 e3) wh_Q_146 (by decide +kernel) rfl rfl ⟨⟨Nat.le_of_ble_eq_true rfl, Nat.le_of_ble_eq_true rfl⟩, ⟨Nat.le_of_ble_eq_true rfl, Nat.le_of_ble_eq_true rfl⟩⟩ (Nat.le_of_ble_eq_true rfl) ?_
    show Go l D ad aC (rmk m_Q_follows) _ m_Q_follows 328 [some (.ref a0), none, some (.long y2), none, none, none, none, none, none, none, some (.int x10), some (.int x11), some (.int x12), some (.long y13), none, some (.long y15), none, some (.long t0), none] [.long v2.1] v2.2 21 126
    refine Go.run (pc' := 331) [.lload 17, .lcmp] (ls' := [some (.ref a0), none, some (.long y2), none, none, none, none, none, none, none, some (.int x10), some (.int x11), some (.int x12), some (.long y13), none, some (.long y15), none, some (.long t0), none]) (st' := [.int (lg_cmp v2.1 t0)]) (by decide +kernel) rfl rfl ?_
    refine Go.if_ne (off := 16) (tgt := 347) (by decide +kernel) (by decide) (fun c4 => ?_) (fun c4 => ?_)
    · replace e := ite_f c4 e
      refine Go.wid (k' := 22) (n' := 132) (by decide) (by decide) ?_
      refine Go.wk' (wks (wks (wks (wks (wks (wks (wks (wks (wks (wks (wks (wkn (wks (wks (wks (wks (wks (wkn (wks wk0))))))))))))))))))) ?_
      exact x_Q_follows_347 hf hI k0 e
    · replace e := ite_t c4 e
      refine Go.run (pc' := 335) [.aload_n 0] (ls' := [some (.ref a0), none, some (.long y2), none, none, none, none, none, none, none, some (.int x10), some (.int x11), some (.int x12), some (.long y13), none, some (.long y15), none, some (.long t0), none]) (st' := [.ref a0]) (by decide +kernel) rfl rfl ?_
      obtain ⟨v5, e6, e⟩ := bd_inv e
      refine Go.callH (M2 := m_Q_undo) (as := [.ref a0]) (rest := []) (v := some (.long v5.1)) (h1 := v5.2) (x_Q_undo hf hI k0 e6) wh_Q_185 (by decide +kernel) rfl rfl ⟨⟨Nat.le_of_ble_eq_true rfl, Nat.le_of_ble_eq_true rfl⟩, ⟨Nat.le_of_ble_eq_true rfl, Nat.le_of_ble_eq_true rfl⟩⟩ (Nat.le_of_ble_eq_true rfl) ?_
      show Go l D ad aC (rmk m_Q_follows) _ m_Q_follows 338 [some (.ref a0), none, some (.long y2), none, none, none, none, none, none, none, some (.int x10), some (.int x11), some (.int x12), some (.long y13), none, some (.long y15), none, some (.long t0), none] [.long v5.1] v5.2 22 132
      refine Go.run (pc' := 340) [.lconst 0, .lcmp] (ls' := [some (.ref a0), none, some (.long y2), none, none, none, none, none, none, none, some (.int x10), some (.int x11), some (.int x12), some (.long y13), none, some (.long y15), none, some (.long t0), none]) (st' := [.int (lg_cmp v5.1 (0 : Int64))]) (by decide +kernel) rfl rfl ?_
      refine Go.if_lt (off := 7) (tgt := 347) (by decide +kernel) (by decide) (fun c7 => ?_) (fun c7 => ?_)
      · replace e := ite_t c7 e
        refine Go.wk' (wks (wks (wks (wks (wks (wks (wks (wks (wks (wks (wks (wkn (wks (wks (wks (wks (wks (wkn (wks wk0))))))))))))))))))) ?_
        exact x_Q_follows_347 hf hI k0 e
      · replace e := ite_f c7 e
        refine Go.wk' (wks (wks (wks (wks (wks (wks (wks (wks (wks (wks (wks (wkn (wks (wks (wks (wks (wks (wkn (wks wk0))))))))))))))))))) ?_
        exact x_Q_follows_343 hf hI k0 e
def f_Q_follows_272  (a0 : Nat) (y2 : Int64) (x10 : Int32) (x11 : Int32) (s0 : Int32) (h : HP) : Option (Int32 × HP) :=
  (f_Q_cheapest h a0 x10 (0 : Int32)).bind fun v1 =>
  (f_Q_cheapest v1.2 a0 x10 (1 : Int32)).bind fun v3 =>
  if x10 = x11 then
    f_Q_follows_311 a0 y2 x10 x11 s0 v1.1 v3.1 (0 : Int64) v3.2
  else
    (f_Q_why v3.2 a0 x10 x11).bind fun v6 =>
    f_Q_follows_311 a0 y2 x10 x11 s0 v1.1 v3.1 v6.1 v6.2
set_option maxHeartbeats 4000000 in
theorem x_Q_follows_272 {l : Launch} {D : va_G} {ad : Nat → Nat} {aC : Nat → ClassId} (hf : l.flags = flags0) (hI : Inj ad) {a0 : Nat} {y2 : Int64} {x10 : Int32} {x11 : Int32} {s0 : Int32} {h : HP} {r : Int32 × HP} (k0 : knd a0 = 7) (e : f_Q_follows_272 a0 y2 x10 x11 s0 h = some r) : Go l D ad aC (rmk m_Q_follows) (QM D ad aC m_Q_follows (.inl (some (.int r.1))) r.2) m_Q_follows 272 [some (.ref a0), none, some (.long y2), none, none, none, none, none, none, none, some (.int x10), some (.int x11), none, none, none, none, none, none, none] [.int s0] h 17 102 := by
  unfold f_Q_follows_272 at e
  refine Go.run (pc' := 278) [.istore 12, .aload_n 0, .iload 10, .iconst 0] (ls' := [some (.ref a0), none, some (.long y2), none, none, none, none, none, none, none, some (.int x10), some (.int x11), some (.int s0), none, none, none, none, none, none]) (st' := [.int (0 : Int32), .int x10, .ref a0]) (by decide +kernel) rfl rfl ?_
  obtain ⟨v1, e2, e⟩ := bd_inv e
  refine Go.callH (M2 := m_Q_cheapest) (as := [.ref a0, .int x10, .int (0 : Int32)]) (rest := []) (v := some (.long v1.1)) (h1 := v1.2) (x_Q_cheapest hf hI k0 e2) wh_Q_154 (by decide +kernel) rfl rfl ⟨⟨Nat.le_of_ble_eq_true rfl, Nat.le_of_ble_eq_true rfl⟩, ⟨Nat.le_of_ble_eq_true rfl, Nat.le_of_ble_eq_true rfl⟩⟩ (Nat.le_of_ble_eq_true rfl) ?_
  show Go l D ad aC (rmk m_Q_follows) _ m_Q_follows 281 [some (.ref a0), none, some (.long y2), none, none, none, none, none, none, none, some (.int x10), some (.int x11), some (.int s0), none, none, none, none, none, none] [.long v1.1] v1.2 18 108
  refine Go.run (pc' := 287) [.lstore 13, .aload_n 0, .iload 10, .iconst 1] (ls' := [some (.ref a0), none, some (.long y2), none, none, none, none, none, none, none, some (.int x10), some (.int x11), some (.int s0), some (.long v1.1), none, none, none, none, none]) (st' := [.int (1 : Int32), .int x10, .ref a0]) (by decide +kernel) rfl rfl ?_
  obtain ⟨v3, e4, e⟩ := bd_inv e
  refine Go.callH (M2 := m_Q_cheapest) (as := [.ref a0, .int x10, .int (1 : Int32)]) (rest := []) (v := some (.long v3.1)) (h1 := v3.2) (x_Q_cheapest hf hI k0 e4) wh_Q_154 (by decide +kernel) rfl rfl ⟨⟨Nat.le_of_ble_eq_true rfl, Nat.le_of_ble_eq_true rfl⟩, ⟨Nat.le_of_ble_eq_true rfl, Nat.le_of_ble_eq_true rfl⟩⟩ (Nat.le_of_ble_eq_true rfl) ?_
  show Go l D ad aC (rmk m_Q_follows) _ m_Q_follows 290 [some (.ref a0), none, some (.long y2), none, none, none, none, none, none, none, some (.int x10), some (.int x11), some (.int s0), some (.long v1.1), none, none, none, none, none] [.long v3.1] v3.2 19 114
  refine Go.run (pc' := 296) [.lstore 15, .iload 10, .iload 11] (ls' := [some (.ref a0), none, some (.long y2), none, none, none, none, none, none, none, some (.int x10), some (.int x11), some (.int s0), some (.long v1.1), none, some (.long v3.1), none, none, none]) (st' := [.int x11, .int x10]) (by decide +kernel) rfl rfl ?_
  refine Go.ic_ne (off := 7) (tgt := 303) (by decide +kernel) (by decide) (fun c5 => ?_) (fun c5 => ?_)
  · replace e := ite_f c5 e
    refine Go.run (pc' := 308) [.aload_n 0, .iload 10, .iload 11] (ls' := [some (.ref a0), none, some (.long y2), none, none, none, none, none, none, none, some (.int x10), some (.int x11), some (.int s0), some (.long v1.1), none, some (.long v3.1), none, none, none]) (st' := [.int x11, .int x10, .ref a0]) (by decide +kernel) rfl rfl ?_
    obtain ⟨v6, e7, e⟩ := bd_inv e
    refine Go.callH (M2 := m_Q_why) (as := [.ref a0, .int x10, .int x11]) (rest := []) (v := some (.long v6.1)) (h1 := v6.2) (x_Q_why hf hI k0 e7) wh_Q_158 (by decide +kernel) rfl rfl ⟨⟨Nat.le_of_ble_eq_true rfl, Nat.le_of_ble_eq_true rfl⟩, ⟨Nat.le_of_ble_eq_true rfl, Nat.le_of_ble_eq_true rfl⟩⟩ (Nat.le_of_ble_eq_true rfl) ?_
    show Go l D ad aC (rmk m_Q_follows) _ m_Q_follows 311 [some (.ref a0), none, some (.long y2), none, none, none, none, none, none, none, some (.int x10), some (.int x11), some (.int s0), some (.long v1.1), none, some (.long v3.1), none, none, none] [.long v6.1] v6.2 20 120
    exact x_Q_follows_311 hf hI k0 e
  · replace e := ite_t c5 e
    refine Go.run (pc' := 300) [.lconst 0] (ls' := [some (.ref a0), none, some (.long y2), none, none, none, none, none, none, none, some (.int x10), some (.int x11), some (.int s0), some (.long v1.1), none, some (.long v3.1), none, none, none]) (st' := [.long (0 : Int64)]) (by decide +kernel) rfl rfl ?_
    refine Go.goto (off := 11) (tgt := 311) (by decide +kernel) (by decide) ?_
    refine Go.wid (k' := 20) (n' := 120) (by decide) (by decide) ?_
    exact x_Q_follows_311 hf hI k0 e
def f_Q_follows_215  (a0 : Nat) (x1 : Int32) (y2 : Int64) (x4 : Int32) (h : HP) : Option (Int32 × HP) :=
  (f_Q_about h a0 (1 : Int32)).bind fun v1 =>
  if (lg_cmp v1.1 (0 : Int64)) ≤ 0 then
    f_Q_follows_518 a0 y2 x4 v1.2
  else
    if x4 = 0 then
      f_Q_follows_518 a0 y2 x4 v1.2
    else
      (f_Q_about v1.2 a0 (1 : Int32)).bind fun v5 =>
      if ¬ v5.1.toInt32 = 0 then
      (f_Q_about v5.2 a0 (1 : Int32)).bind fun v8 =>
      if ¬ v8.1.toInt32 = 0 then
      (f_Q_dealerOf v8.2 a0 (x1 - x1 / v5.1.toInt32 * v5.1.toInt32) (3 : Int32)).bind fun v11 =>
      if (lg_cmp v11.1 (-1 : Int64)) = 0 then
        f_Q_follows_272 a0 y2 (x1 - x1 / v5.1.toInt32 * v5.1.toInt32) ((x1 / (7 : Int32)) - (x1 / (7 : Int32)) / v8.1.toInt32 * v8.1.toInt32) (0 : Int32) v11.2
      else
        f_Q_follows_272 a0 y2 (x1 - x1 / v5.1.toInt32 * v5.1.toInt32) ((x1 / (7 : Int32)) - (x1 / (7 : Int32)) / v8.1.toInt32 * v8.1.toInt32) (1 : Int32) v11.2
      else none
      else none
set_option maxHeartbeats 4000000 in
theorem x_Q_follows_215 {l : Launch} {D : va_G} {ad : Nat → Nat} {aC : Nat → ClassId} (hf : l.flags = flags0) (hI : Inj ad) {a0 : Nat} {x1 : Int32} {y2 : Int64} {x4 : Int32} {h : HP} {r : Int32 × HP} (k0 : knd a0 = 7) (e : f_Q_follows_215 a0 x1 y2 x4 h = some r) : Go l D ad aC (rmk m_Q_follows) (QM D ad aC m_Q_follows (.inl (some (.int r.1))) r.2) m_Q_follows 215 [some (.ref a0), some (.int x1), some (.long y2), none, some (.int x4), none, none, none, none, none, none, none, none, none, none, none, none, none, none] [] h 13 78 := by
  unfold f_Q_follows_215 at e
  refine Go.run (pc' := 217) [.aload_n 0, .iconst 1] (ls' := [some (.ref a0), some (.int x1), some (.long y2), none, some (.int x4), none, none, none, none, none, none, none, none, none, none, none, none, none, none]) (st' := [.int (1 : Int32), .ref a0]) (by decide +kernel) rfl rfl ?_
  obtain ⟨v1, e2, e⟩ := bd_inv e
  refine Go.callH (M2 := m_Q_about) (as := [.ref a0, .int (1 : Int32)]) (rest := []) (v := some (.long v1.1)) (h1 := v1.2) (x_Q_about hf hI k0 e2) wh_Q_111 (by decide +kernel) rfl rfl ⟨⟨Nat.le_of_ble_eq_true rfl, Nat.le_of_ble_eq_true rfl⟩, ⟨Nat.le_of_ble_eq_true rfl, Nat.le_of_ble_eq_true rfl⟩⟩ (Nat.le_of_ble_eq_true rfl) ?_
  show Go l D ad aC (rmk m_Q_follows) _ m_Q_follows 220 [some (.ref a0), some (.int x1), some (.long y2), none, some (.int x4), none, none, none, none, none, none, none, none, none, none, none, none, none, none] [.long v1.1] v1.2 14 84
  refine Go.run (pc' := 222) [.lconst 0, .lcmp] (ls' := [some (.ref a0), some (.int x1), some (.long y2), none, some (.int x4), none, none, none, none, none, none, none, none, none, none, none, none, none, none]) (st' := [.int (lg_cmp v1.1 (0 : Int64))]) (by decide +kernel) rfl rfl ?_
  refine Go.if_le (off := 296) (tgt := 518) (by decide +kernel) (by decide) (fun c3 => ?_) (fun c3 => ?_)
  · replace e := ite_t c3 e
    refine Go.wid (k' := 30) (n' := 180) (by decide) (by decide) ?_
    refine Go.wk' (wks (wkn (wks (wks (wks (wks (wks (wks (wks (wks (wks (wks (wks (wks (wks (wks (wks (wks (wks wk0))))))))))))))))))) ?_
    exact x_Q_follows_518 hf hI k0 e
  · replace e := ite_f c3 e
    refine Go.run (pc' := 227) [.iload 4] (ls' := [some (.ref a0), some (.int x1), some (.long y2), none, some (.int x4), none, none, none, none, none, none, none, none, none, none, none, none, none, none]) (st' := [.int x4]) (by decide +kernel) rfl rfl ?_
    refine Go.if_eq (off := 291) (tgt := 518) (by decide +kernel) (by decide) (fun c4 => ?_) (fun c4 => ?_)
    · replace e := ite_t c4 e
      refine Go.wid (k' := 30) (n' := 180) (by decide) (by decide) ?_
      refine Go.wk' (wks (wkn (wks (wks (wks (wks (wks (wks (wks (wks (wks (wks (wks (wks (wks (wks (wks (wks (wks wk0))))))))))))))))))) ?_
      exact x_Q_follows_518 hf hI k0 e
    · replace e := ite_f c4 e
      refine Go.run (pc' := 233) [.iload_n 1, .aload_n 0, .iconst 1] (ls' := [some (.ref a0), some (.int x1), some (.long y2), none, some (.int x4), none, none, none, none, none, none, none, none, none, none, none, none, none, none]) (st' := [.int (1 : Int32), .ref a0, .int x1]) (by decide +kernel) rfl rfl ?_
      obtain ⟨v5, e6, e⟩ := bd_inv e
      refine Go.callH (M2 := m_Q_about) (as := [.ref a0, .int (1 : Int32)]) (rest := [.int x1]) (v := some (.long v5.1)) (h1 := v5.2) (x_Q_about hf hI k0 e6) wh_Q_111 (by decide +kernel) rfl rfl ⟨⟨Nat.le_of_ble_eq_true rfl, Nat.le_of_ble_eq_true rfl⟩, ⟨Nat.le_of_ble_eq_true rfl, Nat.le_of_ble_eq_true rfl⟩⟩ (Nat.le_of_ble_eq_true rfl) ?_
      show Go l D ad aC (rmk m_Q_follows) _ m_Q_follows 236 [some (.ref a0), some (.int x1), some (.long y2), none, some (.int x4), none, none, none, none, none, none, none, none, none, none, none, none, none, none] [.long v5.1, .int x1] v5.2 15 90
      refine Go.run (pc' := 237) [.l2i] (ls' := [some (.ref a0), some (.int x1), some (.long y2), none, some (.int x4), none, none, none, none, none, none, none, none, none, none, none, none, none, none]) (st' := [.int v5.1.toInt32, .int x1]) (by decide +kernel) rfl rfl ?_
      obtain ⟨g7, e⟩ := gd_inv e
      refine Go.iremn g7 (by decide +kernel) ?_
      refine Go.run (pc' := 246) [.istore 10, .iload_n 1, .bipush (7), .idiv, .aload_n 0, .iconst 1] (ls' := [some (.ref a0), some (.int x1), some (.long y2), none, some (.int x4), none, none, none, none, none, some (.int (x1 - x1 / v5.1.toInt32 * v5.1.toInt32)), none, none, none, none, none, none, none, none]) (st' := [.int (1 : Int32), .ref a0, .int (x1 / (7 : Int32))]) (by decide +kernel) rfl rfl ?_
      obtain ⟨v8, e9, e⟩ := bd_inv e
      refine Go.callH (M2 := m_Q_about) (as := [.ref a0, .int (1 : Int32)]) (rest := [.int (x1 / (7 : Int32))]) (v := some (.long v8.1)) (h1 := v8.2) (x_Q_about hf hI k0 e9) wh_Q_111 (by decide +kernel) rfl rfl ⟨⟨Nat.le_of_ble_eq_true rfl, Nat.le_of_ble_eq_true rfl⟩, ⟨Nat.le_of_ble_eq_true rfl, Nat.le_of_ble_eq_true rfl⟩⟩ (Nat.le_of_ble_eq_true rfl) ?_
      show Go l D ad aC (rmk m_Q_follows) _ m_Q_follows 249 [some (.ref a0), some (.int x1), some (.long y2), none, some (.int x4), none, none, none, none, none, some (.int (x1 - x1 / v5.1.toInt32 * v5.1.toInt32)), none, none, none, none, none, none, none, none] [.long v8.1, .int (x1 / (7 : Int32))] v8.2 16 96
      refine Go.run (pc' := 250) [.l2i] (ls' := [some (.ref a0), some (.int x1), some (.long y2), none, some (.int x4), none, none, none, none, none, some (.int (x1 - x1 / v5.1.toInt32 * v5.1.toInt32)), none, none, none, none, none, none, none, none]) (st' := [.int v8.1.toInt32, .int (x1 / (7 : Int32))]) (by decide +kernel) rfl rfl ?_
      obtain ⟨g10, e⟩ := gd_inv e
      refine Go.iremn g10 (by decide +kernel) ?_
      refine Go.run (pc' := 257) [.istore 11, .aload_n 0, .iload 10, .iconst 3] (ls' := [some (.ref a0), some (.int x1), some (.long y2), none, some (.int x4), none, none, none, none, none, some (.int (x1 - x1 / v5.1.toInt32 * v5.1.toInt32)), some (.int ((x1 / (7 : Int32)) - (x1 / (7 : Int32)) / v8.1.toInt32 * v8.1.toInt32)), none, none, none, none, none, none, none]) (st' := [.int (3 : Int32), .int (x1 - x1 / v5.1.toInt32 * v5.1.toInt32), .ref a0]) (by decide +kernel) rfl rfl ?_
      obtain ⟨v11, e12, e⟩ := bd_inv e
      refine Go.callH (M2 := m_Q_dealerOf) (as := [.ref a0, .int (x1 - x1 / v5.1.toInt32 * v5.1.toInt32), .int (3 : Int32)]) (rest := []) (v := some (.long v11.1)) (h1 := v11.2) (x_Q_dealerOf hf hI k0 e12) wh_Q_126 (by decide +kernel) rfl rfl ⟨⟨Nat.le_of_ble_eq_true rfl, Nat.le_of_ble_eq_true rfl⟩, ⟨Nat.le_of_ble_eq_true rfl, Nat.le_of_ble_eq_true rfl⟩⟩ (Nat.le_of_ble_eq_true rfl) ?_
      show Go l D ad aC (rmk m_Q_follows) _ m_Q_follows 260 [some (.ref a0), some (.int x1), some (.long y2), none, some (.int x4), none, none, none, none, none, some (.int (x1 - x1 / v5.1.toInt32 * v5.1.toInt32)), some (.int ((x1 / (7 : Int32)) - (x1 / (7 : Int32)) / v8.1.toInt32 * v8.1.toInt32)), none, none, none, none, none, none, none] [.long v11.1] v11.2 17 102
      refine Go.ldc2 lo_Q_160 (by decide +kernel) ?_
      refine Go.run (pc' := 264) [.lcmp] (ls' := [some (.ref a0), some (.int x1), some (.long y2), none, some (.int x4), none, none, none, none, none, some (.int (x1 - x1 / v5.1.toInt32 * v5.1.toInt32)), some (.int ((x1 / (7 : Int32)) - (x1 / (7 : Int32)) / v8.1.toInt32 * v8.1.toInt32)), none, none, none, none, none, none, none]) (st' := [.int (lg_cmp v11.1 (-1 : Int64))]) (by decide +kernel) rfl rfl ?_
      refine Go.if_eq (off := 7) (tgt := 271) (by decide +kernel) (by decide) (fun c13 => ?_) (fun c13 => ?_)
      · replace e := ite_t c13 e
        refine Go.run (pc' := 272) [.iconst 0] (ls' := [some (.ref a0), some (.int x1), some (.long y2), none, some (.int x4), none, none, none, none, none, some (.int (x1 - x1 / v5.1.toInt32 * v5.1.toInt32)), some (.int ((x1 / (7 : Int32)) - (x1 / (7 : Int32)) / v8.1.toInt32 * v8.1.toInt32)), none, none, none, none, none, none, none]) (st' := [.int (0 : Int32)]) (by decide +kernel) rfl rfl ?_
        refine Go.wk' (wks (wkn (wks (wks (wkn (wks (wks (wks (wks (wks (wks (wks (wks (wks (wks (wks (wks (wks (wks wk0))))))))))))))))))) ?_
        exact x_Q_follows_272 hf hI k0 e
      · replace e := ite_f c13 e
        refine Go.run (pc' := 268) [.iconst 1] (ls' := [some (.ref a0), some (.int x1), some (.long y2), none, some (.int x4), none, none, none, none, none, some (.int (x1 - x1 / v5.1.toInt32 * v5.1.toInt32)), some (.int ((x1 / (7 : Int32)) - (x1 / (7 : Int32)) / v8.1.toInt32 * v8.1.toInt32)), none, none, none, none, none, none, none]) (st' := [.int (1 : Int32)]) (by decide +kernel) rfl rfl ?_
        refine Go.goto (off := 4) (tgt := 272) (by decide +kernel) (by decide) ?_
        refine Go.wk' (wks (wkn (wks (wks (wkn (wks (wks (wks (wks (wks (wks (wks (wks (wks (wks (wks (wks (wks (wks wk0))))))))))))))))))) ?_
        exact x_Q_follows_272 hf hI k0 e
def f_Q_follows_213  (a0 : Nat) (x1 : Int32) (y2 : Int64) (s0 : Int32) (h : HP) : Option (Int32 × HP) :=
  f_Q_follows_215 a0 x1 y2 s0 h
set_option maxHeartbeats 4000000 in
theorem x_Q_follows_213 {l : Launch} {D : va_G} {ad : Nat → Nat} {aC : Nat → ClassId} (hf : l.flags = flags0) (hI : Inj ad) {a0 : Nat} {x1 : Int32} {y2 : Int64} {s0 : Int32} {h : HP} {r : Int32 × HP} (k0 : knd a0 = 7) (e : f_Q_follows_213 a0 x1 y2 s0 h = some r) : Go l D ad aC (rmk m_Q_follows) (QM D ad aC m_Q_follows (.inl (some (.int r.1))) r.2) m_Q_follows 213 [some (.ref a0), some (.int x1), some (.long y2), none, none, none, none, none, none, none, none, none, none, none, none, none, none, none, none] [.int s0] h 13 78 := by
  unfold f_Q_follows_213 at e
  refine Go.run (pc' := 215) [.istore 4] (ls' := [some (.ref a0), some (.int x1), some (.long y2), none, some (.int s0), none, none, none, none, none, none, none, none, none, none, none, none, none, none]) (st' := []) (by decide +kernel) rfl rfl ?_
  exact x_Q_follows_215 hf hI k0 e
def f_Q_follows_212  (a0 : Nat) (x1 : Int32) (y2 : Int64) (h : HP) : Option (Int32 × HP) :=
  f_Q_follows_213 a0 x1 y2 (0 : Int32) h
set_option maxHeartbeats 4000000 in
theorem x_Q_follows_212 {l : Launch} {D : va_G} {ad : Nat → Nat} {aC : Nat → ClassId} (hf : l.flags = flags0) (hI : Inj ad) {a0 : Nat} {x1 : Int32} {y2 : Int64} {h : HP} {r : Int32 × HP} (k0 : knd a0 = 7) (e : f_Q_follows_212 a0 x1 y2 h = some r) : Go l D ad aC (rmk m_Q_follows) (QM D ad aC m_Q_follows (.inl (some (.int r.1))) r.2) m_Q_follows 212 [some (.ref a0), some (.int x1), some (.long y2), none, none, none, none, none, none, none, none, none, none, none, none, none, none, none, none] [] h 13 78 := by
  unfold f_Q_follows_212 at e
  refine Go.run (pc' := 213) [.iconst 0] (ls' := [some (.ref a0), some (.int x1), some (.long y2), none, none, none, none, none, none, none, none, none, none, none, none, none, none, none, none]) (st' := [.int (0 : Int32)]) (by decide +kernel) rfl rfl ?_
  exact x_Q_follows_213 hf hI k0 e
def f_Q_follows_114  (a0 : Nat) (x1 : Int32) (y2 : Int64) (y5 : Int64) (y7 : Int64) (s0 : Int32) (h : HP) : Option (Int32 × HP) :=
  if (lg_cmp y5 (-1 : Int64)) = 0 then
    f_Q_follows_215 a0 x1 y2 s0 h
  else
    if s0 = 0 then
      f_Q_follows_215 a0 x1 y2 s0 h
    else
      (f_Q_bestSwap h a0 (1 : Int32)).bind fun v3 =>
      if (lg_cmp v3.1 y7) ≤ 0 then
        f_Q_follows_212 a0 x1 y2 v3.2
      else
        (f_Q_why v3.2 a0 (y5.toInt32 / (10 : Int32)) (y5.toInt32 - y5.toInt32 / (10 : Int32) * (10 : Int32))).bind fun v6 =>
        if (lg_cmp v6.1 (0 : Int64)) = 0 then
          (f_Q_swap v6.2 a0 (y5.toInt32 / (10 : Int32)) (y5.toInt32 - y5.toInt32 / (10 : Int32) * (10 : Int32))).bind fun v9 =>
          if (lg_cmp v9.1 (0 : Int64)) = 0 then
            (f_Q_about v9.2 a0 (8 : Int32)).bind fun v12 =>
            if (lg_cmp v12.1 v3.1) = 0 then
              (f_Q_undo v12.2 a0).bind fun v15 =>
              if (lg_cmp v15.1 (0 : Int64)) < 0 then
                f_Q_follows_212 a0 x1 y2 v15.2
              else
                f_Q_follows_213 a0 x1 y2 (1 : Int32) v15.2
            else
              f_Q_follows_212 a0 x1 y2 v12.2
          else
            f_Q_follows_212 a0 x1 y2 v9.2
        else
          f_Q_follows_212 a0 x1 y2 v6.2
set_option maxHeartbeats 4000000 in
theorem x_Q_follows_114 {l : Launch} {D : va_G} {ad : Nat → Nat} {aC : Nat → ClassId} (hf : l.flags = flags0) (hI : Inj ad) {a0 : Nat} {x1 : Int32} {y2 : Int64} {y5 : Int64} {y7 : Int64} {s0 : Int32} {h : HP} {r : Int32 × HP} (k0 : knd a0 = 7) (e : f_Q_follows_114 a0 x1 y2 y5 y7 s0 h = some r) : Go l D ad aC (rmk m_Q_follows) (QM D ad aC m_Q_follows (.inl (some (.int r.1))) r.2) m_Q_follows 114 [some (.ref a0), some (.int x1), some (.long y2), none, none, some (.long y5), none, some (.long y7), none, none, none, none, none, none, none, none, none, none, none] [.int s0] h 8 48 := by
  unfold f_Q_follows_114 at e
  refine Go.run (pc' := 118) [.istore 4, .lload 5] (ls' := [some (.ref a0), some (.int x1), some (.long y2), none, some (.int s0), some (.long y5), none, some (.long y7), none, none, none, none, none, none, none, none, none, none, none]) (st' := [.long y5]) (by decide +kernel) rfl rfl ?_
  refine Go.ldc2 lo_Q_160 (by decide +kernel) ?_
  refine Go.run (pc' := 122) [.lcmp] (ls' := [some (.ref a0), some (.int x1), some (.long y2), none, some (.int s0), some (.long y5), none, some (.long y7), none, none, none, none, none, none, none, none, none, none, none]) (st' := [.int (lg_cmp y5 (-1 : Int64))]) (by decide +kernel) rfl rfl ?_
  refine Go.if_eq (off := 93) (tgt := 215) (by decide +kernel) (by decide) (fun c1 => ?_) (fun c1 => ?_)
  · replace e := ite_t c1 e
    refine Go.wid (k' := 13) (n' := 78) (by decide) (by decide) ?_
    refine Go.wk' (wks (wks (wks (wks (wks (wkn (wks (wkn (wks (wks (wks (wks (wks (wks (wks (wks (wks (wks (wks wk0))))))))))))))))))) ?_
    exact x_Q_follows_215 hf hI k0 e
  · replace e := ite_f c1 e
    refine Go.run (pc' := 127) [.iload 4] (ls' := [some (.ref a0), some (.int x1), some (.long y2), none, some (.int s0), some (.long y5), none, some (.long y7), none, none, none, none, none, none, none, none, none, none, none]) (st' := [.int s0]) (by decide +kernel) rfl rfl ?_
    refine Go.if_eq (off := 88) (tgt := 215) (by decide +kernel) (by decide) (fun c2 => ?_) (fun c2 => ?_)
    · replace e := ite_t c2 e
      refine Go.wid (k' := 13) (n' := 78) (by decide) (by decide) ?_
      refine Go.wk' (wks (wks (wks (wks (wks (wkn (wks (wkn (wks (wks (wks (wks (wks (wks (wks (wks (wks (wks (wks wk0))))))))))))))))))) ?_
      exact x_Q_follows_215 hf hI k0 e
    · replace e := ite_f c2 e
      refine Go.run (pc' := 132) [.aload_n 0, .iconst 1] (ls' := [some (.ref a0), some (.int x1), some (.long y2), none, some (.int s0), some (.long y5), none, some (.long y7), none, none, none, none, none, none, none, none, none, none, none]) (st' := [.int (1 : Int32), .ref a0]) (by decide +kernel) rfl rfl ?_
      obtain ⟨v3, e4, e⟩ := bd_inv e
      refine Go.callH (M2 := m_Q_bestSwap) (as := [.ref a0, .int (1 : Int32)]) (rest := []) (v := some (.long v3.1)) (h1 := v3.2) (x_Q_bestSwap hf hI k0 e4) wh_Q_156 (by decide +kernel) rfl rfl ⟨⟨Nat.le_of_ble_eq_true rfl, Nat.le_of_ble_eq_true rfl⟩, ⟨Nat.le_of_ble_eq_true rfl, Nat.le_of_ble_eq_true rfl⟩⟩ (Nat.le_of_ble_eq_true rfl) ?_
      show Go l D ad aC (rmk m_Q_follows) _ m_Q_follows 135 [some (.ref a0), some (.int x1), some (.long y2), none, some (.int s0), some (.long y5), none, some (.long y7), none, none, none, none, none, none, none, none, none, none, none] [.long v3.1] v3.2 9 54
      refine Go.run (pc' := 142) [.lstore 10, .lload 10, .lload 7, .lcmp] (ls' := [some (.ref a0), some (.int x1), some (.long y2), none, some (.int s0), some (.long y5), none, some (.long y7), none, none, some (.long v3.1), none, none, none, none, none, none, none, none]) (st' := [.int (lg_cmp v3.1 y7)]) (by decide +kernel) rfl rfl ?_
      refine Go.if_le (off := 70) (tgt := 212) (by decide +kernel) (by decide) (fun c5 => ?_) (fun c5 => ?_)
      · replace e := ite_t c5 e
        refine Go.wid (k' := 13) (n' := 78) (by decide) (by decide) ?_
        refine Go.wk' (wks (wks (wks (wks (wkn (wkn (wks (wkn (wks (wks (wkn (wks (wks (wks (wks (wks (wks (wks (wks wk0))))))))))))))))))) ?_
        exact x_Q_follows_212 hf hI k0 e
      · replace e := ite_f c5 e
        refine Go.run (pc' := 158) [.aload_n 0, .lload 5, .l2i, .bipush (10), .idiv, .lload 5, .l2i, .bipush (10), .irem] (ls' := [some (.ref a0), some (.int x1), some (.long y2), none, some (.int s0), some (.long y5), none, some (.long y7), none, none, some (.long v3.1), none, none, none, none, none, none, none, none]) (st' := [.int (y5.toInt32 - y5.toInt32 / (10 : Int32) * (10 : Int32)), .int (y5.toInt32 / (10 : Int32)), .ref a0]) (by decide +kernel) rfl rfl ?_
        obtain ⟨v6, e7, e⟩ := bd_inv e
        refine Go.callH (M2 := m_Q_why) (as := [.ref a0, .int (y5.toInt32 / (10 : Int32)), .int (y5.toInt32 - y5.toInt32 / (10 : Int32) * (10 : Int32))]) (rest := []) (v := some (.long v6.1)) (h1 := v6.2) (x_Q_why hf hI k0 e7) wh_Q_158 (by decide +kernel) rfl rfl ⟨⟨Nat.le_of_ble_eq_true rfl, Nat.le_of_ble_eq_true rfl⟩, ⟨Nat.le_of_ble_eq_true rfl, Nat.le_of_ble_eq_true rfl⟩⟩ (Nat.le_of_ble_eq_true rfl) ?_
        show Go l D ad aC (rmk m_Q_follows) _ m_Q_follows 161 [some (.ref a0), some (.int x1), some (.long y2), none, some (.int s0), some (.long y5), none, some (.long y7), none, none, some (.long v3.1), none, none, none, none, none, none, none, none] [.long v6.1] v6.2 10 60
        refine Go.run (pc' := 163) [.lconst 0, .lcmp] (ls' := [some (.ref a0), some (.int x1), some (.long y2), none, some (.int s0), some (.long y5), none, some (.long y7), none, none, some (.long v3.1), none, none, none, none, none, none, none, none]) (st' := [.int (lg_cmp v6.1 (0 : Int64))]) (by decide +kernel) rfl rfl ?_
        refine Go.if_ne (off := 49) (tgt := 212) (by decide +kernel) (by decide) (fun c8 => ?_) (fun c8 => ?_)
        · replace e := ite_f c8 e
          refine Go.wid (k' := 13) (n' := 78) (by decide) (by decide) ?_
          refine Go.wk' (wks (wks (wks (wks (wkn (wkn (wks (wkn (wks (wks (wkn (wks (wks (wks (wks (wks (wks (wks (wks wk0))))))))))))))))))) ?_
          exact x_Q_follows_212 hf hI k0 e
        · replace e := ite_t c8 e
          refine Go.run (pc' := 179) [.aload_n 0, .lload 5, .l2i, .bipush (10), .idiv, .lload 5, .l2i, .bipush (10), .irem] (ls' := [some (.ref a0), some (.int x1), some (.long y2), none, some (.int s0), some (.long y5), none, some (.long y7), none, none, some (.long v3.1), none, none, none, none, none, none, none, none]) (st' := [.int (y5.toInt32 - y5.toInt32 / (10 : Int32) * (10 : Int32)), .int (y5.toInt32 / (10 : Int32)), .ref a0]) (by decide +kernel) rfl rfl ?_
          obtain ⟨v9, e10, e⟩ := bd_inv e
          refine Go.callH (M2 := m_Q_swap) (as := [.ref a0, .int (y5.toInt32 / (10 : Int32)), .int (y5.toInt32 - y5.toInt32 / (10 : Int32) * (10 : Int32))]) (rest := []) (v := some (.long v9.1)) (h1 := v9.2) (x_Q_swap hf hI k0 e10) wh_Q_146 (by decide +kernel) rfl rfl ⟨⟨Nat.le_of_ble_eq_true rfl, Nat.le_of_ble_eq_true rfl⟩, ⟨Nat.le_of_ble_eq_true rfl, Nat.le_of_ble_eq_true rfl⟩⟩ (Nat.le_of_ble_eq_true rfl) ?_
          show Go l D ad aC (rmk m_Q_follows) _ m_Q_follows 182 [some (.ref a0), some (.int x1), some (.long y2), none, some (.int s0), some (.long y5), none, some (.long y7), none, none, some (.long v3.1), none, none, none, none, none, none, none, none] [.long v9.1] v9.2 11 66
          refine Go.run (pc' := 184) [.lconst 0, .lcmp] (ls' := [some (.ref a0), some (.int x1), some (.long y2), none, some (.int s0), some (.long y5), none, some (.long y7), none, none, some (.long v3.1), none, none, none, none, none, none, none, none]) (st' := [.int (lg_cmp v9.1 (0 : Int64))]) (by decide +kernel) rfl rfl ?_
          refine Go.if_ne (off := 28) (tgt := 212) (by decide +kernel) (by decide) (fun c11 => ?_) (fun c11 => ?_)
          · replace e := ite_f c11 e
            refine Go.wid (k' := 13) (n' := 78) (by decide) (by decide) ?_
            refine Go.wk' (wks (wks (wks (wks (wkn (wkn (wks (wkn (wks (wks (wkn (wks (wks (wks (wks (wks (wks (wks (wks wk0))))))))))))))))))) ?_
            exact x_Q_follows_212 hf hI k0 e
          · replace e := ite_t c11 e
            refine Go.run (pc' := 190) [.aload_n 0, .bipush (8)] (ls' := [some (.ref a0), some (.int x1), some (.long y2), none, some (.int s0), some (.long y5), none, some (.long y7), none, none, some (.long v3.1), none, none, none, none, none, none, none, none]) (st' := [.int (8 : Int32), .ref a0]) (by decide +kernel) rfl rfl ?_
            obtain ⟨v12, e13, e⟩ := bd_inv e
            refine Go.callH (M2 := m_Q_about) (as := [.ref a0, .int (8 : Int32)]) (rest := []) (v := some (.long v12.1)) (h1 := v12.2) (x_Q_about hf hI k0 e13) wh_Q_111 (by decide +kernel) rfl rfl ⟨⟨Nat.le_of_ble_eq_true rfl, Nat.le_of_ble_eq_true rfl⟩, ⟨Nat.le_of_ble_eq_true rfl, Nat.le_of_ble_eq_true rfl⟩⟩ (Nat.le_of_ble_eq_true rfl) ?_
            show Go l D ad aC (rmk m_Q_follows) _ m_Q_follows 193 [some (.ref a0), some (.int x1), some (.long y2), none, some (.int s0), some (.long y5), none, some (.long y7), none, none, some (.long v3.1), none, none, none, none, none, none, none, none] [.long v12.1] v12.2 12 72
            refine Go.run (pc' := 196) [.lload 10, .lcmp] (ls' := [some (.ref a0), some (.int x1), some (.long y2), none, some (.int s0), some (.long y5), none, some (.long y7), none, none, some (.long v3.1), none, none, none, none, none, none, none, none]) (st' := [.int (lg_cmp v12.1 v3.1)]) (by decide +kernel) rfl rfl ?_
            refine Go.if_ne (off := 16) (tgt := 212) (by decide +kernel) (by decide) (fun c14 => ?_) (fun c14 => ?_)
            · replace e := ite_f c14 e
              refine Go.wid (k' := 13) (n' := 78) (by decide) (by decide) ?_
              refine Go.wk' (wks (wks (wks (wks (wkn (wkn (wks (wkn (wks (wks (wkn (wks (wks (wks (wks (wks (wks (wks (wks wk0))))))))))))))))))) ?_
              exact x_Q_follows_212 hf hI k0 e
            · replace e := ite_t c14 e
              refine Go.run (pc' := 200) [.aload_n 0] (ls' := [some (.ref a0), some (.int x1), some (.long y2), none, some (.int s0), some (.long y5), none, some (.long y7), none, none, some (.long v3.1), none, none, none, none, none, none, none, none]) (st' := [.ref a0]) (by decide +kernel) rfl rfl ?_
              obtain ⟨v15, e16, e⟩ := bd_inv e
              refine Go.callH (M2 := m_Q_undo) (as := [.ref a0]) (rest := []) (v := some (.long v15.1)) (h1 := v15.2) (x_Q_undo hf hI k0 e16) wh_Q_185 (by decide +kernel) rfl rfl ⟨⟨Nat.le_of_ble_eq_true rfl, Nat.le_of_ble_eq_true rfl⟩, ⟨Nat.le_of_ble_eq_true rfl, Nat.le_of_ble_eq_true rfl⟩⟩ (Nat.le_of_ble_eq_true rfl) ?_
              show Go l D ad aC (rmk m_Q_follows) _ m_Q_follows 203 [some (.ref a0), some (.int x1), some (.long y2), none, some (.int s0), some (.long y5), none, some (.long y7), none, none, some (.long v3.1), none, none, none, none, none, none, none, none] [.long v15.1] v15.2 13 78
              refine Go.run (pc' := 205) [.lconst 0, .lcmp] (ls' := [some (.ref a0), some (.int x1), some (.long y2), none, some (.int s0), some (.long y5), none, some (.long y7), none, none, some (.long v3.1), none, none, none, none, none, none, none, none]) (st' := [.int (lg_cmp v15.1 (0 : Int64))]) (by decide +kernel) rfl rfl ?_
              refine Go.if_lt (off := 7) (tgt := 212) (by decide +kernel) (by decide) (fun c17 => ?_) (fun c17 => ?_)
              · replace e := ite_t c17 e
                refine Go.wk' (wks (wks (wks (wks (wkn (wkn (wks (wkn (wks (wks (wkn (wks (wks (wks (wks (wks (wks (wks (wks wk0))))))))))))))))))) ?_
                exact x_Q_follows_212 hf hI k0 e
              · replace e := ite_f c17 e
                refine Go.run (pc' := 209) [.iconst 1] (ls' := [some (.ref a0), some (.int x1), some (.long y2), none, some (.int s0), some (.long y5), none, some (.long y7), none, none, some (.long v3.1), none, none, none, none, none, none, none, none]) (st' := [.int (1 : Int32)]) (by decide +kernel) rfl rfl ?_
                refine Go.goto (off := 4) (tgt := 213) (by decide +kernel) (by decide) ?_
                refine Go.wk' (wks (wks (wks (wks (wkn (wkn (wks (wkn (wks (wks (wkn (wks (wks (wks (wks (wks (wks (wks (wks wk0))))))))))))))))))) ?_
                exact x_Q_follows_213 hf hI k0 e
def f_Q_follows_113  (a0 : Nat) (x1 : Int32) (y2 : Int64) (y5 : Int64) (y7 : Int64) (h : HP) : Option (Int32 × HP) :=
  f_Q_follows_114 a0 x1 y2 y5 y7 (0 : Int32) h
set_option maxHeartbeats 4000000 in
theorem x_Q_follows_113 {l : Launch} {D : va_G} {ad : Nat → Nat} {aC : Nat → ClassId} (hf : l.flags = flags0) (hI : Inj ad) {a0 : Nat} {x1 : Int32} {y2 : Int64} {y5 : Int64} {y7 : Int64} {h : HP} {r : Int32 × HP} (k0 : knd a0 = 7) (e : f_Q_follows_113 a0 x1 y2 y5 y7 h = some r) : Go l D ad aC (rmk m_Q_follows) (QM D ad aC m_Q_follows (.inl (some (.int r.1))) r.2) m_Q_follows 113 [some (.ref a0), some (.int x1), some (.long y2), none, none, some (.long y5), none, some (.long y7), none, none, none, none, none, none, none, none, none, none, none] [] h 8 48 := by
  unfold f_Q_follows_113 at e
  refine Go.run (pc' := 114) [.iconst 0] (ls' := [some (.ref a0), some (.int x1), some (.long y2), none, none, some (.long y5), none, some (.long y7), none, none, none, none, none, none, none, none, none, none, none]) (st' := [.int (0 : Int32)]) (by decide +kernel) rfl rfl ?_
  exact x_Q_follows_114 hf hI k0 e
def f_Q_follows_54  (a0 : Nat) (x1 : Int32) (y2 : Int64) (s0 : Int32) (h : HP) : Option (Int32 × HP) :=
  (f_Q_bestSwap h a0 (0 : Int32)).bind fun v1 =>
  (f_Q_about v1.2 a0 (8 : Int32)).bind fun v3 =>
  if s0 = 0 then
    f_Q_follows_113 a0 x1 y2 v1.1 v3.1 v3.2
  else
    (f_Q_days v3.2 a0 ((1 : Int32) + (x1 - x1 / (60 : Int32) * (60 : Int32)))).bind fun v6 =>
    if (lg_cmp v6.1 ((((1 : Int32) + (x1 - x1 / (60 : Int32) * (60 : Int32))).toInt64) * v3.1)) = 0 then
      (f_Q_undo v6.2 a0).bind fun v9 =>
      if (lg_cmp v9.1 (0 : Int64)) < 0 then
        f_Q_follows_113 a0 x1 y2 v1.1 v3.1 v9.2
      else
        f_Q_follows_114 a0 x1 y2 v1.1 v3.1 (1 : Int32) v9.2
    else
      f_Q_follows_113 a0 x1 y2 v1.1 v3.1 v6.2
set_option maxHeartbeats 4000000 in
theorem x_Q_follows_54 {l : Launch} {D : va_G} {ad : Nat → Nat} {aC : Nat → ClassId} (hf : l.flags = flags0) (hI : Inj ad) {a0 : Nat} {x1 : Int32} {y2 : Int64} {s0 : Int32} {h : HP} {r : Int32 × HP} (k0 : knd a0 = 7) (e : f_Q_follows_54 a0 x1 y2 s0 h = some r) : Go l D ad aC (rmk m_Q_follows) (QM D ad aC m_Q_follows (.inl (some (.int r.1))) r.2) m_Q_follows 54 [some (.ref a0), some (.int x1), some (.long y2), none, none, none, none, none, none, none, none, none, none, none, none, none, none, none, none] [.int s0] h 4 24 := by
  unfold f_Q_follows_54 at e
  refine Go.run (pc' := 58) [.istore 4, .aload_n 0, .iconst 0] (ls' := [some (.ref a0), some (.int x1), some (.long y2), none, some (.int s0), none, none, none, none, none, none, none, none, none, none, none, none, none, none]) (st' := [.int (0 : Int32), .ref a0]) (by decide +kernel) rfl rfl ?_
  obtain ⟨v1, e2, e⟩ := bd_inv e
  refine Go.callH (M2 := m_Q_bestSwap) (as := [.ref a0, .int (0 : Int32)]) (rest := []) (v := some (.long v1.1)) (h1 := v1.2) (x_Q_bestSwap hf hI k0 e2) wh_Q_156 (by decide +kernel) rfl rfl ⟨⟨Nat.le_of_ble_eq_true rfl, Nat.le_of_ble_eq_true rfl⟩, ⟨Nat.le_of_ble_eq_true rfl, Nat.le_of_ble_eq_true rfl⟩⟩ (Nat.le_of_ble_eq_true rfl) ?_
  show Go l D ad aC (rmk m_Q_follows) _ m_Q_follows 61 [some (.ref a0), some (.int x1), some (.long y2), none, some (.int s0), none, none, none, none, none, none, none, none, none, none, none, none, none, none] [.long v1.1] v1.2 5 30
  refine Go.run (pc' := 66) [.lstore 5, .aload_n 0, .bipush (8)] (ls' := [some (.ref a0), some (.int x1), some (.long y2), none, some (.int s0), some (.long v1.1), none, none, none, none, none, none, none, none, none, none, none, none, none]) (st' := [.int (8 : Int32), .ref a0]) (by decide +kernel) rfl rfl ?_
  obtain ⟨v3, e4, e⟩ := bd_inv e
  refine Go.callH (M2 := m_Q_about) (as := [.ref a0, .int (8 : Int32)]) (rest := []) (v := some (.long v3.1)) (h1 := v3.2) (x_Q_about hf hI k0 e4) wh_Q_111 (by decide +kernel) rfl rfl ⟨⟨Nat.le_of_ble_eq_true rfl, Nat.le_of_ble_eq_true rfl⟩, ⟨Nat.le_of_ble_eq_true rfl, Nat.le_of_ble_eq_true rfl⟩⟩ (Nat.le_of_ble_eq_true rfl) ?_
  show Go l D ad aC (rmk m_Q_follows) _ m_Q_follows 69 [some (.ref a0), some (.int x1), some (.long y2), none, some (.int s0), some (.long v1.1), none, none, none, none, none, none, none, none, none, none, none, none, none] [.long v3.1] v3.2 6 36
  refine Go.run (pc' := 81) [.lstore 7, .iconst 1, .iload_n 1, .bipush (60), .irem, .iadd, .istore 9, .iload 4] (ls' := [some (.ref a0), some (.int x1), some (.long y2), none, some (.int s0), some (.long v1.1), none, some (.long v3.1), none, some (.int ((1 : Int32) + (x1 - x1 / (60 : Int32) * (60 : Int32)))), none, none, none, none, none, none, none, none, none]) (st' := [.int s0]) (by decide +kernel) rfl rfl ?_
  refine Go.if_eq (off := 32) (tgt := 113) (by decide +kernel) (by decide) (fun c5 => ?_) (fun c5 => ?_)
  · replace e := ite_t c5 e
    refine Go.wid (k' := 8) (n' := 48) (by decide) (by decide) ?_
    refine Go.wk' (wks (wks (wks (wks (wkn (wks (wks (wks (wks (wkn (wks (wks (wks (wks (wks (wks (wks (wks (wks wk0))))))))))))))))))) ?_
    exact x_Q_follows_113 hf hI k0 e
  · replace e := ite_f c5 e
    refine Go.run (pc' := 87) [.aload_n 0, .iload 9] (ls' := [some (.ref a0), some (.int x1), some (.long y2), none, some (.int s0), some (.long v1.1), none, some (.long v3.1), none, some (.int ((1 : Int32) + (x1 - x1 / (60 : Int32) * (60 : Int32)))), none, none, none, none, none, none, none, none, none]) (st' := [.int ((1 : Int32) + (x1 - x1 / (60 : Int32) * (60 : Int32))), .ref a0]) (by decide +kernel) rfl rfl ?_
    obtain ⟨v6, e7, e⟩ := bd_inv e
    refine Go.callH (M2 := m_Q_days) (as := [.ref a0, .int ((1 : Int32) + (x1 - x1 / (60 : Int32) * (60 : Int32)))]) (rest := []) (v := some (.long v6.1)) (h1 := v6.2) (x_Q_days hf hI k0 e7) wh_Q_148 (by decide +kernel) rfl rfl ⟨⟨Nat.le_of_ble_eq_true rfl, Nat.le_of_ble_eq_true rfl⟩, ⟨Nat.le_of_ble_eq_true rfl, Nat.le_of_ble_eq_true rfl⟩⟩ (Nat.le_of_ble_eq_true rfl) ?_
    show Go l D ad aC (rmk m_Q_follows) _ m_Q_follows 90 [some (.ref a0), some (.int x1), some (.long y2), none, some (.int s0), some (.long v1.1), none, some (.long v3.1), none, some (.int ((1 : Int32) + (x1 - x1 / (60 : Int32) * (60 : Int32)))), none, none, none, none, none, none, none, none, none] [.long v6.1] v6.2 7 42
    refine Go.run (pc' := 97) [.iload 9, .i2l, .lload 7, .lmul, .lcmp] (ls' := [some (.ref a0), some (.int x1), some (.long y2), none, some (.int s0), some (.long v1.1), none, some (.long v3.1), none, some (.int ((1 : Int32) + (x1 - x1 / (60 : Int32) * (60 : Int32)))), none, none, none, none, none, none, none, none, none]) (st' := [.int (lg_cmp v6.1 ((((1 : Int32) + (x1 - x1 / (60 : Int32) * (60 : Int32))).toInt64) * v3.1))]) (by decide +kernel) rfl rfl ?_
    refine Go.if_ne (off := 16) (tgt := 113) (by decide +kernel) (by decide) (fun c8 => ?_) (fun c8 => ?_)
    · replace e := ite_f c8 e
      refine Go.wid (k' := 8) (n' := 48) (by decide) (by decide) ?_
      refine Go.wk' (wks (wks (wks (wks (wkn (wks (wks (wks (wks (wkn (wks (wks (wks (wks (wks (wks (wks (wks (wks wk0))))))))))))))))))) ?_
      exact x_Q_follows_113 hf hI k0 e
    · replace e := ite_t c8 e
      refine Go.run (pc' := 101) [.aload_n 0] (ls' := [some (.ref a0), some (.int x1), some (.long y2), none, some (.int s0), some (.long v1.1), none, some (.long v3.1), none, some (.int ((1 : Int32) + (x1 - x1 / (60 : Int32) * (60 : Int32)))), none, none, none, none, none, none, none, none, none]) (st' := [.ref a0]) (by decide +kernel) rfl rfl ?_
      obtain ⟨v9, e10, e⟩ := bd_inv e
      refine Go.callH (M2 := m_Q_undo) (as := [.ref a0]) (rest := []) (v := some (.long v9.1)) (h1 := v9.2) (x_Q_undo hf hI k0 e10) wh_Q_185 (by decide +kernel) rfl rfl ⟨⟨Nat.le_of_ble_eq_true rfl, Nat.le_of_ble_eq_true rfl⟩, ⟨Nat.le_of_ble_eq_true rfl, Nat.le_of_ble_eq_true rfl⟩⟩ (Nat.le_of_ble_eq_true rfl) ?_
      show Go l D ad aC (rmk m_Q_follows) _ m_Q_follows 104 [some (.ref a0), some (.int x1), some (.long y2), none, some (.int s0), some (.long v1.1), none, some (.long v3.1), none, some (.int ((1 : Int32) + (x1 - x1 / (60 : Int32) * (60 : Int32)))), none, none, none, none, none, none, none, none, none] [.long v9.1] v9.2 8 48
      refine Go.run (pc' := 106) [.lconst 0, .lcmp] (ls' := [some (.ref a0), some (.int x1), some (.long y2), none, some (.int s0), some (.long v1.1), none, some (.long v3.1), none, some (.int ((1 : Int32) + (x1 - x1 / (60 : Int32) * (60 : Int32)))), none, none, none, none, none, none, none, none, none]) (st' := [.int (lg_cmp v9.1 (0 : Int64))]) (by decide +kernel) rfl rfl ?_
      refine Go.if_lt (off := 7) (tgt := 113) (by decide +kernel) (by decide) (fun c11 => ?_) (fun c11 => ?_)
      · replace e := ite_t c11 e
        refine Go.wk' (wks (wks (wks (wks (wkn (wks (wks (wks (wks (wkn (wks (wks (wks (wks (wks (wks (wks (wks (wks wk0))))))))))))))))))) ?_
        exact x_Q_follows_113 hf hI k0 e
      · replace e := ite_f c11 e
        refine Go.run (pc' := 110) [.iconst 1] (ls' := [some (.ref a0), some (.int x1), some (.long y2), none, some (.int s0), some (.long v1.1), none, some (.long v3.1), none, some (.int ((1 : Int32) + (x1 - x1 / (60 : Int32) * (60 : Int32)))), none, none, none, none, none, none, none, none, none]) (st' := [.int (1 : Int32)]) (by decide +kernel) rfl rfl ?_
        refine Go.goto (off := 4) (tgt := 114) (by decide +kernel) (by decide) ?_
        refine Go.wk' (wks (wks (wks (wks (wkn (wks (wks (wks (wks (wkn (wks (wks (wks (wks (wks (wks (wks (wks (wks wk0))))))))))))))))))) ?_
        exact x_Q_follows_114 hf hI k0 e
def f_Q_follows_53  (a0 : Nat) (x1 : Int32) (y2 : Int64) (h : HP) : Option (Int32 × HP) :=
  f_Q_follows_54 a0 x1 y2 (0 : Int32) h
set_option maxHeartbeats 4000000 in
theorem x_Q_follows_53 {l : Launch} {D : va_G} {ad : Nat → Nat} {aC : Nat → ClassId} (hf : l.flags = flags0) (hI : Inj ad) {a0 : Nat} {x1 : Int32} {y2 : Int64} {h : HP} {r : Int32 × HP} (k0 : knd a0 = 7) (e : f_Q_follows_53 a0 x1 y2 h = some r) : Go l D ad aC (rmk m_Q_follows) (QM D ad aC m_Q_follows (.inl (some (.int r.1))) r.2) m_Q_follows 53 [some (.ref a0), some (.int x1), some (.long y2), none, none, none, none, none, none, none, none, none, none, none, none, none, none, none, none] [] h 4 24 := by
  unfold f_Q_follows_53 at e
  refine Go.run (pc' := 54) [.iconst 0] (ls' := [some (.ref a0), some (.int x1), some (.long y2), none, none, none, none, none, none, none, none, none, none, none, none, none, none, none, none]) (st' := [.int (0 : Int32)]) (by decide +kernel) rfl rfl ?_
  exact x_Q_follows_54 hf hI k0 e
def f_Q_follows (h : HP) (a0 : Nat) (x1 : Int32) : Option (Int32 × HP) :=
  (f_Q_now h a0).bind fun v1 =>
  (f_Q_save v1.2 a0 (1 : Int32)).bind fun v3 =>
  (f_Q_about v3.2 a0 (10 : Int32)).bind fun v5 =>
  if (lg_cmp v3.1 v5.1) = 0 then
    (f_Q_simulate v5.2 a0 x1.toInt64 (6 : Int32)).bind fun v8 =>
    (f_Q_simulate v8.2 a0 x1.toInt64 (6 : Int32)).bind fun v10 =>
    if (lg_cmp v8.1 v10.1) = 0 then
      (f_Q_now v10.2 a0).bind fun v13 =>
      if (lg_cmp v13.1 v1.1) = 0 then
        f_Q_follows_54 a0 x1 v1.1 (1 : Int32) v13.2
      else
        f_Q_follows_53 a0 x1 v1.1 v13.2
    else
      f_Q_follows_53 a0 x1 v1.1 v10.2
  else
    f_Q_follows_53 a0 x1 v1.1 v5.2
set_option maxHeartbeats 4000000 in
theorem x_Q_follows {l : Launch} {D : va_G} {ad : Nat → Nat} {aC : Nat → ClassId} (hf : l.flags = flags0) (hI : Inj ad) {h : HP} {a0 : Nat} {x1 : Int32} {r : Int32 × HP} (k0 : knd a0 = 7) (e : f_Q_follows h a0 x1 = some r) : CT l D ad aC m_Q_follows [.ref a0, .int x1] h (.inl (some (.int r.1))) r.2 := by
  refine CT.ofGo (by decide +kernel) rfl (Nat.le_of_ble_eq_true rfl) ?_
  unfold f_Q_follows at e
  show Go l D ad aC (rmk m_Q_follows) _ m_Q_follows 0 [some (.ref a0), some (.int x1), none, none, none, none, none, none, none, none, none, none, none, none, none, none, none, none, none] [] h 0 0
  refine Go.run (pc' := 1) [.aload_n 0] (ls' := [some (.ref a0), some (.int x1), none, none, none, none, none, none, none, none, none, none, none, none, none, none, none, none, none]) (st' := [.ref a0]) (by decide +kernel) rfl rfl ?_
  obtain ⟨v1, e2, e⟩ := bd_inv e
  refine Go.callS (M2 := m_Q_now) (as := [.ref a0]) (rest := []) (v := some (.long v1.1)) (h1 := v1.2) (x_Q_now hf hI k0 e2) ws_Q_128 (by decide +kernel) rfl rfl ⟨⟨Nat.le_of_ble_eq_true rfl, Nat.le_of_ble_eq_true rfl⟩, ⟨Nat.le_of_ble_eq_true rfl, Nat.le_of_ble_eq_true rfl⟩⟩ (Nat.le_of_ble_eq_true rfl) ?_
  show Go l D ad aC (rmk m_Q_follows) _ m_Q_follows 4 [some (.ref a0), some (.int x1), none, none, none, none, none, none, none, none, none, none, none, none, none, none, none, none, none] [.long v1.1] v1.2 0 0
  refine Go.run (pc' := 7) [.lstore_n 2, .aload_n 0, .iconst 1] (ls' := [some (.ref a0), some (.int x1), some (.long v1.1), none, none, none, none, none, none, none, none, none, none, none, none, none, none, none, none]) (st' := [.int (1 : Int32), .ref a0]) (by decide +kernel) rfl rfl ?_
  obtain ⟨v3, e4, e⟩ := bd_inv e
  refine Go.callH (M2 := m_Q_save) (as := [.ref a0, .int (1 : Int32)]) (rest := []) (v := some (.long v3.1)) (h1 := v3.2) (x_Q_save hf hI k0 e4) wh_Q_171 (by decide +kernel) rfl rfl ⟨⟨Nat.le_of_ble_eq_true rfl, Nat.le_of_ble_eq_true rfl⟩, ⟨Nat.le_of_ble_eq_true rfl, Nat.le_of_ble_eq_true rfl⟩⟩ (Nat.le_of_ble_eq_true rfl) ?_
  show Go l D ad aC (rmk m_Q_follows) _ m_Q_follows 10 [some (.ref a0), some (.int x1), some (.long v1.1), none, none, none, none, none, none, none, none, none, none, none, none, none, none, none, none] [.long v3.1] v3.2 1 6
  refine Go.run (pc' := 13) [.aload_n 0, .bipush (10)] (ls' := [some (.ref a0), some (.int x1), some (.long v1.1), none, none, none, none, none, none, none, none, none, none, none, none, none, none, none, none]) (st' := [.int (10 : Int32), .ref a0, .long v3.1]) (by decide +kernel) rfl rfl ?_
  obtain ⟨v5, e6, e⟩ := bd_inv e
  refine Go.callH (M2 := m_Q_about) (as := [.ref a0, .int (10 : Int32)]) (rest := [.long v3.1]) (v := some (.long v5.1)) (h1 := v5.2) (x_Q_about hf hI k0 e6) wh_Q_111 (by decide +kernel) rfl rfl ⟨⟨Nat.le_of_ble_eq_true rfl, Nat.le_of_ble_eq_true rfl⟩, ⟨Nat.le_of_ble_eq_true rfl, Nat.le_of_ble_eq_true rfl⟩⟩ (Nat.le_of_ble_eq_true rfl) ?_
  show Go l D ad aC (rmk m_Q_follows) _ m_Q_follows 16 [some (.ref a0), some (.int x1), some (.long v1.1), none, none, none, none, none, none, none, none, none, none, none, none, none, none, none, none] [.long v5.1, .long v3.1] v5.2 2 12
  refine Go.run (pc' := 17) [.lcmp] (ls' := [some (.ref a0), some (.int x1), some (.long v1.1), none, none, none, none, none, none, none, none, none, none, none, none, none, none, none, none]) (st' := [.int (lg_cmp v3.1 v5.1)]) (by decide +kernel) rfl rfl ?_
  refine Go.if_ne (off := 36) (tgt := 53) (by decide +kernel) (by decide) (fun c7 => ?_) (fun c7 => ?_)
  · replace e := ite_f c7 e
    refine Go.wid (k' := 4) (n' := 24) (by decide) (by decide) ?_
    exact x_Q_follows_53 hf hI k0 e
  · replace e := ite_t c7 e
    refine Go.run (pc' := 25) [.aload_n 0, .iload_n 1, .i2l, .bipush (6)] (ls' := [some (.ref a0), some (.int x1), some (.long v1.1), none, none, none, none, none, none, none, none, none, none, none, none, none, none, none, none]) (st' := [.int (6 : Int32), .long x1.toInt64, .ref a0]) (by decide +kernel) rfl rfl ?_
    obtain ⟨v8, e9, e⟩ := bd_inv e
    refine Go.callH (M2 := m_Q_simulate) (as := [.ref a0, .long x1.toInt64, .int (6 : Int32)]) (rest := []) (v := some (.long v8.1)) (h1 := v8.2) (x_Q_simulate hf hI k0 e9) wh_Q_168 (by decide +kernel) rfl rfl ⟨⟨Nat.le_of_ble_eq_true rfl, Nat.le_of_ble_eq_true rfl⟩, ⟨Nat.le_of_ble_eq_true rfl, Nat.le_of_ble_eq_true rfl⟩⟩ (Nat.le_of_ble_eq_true rfl) ?_
    show Go l D ad aC (rmk m_Q_follows) _ m_Q_follows 28 [some (.ref a0), some (.int x1), some (.long v1.1), none, none, none, none, none, none, none, none, none, none, none, none, none, none, none, none] [.long v8.1] v8.2 3 18
    refine Go.run (pc' := 33) [.aload_n 0, .iload_n 1, .i2l, .bipush (6)] (ls' := [some (.ref a0), some (.int x1), some (.long v1.1), none, none, none, none, none, none, none, none, none, none, none, none, none, none, none, none]) (st' := [.int (6 : Int32), .long x1.toInt64, .ref a0, .long v8.1]) (by decide +kernel) rfl rfl ?_
    obtain ⟨v10, e11, e⟩ := bd_inv e
    refine Go.callH (M2 := m_Q_simulate) (as := [.ref a0, .long x1.toInt64, .int (6 : Int32)]) (rest := [.long v8.1]) (v := some (.long v10.1)) (h1 := v10.2) (x_Q_simulate hf hI k0 e11) wh_Q_168 (by decide +kernel) rfl rfl ⟨⟨Nat.le_of_ble_eq_true rfl, Nat.le_of_ble_eq_true rfl⟩, ⟨Nat.le_of_ble_eq_true rfl, Nat.le_of_ble_eq_true rfl⟩⟩ (Nat.le_of_ble_eq_true rfl) ?_
    show Go l D ad aC (rmk m_Q_follows) _ m_Q_follows 36 [some (.ref a0), some (.int x1), some (.long v1.1), none, none, none, none, none, none, none, none, none, none, none, none, none, none, none, none] [.long v10.1, .long v8.1] v10.2 4 24
    refine Go.run (pc' := 37) [.lcmp] (ls' := [some (.ref a0), some (.int x1), some (.long v1.1), none, none, none, none, none, none, none, none, none, none, none, none, none, none, none, none]) (st' := [.int (lg_cmp v8.1 v10.1)]) (by decide +kernel) rfl rfl ?_
    refine Go.if_ne (off := 16) (tgt := 53) (by decide +kernel) (by decide) (fun c12 => ?_) (fun c12 => ?_)
    · replace e := ite_f c12 e
      exact x_Q_follows_53 hf hI k0 e
    · replace e := ite_t c12 e
      refine Go.run (pc' := 41) [.aload_n 0] (ls' := [some (.ref a0), some (.int x1), some (.long v1.1), none, none, none, none, none, none, none, none, none, none, none, none, none, none, none, none]) (st' := [.ref a0]) (by decide +kernel) rfl rfl ?_
      obtain ⟨v13, e14, e⟩ := bd_inv e
      refine Go.callS (M2 := m_Q_now) (as := [.ref a0]) (rest := []) (v := some (.long v13.1)) (h1 := v13.2) (x_Q_now hf hI k0 e14) ws_Q_128 (by decide +kernel) rfl rfl ⟨⟨Nat.le_of_ble_eq_true rfl, Nat.le_of_ble_eq_true rfl⟩, ⟨Nat.le_of_ble_eq_true rfl, Nat.le_of_ble_eq_true rfl⟩⟩ (Nat.le_of_ble_eq_true rfl) ?_
      show Go l D ad aC (rmk m_Q_follows) _ m_Q_follows 44 [some (.ref a0), some (.int x1), some (.long v1.1), none, none, none, none, none, none, none, none, none, none, none, none, none, none, none, none] [.long v13.1] v13.2 4 24
      refine Go.run (pc' := 46) [.lload_n 2, .lcmp] (ls' := [some (.ref a0), some (.int x1), some (.long v1.1), none, none, none, none, none, none, none, none, none, none, none, none, none, none, none, none]) (st' := [.int (lg_cmp v13.1 v1.1)]) (by decide +kernel) rfl rfl ?_
      refine Go.if_ne (off := 7) (tgt := 53) (by decide +kernel) (by decide) (fun c15 => ?_) (fun c15 => ?_)
      · replace e := ite_f c15 e
        exact x_Q_follows_53 hf hI k0 e
      · replace e := ite_t c15 e
        refine Go.run (pc' := 50) [.iconst 1] (ls' := [some (.ref a0), some (.int x1), some (.long v1.1), none, none, none, none, none, none, none, none, none, none, none, none, none, none, none, none]) (st' := [.int (1 : Int32)]) (by decide +kernel) rfl rfl ?_
        refine Go.goto (off := 4) (tgt := 54) (by decide +kernel) (by decide) ?_
        exact x_Q_follows_54 hf hI k0 e
def f_Q_act (h : HP) (a0 : Nat) (x1 : Int32) (x2 : Int32) : Option (Int64 × HP) :=
  if (x1 - x1 / (24 : Int32) * (24 : Int32)) = 0 then
    (f_Q_wall h a0 ((4 : Int32) + (x2 - x2 / (27 : Int32) * (27 : Int32)))).bind fun v2 =>
    some (v2.1, v2.2)
  else
    if (x1 - x1 / (24 : Int32) * (24 : Int32)) = 1 then
      (f_Q_outlet h a0 (x2 - x2 / (4 : Int32) * (4 : Int32)) ((x2 / (32 : Int32)) - (x2 / (32 : Int32)) / (14 : Int32) * (14 : Int32)) (((x2 / (32 : Int32)) / (14 : Int32)) - ((x2 / (32 : Int32)) / (14 : Int32)) / (5 : Int32) * (5 : Int32))).bind fun v5 =>
      some (v5.1, v5.2)
    else
      if (x1 - x1 / (24 : Int32) * (24 : Int32)) = 2 then
        (f_Q_outlet h a0 (x2 - x2 / (4 : Int32) * (4 : Int32)) ((x2 / (32 : Int32)) - (x2 / (32 : Int32)) / (14 : Int32) * (14 : Int32)) (((x2 / (32 : Int32)) / (14 : Int32)) - ((x2 / (32 : Int32)) / (14 : Int32)) / (5 : Int32) * (5 : Int32))).bind fun v8 =>
        some (v8.1, v8.2)
      else
        if (x1 - x1 / (24 : Int32) * (24 : Int32)) = 3 then
          (f_Q_outlet h a0 (x2 - x2 / (4 : Int32) * (4 : Int32)) ((x2 / (32 : Int32)) - (x2 / (32 : Int32)) / (14 : Int32) * (14 : Int32)) (((x2 / (32 : Int32)) / (14 : Int32)) - ((x2 / (32 : Int32)) / (14 : Int32)) / (5 : Int32) * (5 : Int32))).bind fun v11 =>
          some (v11.1, v11.2)
        else
          if (x1 - x1 / (24 : Int32) * (24 : Int32)) = 4 then
            (f_Q_dealer h a0 (x2 - x2 / (3 : Int32) * (3 : Int32)) ((1 : Int32) + ((x2 / (32 : Int32)) - (x2 / (32 : Int32)) / (6 : Int32) * (6 : Int32))) (((x2 / (32 : Int32)) / (8 : Int32)) - ((x2 / (32 : Int32)) / (8 : Int32)) / (4 : Int32) * (4 : Int32))).bind fun v14 =>
            some (v14.1, v14.2)
          else
            if (x1 - x1 / (24 : Int32) * (24 : Int32)) = 5 then
              (f_Q_dealer h a0 (x2 - x2 / (3 : Int32) * (3 : Int32)) ((1 : Int32) + ((x2 / (32 : Int32)) - (x2 / (32 : Int32)) / (6 : Int32) * (6 : Int32))) (((x2 / (32 : Int32)) / (8 : Int32)) - ((x2 / (32 : Int32)) / (8 : Int32)) / (4 : Int32) * (4 : Int32))).bind fun v17 =>
              some (v17.1, v17.2)
            else
              if (x1 - x1 / (24 : Int32) * (24 : Int32)) = 6 then
                (f_Q_dealer h a0 (x2 - x2 / (3 : Int32) * (3 : Int32)) ((1 : Int32) + ((x2 / (32 : Int32)) - (x2 / (32 : Int32)) / (6 : Int32) * (6 : Int32))) (((x2 / (32 : Int32)) / (8 : Int32)) - ((x2 / (32 : Int32)) / (8 : Int32)) / (4 : Int32) * (4 : Int32))).bind fun v20 =>
                some (v20.1, v20.2)
              else
                if (x1 - x1 / (24 : Int32) * (24 : Int32)) = 7 then
                  (f_Q_place h a0 (x2 - x2 / (6 : Int32) * (6 : Int32)) ((x2 / (32 : Int32)) - (x2 / (32 : Int32)) / (3 : Int32) * (3 : Int32)) (((x2 / (32 : Int32)) / (4 : Int32)) - ((x2 / (32 : Int32)) / (4 : Int32)) / (24 : Int32) * (24 : Int32))).bind fun v23 =>
                  some (v23.1, v23.2)
                else
                  if (x1 - x1 / (24 : Int32) * (24 : Int32)) = 8 then
                    (f_Q_place h a0 (x2 - x2 / (6 : Int32) * (6 : Int32)) ((x2 / (32 : Int32)) - (x2 / (32 : Int32)) / (3 : Int32) * (3 : Int32)) (((x2 / (32 : Int32)) / (4 : Int32)) - ((x2 / (32 : Int32)) / (4 : Int32)) / (24 : Int32) * (24 : Int32))).bind fun v26 =>
                    some (v26.1, v26.2)
                  else
                    if (x1 - x1 / (24 : Int32) * (24 : Int32)) = 9 then
                      (f_Q_place h a0 (x2 - x2 / (6 : Int32) * (6 : Int32)) ((x2 / (32 : Int32)) - (x2 / (32 : Int32)) / (3 : Int32) * (3 : Int32)) (((x2 / (32 : Int32)) / (4 : Int32)) - ((x2 / (32 : Int32)) / (4 : Int32)) / (24 : Int32) * (24 : Int32))).bind fun v29 =>
                      some (v29.1, v29.2)
                    else
                      if (x1 - x1 / (24 : Int32) * (24 : Int32)) = 10 then
                        (f_Q_place h a0 (x2 - x2 / (6 : Int32) * (6 : Int32)) ((x2 / (32 : Int32)) - (x2 / (32 : Int32)) / (3 : Int32) * (3 : Int32)) (((x2 / (32 : Int32)) / (4 : Int32)) - ((x2 / (32 : Int32)) / (4 : Int32)) / (24 : Int32) * (24 : Int32))).bind fun v32 =>
                        some (v32.1, v32.2)
                      else
                        if (x1 - x1 / (24 : Int32) * (24 : Int32)) = 11 then
                          (f_Q_place h a0 (x2 - x2 / (6 : Int32) * (6 : Int32)) ((x2 / (32 : Int32)) - (x2 / (32 : Int32)) / (3 : Int32) * (3 : Int32)) (((x2 / (32 : Int32)) / (4 : Int32)) - ((x2 / (32 : Int32)) / (4 : Int32)) / (24 : Int32) * (24 : Int32))).bind fun v35 =>
                          some (v35.1, v35.2)
                        else
                          if (x1 - x1 / (24 : Int32) * (24 : Int32)) = 12 then
                            (f_Q_place h a0 (x2 - x2 / (6 : Int32) * (6 : Int32)) ((x2 / (32 : Int32)) - (x2 / (32 : Int32)) / (3 : Int32) * (3 : Int32)) (((x2 / (32 : Int32)) / (4 : Int32)) - ((x2 / (32 : Int32)) / (4 : Int32)) / (24 : Int32) * (24 : Int32))).bind fun v38 =>
                            some (v38.1, v38.2)
                          else
                            if (x1 - x1 / (24 : Int32) * (24 : Int32)) = 13 then
                              (f_Q_leave h a0 (x2 - x2 / (6 : Int32) * (6 : Int32))).bind fun v41 =>
                              some (v41.1, v41.2)
                            else
                              if (x1 - x1 / (24 : Int32) * (24 : Int32)) = 14 then
                                (f_Q_swap h a0 (x2 - x2 / (6 : Int32) * (6 : Int32)) ((x2 / (32 : Int32)) - (x2 / (32 : Int32)) / (6 : Int32) * (6 : Int32))).bind fun v44 =>
                                some (v44.1, v44.2)
                              else
                                if (x1 - x1 / (24 : Int32) * (24 : Int32)) = 15 then
                                  (f_Q_swap h a0 (x2 - x2 / (6 : Int32) * (6 : Int32)) ((x2 / (32 : Int32)) - (x2 / (32 : Int32)) / (6 : Int32) * (6 : Int32))).bind fun v47 =>
                                  some (v47.1, v47.2)
                                else
                                  if (x1 - x1 / (24 : Int32) * (24 : Int32)) = 16 then
                                    (f_Q_swap h a0 (x2 - x2 / (6 : Int32) * (6 : Int32)) ((x2 / (32 : Int32)) - (x2 / (32 : Int32)) / (6 : Int32) * (6 : Int32))).bind fun v50 =>
                                    some (v50.1, v50.2)
                                  else
                                    if (x1 - x1 / (24 : Int32) * (24 : Int32)) = 17 then
                                      (f_Q_days h a0 ((1 : Int32) + (x2 - x2 / (7 : Int32) * (7 : Int32)))).bind fun v53 =>
                                      some (v53.1, v53.2)
                                    else
                                      if (x1 - x1 / (24 : Int32) * (24 : Int32)) = 18 then
                                        (f_Q_days h a0 ((1 : Int32) + (x2 - x2 / (7 : Int32) * (7 : Int32)))).bind fun v56 =>
                                        some (v56.1, v56.2)
                                      else
                                        if (x1 - x1 / (24 : Int32) * (24 : Int32)) = 19 then
                                          (f_Q_set h a0 (x2 - x2 / (6 : Int32) * (6 : Int32)) ((x2 / (32 : Int32)) - (x2 / (32 : Int32)) / (10 : Int32) * (10 : Int32))).bind fun v59 =>
                                          some (v59.1, v59.2)
                                        else
                                          if (x1 - x1 / (24 : Int32) * (24 : Int32)) = 20 then
                                            (f_Q_undo h a0).bind fun v62 =>
                                            some (v62.1, v62.2)
                                          else
                                            if (x1 - x1 / (24 : Int32) * (24 : Int32)) = 21 then
                                              (f_Q_undo h a0).bind fun v65 =>
                                              some (v65.1, v65.2)
                                            else
                                              if ((x2 / (32 : Int32)) - (x2 / (32 : Int32)) / (2 : Int32) * (2 : Int32)) = 0 then
                                                (f_Q_save h a0 (((x2 / (32 : Int32)) / (2 : Int32)) &&& (1 : Int32))).bind fun v70 =>
                                                some (v70.1, v70.2)
                                              else
                                                (f_Q_restore h a0 (((x2 / (32 : Int32)) / (2 : Int32)) &&& (1 : Int32))).bind fun v68 =>
                                                some (v68.1, v68.2)
set_option maxHeartbeats 4000000 in
theorem x_Q_act {l : Launch} {D : va_G} {ad : Nat → Nat} {aC : Nat → ClassId} (hf : l.flags = flags0) (hI : Inj ad) {h : HP} {a0 : Nat} {x1 : Int32} {x2 : Int32} {r : Int64 × HP} (k0 : knd a0 = 7) (e : f_Q_act h a0 x1 x2 = some r) : CT l D ad aC m_Q_act [.ref a0, .int x1, .int x2] h (.inl (some (.long r.1))) r.2 := by
  refine CT.ofGo (by decide +kernel) rfl (Nat.le_of_ble_eq_true rfl) ?_
  unfold f_Q_act at e
  show Go l D ad aC (rmk m_Q_act) _ m_Q_act 0 [some (.ref a0), some (.int x1), some (.int x2), none] [] h 0 0
  refine Go.run (pc' := 9) [.iload_n 2, .bipush (32), .idiv, .istore_n 3, .iload_n 1, .bipush (24), .irem] (ls' := [some (.ref a0), some (.int x1), some (.int x2), some (.int (x2 / (32 : Int32)))]) (st' := [.int (x1 - x1 / (24 : Int32) * (24 : Int32))]) (by decide +kernel) rfl rfl ?_
  rcases Decidable.em ((x1 - x1 / (24 : Int32) * (24 : Int32)) = 0) with c1 | c1
  · replace e := ite_t c1 e
    refine Go.tsIn (dflt := 221) (lo := 0) (hi := 21) (offs := #[103, 114, 114, 114, 132, 132, 132, 152, 152, 152, 152, 152, 152, 170, 179, 179, 179, 192, 192, 203, 216, 216]) (len := 103) (off := 103) (tgt := 112) 0 (by decide +kernel) (by rw [c1]; decide) (by decide) (by decide) (by decide) (by decide) ?_
    refine Go.run (pc' := 119) [.aload_n 0, .iconst 4, .iload_n 2, .bipush (27), .irem, .iadd] (ls' := [some (.ref a0), some (.int x1), some (.int x2), some (.int (x2 / (32 : Int32)))]) (st' := [.int ((4 : Int32) + (x2 - x2 / (27 : Int32) * (27 : Int32))), .ref a0]) (by decide +kernel) rfl rfl ?_
    obtain ⟨v2, e3, e⟩ := bd_inv e
    refine Go.callH (M2 := m_Q_wall) (as := [.ref a0, .int ((4 : Int32) + (x2 - x2 / (27 : Int32) * (27 : Int32)))]) (rest := []) (v := some (.long v2.1)) (h1 := v2.2) (x_Q_wall hf hI k0 e3) wh_Q_136 (by decide +kernel) rfl rfl ⟨⟨Nat.le_of_ble_eq_true rfl, Nat.le_of_ble_eq_true rfl⟩, ⟨Nat.le_of_ble_eq_true rfl, Nat.le_of_ble_eq_true rfl⟩⟩ (Nat.le_of_ble_eq_true rfl) ?_
    show Go l D ad aC (rmk m_Q_act) _ m_Q_act 122 [some (.ref a0), some (.int x1), some (.int x2), some (.int (x2 / (32 : Int32)))] [.long v2.1] v2.2 1 6
    obtain rfl := Option.some.inj e
    exact Go.lret rfl (by decide) (by decide) (by decide +kernel)
  replace e := ite_f c1 e
  rcases Decidable.em ((x1 - x1 / (24 : Int32) * (24 : Int32)) = 1) with c4 | c4
  · replace e := ite_t c4 e
    refine Go.tsIn (dflt := 221) (lo := 0) (hi := 21) (offs := #[103, 114, 114, 114, 132, 132, 132, 152, 152, 152, 152, 152, 152, 170, 179, 179, 179, 192, 192, 203, 216, 216]) (len := 103) (off := 114) (tgt := 123) 1 (by decide +kernel) (by rw [c4]; decide) (by decide) (by decide) (by decide) (by decide) ?_
    refine Go.run (pc' := 137) [.aload_n 0, .iload_n 2, .iconst 4, .irem, .iload_n 3, .bipush (14), .irem, .iload_n 3, .bipush (14), .idiv, .iconst 5, .irem] (ls' := [some (.ref a0), some (.int x1), some (.int x2), some (.int (x2 / (32 : Int32)))]) (st' := [.int (((x2 / (32 : Int32)) / (14 : Int32)) - ((x2 / (32 : Int32)) / (14 : Int32)) / (5 : Int32) * (5 : Int32)), .int ((x2 / (32 : Int32)) - (x2 / (32 : Int32)) / (14 : Int32) * (14 : Int32)), .int (x2 - x2 / (4 : Int32) * (4 : Int32)), .ref a0]) (by decide +kernel) rfl rfl ?_
    obtain ⟨v5, e6, e⟩ := bd_inv e
    refine Go.callH (M2 := m_Q_outlet) (as := [.ref a0, .int (x2 - x2 / (4 : Int32) * (4 : Int32)), .int ((x2 / (32 : Int32)) - (x2 / (32 : Int32)) / (14 : Int32) * (14 : Int32)), .int (((x2 / (32 : Int32)) / (14 : Int32)) - ((x2 / (32 : Int32)) / (14 : Int32)) / (5 : Int32) * (5 : Int32))]) (rest := []) (v := some (.long v5.1)) (h1 := v5.2) (x_Q_outlet hf hI k0 e6) wh_Q_138 (by decide +kernel) rfl rfl ⟨⟨Nat.le_of_ble_eq_true rfl, Nat.le_of_ble_eq_true rfl⟩, ⟨Nat.le_of_ble_eq_true rfl, Nat.le_of_ble_eq_true rfl⟩⟩ (Nat.le_of_ble_eq_true rfl) ?_
    show Go l D ad aC (rmk m_Q_act) _ m_Q_act 140 [some (.ref a0), some (.int x1), some (.int x2), some (.int (x2 / (32 : Int32)))] [.long v5.1] v5.2 1 6
    obtain rfl := Option.some.inj e
    exact Go.lret rfl (by decide) (by decide) (by decide +kernel)
  replace e := ite_f c4 e
  rcases Decidable.em ((x1 - x1 / (24 : Int32) * (24 : Int32)) = 2) with c7 | c7
  · replace e := ite_t c7 e
    refine Go.tsIn (dflt := 221) (lo := 0) (hi := 21) (offs := #[103, 114, 114, 114, 132, 132, 132, 152, 152, 152, 152, 152, 152, 170, 179, 179, 179, 192, 192, 203, 216, 216]) (len := 103) (off := 114) (tgt := 123) 2 (by decide +kernel) (by rw [c7]; decide) (by decide) (by decide) (by decide) (by decide) ?_
    refine Go.run (pc' := 137) [.aload_n 0, .iload_n 2, .iconst 4, .irem, .iload_n 3, .bipush (14), .irem, .iload_n 3, .bipush (14), .idiv, .iconst 5, .irem] (ls' := [some (.ref a0), some (.int x1), some (.int x2), some (.int (x2 / (32 : Int32)))]) (st' := [.int (((x2 / (32 : Int32)) / (14 : Int32)) - ((x2 / (32 : Int32)) / (14 : Int32)) / (5 : Int32) * (5 : Int32)), .int ((x2 / (32 : Int32)) - (x2 / (32 : Int32)) / (14 : Int32) * (14 : Int32)), .int (x2 - x2 / (4 : Int32) * (4 : Int32)), .ref a0]) (by decide +kernel) rfl rfl ?_
    obtain ⟨v8, e9, e⟩ := bd_inv e
    refine Go.callH (M2 := m_Q_outlet) (as := [.ref a0, .int (x2 - x2 / (4 : Int32) * (4 : Int32)), .int ((x2 / (32 : Int32)) - (x2 / (32 : Int32)) / (14 : Int32) * (14 : Int32)), .int (((x2 / (32 : Int32)) / (14 : Int32)) - ((x2 / (32 : Int32)) / (14 : Int32)) / (5 : Int32) * (5 : Int32))]) (rest := []) (v := some (.long v8.1)) (h1 := v8.2) (x_Q_outlet hf hI k0 e9) wh_Q_138 (by decide +kernel) rfl rfl ⟨⟨Nat.le_of_ble_eq_true rfl, Nat.le_of_ble_eq_true rfl⟩, ⟨Nat.le_of_ble_eq_true rfl, Nat.le_of_ble_eq_true rfl⟩⟩ (Nat.le_of_ble_eq_true rfl) ?_
    show Go l D ad aC (rmk m_Q_act) _ m_Q_act 140 [some (.ref a0), some (.int x1), some (.int x2), some (.int (x2 / (32 : Int32)))] [.long v8.1] v8.2 1 6
    obtain rfl := Option.some.inj e
    exact Go.lret rfl (by decide) (by decide) (by decide +kernel)
  replace e := ite_f c7 e
  rcases Decidable.em ((x1 - x1 / (24 : Int32) * (24 : Int32)) = 3) with c10 | c10
  · replace e := ite_t c10 e
    refine Go.tsIn (dflt := 221) (lo := 0) (hi := 21) (offs := #[103, 114, 114, 114, 132, 132, 132, 152, 152, 152, 152, 152, 152, 170, 179, 179, 179, 192, 192, 203, 216, 216]) (len := 103) (off := 114) (tgt := 123) 3 (by decide +kernel) (by rw [c10]; decide) (by decide) (by decide) (by decide) (by decide) ?_
    refine Go.run (pc' := 137) [.aload_n 0, .iload_n 2, .iconst 4, .irem, .iload_n 3, .bipush (14), .irem, .iload_n 3, .bipush (14), .idiv, .iconst 5, .irem] (ls' := [some (.ref a0), some (.int x1), some (.int x2), some (.int (x2 / (32 : Int32)))]) (st' := [.int (((x2 / (32 : Int32)) / (14 : Int32)) - ((x2 / (32 : Int32)) / (14 : Int32)) / (5 : Int32) * (5 : Int32)), .int ((x2 / (32 : Int32)) - (x2 / (32 : Int32)) / (14 : Int32) * (14 : Int32)), .int (x2 - x2 / (4 : Int32) * (4 : Int32)), .ref a0]) (by decide +kernel) rfl rfl ?_
    obtain ⟨v11, e12, e⟩ := bd_inv e
    refine Go.callH (M2 := m_Q_outlet) (as := [.ref a0, .int (x2 - x2 / (4 : Int32) * (4 : Int32)), .int ((x2 / (32 : Int32)) - (x2 / (32 : Int32)) / (14 : Int32) * (14 : Int32)), .int (((x2 / (32 : Int32)) / (14 : Int32)) - ((x2 / (32 : Int32)) / (14 : Int32)) / (5 : Int32) * (5 : Int32))]) (rest := []) (v := some (.long v11.1)) (h1 := v11.2) (x_Q_outlet hf hI k0 e12) wh_Q_138 (by decide +kernel) rfl rfl ⟨⟨Nat.le_of_ble_eq_true rfl, Nat.le_of_ble_eq_true rfl⟩, ⟨Nat.le_of_ble_eq_true rfl, Nat.le_of_ble_eq_true rfl⟩⟩ (Nat.le_of_ble_eq_true rfl) ?_
    show Go l D ad aC (rmk m_Q_act) _ m_Q_act 140 [some (.ref a0), some (.int x1), some (.int x2), some (.int (x2 / (32 : Int32)))] [.long v11.1] v11.2 1 6
    obtain rfl := Option.some.inj e
    exact Go.lret rfl (by decide) (by decide) (by decide +kernel)
  replace e := ite_f c10 e
  rcases Decidable.em ((x1 - x1 / (24 : Int32) * (24 : Int32)) = 4) with c13 | c13
  · replace e := ite_t c13 e
    refine Go.tsIn (dflt := 221) (lo := 0) (hi := 21) (offs := #[103, 114, 114, 114, 132, 132, 132, 152, 152, 152, 152, 152, 152, 170, 179, 179, 179, 192, 192, 203, 216, 216]) (len := 103) (off := 132) (tgt := 141) 4 (by decide +kernel) (by rw [c13]; decide) (by decide) (by decide) (by decide) (by decide) ?_
    refine Go.run (pc' := 157) [.aload_n 0, .iload_n 2, .iconst 3, .irem, .iconst 1, .iload_n 3, .bipush (6), .irem, .iadd, .iload_n 3, .bipush (8), .idiv, .iconst 4, .irem] (ls' := [some (.ref a0), some (.int x1), some (.int x2), some (.int (x2 / (32 : Int32)))]) (st' := [.int (((x2 / (32 : Int32)) / (8 : Int32)) - ((x2 / (32 : Int32)) / (8 : Int32)) / (4 : Int32) * (4 : Int32)), .int ((1 : Int32) + ((x2 / (32 : Int32)) - (x2 / (32 : Int32)) / (6 : Int32) * (6 : Int32))), .int (x2 - x2 / (3 : Int32) * (3 : Int32)), .ref a0]) (by decide +kernel) rfl rfl ?_
    obtain ⟨v14, e15, e⟩ := bd_inv e
    refine Go.callH (M2 := m_Q_dealer) (as := [.ref a0, .int (x2 - x2 / (3 : Int32) * (3 : Int32)), .int ((1 : Int32) + ((x2 / (32 : Int32)) - (x2 / (32 : Int32)) / (6 : Int32) * (6 : Int32))), .int (((x2 / (32 : Int32)) / (8 : Int32)) - ((x2 / (32 : Int32)) / (8 : Int32)) / (4 : Int32) * (4 : Int32))]) (rest := []) (v := some (.long v14.1)) (h1 := v14.2) (x_Q_dealer hf hI k0 e15) wh_Q_140 (by decide +kernel) rfl rfl ⟨⟨Nat.le_of_ble_eq_true rfl, Nat.le_of_ble_eq_true rfl⟩, ⟨Nat.le_of_ble_eq_true rfl, Nat.le_of_ble_eq_true rfl⟩⟩ (Nat.le_of_ble_eq_true rfl) ?_
    show Go l D ad aC (rmk m_Q_act) _ m_Q_act 160 [some (.ref a0), some (.int x1), some (.int x2), some (.int (x2 / (32 : Int32)))] [.long v14.1] v14.2 1 6
    obtain rfl := Option.some.inj e
    exact Go.lret rfl (by decide) (by decide) (by decide +kernel)
  replace e := ite_f c13 e
  rcases Decidable.em ((x1 - x1 / (24 : Int32) * (24 : Int32)) = 5) with c16 | c16
  · replace e := ite_t c16 e
    refine Go.tsIn (dflt := 221) (lo := 0) (hi := 21) (offs := #[103, 114, 114, 114, 132, 132, 132, 152, 152, 152, 152, 152, 152, 170, 179, 179, 179, 192, 192, 203, 216, 216]) (len := 103) (off := 132) (tgt := 141) 5 (by decide +kernel) (by rw [c16]; decide) (by decide) (by decide) (by decide) (by decide) ?_
    refine Go.run (pc' := 157) [.aload_n 0, .iload_n 2, .iconst 3, .irem, .iconst 1, .iload_n 3, .bipush (6), .irem, .iadd, .iload_n 3, .bipush (8), .idiv, .iconst 4, .irem] (ls' := [some (.ref a0), some (.int x1), some (.int x2), some (.int (x2 / (32 : Int32)))]) (st' := [.int (((x2 / (32 : Int32)) / (8 : Int32)) - ((x2 / (32 : Int32)) / (8 : Int32)) / (4 : Int32) * (4 : Int32)), .int ((1 : Int32) + ((x2 / (32 : Int32)) - (x2 / (32 : Int32)) / (6 : Int32) * (6 : Int32))), .int (x2 - x2 / (3 : Int32) * (3 : Int32)), .ref a0]) (by decide +kernel) rfl rfl ?_
    obtain ⟨v17, e18, e⟩ := bd_inv e
    refine Go.callH (M2 := m_Q_dealer) (as := [.ref a0, .int (x2 - x2 / (3 : Int32) * (3 : Int32)), .int ((1 : Int32) + ((x2 / (32 : Int32)) - (x2 / (32 : Int32)) / (6 : Int32) * (6 : Int32))), .int (((x2 / (32 : Int32)) / (8 : Int32)) - ((x2 / (32 : Int32)) / (8 : Int32)) / (4 : Int32) * (4 : Int32))]) (rest := []) (v := some (.long v17.1)) (h1 := v17.2) (x_Q_dealer hf hI k0 e18) wh_Q_140 (by decide +kernel) rfl rfl ⟨⟨Nat.le_of_ble_eq_true rfl, Nat.le_of_ble_eq_true rfl⟩, ⟨Nat.le_of_ble_eq_true rfl, Nat.le_of_ble_eq_true rfl⟩⟩ (Nat.le_of_ble_eq_true rfl) ?_
    show Go l D ad aC (rmk m_Q_act) _ m_Q_act 160 [some (.ref a0), some (.int x1), some (.int x2), some (.int (x2 / (32 : Int32)))] [.long v17.1] v17.2 1 6
    obtain rfl := Option.some.inj e
    exact Go.lret rfl (by decide) (by decide) (by decide +kernel)
  replace e := ite_f c16 e
  rcases Decidable.em ((x1 - x1 / (24 : Int32) * (24 : Int32)) = 6) with c19 | c19
  · replace e := ite_t c19 e
    refine Go.tsIn (dflt := 221) (lo := 0) (hi := 21) (offs := #[103, 114, 114, 114, 132, 132, 132, 152, 152, 152, 152, 152, 152, 170, 179, 179, 179, 192, 192, 203, 216, 216]) (len := 103) (off := 132) (tgt := 141) 6 (by decide +kernel) (by rw [c19]; decide) (by decide) (by decide) (by decide) (by decide) ?_
    refine Go.run (pc' := 157) [.aload_n 0, .iload_n 2, .iconst 3, .irem, .iconst 1, .iload_n 3, .bipush (6), .irem, .iadd, .iload_n 3, .bipush (8), .idiv, .iconst 4, .irem] (ls' := [some (.ref a0), some (.int x1), some (.int x2), some (.int (x2 / (32 : Int32)))]) (st' := [.int (((x2 / (32 : Int32)) / (8 : Int32)) - ((x2 / (32 : Int32)) / (8 : Int32)) / (4 : Int32) * (4 : Int32)), .int ((1 : Int32) + ((x2 / (32 : Int32)) - (x2 / (32 : Int32)) / (6 : Int32) * (6 : Int32))), .int (x2 - x2 / (3 : Int32) * (3 : Int32)), .ref a0]) (by decide +kernel) rfl rfl ?_
    obtain ⟨v20, e21, e⟩ := bd_inv e
    refine Go.callH (M2 := m_Q_dealer) (as := [.ref a0, .int (x2 - x2 / (3 : Int32) * (3 : Int32)), .int ((1 : Int32) + ((x2 / (32 : Int32)) - (x2 / (32 : Int32)) / (6 : Int32) * (6 : Int32))), .int (((x2 / (32 : Int32)) / (8 : Int32)) - ((x2 / (32 : Int32)) / (8 : Int32)) / (4 : Int32) * (4 : Int32))]) (rest := []) (v := some (.long v20.1)) (h1 := v20.2) (x_Q_dealer hf hI k0 e21) wh_Q_140 (by decide +kernel) rfl rfl ⟨⟨Nat.le_of_ble_eq_true rfl, Nat.le_of_ble_eq_true rfl⟩, ⟨Nat.le_of_ble_eq_true rfl, Nat.le_of_ble_eq_true rfl⟩⟩ (Nat.le_of_ble_eq_true rfl) ?_
    show Go l D ad aC (rmk m_Q_act) _ m_Q_act 160 [some (.ref a0), some (.int x1), some (.int x2), some (.int (x2 / (32 : Int32)))] [.long v20.1] v20.2 1 6
    obtain rfl := Option.some.inj e
    exact Go.lret rfl (by decide) (by decide) (by decide +kernel)
  replace e := ite_f c19 e
  rcases Decidable.em ((x1 - x1 / (24 : Int32) * (24 : Int32)) = 7) with c22 | c22
  · replace e := ite_t c22 e
    refine Go.tsIn (dflt := 221) (lo := 0) (hi := 21) (offs := #[103, 114, 114, 114, 132, 132, 132, 152, 152, 152, 152, 152, 152, 170, 179, 179, 179, 192, 192, 203, 216, 216]) (len := 103) (off := 152) (tgt := 161) 7 (by decide +kernel) (by rw [c22]; decide) (by decide) (by decide) (by decide) (by decide) ?_
    refine Go.run (pc' := 175) [.aload_n 0, .iload_n 2, .bipush (6), .irem, .iload_n 3, .iconst 3, .irem, .iload_n 3, .iconst 4, .idiv, .bipush (24), .irem] (ls' := [some (.ref a0), some (.int x1), some (.int x2), some (.int (x2 / (32 : Int32)))]) (st' := [.int (((x2 / (32 : Int32)) / (4 : Int32)) - ((x2 / (32 : Int32)) / (4 : Int32)) / (24 : Int32) * (24 : Int32)), .int ((x2 / (32 : Int32)) - (x2 / (32 : Int32)) / (3 : Int32) * (3 : Int32)), .int (x2 - x2 / (6 : Int32) * (6 : Int32)), .ref a0]) (by decide +kernel) rfl rfl ?_
    obtain ⟨v23, e24, e⟩ := bd_inv e
    refine Go.callH (M2 := m_Q_place) (as := [.ref a0, .int (x2 - x2 / (6 : Int32) * (6 : Int32)), .int ((x2 / (32 : Int32)) - (x2 / (32 : Int32)) / (3 : Int32) * (3 : Int32)), .int (((x2 / (32 : Int32)) / (4 : Int32)) - ((x2 / (32 : Int32)) / (4 : Int32)) / (24 : Int32) * (24 : Int32))]) (rest := []) (v := some (.long v23.1)) (h1 := v23.2) (x_Q_place hf hI k0 e24) wh_Q_142 (by decide +kernel) rfl rfl ⟨⟨Nat.le_of_ble_eq_true rfl, Nat.le_of_ble_eq_true rfl⟩, ⟨Nat.le_of_ble_eq_true rfl, Nat.le_of_ble_eq_true rfl⟩⟩ (Nat.le_of_ble_eq_true rfl) ?_
    show Go l D ad aC (rmk m_Q_act) _ m_Q_act 178 [some (.ref a0), some (.int x1), some (.int x2), some (.int (x2 / (32 : Int32)))] [.long v23.1] v23.2 1 6
    obtain rfl := Option.some.inj e
    exact Go.lret rfl (by decide) (by decide) (by decide +kernel)
  replace e := ite_f c22 e
  rcases Decidable.em ((x1 - x1 / (24 : Int32) * (24 : Int32)) = 8) with c25 | c25
  · replace e := ite_t c25 e
    refine Go.tsIn (dflt := 221) (lo := 0) (hi := 21) (offs := #[103, 114, 114, 114, 132, 132, 132, 152, 152, 152, 152, 152, 152, 170, 179, 179, 179, 192, 192, 203, 216, 216]) (len := 103) (off := 152) (tgt := 161) 8 (by decide +kernel) (by rw [c25]; decide) (by decide) (by decide) (by decide) (by decide) ?_
    refine Go.run (pc' := 175) [.aload_n 0, .iload_n 2, .bipush (6), .irem, .iload_n 3, .iconst 3, .irem, .iload_n 3, .iconst 4, .idiv, .bipush (24), .irem] (ls' := [some (.ref a0), some (.int x1), some (.int x2), some (.int (x2 / (32 : Int32)))]) (st' := [.int (((x2 / (32 : Int32)) / (4 : Int32)) - ((x2 / (32 : Int32)) / (4 : Int32)) / (24 : Int32) * (24 : Int32)), .int ((x2 / (32 : Int32)) - (x2 / (32 : Int32)) / (3 : Int32) * (3 : Int32)), .int (x2 - x2 / (6 : Int32) * (6 : Int32)), .ref a0]) (by decide +kernel) rfl rfl ?_
    obtain ⟨v26, e27, e⟩ := bd_inv e
    refine Go.callH (M2 := m_Q_place) (as := [.ref a0, .int (x2 - x2 / (6 : Int32) * (6 : Int32)), .int ((x2 / (32 : Int32)) - (x2 / (32 : Int32)) / (3 : Int32) * (3 : Int32)), .int (((x2 / (32 : Int32)) / (4 : Int32)) - ((x2 / (32 : Int32)) / (4 : Int32)) / (24 : Int32) * (24 : Int32))]) (rest := []) (v := some (.long v26.1)) (h1 := v26.2) (x_Q_place hf hI k0 e27) wh_Q_142 (by decide +kernel) rfl rfl ⟨⟨Nat.le_of_ble_eq_true rfl, Nat.le_of_ble_eq_true rfl⟩, ⟨Nat.le_of_ble_eq_true rfl, Nat.le_of_ble_eq_true rfl⟩⟩ (Nat.le_of_ble_eq_true rfl) ?_
    show Go l D ad aC (rmk m_Q_act) _ m_Q_act 178 [some (.ref a0), some (.int x1), some (.int x2), some (.int (x2 / (32 : Int32)))] [.long v26.1] v26.2 1 6
    obtain rfl := Option.some.inj e
    exact Go.lret rfl (by decide) (by decide) (by decide +kernel)
  replace e := ite_f c25 e
  rcases Decidable.em ((x1 - x1 / (24 : Int32) * (24 : Int32)) = 9) with c28 | c28
  · replace e := ite_t c28 e
    refine Go.tsIn (dflt := 221) (lo := 0) (hi := 21) (offs := #[103, 114, 114, 114, 132, 132, 132, 152, 152, 152, 152, 152, 152, 170, 179, 179, 179, 192, 192, 203, 216, 216]) (len := 103) (off := 152) (tgt := 161) 9 (by decide +kernel) (by rw [c28]; decide) (by decide) (by decide) (by decide) (by decide) ?_
    refine Go.run (pc' := 175) [.aload_n 0, .iload_n 2, .bipush (6), .irem, .iload_n 3, .iconst 3, .irem, .iload_n 3, .iconst 4, .idiv, .bipush (24), .irem] (ls' := [some (.ref a0), some (.int x1), some (.int x2), some (.int (x2 / (32 : Int32)))]) (st' := [.int (((x2 / (32 : Int32)) / (4 : Int32)) - ((x2 / (32 : Int32)) / (4 : Int32)) / (24 : Int32) * (24 : Int32)), .int ((x2 / (32 : Int32)) - (x2 / (32 : Int32)) / (3 : Int32) * (3 : Int32)), .int (x2 - x2 / (6 : Int32) * (6 : Int32)), .ref a0]) (by decide +kernel) rfl rfl ?_
    obtain ⟨v29, e30, e⟩ := bd_inv e
    refine Go.callH (M2 := m_Q_place) (as := [.ref a0, .int (x2 - x2 / (6 : Int32) * (6 : Int32)), .int ((x2 / (32 : Int32)) - (x2 / (32 : Int32)) / (3 : Int32) * (3 : Int32)), .int (((x2 / (32 : Int32)) / (4 : Int32)) - ((x2 / (32 : Int32)) / (4 : Int32)) / (24 : Int32) * (24 : Int32))]) (rest := []) (v := some (.long v29.1)) (h1 := v29.2) (x_Q_place hf hI k0 e30) wh_Q_142 (by decide +kernel) rfl rfl ⟨⟨Nat.le_of_ble_eq_true rfl, Nat.le_of_ble_eq_true rfl⟩, ⟨Nat.le_of_ble_eq_true rfl, Nat.le_of_ble_eq_true rfl⟩⟩ (Nat.le_of_ble_eq_true rfl) ?_
    show Go l D ad aC (rmk m_Q_act) _ m_Q_act 178 [some (.ref a0), some (.int x1), some (.int x2), some (.int (x2 / (32 : Int32)))] [.long v29.1] v29.2 1 6
    obtain rfl := Option.some.inj e
    exact Go.lret rfl (by decide) (by decide) (by decide +kernel)
  replace e := ite_f c28 e
  rcases Decidable.em ((x1 - x1 / (24 : Int32) * (24 : Int32)) = 10) with c31 | c31
  · replace e := ite_t c31 e
    refine Go.tsIn (dflt := 221) (lo := 0) (hi := 21) (offs := #[103, 114, 114, 114, 132, 132, 132, 152, 152, 152, 152, 152, 152, 170, 179, 179, 179, 192, 192, 203, 216, 216]) (len := 103) (off := 152) (tgt := 161) 10 (by decide +kernel) (by rw [c31]; decide) (by decide) (by decide) (by decide) (by decide) ?_
    refine Go.run (pc' := 175) [.aload_n 0, .iload_n 2, .bipush (6), .irem, .iload_n 3, .iconst 3, .irem, .iload_n 3, .iconst 4, .idiv, .bipush (24), .irem] (ls' := [some (.ref a0), some (.int x1), some (.int x2), some (.int (x2 / (32 : Int32)))]) (st' := [.int (((x2 / (32 : Int32)) / (4 : Int32)) - ((x2 / (32 : Int32)) / (4 : Int32)) / (24 : Int32) * (24 : Int32)), .int ((x2 / (32 : Int32)) - (x2 / (32 : Int32)) / (3 : Int32) * (3 : Int32)), .int (x2 - x2 / (6 : Int32) * (6 : Int32)), .ref a0]) (by decide +kernel) rfl rfl ?_
    obtain ⟨v32, e33, e⟩ := bd_inv e
    refine Go.callH (M2 := m_Q_place) (as := [.ref a0, .int (x2 - x2 / (6 : Int32) * (6 : Int32)), .int ((x2 / (32 : Int32)) - (x2 / (32 : Int32)) / (3 : Int32) * (3 : Int32)), .int (((x2 / (32 : Int32)) / (4 : Int32)) - ((x2 / (32 : Int32)) / (4 : Int32)) / (24 : Int32) * (24 : Int32))]) (rest := []) (v := some (.long v32.1)) (h1 := v32.2) (x_Q_place hf hI k0 e33) wh_Q_142 (by decide +kernel) rfl rfl ⟨⟨Nat.le_of_ble_eq_true rfl, Nat.le_of_ble_eq_true rfl⟩, ⟨Nat.le_of_ble_eq_true rfl, Nat.le_of_ble_eq_true rfl⟩⟩ (Nat.le_of_ble_eq_true rfl) ?_
    show Go l D ad aC (rmk m_Q_act) _ m_Q_act 178 [some (.ref a0), some (.int x1), some (.int x2), some (.int (x2 / (32 : Int32)))] [.long v32.1] v32.2 1 6
    obtain rfl := Option.some.inj e
    exact Go.lret rfl (by decide) (by decide) (by decide +kernel)
  replace e := ite_f c31 e
  rcases Decidable.em ((x1 - x1 / (24 : Int32) * (24 : Int32)) = 11) with c34 | c34
  · replace e := ite_t c34 e
    refine Go.tsIn (dflt := 221) (lo := 0) (hi := 21) (offs := #[103, 114, 114, 114, 132, 132, 132, 152, 152, 152, 152, 152, 152, 170, 179, 179, 179, 192, 192, 203, 216, 216]) (len := 103) (off := 152) (tgt := 161) 11 (by decide +kernel) (by rw [c34]; decide) (by decide) (by decide) (by decide) (by decide) ?_
    refine Go.run (pc' := 175) [.aload_n 0, .iload_n 2, .bipush (6), .irem, .iload_n 3, .iconst 3, .irem, .iload_n 3, .iconst 4, .idiv, .bipush (24), .irem] (ls' := [some (.ref a0), some (.int x1), some (.int x2), some (.int (x2 / (32 : Int32)))]) (st' := [.int (((x2 / (32 : Int32)) / (4 : Int32)) - ((x2 / (32 : Int32)) / (4 : Int32)) / (24 : Int32) * (24 : Int32)), .int ((x2 / (32 : Int32)) - (x2 / (32 : Int32)) / (3 : Int32) * (3 : Int32)), .int (x2 - x2 / (6 : Int32) * (6 : Int32)), .ref a0]) (by decide +kernel) rfl rfl ?_
    obtain ⟨v35, e36, e⟩ := bd_inv e
    refine Go.callH (M2 := m_Q_place) (as := [.ref a0, .int (x2 - x2 / (6 : Int32) * (6 : Int32)), .int ((x2 / (32 : Int32)) - (x2 / (32 : Int32)) / (3 : Int32) * (3 : Int32)), .int (((x2 / (32 : Int32)) / (4 : Int32)) - ((x2 / (32 : Int32)) / (4 : Int32)) / (24 : Int32) * (24 : Int32))]) (rest := []) (v := some (.long v35.1)) (h1 := v35.2) (x_Q_place hf hI k0 e36) wh_Q_142 (by decide +kernel) rfl rfl ⟨⟨Nat.le_of_ble_eq_true rfl, Nat.le_of_ble_eq_true rfl⟩, ⟨Nat.le_of_ble_eq_true rfl, Nat.le_of_ble_eq_true rfl⟩⟩ (Nat.le_of_ble_eq_true rfl) ?_
    show Go l D ad aC (rmk m_Q_act) _ m_Q_act 178 [some (.ref a0), some (.int x1), some (.int x2), some (.int (x2 / (32 : Int32)))] [.long v35.1] v35.2 1 6
    obtain rfl := Option.some.inj e
    exact Go.lret rfl (by decide) (by decide) (by decide +kernel)
  replace e := ite_f c34 e
  rcases Decidable.em ((x1 - x1 / (24 : Int32) * (24 : Int32)) = 12) with c37 | c37
  · replace e := ite_t c37 e
    refine Go.tsIn (dflt := 221) (lo := 0) (hi := 21) (offs := #[103, 114, 114, 114, 132, 132, 132, 152, 152, 152, 152, 152, 152, 170, 179, 179, 179, 192, 192, 203, 216, 216]) (len := 103) (off := 152) (tgt := 161) 12 (by decide +kernel) (by rw [c37]; decide) (by decide) (by decide) (by decide) (by decide) ?_
    refine Go.run (pc' := 175) [.aload_n 0, .iload_n 2, .bipush (6), .irem, .iload_n 3, .iconst 3, .irem, .iload_n 3, .iconst 4, .idiv, .bipush (24), .irem] (ls' := [some (.ref a0), some (.int x1), some (.int x2), some (.int (x2 / (32 : Int32)))]) (st' := [.int (((x2 / (32 : Int32)) / (4 : Int32)) - ((x2 / (32 : Int32)) / (4 : Int32)) / (24 : Int32) * (24 : Int32)), .int ((x2 / (32 : Int32)) - (x2 / (32 : Int32)) / (3 : Int32) * (3 : Int32)), .int (x2 - x2 / (6 : Int32) * (6 : Int32)), .ref a0]) (by decide +kernel) rfl rfl ?_
    obtain ⟨v38, e39, e⟩ := bd_inv e
    refine Go.callH (M2 := m_Q_place) (as := [.ref a0, .int (x2 - x2 / (6 : Int32) * (6 : Int32)), .int ((x2 / (32 : Int32)) - (x2 / (32 : Int32)) / (3 : Int32) * (3 : Int32)), .int (((x2 / (32 : Int32)) / (4 : Int32)) - ((x2 / (32 : Int32)) / (4 : Int32)) / (24 : Int32) * (24 : Int32))]) (rest := []) (v := some (.long v38.1)) (h1 := v38.2) (x_Q_place hf hI k0 e39) wh_Q_142 (by decide +kernel) rfl rfl ⟨⟨Nat.le_of_ble_eq_true rfl, Nat.le_of_ble_eq_true rfl⟩, ⟨Nat.le_of_ble_eq_true rfl, Nat.le_of_ble_eq_true rfl⟩⟩ (Nat.le_of_ble_eq_true rfl) ?_
    show Go l D ad aC (rmk m_Q_act) _ m_Q_act 178 [some (.ref a0), some (.int x1), some (.int x2), some (.int (x2 / (32 : Int32)))] [.long v38.1] v38.2 1 6
    obtain rfl := Option.some.inj e
    exact Go.lret rfl (by decide) (by decide) (by decide +kernel)
  replace e := ite_f c37 e
  rcases Decidable.em ((x1 - x1 / (24 : Int32) * (24 : Int32)) = 13) with c40 | c40
  · replace e := ite_t c40 e
    refine Go.tsIn (dflt := 221) (lo := 0) (hi := 21) (offs := #[103, 114, 114, 114, 132, 132, 132, 152, 152, 152, 152, 152, 152, 170, 179, 179, 179, 192, 192, 203, 216, 216]) (len := 103) (off := 170) (tgt := 179) 13 (by decide +kernel) (by rw [c40]; decide) (by decide) (by decide) (by decide) (by decide) ?_
    refine Go.run (pc' := 184) [.aload_n 0, .iload_n 2, .bipush (6), .irem] (ls' := [some (.ref a0), some (.int x1), some (.int x2), some (.int (x2 / (32 : Int32)))]) (st' := [.int (x2 - x2 / (6 : Int32) * (6 : Int32)), .ref a0]) (by decide +kernel) rfl rfl ?_
    obtain ⟨v41, e42, e⟩ := bd_inv e
    refine Go.callH (M2 := m_Q_leave) (as := [.ref a0, .int (x2 - x2 / (6 : Int32) * (6 : Int32))]) (rest := []) (v := some (.long v41.1)) (h1 := v41.2) (x_Q_leave hf hI k0 e42) wh_Q_144 (by decide +kernel) rfl rfl ⟨⟨Nat.le_of_ble_eq_true rfl, Nat.le_of_ble_eq_true rfl⟩, ⟨Nat.le_of_ble_eq_true rfl, Nat.le_of_ble_eq_true rfl⟩⟩ (Nat.le_of_ble_eq_true rfl) ?_
    show Go l D ad aC (rmk m_Q_act) _ m_Q_act 187 [some (.ref a0), some (.int x1), some (.int x2), some (.int (x2 / (32 : Int32)))] [.long v41.1] v41.2 1 6
    obtain rfl := Option.some.inj e
    exact Go.lret rfl (by decide) (by decide) (by decide +kernel)
  replace e := ite_f c40 e
  rcases Decidable.em ((x1 - x1 / (24 : Int32) * (24 : Int32)) = 14) with c43 | c43
  · replace e := ite_t c43 e
    refine Go.tsIn (dflt := 221) (lo := 0) (hi := 21) (offs := #[103, 114, 114, 114, 132, 132, 132, 152, 152, 152, 152, 152, 152, 170, 179, 179, 179, 192, 192, 203, 216, 216]) (len := 103) (off := 179) (tgt := 188) 14 (by decide +kernel) (by rw [c43]; decide) (by decide) (by decide) (by decide) (by decide) ?_
    refine Go.run (pc' := 197) [.aload_n 0, .iload_n 2, .bipush (6), .irem, .iload_n 3, .bipush (6), .irem] (ls' := [some (.ref a0), some (.int x1), some (.int x2), some (.int (x2 / (32 : Int32)))]) (st' := [.int ((x2 / (32 : Int32)) - (x2 / (32 : Int32)) / (6 : Int32) * (6 : Int32)), .int (x2 - x2 / (6 : Int32) * (6 : Int32)), .ref a0]) (by decide +kernel) rfl rfl ?_
    obtain ⟨v44, e45, e⟩ := bd_inv e
    refine Go.callH (M2 := m_Q_swap) (as := [.ref a0, .int (x2 - x2 / (6 : Int32) * (6 : Int32)), .int ((x2 / (32 : Int32)) - (x2 / (32 : Int32)) / (6 : Int32) * (6 : Int32))]) (rest := []) (v := some (.long v44.1)) (h1 := v44.2) (x_Q_swap hf hI k0 e45) wh_Q_146 (by decide +kernel) rfl rfl ⟨⟨Nat.le_of_ble_eq_true rfl, Nat.le_of_ble_eq_true rfl⟩, ⟨Nat.le_of_ble_eq_true rfl, Nat.le_of_ble_eq_true rfl⟩⟩ (Nat.le_of_ble_eq_true rfl) ?_
    show Go l D ad aC (rmk m_Q_act) _ m_Q_act 200 [some (.ref a0), some (.int x1), some (.int x2), some (.int (x2 / (32 : Int32)))] [.long v44.1] v44.2 1 6
    obtain rfl := Option.some.inj e
    exact Go.lret rfl (by decide) (by decide) (by decide +kernel)
  replace e := ite_f c43 e
  rcases Decidable.em ((x1 - x1 / (24 : Int32) * (24 : Int32)) = 15) with c46 | c46
  · replace e := ite_t c46 e
    refine Go.tsIn (dflt := 221) (lo := 0) (hi := 21) (offs := #[103, 114, 114, 114, 132, 132, 132, 152, 152, 152, 152, 152, 152, 170, 179, 179, 179, 192, 192, 203, 216, 216]) (len := 103) (off := 179) (tgt := 188) 15 (by decide +kernel) (by rw [c46]; decide) (by decide) (by decide) (by decide) (by decide) ?_
    refine Go.run (pc' := 197) [.aload_n 0, .iload_n 2, .bipush (6), .irem, .iload_n 3, .bipush (6), .irem] (ls' := [some (.ref a0), some (.int x1), some (.int x2), some (.int (x2 / (32 : Int32)))]) (st' := [.int ((x2 / (32 : Int32)) - (x2 / (32 : Int32)) / (6 : Int32) * (6 : Int32)), .int (x2 - x2 / (6 : Int32) * (6 : Int32)), .ref a0]) (by decide +kernel) rfl rfl ?_
    obtain ⟨v47, e48, e⟩ := bd_inv e
    refine Go.callH (M2 := m_Q_swap) (as := [.ref a0, .int (x2 - x2 / (6 : Int32) * (6 : Int32)), .int ((x2 / (32 : Int32)) - (x2 / (32 : Int32)) / (6 : Int32) * (6 : Int32))]) (rest := []) (v := some (.long v47.1)) (h1 := v47.2) (x_Q_swap hf hI k0 e48) wh_Q_146 (by decide +kernel) rfl rfl ⟨⟨Nat.le_of_ble_eq_true rfl, Nat.le_of_ble_eq_true rfl⟩, ⟨Nat.le_of_ble_eq_true rfl, Nat.le_of_ble_eq_true rfl⟩⟩ (Nat.le_of_ble_eq_true rfl) ?_
    show Go l D ad aC (rmk m_Q_act) _ m_Q_act 200 [some (.ref a0), some (.int x1), some (.int x2), some (.int (x2 / (32 : Int32)))] [.long v47.1] v47.2 1 6
    obtain rfl := Option.some.inj e
    exact Go.lret rfl (by decide) (by decide) (by decide +kernel)
  replace e := ite_f c46 e
  rcases Decidable.em ((x1 - x1 / (24 : Int32) * (24 : Int32)) = 16) with c49 | c49
  · replace e := ite_t c49 e
    refine Go.tsIn (dflt := 221) (lo := 0) (hi := 21) (offs := #[103, 114, 114, 114, 132, 132, 132, 152, 152, 152, 152, 152, 152, 170, 179, 179, 179, 192, 192, 203, 216, 216]) (len := 103) (off := 179) (tgt := 188) 16 (by decide +kernel) (by rw [c49]; decide) (by decide) (by decide) (by decide) (by decide) ?_
    refine Go.run (pc' := 197) [.aload_n 0, .iload_n 2, .bipush (6), .irem, .iload_n 3, .bipush (6), .irem] (ls' := [some (.ref a0), some (.int x1), some (.int x2), some (.int (x2 / (32 : Int32)))]) (st' := [.int ((x2 / (32 : Int32)) - (x2 / (32 : Int32)) / (6 : Int32) * (6 : Int32)), .int (x2 - x2 / (6 : Int32) * (6 : Int32)), .ref a0]) (by decide +kernel) rfl rfl ?_
    obtain ⟨v50, e51, e⟩ := bd_inv e
    refine Go.callH (M2 := m_Q_swap) (as := [.ref a0, .int (x2 - x2 / (6 : Int32) * (6 : Int32)), .int ((x2 / (32 : Int32)) - (x2 / (32 : Int32)) / (6 : Int32) * (6 : Int32))]) (rest := []) (v := some (.long v50.1)) (h1 := v50.2) (x_Q_swap hf hI k0 e51) wh_Q_146 (by decide +kernel) rfl rfl ⟨⟨Nat.le_of_ble_eq_true rfl, Nat.le_of_ble_eq_true rfl⟩, ⟨Nat.le_of_ble_eq_true rfl, Nat.le_of_ble_eq_true rfl⟩⟩ (Nat.le_of_ble_eq_true rfl) ?_
    show Go l D ad aC (rmk m_Q_act) _ m_Q_act 200 [some (.ref a0), some (.int x1), some (.int x2), some (.int (x2 / (32 : Int32)))] [.long v50.1] v50.2 1 6
    obtain rfl := Option.some.inj e
    exact Go.lret rfl (by decide) (by decide) (by decide +kernel)
  replace e := ite_f c49 e
  rcases Decidable.em ((x1 - x1 / (24 : Int32) * (24 : Int32)) = 17) with c52 | c52
  · replace e := ite_t c52 e
    refine Go.tsIn (dflt := 221) (lo := 0) (hi := 21) (offs := #[103, 114, 114, 114, 132, 132, 132, 152, 152, 152, 152, 152, 152, 170, 179, 179, 179, 192, 192, 203, 216, 216]) (len := 103) (off := 192) (tgt := 201) 17 (by decide +kernel) (by rw [c52]; decide) (by decide) (by decide) (by decide) (by decide) ?_
    refine Go.run (pc' := 208) [.aload_n 0, .iconst 1, .iload_n 2, .bipush (7), .irem, .iadd] (ls' := [some (.ref a0), some (.int x1), some (.int x2), some (.int (x2 / (32 : Int32)))]) (st' := [.int ((1 : Int32) + (x2 - x2 / (7 : Int32) * (7 : Int32))), .ref a0]) (by decide +kernel) rfl rfl ?_
    obtain ⟨v53, e54, e⟩ := bd_inv e
    refine Go.callH (M2 := m_Q_days) (as := [.ref a0, .int ((1 : Int32) + (x2 - x2 / (7 : Int32) * (7 : Int32)))]) (rest := []) (v := some (.long v53.1)) (h1 := v53.2) (x_Q_days hf hI k0 e54) wh_Q_148 (by decide +kernel) rfl rfl ⟨⟨Nat.le_of_ble_eq_true rfl, Nat.le_of_ble_eq_true rfl⟩, ⟨Nat.le_of_ble_eq_true rfl, Nat.le_of_ble_eq_true rfl⟩⟩ (Nat.le_of_ble_eq_true rfl) ?_
    show Go l D ad aC (rmk m_Q_act) _ m_Q_act 211 [some (.ref a0), some (.int x1), some (.int x2), some (.int (x2 / (32 : Int32)))] [.long v53.1] v53.2 1 6
    obtain rfl := Option.some.inj e
    exact Go.lret rfl (by decide) (by decide) (by decide +kernel)
  replace e := ite_f c52 e
  rcases Decidable.em ((x1 - x1 / (24 : Int32) * (24 : Int32)) = 18) with c55 | c55
  · replace e := ite_t c55 e
    refine Go.tsIn (dflt := 221) (lo := 0) (hi := 21) (offs := #[103, 114, 114, 114, 132, 132, 132, 152, 152, 152, 152, 152, 152, 170, 179, 179, 179, 192, 192, 203, 216, 216]) (len := 103) (off := 192) (tgt := 201) 18 (by decide +kernel) (by rw [c55]; decide) (by decide) (by decide) (by decide) (by decide) ?_
    refine Go.run (pc' := 208) [.aload_n 0, .iconst 1, .iload_n 2, .bipush (7), .irem, .iadd] (ls' := [some (.ref a0), some (.int x1), some (.int x2), some (.int (x2 / (32 : Int32)))]) (st' := [.int ((1 : Int32) + (x2 - x2 / (7 : Int32) * (7 : Int32))), .ref a0]) (by decide +kernel) rfl rfl ?_
    obtain ⟨v56, e57, e⟩ := bd_inv e
    refine Go.callH (M2 := m_Q_days) (as := [.ref a0, .int ((1 : Int32) + (x2 - x2 / (7 : Int32) * (7 : Int32)))]) (rest := []) (v := some (.long v56.1)) (h1 := v56.2) (x_Q_days hf hI k0 e57) wh_Q_148 (by decide +kernel) rfl rfl ⟨⟨Nat.le_of_ble_eq_true rfl, Nat.le_of_ble_eq_true rfl⟩, ⟨Nat.le_of_ble_eq_true rfl, Nat.le_of_ble_eq_true rfl⟩⟩ (Nat.le_of_ble_eq_true rfl) ?_
    show Go l D ad aC (rmk m_Q_act) _ m_Q_act 211 [some (.ref a0), some (.int x1), some (.int x2), some (.int (x2 / (32 : Int32)))] [.long v56.1] v56.2 1 6
    obtain rfl := Option.some.inj e
    exact Go.lret rfl (by decide) (by decide) (by decide +kernel)
  replace e := ite_f c55 e
  rcases Decidable.em ((x1 - x1 / (24 : Int32) * (24 : Int32)) = 19) with c58 | c58
  · replace e := ite_t c58 e
    refine Go.tsIn (dflt := 221) (lo := 0) (hi := 21) (offs := #[103, 114, 114, 114, 132, 132, 132, 152, 152, 152, 152, 152, 152, 170, 179, 179, 179, 192, 192, 203, 216, 216]) (len := 103) (off := 203) (tgt := 212) 19 (by decide +kernel) (by rw [c58]; decide) (by decide) (by decide) (by decide) (by decide) ?_
    refine Go.run (pc' := 221) [.aload_n 0, .iload_n 2, .bipush (6), .irem, .iload_n 3, .bipush (10), .irem] (ls' := [some (.ref a0), some (.int x1), some (.int x2), some (.int (x2 / (32 : Int32)))]) (st' := [.int ((x2 / (32 : Int32)) - (x2 / (32 : Int32)) / (10 : Int32) * (10 : Int32)), .int (x2 - x2 / (6 : Int32) * (6 : Int32)), .ref a0]) (by decide +kernel) rfl rfl ?_
    obtain ⟨v59, e60, e⟩ := bd_inv e
    refine Go.callH (M2 := m_Q_set) (as := [.ref a0, .int (x2 - x2 / (6 : Int32) * (6 : Int32)), .int ((x2 / (32 : Int32)) - (x2 / (32 : Int32)) / (10 : Int32) * (10 : Int32))]) (rest := []) (v := some (.long v59.1)) (h1 := v59.2) (x_Q_set hf hI k0 e60) wh_Q_150 (by decide +kernel) rfl rfl ⟨⟨Nat.le_of_ble_eq_true rfl, Nat.le_of_ble_eq_true rfl⟩, ⟨Nat.le_of_ble_eq_true rfl, Nat.le_of_ble_eq_true rfl⟩⟩ (Nat.le_of_ble_eq_true rfl) ?_
    show Go l D ad aC (rmk m_Q_act) _ m_Q_act 224 [some (.ref a0), some (.int x1), some (.int x2), some (.int (x2 / (32 : Int32)))] [.long v59.1] v59.2 1 6
    obtain rfl := Option.some.inj e
    exact Go.lret rfl (by decide) (by decide) (by decide +kernel)
  replace e := ite_f c58 e
  rcases Decidable.em ((x1 - x1 / (24 : Int32) * (24 : Int32)) = 20) with c61 | c61
  · replace e := ite_t c61 e
    refine Go.tsIn (dflt := 221) (lo := 0) (hi := 21) (offs := #[103, 114, 114, 114, 132, 132, 132, 152, 152, 152, 152, 152, 152, 170, 179, 179, 179, 192, 192, 203, 216, 216]) (len := 103) (off := 216) (tgt := 225) 20 (by decide +kernel) (by rw [c61]; decide) (by decide) (by decide) (by decide) (by decide) ?_
    refine Go.run (pc' := 226) [.aload_n 0] (ls' := [some (.ref a0), some (.int x1), some (.int x2), some (.int (x2 / (32 : Int32)))]) (st' := [.ref a0]) (by decide +kernel) rfl rfl ?_
    obtain ⟨v62, e63, e⟩ := bd_inv e
    refine Go.callH (M2 := m_Q_undo) (as := [.ref a0]) (rest := []) (v := some (.long v62.1)) (h1 := v62.2) (x_Q_undo hf hI k0 e63) wh_Q_185 (by decide +kernel) rfl rfl ⟨⟨Nat.le_of_ble_eq_true rfl, Nat.le_of_ble_eq_true rfl⟩, ⟨Nat.le_of_ble_eq_true rfl, Nat.le_of_ble_eq_true rfl⟩⟩ (Nat.le_of_ble_eq_true rfl) ?_
    show Go l D ad aC (rmk m_Q_act) _ m_Q_act 229 [some (.ref a0), some (.int x1), some (.int x2), some (.int (x2 / (32 : Int32)))] [.long v62.1] v62.2 1 6
    obtain rfl := Option.some.inj e
    exact Go.lret rfl (by decide) (by decide) (by decide +kernel)
  replace e := ite_f c61 e
  rcases Decidable.em ((x1 - x1 / (24 : Int32) * (24 : Int32)) = 21) with c64 | c64
  · replace e := ite_t c64 e
    refine Go.tsIn (dflt := 221) (lo := 0) (hi := 21) (offs := #[103, 114, 114, 114, 132, 132, 132, 152, 152, 152, 152, 152, 152, 170, 179, 179, 179, 192, 192, 203, 216, 216]) (len := 103) (off := 216) (tgt := 225) 21 (by decide +kernel) (by rw [c64]; decide) (by decide) (by decide) (by decide) (by decide) ?_
    refine Go.run (pc' := 226) [.aload_n 0] (ls' := [some (.ref a0), some (.int x1), some (.int x2), some (.int (x2 / (32 : Int32)))]) (st' := [.ref a0]) (by decide +kernel) rfl rfl ?_
    obtain ⟨v65, e66, e⟩ := bd_inv e
    refine Go.callH (M2 := m_Q_undo) (as := [.ref a0]) (rest := []) (v := some (.long v65.1)) (h1 := v65.2) (x_Q_undo hf hI k0 e66) wh_Q_185 (by decide +kernel) rfl rfl ⟨⟨Nat.le_of_ble_eq_true rfl, Nat.le_of_ble_eq_true rfl⟩, ⟨Nat.le_of_ble_eq_true rfl, Nat.le_of_ble_eq_true rfl⟩⟩ (Nat.le_of_ble_eq_true rfl) ?_
    show Go l D ad aC (rmk m_Q_act) _ m_Q_act 229 [some (.ref a0), some (.int x1), some (.int x2), some (.int (x2 / (32 : Int32)))] [.long v65.1] v65.2 1 6
    obtain rfl := Option.some.inj e
    exact Go.lret rfl (by decide) (by decide) (by decide +kernel)
  replace e := ite_f c64 e
  refine Go.tsOut (dflt := 221) (lo := 0) (hi := 21) (offs := #[103, 114, 114, 114, 132, 132, 132, 152, 152, 152, 152, 152, 152, 170, 179, 179, 179, 192, 192, 203, 216, 216]) (len := 103) (tgt := 230) (by decide +kernel) (by have zc1 := lv_neT c1 (a := 0) rfl; have zc4 := lv_neT c4 (a := 1) rfl; have zc7 := lv_neT c7 (a := 2) rfl; have zc10 := lv_neT c10 (a := 3) rfl; have zc13 := lv_neT c13 (a := 4) rfl; have zc16 := lv_neT c16 (a := 5) rfl; have zc19 := lv_neT c19 (a := 6) rfl; have zc22 := lv_neT c22 (a := 7) rfl; have zc25 := lv_neT c25 (a := 8) rfl; have zc28 := lv_neT c28 (a := 9) rfl; have zc31 := lv_neT c31 (a := 10) rfl; have zc34 := lv_neT c34 (a := 11) rfl; have zc37 := lv_neT c37 (a := 12) rfl; have zc40 := lv_neT c40 (a := 13) rfl; have zc43 := lv_neT c43 (a := 14) rfl; have zc46 := lv_neT c46 (a := 15) rfl; have zc49 := lv_neT c49 (a := 16) rfl; have zc52 := lv_neT c52 (a := 17) rfl; have zc55 := lv_neT c55 (a := 18) rfl; have zc58 := lv_neT c58 (a := 19) rfl; have zc61 := lv_neT c61 (a := 20) rfl; have zc64 := lv_neT c64 (a := 21) rfl; omega) (by decide) ?_
  refine Go.run (pc' := 233) [.iload_n 3, .iconst 2, .irem] (ls' := [some (.ref a0), some (.int x1), some (.int x2), some (.int (x2 / (32 : Int32)))]) (st' := [.int ((x2 / (32 : Int32)) - (x2 / (32 : Int32)) / (2 : Int32) * (2 : Int32))]) (by decide +kernel) rfl rfl ?_
  refine Go.if_ne (off := 15) (tgt := 248) (by decide +kernel) (by decide) (fun c67 => ?_) (fun c67 => ?_)
  · replace e := ite_f c67 e
    refine Go.run (pc' := 254) [.aload_n 0, .iload_n 3, .iconst 2, .idiv, .iconst 1, .iand] (ls' := [some (.ref a0), some (.int x1), some (.int x2), some (.int (x2 / (32 : Int32)))]) (st' := [.int (((x2 / (32 : Int32)) / (2 : Int32)) &&& (1 : Int32)), .ref a0]) (by decide +kernel) rfl rfl ?_
    obtain ⟨v68, e69, e⟩ := bd_inv e
    refine Go.callH (M2 := m_Q_restore) (as := [.ref a0, .int (((x2 / (32 : Int32)) / (2 : Int32)) &&& (1 : Int32))]) (rest := []) (v := some (.long v68.1)) (h1 := v68.2) (x_Q_restore hf hI k0 e69) wh_Q_173 (by decide +kernel) rfl rfl ⟨⟨Nat.le_of_ble_eq_true rfl, Nat.le_of_ble_eq_true rfl⟩, ⟨Nat.le_of_ble_eq_true rfl, Nat.le_of_ble_eq_true rfl⟩⟩ (Nat.le_of_ble_eq_true rfl) ?_
    show Go l D ad aC (rmk m_Q_act) _ m_Q_act 257 [some (.ref a0), some (.int x1), some (.int x2), some (.int (x2 / (32 : Int32)))] [.long v68.1] v68.2 1 6
    obtain rfl := Option.some.inj e
    exact Go.lret rfl (by decide) (by decide) (by decide +kernel)
  · replace e := ite_t c67 e
    refine Go.run (pc' := 242) [.aload_n 0, .iload_n 3, .iconst 2, .idiv, .iconst 1, .iand] (ls' := [some (.ref a0), some (.int x1), some (.int x2), some (.int (x2 / (32 : Int32)))]) (st' := [.int (((x2 / (32 : Int32)) / (2 : Int32)) &&& (1 : Int32)), .ref a0]) (by decide +kernel) rfl rfl ?_
    obtain ⟨v70, e71, e⟩ := bd_inv e
    refine Go.callH (M2 := m_Q_save) (as := [.ref a0, .int (((x2 / (32 : Int32)) / (2 : Int32)) &&& (1 : Int32))]) (rest := []) (v := some (.long v70.1)) (h1 := v70.2) (x_Q_save hf hI k0 e71) wh_Q_171 (by decide +kernel) rfl rfl ⟨⟨Nat.le_of_ble_eq_true rfl, Nat.le_of_ble_eq_true rfl⟩, ⟨Nat.le_of_ble_eq_true rfl, Nat.le_of_ble_eq_true rfl⟩⟩ (Nat.le_of_ble_eq_true rfl) ?_
    show Go l D ad aC (rmk m_Q_act) _ m_Q_act 245 [some (.ref a0), some (.int x1), some (.int x2), some (.int (x2 / (32 : Int32)))] [.long v70.1] v70.2 1 6
    refine Go.goto (off := 12) (tgt := 257) (by decide +kernel) (by decide) ?_
    obtain rfl := Option.some.inj e
    exact Go.lret rfl (by decide) (by decide) (by decide +kernel)
