/-! printed by wip/p31/law31.py: the words of the law's methods -/
theorem lo_Q_17 : Cond.constantLong "FairWallsLaw" 17 (-9000000000000000002) ∈ GT := gtb 738 (by decide +kernel) (by decide +kernel)
theorem lo_Q_21 : Cond.constantLong "FairWallsLaw" 21 (-9000000000000000003) ∈ GT := gtb 591 (by decide +kernel) (by decide +kernel)
theorem lo_Q_36 : Cond.constantLong "FairWallsLaw" 36 (-9000000000000000001) ∈ GT := gtb 629 (by decide +kernel) (by decide +kernel)
theorem lo_Q_107 : Cond.constantLong "FairWallsLaw" 107 (149) ∈ GT := gtb 656 (by decide +kernel) (by decide +kernel)
theorem lo_Q_109 : Cond.constantLong "FairWallsLaw" 109 (31) ∈ GT := gtb 657 (by decide +kernel) (by decide +kernel)
theorem lo_Q_116 : Cond.constantLong "FairWallsLaw" 116 (97) ∈ GT := gtb 739 (by decide +kernel) (by decide +kernel)
theorem lo_Q_160 : Cond.constantLong "FairWallsLaw" 160 (-1) ∈ GT := gtb 950 (by decide +kernel) (by decide +kernel)
theorem lo_Q_166 : Cond.constantLong "FairWallsLaw" 166 (1000000000000000) ∈ GT := gtb 971 (by decide +kernel) (by decide +kernel)
theorem lo_Q_181 : Cond.constantLong "FairWallsLaw" 181 (2) ∈ GT := gtb 1005 (by decide +kernel) (by decide +kernel)
theorem lo_Q_183 : Cond.constantLong "FairWallsLaw" 183 (9) ∈ GT := gtb 1006 (by decide +kernel) (by decide +kernel)
def m_Q_in : MI := (⟨"FairWallsLaw", "in", "(JJJ)Z"⟩, method_3_code, 6, (Option.some Jvm.ClassFile.FieldType.boolean), 0, 0, [])
theorem cw_Q_in : codeW m_Q_in ∈ GT := gtb 1004 (by decide +kernel) (by decide +kernel)
theorem sw_Q_in : Cond.static m_Q_in.y ∈ GT := gtb 1003 (by decide +kernel) (by decide +kernel)
def m_Q_now : MI := (⟨"FairWallsLaw", "now", "(LFairWalls;)J"⟩, method_30_code, 7, (Option.some Jvm.ClassFile.FieldType.long), 10, 0, [])
theorem cw_Q_now : codeW m_Q_now ∈ GT := gtb 655 (by decide +kernel) (by decide +kernel)
theorem sw_Q_now : Cond.static m_Q_now.y ∈ GT := gtb 654 (by decide +kernel) (by decide +kernel)
def m_Q_says : MI := (⟨"FairWallsLaw", "says", "(LFairWalls;IIII)Z"⟩, method_35_code, 5, (Option.some Jvm.ClassFile.FieldType.boolean), 10, 0, [])
theorem cw_Q_says : codeW m_Q_says ∈ GT := gtb 1047 (by decide +kernel) (by decide +kernel)
theorem sw_Q_says : Cond.static m_Q_says.y ∈ GT := gtb 1046 (by decide +kernel) (by decide +kernel)
def m_Q_errors : MI := (⟨"FairWallsLaw", "errors", "(LFairWalls;)Z"⟩, method_31_code, 6, (Option.some Jvm.ClassFile.FieldType.boolean), 11, 49, [])
set_option maxRecDepth 100000 in
theorem tw_Q_errors : tables_1[652]? = some (Cond.code ⟨"FairWallsLaw", "errors", "(LFairWalls;)Z"⟩ method_31_code 6 ((Option.some Jvm.ClassFile.FieldType.boolean))) := by rfl
theorem cw_Q_errors : codeW m_Q_errors ∈ GT := gtb 652 tw_Q_errors rfl
theorem sw_Q_errors : Cond.static m_Q_errors.y ∈ GT := gtb 651 (by decide +kernel) (by decide +kernel)
def m_Q_told : MI := (⟨"FairWallsLaw", "told", "(LFairWalls;I)Z"⟩, method_36_code, 5, (Option.some Jvm.ClassFile.FieldType.boolean), 11, 0, [])
theorem cw_Q_told : codeW m_Q_told ∈ GT := gtb 1036 (by decide +kernel) (by decide +kernel)
theorem sw_Q_told : Cond.static m_Q_told.y ∈ GT := gtb 1035 (by decide +kernel) (by decide +kernel)
def m_Q_kept : MI := (⟨"FairWallsLaw", "kept", "(LFairWalls;)Z"⟩, method_32_code, 32, (Option.some Jvm.ClassFile.FieldType.boolean), 10, 0, [])
set_option maxRecDepth 100000 in
theorem tw_Q_kept : tables_1[1001]? = some (Cond.code ⟨"FairWallsLaw", "kept", "(LFairWalls;)Z"⟩ method_32_code 32 ((Option.some Jvm.ClassFile.FieldType.boolean))) := by rfl
theorem cw_Q_kept : codeW m_Q_kept ∈ GT := gtb 1001 tw_Q_kept rfl
theorem sw_Q_kept : Cond.static m_Q_kept.y ∈ GT := gtb 1000 (by decide +kernel) (by decide +kernel)
def m_Q_follows : MI := (⟨"FairWallsLaw", "follows", "(LFairWalls;I)Z"⟩, method_33_code, 19, (Option.some Jvm.ClassFile.FieldType.boolean), 11, 32, [])
set_option maxRecDepth 100000 in
theorem tw_Q_follows : tables_1[1009]? = some (Cond.code ⟨"FairWallsLaw", "follows", "(LFairWalls;I)Z"⟩ method_33_code 19 ((Option.some Jvm.ClassFile.FieldType.boolean))) := by rfl
theorem cw_Q_follows : codeW m_Q_follows ∈ GT := gtb 1009 tw_Q_follows rfl
theorem sw_Q_follows : Cond.static m_Q_follows.y ∈ GT := gtb 1008 (by decide +kernel) (by decide +kernel)
def m_Q_act : MI := (⟨"FairWallsLaw", "act", "(LFairWalls;II)J"⟩, method_37_code, 4, (Option.some Jvm.ClassFile.FieldType.long), 10, 1, [])
theorem cw_Q_act : codeW m_Q_act ∈ GT := gtb 1050 (by decide +kernel) (by decide +kernel)
theorem sw_Q_act : Cond.static m_Q_act.y ∈ GT := gtb 1049 (by decide +kernel) (by decide +kernel)
theorem wh_Q_111 : WH "FairWallsLaw" 111 m_Q_about 2 := ⟨gtb 658 (by decide +kernel) (by decide +kernel), iw_Q, cw_Q_about, by decide +kernel, by decide +kernel, by decide +kernel, sw_Q_about⟩
theorem wh_Q_118 : WH "FairWallsLaw" 118 m_Q_setting 2 := ⟨gtb 740 (by decide +kernel) (by decide +kernel), iw_Q, cw_Q_setting, by decide +kernel, by decide +kernel, by decide +kernel, sw_Q_setting⟩
theorem wh_Q_120 : WH "FairWallsLaw" 120 m_Q_wallOf 3 := ⟨gtb 747 (by decide +kernel) (by decide +kernel), iw_Q, cw_Q_wallOf, by decide +kernel, by decide +kernel, by decide +kernel, sw_Q_wallOf⟩
theorem wh_Q_123 : WH "FairWallsLaw" 123 m_Q_metreOf 4 := ⟨gtb 778 (by decide +kernel) (by decide +kernel), iw_Q, cw_Q_metreOf, by decide +kernel, by decide +kernel, by decide +kernel, sw_Q_metreOf⟩
theorem wh_Q_126 : WH "FairWallsLaw" 126 m_Q_dealerOf 3 := ⟨gtb 789 (by decide +kernel) (by decide +kernel), iw_Q, cw_Q_dealerOf, by decide +kernel, by decide +kernel, by decide +kernel, sw_Q_dealerOf⟩
theorem ws_Q_128 : WS "FairWallsLaw" 128 m_Q_now 1 := ⟨⟨gtb 653 (by decide +kernel) (by decide +kernel), iw_Q, cw_Q_now, rfl, by decide +kernel, by decide +kernel⟩, sw_Q_now⟩
theorem wh_Q_132 : WH "FairWallsLaw" 132 m_Q_plugOf 3 := ⟨gtb 806 (by decide +kernel) (by decide +kernel), iw_Q, cw_Q_plugOf, by decide +kernel, by decide +kernel, by decide +kernel, sw_Q_plugOf⟩
theorem wh_Q_134 : WH "FairWallsLaw" 134 m_Q_free 3 := ⟨gtb 818 (by decide +kernel) (by decide +kernel), iw_Q, cw_Q_free, by decide +kernel, by decide +kernel, by decide +kernel, sw_Q_free⟩
theorem wh_Q_136 : WH "FairWallsLaw" 136 m_Q_wall 2 := ⟨gtb 830 (by decide +kernel) (by decide +kernel), iw_Q, cw_Q_wall, by decide +kernel, by decide +kernel, by decide +kernel, sw_Q_wall⟩
theorem wh_Q_138 : WH "FairWallsLaw" 138 m_Q_outlet 4 := ⟨gtb 848 (by decide +kernel) (by decide +kernel), iw_Q, cw_Q_outlet, by decide +kernel, by decide +kernel, by decide +kernel, sw_Q_outlet⟩
theorem wh_Q_140 : WH "FairWallsLaw" 140 m_Q_dealer 4 := ⟨gtb 856 (by decide +kernel) (by decide +kernel), iw_Q, cw_Q_dealer, by decide +kernel, by decide +kernel, by decide +kernel, sw_Q_dealer⟩
theorem wh_Q_142 : WH "FairWallsLaw" 142 m_Q_place 4 := ⟨gtb 865 (by decide +kernel) (by decide +kernel), iw_Q, cw_Q_place, by decide +kernel, by decide +kernel, by decide +kernel, sw_Q_place⟩
theorem wh_Q_144 : WH "FairWallsLaw" 144 m_Q_leave 2 := ⟨gtb 877 (by decide +kernel) (by decide +kernel), iw_Q, cw_Q_leave, by decide +kernel, by decide +kernel, by decide +kernel, sw_Q_leave⟩
theorem wh_Q_146 : WH "FairWallsLaw" 146 m_Q_swap 3 := ⟨gtb 886 (by decide +kernel) (by decide +kernel), iw_Q, cw_Q_swap, by decide +kernel, by decide +kernel, by decide +kernel, sw_Q_swap⟩
theorem wh_Q_148 : WH "FairWallsLaw" 148 m_Q_days 2 := ⟨gtb 894 (by decide +kernel) (by decide +kernel), iw_Q, cw_Q_days, by decide +kernel, by decide +kernel, by decide +kernel, sw_Q_days⟩
theorem wh_Q_150 : WH "FairWallsLaw" 150 m_Q_set 3 := ⟨gtb 902 (by decide +kernel) (by decide +kernel), iw_Q, cw_Q_set, by decide +kernel, by decide +kernel, by decide +kernel, sw_Q_set⟩
theorem wh_Q_152 : WH "FairWallsLaw" 152 m_Q_rentIf 4 := ⟨gtb 911 (by decide +kernel) (by decide +kernel), iw_Q, cw_Q_rentIf, by decide +kernel, by decide +kernel, by decide +kernel, sw_Q_rentIf⟩
theorem wh_Q_154 : WH "FairWallsLaw" 154 m_Q_cheapest 3 := ⟨gtb 924 (by decide +kernel) (by decide +kernel), iw_Q, cw_Q_cheapest, by decide +kernel, by decide +kernel, by decide +kernel, sw_Q_cheapest⟩
theorem wh_Q_156 : WH "FairWallsLaw" 156 m_Q_bestSwap 2 := ⟨gtb 931 (by decide +kernel) (by decide +kernel), iw_Q, cw_Q_bestSwap, by decide +kernel, by decide +kernel, by decide +kernel, sw_Q_bestSwap⟩
theorem wh_Q_158 : WH "FairWallsLaw" 158 m_Q_why 3 := ⟨gtb 943 (by decide +kernel) (by decide +kernel), iw_Q, cw_Q_why, by decide +kernel, by decide +kernel, by decide +kernel, sw_Q_why⟩
theorem wh_Q_162 : WH "FairWallsLaw" 162 m_Q_script 3 := ⟨gtb 951 (by decide +kernel) (by decide +kernel), iw_Q, cw_Q_script, by decide +kernel, by decide +kernel, by decide +kernel, sw_Q_script⟩
theorem wh_Q_168 : WH "FairWallsLaw" 168 m_Q_simulate 3 := ⟨gtb 972 (by decide +kernel) (by decide +kernel), iw_Q, cw_Q_simulate, by decide +kernel, by decide +kernel, by decide +kernel, sw_Q_simulate⟩
theorem wh_Q_171 : WH "FairWallsLaw" 171 m_Q_save 2 := ⟨gtb 592 (by decide +kernel) (by decide +kernel), iw_Q, cw_Q_save, by decide +kernel, by decide +kernel, by decide +kernel, sw_Q_save⟩
theorem wh_Q_173 : WH "FairWallsLaw" 173 m_Q_restore 2 := ⟨gtb 630 (by decide +kernel) (by decide +kernel), iw_Q, cw_Q_restore, by decide +kernel, by decide +kernel, by decide +kernel, sw_Q_restore⟩
theorem wh_Q_175 : WH "FairWallsLaw" 175 m_Q_append 2 := ⟨gtb 984 (by decide +kernel) (by decide +kernel), iw_Q, cw_Q_append, by decide +kernel, by decide +kernel, by decide +kernel, sw_Q_append⟩
theorem ws_Q_177 : WS "FairWallsLaw" 177 m_Q_in 3 := ⟨⟨gtb 1002 (by decide +kernel) (by decide +kernel), iw_Q, cw_Q_in, rfl, by decide +kernel, by decide +kernel⟩, sw_Q_in⟩
theorem wh_Q_185 : WH "FairWallsLaw" 185 m_Q_undo 1 := ⟨gtb 1010 (by decide +kernel) (by decide +kernel), iw_Q, cw_Q_undo, by decide +kernel, by decide +kernel, by decide +kernel, sw_Q_undo⟩
theorem wv_Q_187 : WV "FairWallsLaw" 187 m_F_errorPosition 0 := ⟨⟨gtb 1029 (by decide +kernel) (by decide +kernel), iw_F_errorPosition, cw_F_errorPosition, rfl, by decide +kernel, by decide +kernel⟩, nw_F_errorPosition, vw_F_errorPosition⟩
theorem wv_Q_192 : WV "FairWallsLaw" 192 m_F_clearText 0 := ⟨⟨gtb 1037 (by decide +kernel) (by decide +kernel), iw_F_clearText, cw_F_clearText, rfl, by decide +kernel, by decide +kernel⟩, nw_F_clearText, vw_F_clearText⟩
theorem ws_Q_195 : WS "FairWallsLaw" 195 m_Q_says 5 := ⟨⟨gtb 1045 (by decide +kernel) (by decide +kernel), iw_Q, cw_Q_says, rfl, by decide +kernel, by decide +kernel⟩, sw_Q_says⟩
